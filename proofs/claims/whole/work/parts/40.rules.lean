/-! RULES: keeps, prune -/
def perI (s : SG) (kd i : Nat) : Int := if kd = 0 then (i : Int) else if kd = 2 then (dayI (tm_ s i) + 3) / 7 else if kd = 3 then monI (dayI (tm_ s i)) else if kd = 4 then monI (dayI (tm_ s i)) / 12 else dayI (tm_ s i)
def jc (s : SG) (kd : Nat) (x : Nat × Int) (i : Nat) : Bool := decide (x.1 < ru_ s kd) && (kp_ s i && (decide (x.1 = 0) || !decide (perI s kd i = x.2)))
def jst (s : SG) (kd : Nat) : Nat → Nat × Int
  | 0 => (0, 0)
  | m + 1 => if jc s kd (jst s kd m) (ns_ s - 1 - m) = true then ((jst s kd m).1 + 1, perI s kd (ns_ s - 1 - m)) else jst s kd m
def chB (s : SG) (kd i : Nat) : Bool := jc s kd (jst s kd (ns_ s - 1 - i)) i
theorem jst_s {s : SG} {kd j : Nat} (hj : j < ns_ s) : jst s kd (ns_ s - j) = if chB s kd j = true then ((jst s kd (ns_ s - (j + 1))).1 + 1, perI s kd j) else jst s kd (ns_ s - (j + 1)) := by
  rw [show ns_ s - j = (ns_ s - (j + 1)) + 1 by omega, jst, show ns_ s - 1 - (ns_ s - (j + 1)) = j by omega, chB, show ns_ s - 1 - j = ns_ s - (j + 1) by omega]
theorem chB_e {s : SG} {kd j : Nat} : chB s kd j = jc s kd (jst s kd (ns_ s - (j + 1))) j := by rw [chB, show ns_ s - 1 - j = ns_ s - (j + 1) by omega]
theorem jst_sat {s : SG} {kd m : Nat} (h : ru_ s kd ≤ (jst s kd m).1) : ∀ d, jst s kd (m + d) = jst s kd m
  | 0 => rfl
  | d + 1 => by
    have ih := jst_sat h d
    show jst s kd (m + d + 1) = _
    rw [jst, ih, if_neg]
    intro q
    rw [jc, decide_eq_false (by omega)] at q
    cases q
theorem chB_sat {s : SG} {kd m i : Nat} (h : ru_ s kd ≤ (jst s kd m).1) (hi : m ≤ ns_ s - 1 - i) : chB s kd i = false := by
  have e := jst_sat h (ns_ s - 1 - i - m)
  rw [show m + (ns_ s - 1 - i - m) = ns_ s - 1 - i by omega] at e
  rw [chB, e, jc, decide_eq_false (by omega)]
  rfl
theorem jst_le (s : SG) (kd : Nat) : ∀ m, (jst s kd m).1 ≤ m
  | 0 => Nat.le_refl _
  | m + 1 => by
    have := jst_le s kd m
    rw [jst]
    split
    · show (jst s kd m).1 + 1 ≤ m + 1; omega
    · omega
def tmB (s : SG) : Prop := ∀ i, i < ns_ s → -1000000000000 ≤ (tm_ s i).toInt ∧ (tm_ s i).toInt ≤ 1000000000000
theorem tm_d {s : SG} (h : tmB s) {i : Nat} (hi : i < ns_ s) : dOk (dayI (tm_ s i)) := by
  obtain ⟨h1, h2⟩ := h i hi
  unfold dOk dayI
  omega
theorem perI_b {s : SG} (h : tmB s) (hn : ns_ s ≤ 40) (kd : Nat) {i : Nat} (hi : i < ns_ s) : -100000000 ≤ perI s kd i ∧ perI s kd i ≤ 100000000 := by
  have hd := tm_d h hi
  obtain ⟨d1, d2⟩ := id hd
  obtain ⟨m1, m2⟩ := mon_b hd
  unfold perI
  split
  · omega
  · split
    · omega
    · split
      · omega
      · split <;> omega
theorem jst_b {s : SG} (h : tmB s) (hn : ns_ s ≤ 40) (kd : Nat) : ∀ m, m ≤ ns_ s → -100000000 ≤ (jst s kd m).2 ∧ (jst s kd m).2 ≤ 100000000
  | 0, _ => ⟨by show -100000000 ≤ (0 : Int); decide, by show (0 : Int) ≤ 100000000; decide⟩
  | m + 1, hm => by
    rw [jst]
    split
    · exact perI_b h hn kd (by omega)
    · exact jst_b h hn kd m (by omega)
def bitV (kd : Nat) : Int32 := (1 : Int32) <<< (nI kd &&& 31)
def tagB (s : SG) (i : Nat) : Bool := decide ((nI (ru_ s 5) >>> (nI (tg_ s i) &&& 31)) &&& 1 = 1)
def kbits (s : SG) (i : Nat) : Nat → Int32
  | 0 => if kp_ s i = true ∧ tagB s i = true then 32 else 0
  | n + 1 => if chB s n i = true then kbits s i n ||| bitV n else kbits s i n
theorem up_M3 (s : SG) (k : KG) (a : Nat → Int32) (j : Nat) (v : Int32) : kw_up (hC s (kA k 3 a)) (10, 2) (rx_ 40 (va_up a j v)) = hC s (kA k 3 (va_up a j v)) := (up_rkp s (kA k 3 a) j v).trans (by rw [kA2]; rfl)
set_option maxHeartbeats 4000000 in
set_option maxRecDepth 100000 in
theorem u_period (l : Launch) (h : PH) (kd : Nat) (hk : kd < 5) (i : Nat) (hi : i < 2 ^ 31) (d : Int) (hd : dOk d) : kw_F l yX6_periodOf cX6_periodOf 4 (Option.some Jvm.ClassFile.FieldType.long) { frames := 3, cells := 0, slots := 0, locals := 75 } [pi_ (nI kd), pi_ (nI i), pl_ (lI d)] h (some (pl_ (lI (if kd = 0 then (i : Int) else if kd = 2 then (d + 3) / 7 else if kd = 3 then monI d else if kd = 4 then monI d / 12 else d)))) h := by
  refine kw_M_of RX6 "periodOf" [some (pi_ (nI kd)), some (pi_ (nI i)), some (pl_ (lI d)), none] (by decide) rfl rfl rfl (Nat.le_of_ble_eq_true rfl) ?_
  intro D ad A
  refine kw_Kgen (fun K hK => ?_)
  refine kw_iload_n dX6_periodOf_0 rfl ?_
  by_cases e1 : (nI kd) = 1
  · skip
    rw [e1]
    refine kw_tableIn (off := 31) (tgt := 32) dX6_periodOf_1 (by decide) (by decide) (by decide) (by decide) ?_
    have z := nI_eq' (b := 1) (by omega) (by decide) e1
    rw [if_neg (by omega), if_neg (by omega), if_neg (by omega), if_neg (by omega)] at hK
    refine kw_lload_n dX6_periodOf_32 rfl ?_
    exact kw_lret dX6_periodOf_33 rfl (Nat.le_of_ble_eq_true rfl) (Nat.le_of_ble_eq_true rfl) (hK _ _ _ ⟨rfl, rfl, rfl⟩)
  by_cases e2 : (nI kd) = 2
  · skip
    rw [e2]
    refine kw_tableIn (off := 33) (tgt := 34) dX6_periodOf_1 (by decide) (by decide) (by decide) (by decide) ?_
    have z := nI_eq' (b := 2) (by omega) (by decide) e2
    rw [if_neg (by omega), if_pos z] at hK
    refine kw_lload_n dX6_periodOf_34 rfl ?_
    refine kw_callSf (As := [pl_ (lI d)]) (c_weekOf l h d hd) dX6_periodOf_35 cl_X6_46 rfl rfl (Nat.le_of_ble_eq_true rfl) ⟨(Nat.le_of_ble_eq_true rfl), (Nat.le_of_ble_eq_true rfl), (Nat.le_of_ble_eq_true rfl), (Nat.le_of_ble_eq_true rfl)⟩ ?_
    exact kw_lret dX6_periodOf_38 rfl (Nat.le_of_ble_eq_true rfl) (Nat.le_of_ble_eq_true rfl) (hK _ _ _ ⟨rfl, rfl, rfl⟩)
  by_cases e3 : (nI kd) = 3
  · skip
    rw [e3]
    refine kw_tableIn (off := 38) (tgt := 39) dX6_periodOf_1 (by decide) (by decide) (by decide) (by decide) ?_
    have z := nI_eq' (b := 3) (by omega) (by decide) e3
    rw [if_neg (by omega), if_neg (by omega), if_pos z] at hK
    refine kw_lload_n dX6_periodOf_39 rfl ?_
    refine kw_callSf (As := [pl_ (lI d)]) (c_mon l h d hd) dX6_periodOf_40 cl_X6_49 rfl rfl (Nat.le_of_ble_eq_true rfl) ⟨(Nat.le_of_ble_eq_true rfl), (Nat.le_of_ble_eq_true rfl), (Nat.le_of_ble_eq_true rfl), (Nat.le_of_ble_eq_true rfl)⟩ ?_
    exact kw_lret dX6_periodOf_43 rfl (Nat.le_of_ble_eq_true rfl) (Nat.le_of_ble_eq_true rfl) (hK _ _ _ ⟨rfl, rfl, rfl⟩)
  by_cases e4 : (nI kd) = 4
  · skip
    rw [e4]
    refine kw_tableIn (off := 43) (tgt := 44) dX6_periodOf_1 (by decide) (by decide) (by decide) (by decide) ?_
    have z := nI_eq' (b := 4) (by omega) (by decide) e4
    rw [if_neg (by omega), if_neg (by omega), if_neg (by omega), if_pos z] at hK
    refine kw_lload_n dX6_periodOf_44 rfl ?_
    refine kw_callSf (As := [pl_ (lI d)]) (c_year l h d hd) dX6_periodOf_45 cl_X6_52 rfl rfl (Nat.le_of_ble_eq_true rfl) ⟨(Nat.le_of_ble_eq_true rfl), (Nat.le_of_ble_eq_true rfl), (Nat.le_of_ble_eq_true rfl), (Nat.le_of_ble_eq_true rfl)⟩ ?_
    exact kw_lret dX6_periodOf_48 rfl (Nat.le_of_ble_eq_true rfl) (Nat.le_of_ble_eq_true rfl) (hK _ _ _ ⟨rfl, rfl, rfl⟩)
  have n1 : ((nI kd)).toInt ≠ 1 := fun q => e1 (Int32.toInt_inj.mp (q.trans (by decide)))
  have n2 : ((nI kd)).toInt ≠ 2 := fun q => e2 (Int32.toInt_inj.mp (q.trans (by decide)))
  have n3 : ((nI kd)).toInt ≠ 3 := fun q => e3 (Int32.toInt_inj.mp (q.trans (by decide)))
  have n4 : ((nI kd)).toInt ≠ 4 := fun q => e4 (Int32.toInt_inj.mp (q.trans (by decide)))
  refine kw_tableOut (tgt := 49) dX6_periodOf_1 (by omega) (by decide) ?_
  have y1 : kd ≠ 1 := fun q => e1 (by rw [q]; rfl)
  have y2 : kd ≠ 2 := fun q => e2 (by rw [q]; rfl)
  have y3 : kd ≠ 3 := fun q => e3 (by rw [q]; rfl)
  have y4 : kd ≠ 4 := fun q => e4 (by rw [q]; rfl)
  rw [if_pos (show kd = 0 by omega)] at hK
  refine kw_iload_n dX6_periodOf_49 rfl ?_
  refine kw_i2l dX6_periodOf_50 ?_
  refine kw_top (v' := pl_ (lI (i : Int))) (by rw [nI_l hi]; rfl) ?_
  exact kw_lret dX6_periodOf_51 rfl (Nat.le_of_ble_eq_true rfl) (Nat.le_of_ble_eq_true rfl) (hK _ _ _ ⟨rfl, rfl, rfl⟩)
theorem sat_e {P : Prop} [Decidable P] {b : Bool} {u v : Int32} (h : ¬ P → b = false) : (if P ∧ b = true then u else v) = if b = true then u else v := by
  by_cases p : P
  · by_cases e : b = true
    · rw [if_pos ⟨p, e⟩, if_pos e]
    · rw [if_neg (fun z => e z.2), if_neg e]
  · rw [if_neg (fun z => p z.1), if_neg (by rw [h p]; decide)]
set_option maxHeartbeats 4000000 in
set_option maxRecDepth 100000 in
theorem u_judgeBy (l : Launch) (s : SG) (k : KG) (hns : ns_ s ≤ 40) (htm : tmB s) (kd : Nat) (hk : kd < 5) (hru : ru_ s kd ≤ 100) (a0 : Nat → Int32) : kw_P l yX6_judgeBy cX6_judgeBy 10 (Option.none : Option Jvm.ClassFile.FieldType) { frames := 4, cells := 0, slots := 0, locals := 98 } [pr_ (10, 0), pi_ (nI kd), pr_ (15, 0), pi_ (nI (ns_ s))] (hC s (kA k 3 a0)) (fun r h' => r = none ∧ ∃ a, (∀ i, i < ns_ s → a i = if chB s kd i = true then a0 i ||| bitV kd else a0 i) ∧ h' = hC s (kA k 3 a)) := by
  refine kw_M_of RX6 "judgeBy" [some (pr_ (10, 0)), some (pi_ (nI kd)), some (pr_ (15, 0)), some (pi_ (nI (ns_ s))), none, none, none, none, none, none] (by decide) rfl rfl rfl (Nat.le_of_ble_eq_true rfl) ?_
  intro D ad A
  refine kw_Kgen (fun K hK => ?_)
  have loop : ∀ (n_ : Nat) (j : Nat) (a : Nat → Int32) (x : Nat × Int), j < n_ → j ≤ ns_ s → jst s kd (ns_ s - j) = x → (∀ i, i < ns_ s → a i = if j ≤ i ∧ chB s kd i = true then a0 i ||| bitV kd else a0 i) → kw_G l D cX6_judgeBy RX6 (Option.none : Option Jvm.ClassFile.FieldType) "judgeBy" { frames := 4, cells := 0, slots := 0, locals := 98 } A K ad (hC s (kA k 3 a)) 0 0 11 [some (pr_ (10, 0)), some (pi_ (nI kd)), some (pr_ (15, 0)), some (pi_ (nI (ns_ s))), some (pi_ (nI x.1)), some (pl_ (lI x.2)), none, some (pi_ (nI j - 1)), none, none] [] := by
    intro n_
    induction n_ with
    | zero =>
      intro j a x hm_
      exact absurd hm_ (Nat.not_lt_zero _)
    | succ n_ ih =>
      intro j a x hm_ hj hx ha
      refine kw_iload dX6_judgeBy_11 rfl ?_
      refine kw_if_lt (tgt := 94) dX6_judgeBy_13 (by decide) (fun c13 => ?_) (fun c13 => ?_)
      · skip
        have e : j = 0 := by
          cases j with
          | zero => rfl
          | succ j => rw [nI_pred] at c13; exact absurd c13 (nI_pos (by omega))
        exact kw_vret dX6_judgeBy_94 rfl (Nat.le_of_ble_eq_true rfl) (Nat.le_of_ble_eq_true rfl) (hK _ _ _ ⟨rfl, rfl, a, (fun i hi => by rw [ha i hi]; simp only [e, Nat.zero_le, true_and]), rfl⟩)
      · skip
        cases j with
        | zero => exact absurd (by decide) c13
        | succ j => ?_
        have hlt : j < ns_ s := hj
        refine kw_lveq (lv' := [some (pr_ (10, 0)), some (pi_ (nI kd)), some (pr_ (15, 0)), some (pi_ (nI (ns_ s))), some (pi_ (nI x.1)), some (pl_ (lI x.2)), none, some (pi_ (nI j)), none, none]) (by rw [nI_pred]) ?_
        have hxl := jst_le s kd (ns_ s - (j + 1))
        have hxb := jst_b htm hns kd (ns_ s - (j + 1)) (by omega)
        rw [hx] at hxl hxb
        have ec0 : chB s kd j = jc s kd x j := by rw [chB_e, hx]
        have hpb := perI_b htm hns kd hlt
        refine kw_iload dX6_judgeBy_16 rfl ?_
        refine kw_aload_n dX6_judgeBy_18 rfl ?_
        refine kw_get dX6_judgeBy_19 fl_X6_9 rfl rfl ?_
        refine kw_iload_n dX6_judgeBy_22 rfl ?_
        refine kw_ialdN dX6_judgeBy_23 rfl (by omega) (by decide) ?_
        refine kw_icmp_ge (tgt := 94) dX6_judgeBy_24 (by decide) (fun c24 => ?_) (fun c24 => ?_)
        · skip
          have e24 := nI_le' (a := ru_ s kd) (b := x.1) (by omega) (by omega) c24
          exact kw_vret dX6_judgeBy_94 rfl (Nat.le_of_ble_eq_true rfl) (Nat.le_of_ble_eq_true rfl) (hK _ _ _ ⟨rfl, rfl, a, (fun i hi => by rw [ha i hi]; exact sat_e (fun z => chB_sat (m := ns_ s - (j + 1)) (by rw [hx]; exact e24) (by omega))), rfl⟩)
        · skip
          have e24 := nI_nle' (a := ru_ s kd) (b := x.1) (by omega) (by omega) c24
          refine kw_aload_n dX6_judgeBy_27 rfl ?_
          refine kw_iload dX6_judgeBy_28 rfl ?_
          refine kw_aaldN dX6_judgeBy_30 rfl (by omega) (by decide) (if_pos hlt) ?_
          refine kw_get dX6_judgeBy_31 fl_X6_18 (hC_sn hlt) rfl ?_
          refine kw_if_ne (tgt := 88) dX6_judgeBy_34 (by decide) (fun c34 => ?_) (fun c34 => ?_)
          · skip
            have e34 : kp_ s j = false := not_b2n c34
            have ec : chB s kd j = false := by rw [ec0, jc, e34]; simp
            refine kw_iinc dX6_judgeBy_88 rfl (nI_d _) ?_
            refine kw_goto (tgt := 11) dX6_judgeBy_91 (by decide) ?_
            refine kw_lvle (lv' := [some (pr_ (10, 0)), some (pi_ (nI kd)), some (pr_ (15, 0)), some (pi_ (nI (ns_ s))), some (pi_ (nI x.1)), some (pl_ (lI x.2)), none, some (pi_ (nI j - 1)), none, none]) (kw_le_s (kw_le_s (kw_le_s (kw_le_s (kw_le_s (kw_le_s (kw_le_n (kw_le_s (kw_le_n (kw_le_n kw_le_0)))))))))) ?_
            refine ih j a x (by omega) (by omega) (by rw [jst_s hlt, ec, if_neg (by decide)]; exact hx) (fun i hi => ?_)
            by_cases e : i = j
            · rw [ha i hi, if_neg (fun z => absurd z.1 (by omega)), if_neg (fun z => by rw [e, ec] at z; exact absurd z.2 (by decide))]
            · rw [ha i hi]
              by_cases e2 : j + 1 ≤ i
              · by_cases e3 : chB s kd i = true
                · rw [if_pos ⟨e2, e3⟩, if_pos ⟨by omega, e3⟩]
                · rw [if_neg (fun z => e3 z.2), if_neg (fun z => e3 z.2)]
              · rw [if_neg (fun z => e2 z.1), if_neg (fun z => by omega)]
          · skip
            have e34 : kp_ s j = true := not_b2 c34
            obtain ⟨t1, t2⟩ := htm j hlt
            refine kw_iload_n dX6_judgeBy_37 rfl ?_
            refine kw_iload dX6_judgeBy_38 rfl ?_
            refine kw_aload_n dX6_judgeBy_40 rfl ?_
            refine kw_iload dX6_judgeBy_41 rfl ?_
            refine kw_aaldN dX6_judgeBy_43 rfl (by omega) (by decide) (if_pos hlt) ?_
            refine kw_get dX6_judgeBy_44 fl_X6_32 (hC_sn hlt) rfl ?_
            refine kw_top (v' := pl_ (lI (tm_ s j).toInt)) (by rw [nm_lI]) ?_
            refine kw_callSf (As := [pl_ (lI (tm_ s j).toInt)]) (c_dayOf l _ (tm_ s j).toInt t1 t2) dX6_judgeBy_47 cl_X6_36 rfl rfl (Nat.le_of_ble_eq_true rfl) ⟨(Nat.le_of_ble_eq_true rfl), (Nat.le_of_ble_eq_true rfl), (Nat.le_of_ble_eq_true rfl), (Nat.le_of_ble_eq_true rfl)⟩ ?_
            refine kw_callSf (As := [pi_ (nI kd), pi_ (nI j), pl_ (lI (dayI (tm_ s j)))]) (u_period l _ kd hk j (by omega) (dayI (tm_ s j)) (tm_d htm hlt)) dX6_judgeBy_50 cl_X6_42 rfl rfl (Nat.le_of_ble_eq_true rfl) ⟨(Nat.le_of_ble_eq_true rfl), (Nat.le_of_ble_eq_true rfl), (Nat.le_of_ble_eq_true rfl), (Nat.le_of_ble_eq_true rfl)⟩ ?_
            refine kw_top (v' := pl_ (lI (perI s kd j))) (by rw [perI]) ?_
            refine kw_lstore dX6_judgeBy_53 (Nat.le_of_ble_eq_true rfl) ?_
            refine kw_iload dX6_judgeBy_55 rfl ?_
            refine kw_if_eq (tgt := 68) dX6_judgeBy_57 (by decide) (fun c57 => ?_) (fun c57 => ?_)
            · skip
              have e57 : x.1 = 0 := nI_eq' (b := 0) (by omega) (by decide) c57
              have ec : chB s kd j = true := by rw [ec0, jc, decide_eq_true e24, e34, decide_eq_true e57]; rfl
              refine kw_aload_n dX6_judgeBy_68 rfl ?_
              refine kw_get dX6_judgeBy_69 fl_X6_15 rfl rfl ?_
              refine kw_iload dX6_judgeBy_72 rfl ?_
              refine kw_dup2 dX6_judgeBy_74 rfl rfl ?_
              refine kw_ialdN dX6_judgeBy_75 rfl (by omega) (by decide) ?_
              refine kw_top (v' := pi_ (a j)) rfl ?_
              refine kw_iconst (v := 1) dX6_judgeBy_76 (by decide) ?_
              refine kw_iload_n dX6_judgeBy_77 rfl ?_
              refine kw_ishl dX6_judgeBy_78 ?_
              refine kw_ior dX6_judgeBy_79 ?_
              refine kw_iastR dX6_judgeBy_80 rfl (by omega) (by decide) ?_
              refine kw_heq (up_M3 s k a j _) ?_
              refine kw_iinc dX6_judgeBy_81 rfl (nI_i _) ?_
              refine kw_lload dX6_judgeBy_84 rfl ?_
              refine kw_lstore dX6_judgeBy_86 (Nat.le_of_ble_eq_true rfl) ?_
              refine kw_iinc dX6_judgeBy_88 rfl (nI_d _) ?_
              refine kw_goto (tgt := 11) dX6_judgeBy_91 (by decide) ?_
              refine kw_lvle (lv' := [some (pr_ (10, 0)), some (pi_ (nI kd)), some (pr_ (15, 0)), some (pi_ (nI (ns_ s))), some (pi_ (nI (x.1 + 1))), some (pl_ (lI (perI s kd j))), none, some (pi_ (nI j - 1)), none, none]) (kw_le_s (kw_le_s (kw_le_s (kw_le_s (kw_le_s (kw_le_s (kw_le_n (kw_le_s (kw_le_n (kw_le_n kw_le_0)))))))))) ?_
              refine ih j _ (x.1 + 1, perI s kd j) (by omega) (by omega) (by rw [jst_s hlt, ec, if_pos rfl, hx]) (fun i hi => ?_)
              simp only [va_up]
              by_cases e : i = j
              · rw [if_pos e, if_pos ⟨by omega, by rw [e]; exact ec⟩, ha j hlt, if_neg (fun z => absurd z.1 (by omega)), e]; rfl
              · rw [if_neg e, ha i hi]
                by_cases e2 : j + 1 ≤ i
                · by_cases e3 : chB s kd i = true
                  · rw [if_pos ⟨e2, e3⟩, if_pos ⟨by omega, e3⟩]
                  · rw [if_neg (fun z => e3 z.2), if_neg (fun z => e3 z.2)]
                · rw [if_neg (fun z => e2 z.1), if_neg (fun z => by omega)]
            · skip
              have e57 : x.1 ≠ 0 := fun q => c57 (by rw [q]; rfl)
              refine kw_lload dX6_judgeBy_60 rfl ?_
              refine kw_lload dX6_judgeBy_62 rfl ?_
              refine kw_lcmp dX6_judgeBy_64 ?_
              refine kw_if_eq (tgt := 88) dX6_judgeBy_65 (by decide) (fun c65 => ?_) (fun c65 => ?_)
              · skip
                have e65 : perI s kd j = x.2 := lI_inj (by omega) (by omega) (by omega) (by omega) ((lg_cmp_eq _ _).mp c65)
                have ec : chB s kd j = false := by rw [ec0, jc, decide_eq_false e57, decide_eq_true e65]; simp
                refine kw_iinc dX6_judgeBy_88 rfl (nI_d _) ?_
                refine kw_goto (tgt := 11) dX6_judgeBy_91 (by decide) ?_
                refine kw_lvle (lv' := [some (pr_ (10, 0)), some (pi_ (nI kd)), some (pr_ (15, 0)), some (pi_ (nI (ns_ s))), some (pi_ (nI x.1)), some (pl_ (lI x.2)), none, some (pi_ (nI j - 1)), none, none]) (kw_le_s (kw_le_s (kw_le_s (kw_le_s (kw_le_s (kw_le_s (kw_le_n (kw_le_s (kw_le_n (kw_le_n kw_le_0)))))))))) ?_
                refine ih j a x (by omega) (by omega) (by rw [jst_s hlt, ec, if_neg (by decide)]; exact hx) (fun i hi => ?_)
                by_cases e : i = j
                · rw [ha i hi, if_neg (fun z => absurd z.1 (by omega)), if_neg (fun z => by rw [e, ec] at z; exact absurd z.2 (by decide))]
                · rw [ha i hi]
                  by_cases e2 : j + 1 ≤ i
                  · by_cases e3 : chB s kd i = true
                    · rw [if_pos ⟨e2, e3⟩, if_pos ⟨by omega, e3⟩]
                    · rw [if_neg (fun z => e3 z.2), if_neg (fun z => e3 z.2)]
                  · rw [if_neg (fun z => e2 z.1), if_neg (fun z => by omega)]
              · skip
                have e65 : ¬ perI s kd j = x.2 := fun q => c65 ((lg_cmp_eq _ _).mpr (by rw [q]))
                have ec : chB s kd j = true := by rw [ec0, jc, decide_eq_true e24, e34, decide_eq_false e65]; simp
                refine kw_aload_n dX6_judgeBy_68 rfl ?_
                refine kw_get dX6_judgeBy_69 fl_X6_15 rfl rfl ?_
                refine kw_iload dX6_judgeBy_72 rfl ?_
                refine kw_dup2 dX6_judgeBy_74 rfl rfl ?_
                refine kw_ialdN dX6_judgeBy_75 rfl (by omega) (by decide) ?_
                refine kw_top (v' := pi_ (a j)) rfl ?_
                refine kw_iconst (v := 1) dX6_judgeBy_76 (by decide) ?_
                refine kw_iload_n dX6_judgeBy_77 rfl ?_
                refine kw_ishl dX6_judgeBy_78 ?_
                refine kw_ior dX6_judgeBy_79 ?_
                refine kw_iastR dX6_judgeBy_80 rfl (by omega) (by decide) ?_
                refine kw_heq (up_M3 s k a j _) ?_
                refine kw_iinc dX6_judgeBy_81 rfl (nI_i _) ?_
                refine kw_lload dX6_judgeBy_84 rfl ?_
                refine kw_lstore dX6_judgeBy_86 (Nat.le_of_ble_eq_true rfl) ?_
                refine kw_iinc dX6_judgeBy_88 rfl (nI_d _) ?_
                refine kw_goto (tgt := 11) dX6_judgeBy_91 (by decide) ?_
                refine kw_lvle (lv' := [some (pr_ (10, 0)), some (pi_ (nI kd)), some (pr_ (15, 0)), some (pi_ (nI (ns_ s))), some (pi_ (nI (x.1 + 1))), some (pl_ (lI (perI s kd j))), none, some (pi_ (nI j - 1)), none, none]) (kw_le_s (kw_le_s (kw_le_s (kw_le_s (kw_le_s (kw_le_s (kw_le_n (kw_le_s (kw_le_n (kw_le_n kw_le_0)))))))))) ?_
                refine ih j _ (x.1 + 1, perI s kd j) (by omega) (by omega) (by rw [jst_s hlt, ec, if_pos rfl, hx]) (fun i hi => ?_)
                simp only [va_up]
                by_cases e : i = j
                · rw [if_pos e, if_pos ⟨by omega, by rw [e]; exact ec⟩, ha j hlt, if_neg (fun z => absurd z.1 (by omega)), e]; rfl
                · rw [if_neg e, ha i hi]
                  by_cases e2 : j + 1 ≤ i
                  · by_cases e3 : chB s kd i = true
                    · rw [if_pos ⟨e2, e3⟩, if_pos ⟨by omega, e3⟩]
                    · rw [if_neg (fun z => e3 z.2), if_neg (fun z => e3 z.2)]
                  · rw [if_neg (fun z => e2 z.1), if_neg (fun z => by omega)]
  refine kw_iconst (v := 0) dX6_judgeBy_0 (by decide) ?_
  refine kw_istore dX6_judgeBy_1 (Nat.le_of_ble_eq_true rfl) ?_
  refine kw_lconst (v := 0) dX6_judgeBy_3 (by decide) ?_
  refine kw_lstore dX6_judgeBy_4 (Nat.le_of_ble_eq_true rfl) ?_
  refine kw_iload_n dX6_judgeBy_6 rfl ?_
  refine kw_iconst (v := 1) dX6_judgeBy_7 (by decide) ?_
  refine kw_isub dX6_judgeBy_8 ?_
  refine kw_istore dX6_judgeBy_9 (Nat.le_of_ble_eq_true rfl) ?_
  refine loop (ns_ s + 1) (ns_ s) a0 (0, 0) (by omega) (Nat.le_refl _) (by rw [Nat.sub_self]; rfl) (fun i hi => by rw [if_neg (fun z => absurd z.1 (by omega))])
set_option maxHeartbeats 4000000 in
set_option maxRecDepth 100000 in
theorem u_judge (l : Launch) (s : SG) (k : KG) (hns : ns_ s ≤ 40) (htm : tmB s) (hru : ∀ i, i < 6 → ru_ s i ≤ 100) : kw_P l yX6_judge cX6_judge 5 (Option.none : Option Jvm.ClassFile.FieldType) { frames := 5, cells := 0, slots := 0, locals := 127 } [pr_ (10, 0), pr_ (15, 0), pi_ (nI (ns_ s))] (hC s k) (fun r h' => r = none ∧ ∃ a, (∀ i, i < ns_ s → a i = kbits s i 5) ∧ h' = hC s (kA k 3 a)) := by
  refine kw_M_of RX6 "judge" [some (pr_ (10, 0)), some (pr_ (15, 0)), some (pi_ (nI (ns_ s))), none, none] (by decide) rfl rfl rfl (Nat.le_of_ble_eq_true rfl) ?_
  intro D ad A
  refine kw_Kgen (fun K hK => ?_)
  have loop2 : ∀ (n_ : Nat) (kd : Nat) (a : Nat → Int32), 5 - kd < n_ → kd ≤ 5 → (∀ i, i < ns_ s → a i = kbits s i kd) → kw_G l D cX6_judge RX6 (Option.none : Option Jvm.ClassFile.FieldType) "judge" { frames := 5, cells := 0, slots := 0, locals := 127 } A K ad (hC s (kA k 3 a)) 0 0 67 [some (pr_ (10, 0)), some (pr_ (15, 0)), some (pi_ (nI (ns_ s))), some (pi_ (nI kd)), none] [] := by
    intro n_
    induction n_ with
    | zero =>
      intro kd a hm_
      exact absurd hm_ (Nat.not_lt_zero _)
    | succ n_ ih =>
      intro kd a hm_ hk ha
      refine kw_iload_n dX6_judge_67 rfl ?_
      refine kw_iconst (v := 4) dX6_judge_68 (by decide) ?_
      refine kw_icmp_gt (tgt := 85) dX6_judge_69 (by decide) (fun c69 => ?_) (fun c69 => ?_)
      · skip
        have e : kd = 5 := by have := nI_lt' (a := 4) (by omega) (by omega) c69; omega
        subst e
        exact kw_vret dX6_judge_85 rfl (Nat.le_of_ble_eq_true rfl) (Nat.le_of_ble_eq_true rfl) (hK _ _ _ ⟨rfl, rfl, a, ha, rfl⟩)
      · skip
        have hlt : kd < 5 := by have := nI_nlt' (a := 4) (by omega) (by omega) c69; omega
        refine kw_aload_n dX6_judge_72 rfl ?_
        refine kw_iload_n dX6_judge_73 rfl ?_
        refine kw_aload_n dX6_judge_74 rfl ?_
        refine kw_iload_n dX6_judge_75 rfl ?_
        refine kw_callV (As := [pi_ (nI kd), pr_ (15, 0), pi_ (nI (ns_ s))]) (u_judgeBy l s k hns htm kd hlt (hru kd (by omega)) a) dX6_judge_76 cl_X6_28 rfl rfl rfl rfl (Nat.le_of_ble_eq_true rfl) ⟨(Nat.le_of_ble_eq_true rfl), (Nat.le_of_ble_eq_true rfl), (Nat.le_of_ble_eq_true rfl), (Nat.le_of_ble_eq_true rfl)⟩ (fun r2 h2 hp2 => ?_)
        obtain ⟨rfl, a2, ha2, rfl⟩ := hp2
        refine kw_iinc dX6_judge_79 rfl (nI_i kd) ?_
        refine kw_goto (tgt := 67) dX6_judge_82 (by decide) ?_
        exact ih (kd + 1) a2 (by omega) (by omega) (fun i hi => by rw [ha2 i hi, ha i hi]; rfl)
  have loop : ∀ (n_ : Nat) (j : Nat) (a : Nat → Int32), ns_ s - j < n_ → j ≤ ns_ s → (∀ i, i < j → a i = kbits s i 0) → kw_G l D cX6_judge RX6 (Option.none : Option Jvm.ClassFile.FieldType) "judge" { frames := 5, cells := 0, slots := 0, locals := 127 } A K ad (hC s (kA k 3 a)) 0 0 2 [some (pr_ (10, 0)), some (pr_ (15, 0)), some (pi_ (nI (ns_ s))), some (pi_ (nI j)), none] [] := by
    intro n_
    induction n_ with
    | zero =>
      intro j a hm_
      exact absurd hm_ (Nat.not_lt_zero _)
    | succ n_ ih =>
      intro j a hm_ hj ha
      refine kw_iload_n dX6_judge_2 rfl ?_
      refine kw_iload_n dX6_judge_3 rfl ?_
      refine kw_icmp_ge (tgt := 65) dX6_judge_4 (by decide) (fun c4 => ?_) (fun c4 => ?_)
      · skip
        have e : j = ns_ s := Nat.le_antisymm hj (nI_le' (by omega) (by omega) c4)
        subst e
        refine kw_iconst (v := 0) dX6_judge_65 (by decide) ?_
        refine kw_istore_n dX6_judge_66 (Nat.le_of_ble_eq_true rfl) ?_
        exact loop2 6 0 a (by omega) (by omega) ha
      · skip
        have hlt : j < ns_ s := nI_nle' (by omega) (by omega) c4
        refine kw_aload_n dX6_judge_7 rfl ?_
        refine kw_iload_n dX6_judge_8 rfl ?_
        refine kw_aaldN dX6_judge_9 rfl (by omega) (by decide) (if_pos hlt) ?_
        refine kw_get dX6_judge_10 fl_X6_18 (hC_sn hlt) rfl ?_
        refine kw_if_ne (tgt := 39) dX6_judge_13 (by decide) (fun c13 => ?_) (fun c13 => ?_)
        · skip
          have e13 : kp_ s j = false := not_b2n c13
          refine kw_iconst (v := 0) dX6_judge_39 (by decide) ?_
          refine kw_istore dX6_judge_40 (Nat.le_of_ble_eq_true rfl) ?_
          refine kw_aload_n dX6_judge_42 rfl ?_
          refine kw_get dX6_judge_43 fl_X6_15 rfl rfl ?_
          refine kw_iload_n dX6_judge_46 rfl ?_
          refine kw_iload dX6_judge_47 rfl ?_
          refine kw_if_eq (tgt := 57) dX6_judge_49 (by decide) (fun c49 => ?_) (fun c49 => ?_)
          · skip
            refine kw_iconst (v := 0) dX6_judge_57 (by decide) ?_
            refine kw_iastR dX6_judge_58 rfl (by omega) (by decide) ?_
            refine kw_heq (up_M3 s k a j _) ?_
            refine kw_iinc dX6_judge_59 rfl (nI_i j) ?_
            refine kw_goto (tgt := 2) dX6_judge_62 (by decide) ?_
            refine kw_lvle (lv' := [some (pr_ (10, 0)), some (pr_ (15, 0)), some (pi_ (nI (ns_ s))), some (pi_ (nI (j + 1))), none]) (kw_le_s (kw_le_s (kw_le_s (kw_le_s (kw_le_n kw_le_0))))) ?_
            refine ih (j + 1) _ (by omega) (by omega) (fun i hi => ?_)
            simp only [va_up]
            by_cases e : i = j
            · rw [if_pos e, e, kbits, if_neg (fun z => absurd z.1 (by rw [e13]; decide))]
            · rw [if_neg e]; exact ha i (by omega)
          · skip
            exact absurd rfl c49
        · skip
          have e13 : kp_ s j = true := not_b2 c13
          refine kw_aload_n dX6_judge_16 rfl ?_
          refine kw_get dX6_judge_17 fl_X6_9 rfl rfl ?_
          refine kw_iconst (v := (nI 5)) dX6_judge_20 (by decide) ?_
          refine kw_ialdN dX6_judge_21 rfl (by decide) (by decide) ?_
          refine kw_aload_n dX6_judge_22 rfl ?_
          refine kw_iload_n dX6_judge_23 rfl ?_
          refine kw_aaldN dX6_judge_24 rfl (by omega) (by decide) (if_pos hlt) ?_
          refine kw_get dX6_judge_25 fl_X6_24 (hC_sn hlt) rfl ?_
          refine kw_ishr dX6_judge_28 ?_
          refine kw_iconst (v := 1) dX6_judge_29 (by decide) ?_
          refine kw_iand dX6_judge_30 ?_
          refine kw_iconst (v := 1) dX6_judge_31 (by decide) ?_
          refine kw_icmp_ne (tgt := 39) dX6_judge_32 (by decide) (fun c32 => ?_) (fun c32 => ?_)
          · skip
            have e32 : ¬ tagB s j = true := fun q => c32 (of_decide_eq_true q)
            refine kw_iconst (v := 0) dX6_judge_39 (by decide) ?_
            refine kw_istore dX6_judge_40 (Nat.le_of_ble_eq_true rfl) ?_
            refine kw_aload_n dX6_judge_42 rfl ?_
            refine kw_get dX6_judge_43 fl_X6_15 rfl rfl ?_
            refine kw_iload_n dX6_judge_46 rfl ?_
            refine kw_iload dX6_judge_47 rfl ?_
            refine kw_if_eq (tgt := 57) dX6_judge_49 (by decide) (fun c49 => ?_) (fun c49 => ?_)
            · skip
              refine kw_iconst (v := 0) dX6_judge_57 (by decide) ?_
              refine kw_iastR dX6_judge_58 rfl (by omega) (by decide) ?_
              refine kw_heq (up_M3 s k a j _) ?_
              refine kw_iinc dX6_judge_59 rfl (nI_i j) ?_
              refine kw_goto (tgt := 2) dX6_judge_62 (by decide) ?_
              refine kw_lvle (lv' := [some (pr_ (10, 0)), some (pr_ (15, 0)), some (pi_ (nI (ns_ s))), some (pi_ (nI (j + 1))), none]) (kw_le_s (kw_le_s (kw_le_s (kw_le_s (kw_le_n kw_le_0))))) ?_
              refine ih (j + 1) _ (by omega) (by omega) (fun i hi => ?_)
              simp only [va_up]
              by_cases e : i = j
              · rw [if_pos e, e, kbits, if_neg (fun z => e32 z.2)]
              · rw [if_neg e]; exact ha i (by omega)
            · skip
              exact absurd rfl c49
          · skip
            have e32 : tagB s j = true := decide_eq_true c32
            refine kw_iconst (v := 1) dX6_judge_35 (by decide) ?_
            refine kw_goto (tgt := 40) dX6_judge_36 (by decide) ?_
            refine kw_istore dX6_judge_40 (Nat.le_of_ble_eq_true rfl) ?_
            refine kw_aload_n dX6_judge_42 rfl ?_
            refine kw_get dX6_judge_43 fl_X6_15 rfl rfl ?_
            refine kw_iload_n dX6_judge_46 rfl ?_
            refine kw_iload dX6_judge_47 rfl ?_
            refine kw_if_eq (tgt := 57) dX6_judge_49 (by decide) (fun c49 => ?_) (fun c49 => ?_)
            · skip
              exact absurd c49 (by decide)
            · skip
              refine kw_bipush (v := 32) dX6_judge_52 (by decide) ?_
              refine kw_goto (tgt := 58) dX6_judge_54 (by decide) ?_
              refine kw_iastR dX6_judge_58 rfl (by omega) (by decide) ?_
              refine kw_heq (up_M3 s k a j _) ?_
              refine kw_iinc dX6_judge_59 rfl (nI_i j) ?_
              refine kw_goto (tgt := 2) dX6_judge_62 (by decide) ?_
              refine kw_lvle (lv' := [some (pr_ (10, 0)), some (pr_ (15, 0)), some (pi_ (nI (ns_ s))), some (pi_ (nI (j + 1))), none]) (kw_le_s (kw_le_s (kw_le_s (kw_le_s (kw_le_n kw_le_0))))) ?_
              refine ih (j + 1) _ (by omega) (by omega) (fun i hi => ?_)
              simp only [va_up]
              by_cases e : i = j
              · rw [if_pos e, e, kbits, if_pos ⟨e13, e32⟩]
              · rw [if_neg e]; exact ha i (by omega)
  refine kw_iconst (v := 0) dX6_judge_0 (by decide) ?_
  refine kw_istore_n dX6_judge_1 (Nat.le_of_ble_eq_true rfl) ?_
  have h0 : hC s k = hC s (kA k 3 (ka_ k 3)) := by rw [kA_id]
  rw [h0]
  exact loop (ns_ s + 1) 0 _ (by omega) (by omega) (fun i hi => absurd hi (Nat.not_lt_zero _))
set_option maxHeartbeats 4000000 in
set_option maxRecDepth 100000 in
theorem o_unkept (l : Launch) (t : SG) (k : KG) (hns : ns_ t ≤ 40) (j : Nat) (hj : j < ns_ t) : kw_F l yX11_snapshotIsUnkept cX11_snapshotIsUnkept 2 (Option.some Jvm.ClassFile.FieldType.boolean) { frames := 0, cells := 0, slots := 0, locals := 0 } [pr_ (0, 0), pi_ (nI j)] (hC t k) (some (pi_ (b2 (kp_ t j && decide (ka_ k 3 j = 0))))) (hC t k) := by
  refine kw_M_of RX11 "snapshotIsUnkept" [some (pr_ (0, 0)), some (pi_ (nI j))] (by decide) rfl rfl rfl (Nat.le_of_ble_eq_true rfl) ?_
  intro D ad A
  refine kw_Kgen (fun K hK => ?_)
  refine kw_aload_n dX11_snapshotIsUnkept_0 rfl ?_
  refine kw_get dX11_snapshotIsUnkept_1 fl_X11_59 rfl rfl ?_
  refine kw_iload_n dX11_snapshotIsUnkept_4 rfl ?_
  refine kw_aaldN dX11_snapshotIsUnkept_5 rfl (by omega) (by decide) (if_pos hj) ?_
  refine kw_get dX11_snapshotIsUnkept_6 fl_X11_226 (hC_sn hj) rfl ?_
  refine kw_if_ne (tgt := 28) dX11_snapshotIsUnkept_9 (by decide) (fun c9 => ?_) (fun c9 => ?_)
  · skip
    refine kw_iconst (v := 0) dX11_snapshotIsUnkept_28 (by decide) ?_
    exact kw_zret dX11_snapshotIsUnkept_29 rfl (by decide) (Nat.le_of_ble_eq_true rfl) (Nat.le_of_ble_eq_true rfl) (hK _ _ _ ⟨rfl, by rw [not_b2n c9]; rfl, rfl⟩)
  · skip
    have e9 := not_b2 c9
    refine kw_aload_n dX11_snapshotIsUnkept_12 rfl ?_
    refine kw_get dX11_snapshotIsUnkept_13 fl_X11_46 rfl rfl ?_
    refine kw_get dX11_snapshotIsUnkept_16 fl_X11_220 rfl rfl ?_
    refine kw_iload_n dX11_snapshotIsUnkept_19 rfl ?_
    refine kw_ialdN dX11_snapshotIsUnkept_20 rfl (by omega) (by decide) ?_
    refine kw_if_ne (tgt := 28) dX11_snapshotIsUnkept_21 (by decide) (fun c21 => ?_) (fun c21 => ?_)
    · skip
      refine kw_iconst (v := 0) dX11_snapshotIsUnkept_28 (by decide) ?_
      exact kw_zret dX11_snapshotIsUnkept_29 rfl (by decide) (Nat.le_of_ble_eq_true rfl) (Nat.le_of_ble_eq_true rfl) (hK _ _ _ ⟨rfl, by rw [decide_eq_false c21, Bool.and_false]; rfl, rfl⟩)
    · skip
      refine kw_iconst (v := 1) dX11_snapshotIsUnkept_24 (by decide) ?_
      refine kw_goto (tgt := 29) dX11_snapshotIsUnkept_25 (by decide) ?_
      exact kw_zret dX11_snapshotIsUnkept_29 rfl (by decide) (Nat.le_of_ble_eq_true rfl) (Nat.le_of_ble_eq_true rfl) (hK _ _ _ ⟨rfl, by rw [e9, decide_eq_true c21]; rfl, rfl⟩)
def a_keeps (s : SG) (x : Int32) : Int32 := if dn_ s = true then -106 else if snOk s x = true then kbits s (cl_ x) 5 else -101
def unkB (s : SG) (i : Nat) : Bool := kp_ s i && decide (kbits s i 5 = 0)
def prL (g : Nat → Bool) : Nat → Nat → SG → Bool × SG
  | 0, _, t => (true, t)
  | n + 1, i, t => if g i = true then (if cut_ t = 0 then (false, s_w0 t) else prL g n (i + 1) (s_rmv t i)) else prL g n (i + 1) t
def a_prune (s : SG) (w : Bool) : Int32 × SG := if dn_ s = true then (-106, s) else if 0 < thereN s ∧ cntN (unkB s) (ns_ s) = thereN s ∧ w = false then (-103, s) else if (prL (unkB s) (ns_ s) 0 s).1 = true then (nI (cntN (unkB s) (ns_ s)), (prL (unkB s) (ns_ s) 0 s).2) else (-105, s_gone (prL (unkB s) (ns_ s) 0 s).2)
set_option maxHeartbeats 4000000 in
set_option maxRecDepth 100000 in
theorem P_keeps (l : Launch) (s : SG) (k : KG) (hns : ns_ s ≤ 40) (htm : tmB s) (hru : ∀ i, i < 6 → ru_ s i ≤ 100) (x : Int32) : kw_P l yX11_keeps cX11_keeps 2 (Option.some Jvm.ClassFile.FieldType.int) { frames := 6, cells := 0, slots := 0, locals := 151 } [pr_ (0, 0), pi_ x] (hC s k) (fun r h' => r = some (pi_ (a_keeps s x)) ∧ ∃ k', kEq k' k ∧ h' = hC s k') := by
  refine kw_M_of RX11 "keeps" [some (pr_ (0, 0)), some (pi_ x)] (by decide) rfl rfl rfl (Nat.le_of_ble_eq_true rfl) ?_
  intro D ad A
  refine kw_Kgen (fun K hK => ?_)
  refine kw_aload_n dX11_keeps_0 rfl ?_
  refine kw_get dX11_keeps_1 fl_X11_10 rfl rfl ?_
  refine kw_get dX11_keeps_4 fl_X11_80 rfl rfl ?_
  refine kw_if_eq (tgt := 13) dX11_keeps_7 (by decide) (fun c7 => ?_) (fun c7 => ?_)
  · skip
    have hd : ¬ dn_ s = true := by rw [b2_0.mp c7]; decide
    refine kw_aload_n dX11_keeps_13 rfl ?_
    refine kw_iload_n dX11_keeps_14 rfl ?_
    refine kw_callVf (As := [pi_ x]) (o_snIs l s k hns x) dX11_keeps_15 cl_X11_203 rfl rfl rfl rfl (Nat.le_of_ble_eq_true rfl) ⟨(Nat.le_of_ble_eq_true rfl), (Nat.le_of_ble_eq_true rfl), (Nat.le_of_ble_eq_true rfl), (Nat.le_of_ble_eq_true rfl)⟩ ?_
    refine kw_if_ne (tgt := 24) dX11_keeps_18 (by decide) (fun c18 => ?_) (fun c18 => ?_)
    · skip
      have e18 := b2_n0.mp c18
      rw [a_keeps, if_neg hd, if_pos e18] at hK
      obtain ⟨j, hj, e19⟩ := anyN_iff.mp e18
      rw [Bool.and_eq_true] at e19
      have ex := of_decide_eq_true e19.1
      subst ex
      rw [cl_, nI_clamp (by omega)] at hK
      refine kw_aload_n dX11_keeps_24 rfl ?_
      refine kw_get dX11_keeps_25 fl_X11_46 rfl rfl ?_
      refine kw_aload_n dX11_keeps_28 rfl ?_
      refine kw_get dX11_keeps_29 fl_X11_59 rfl rfl ?_
      refine kw_aload_n dX11_keeps_32 rfl ?_
      refine kw_get dX11_keeps_33 fl_X11_183 rfl rfl ?_
      refine kw_callV (As := [pr_ (15, 0), pi_ (nI (ns_ s))]) (u_judge l s k hns htm hru) dX11_keeps_36 cl_X11_216 rfl rfl rfl rfl (Nat.le_of_ble_eq_true rfl) ⟨(Nat.le_of_ble_eq_true rfl), (Nat.le_of_ble_eq_true rfl), (Nat.le_of_ble_eq_true rfl), (Nat.le_of_ble_eq_true rfl)⟩ (fun r2 h2 hp2 => ?_)
      obtain ⟨rfl, a2, ha2, rfl⟩ := hp2
      refine kw_aload_n dX11_keeps_39 rfl ?_
      refine kw_get dX11_keeps_40 fl_X11_46 rfl rfl ?_
      refine kw_get dX11_keeps_43 fl_X11_220 rfl rfl ?_
      refine kw_iload_n dX11_keeps_46 rfl ?_
      refine kw_ialdN dX11_keeps_47 rfl (by omega) (by decide) ?_
      exact kw_iret dX11_keeps_48 rfl (Nat.le_of_ble_eq_true rfl) (Nat.le_of_ble_eq_true rfl) (hK _ _ _ ⟨rfl, congrArg (fun z => some (pi_ z)) (ha2 j hj), kA k 3 a2, ⟨rfl, rfl, rfl⟩, rfl⟩)
    · skip
      refine kw_bipush (v := (-101)) dX11_keeps_21 (by decide) ?_
      exact kw_iret dX11_keeps_23 rfl (Nat.le_of_ble_eq_true rfl) (Nat.le_of_ble_eq_true rfl) (hK _ _ _ ⟨rfl, by rw [a_keeps, if_neg hd, if_neg (by rw [b2_0.mp c18]; decide)], k, kEq.rf k, rfl⟩)
  · skip
    have hd := b2_n0.mp c7
    refine kw_bipush (v := (-106)) dX11_keeps_10 (by decide) ?_
    exact kw_iret dX11_keeps_12 rfl (Nat.le_of_ble_eq_true rfl) (Nat.le_of_ble_eq_true rfl) (hK _ _ _ ⟨rfl, by rw [a_keeps, if_pos hd], k, kEq.rf k, rfl⟩)
theorem cntN_sub {p q : Nat → Bool} {n : Nat} (h : ∀ i, p i = true → q i = true) : cntN p n ≤ cntN q n := by
  induction n with
  | zero => exact Nat.le_refl _
  | succ n ih =>
    rw [cntN, cntN]
    cases e : p n with
    | false => rw [if_neg (by decide)]; exact Nat.le_trans ih (by omega)
    | true => rw [h n e]; omega
theorem s_rmv_1 (s : SG) (b i : Nat) (hi : i ≠ 8) : (s_rmv s b).1 i = s.1 i := by show va_up (s_w1 s).1 8 _ i = _; simp only [va_up, if_neg hi]; rw [s_w1_1]
theorem s_rmv_nh (s : SG) (b : Nat) : nh_ (s_rmv s b) = nh_ s + 1 := by show nh_ (s_w1 s) + 1 = _; rw [nh_, s_w1_1]
set_option maxHeartbeats 4000000 in
set_option maxRecDepth 100000 in
theorem P_prune (l : Launch) (s : SG) (k : KG) (hns : ns_ s ≤ 40) (htm : tmB s) (hru : ∀ i, i < 6 → ru_ s i ≤ 100) (hnh : nh_ s + thereN s ≤ 240) (w : Bool) : kw_P l yX11_prune cX11_prune 5 (Option.some Jvm.ClassFile.FieldType.int) { frames := 6, cells := 0, slots := 0, locals := 151 } [pr_ (0, 0), pi_ (b2 w)] (hC s k) (fun r h' => r = some (pi_ (a_prune s w).1) ∧ ∃ k', kEq k' k ∧ h' = hC (a_prune s w).2 k') := by
  refine kw_M_of RX11 "prune" [some (pr_ (0, 0)), some (pi_ (b2 w)), none, none, none] (by decide) rfl rfl rfl (Nat.le_of_ble_eq_true rfl) ?_
  intro D ad A
  refine kw_Kgen (fun K hK => ?_)
  refine kw_aload_n dX11_prune_0 rfl ?_
  refine kw_get dX11_prune_1 fl_X11_10 rfl rfl ?_
  refine kw_get dX11_prune_4 fl_X11_80 rfl rfl ?_
  refine kw_if_eq (tgt := 13) dX11_prune_7 (by decide) (fun c7 => ?_) (fun c7 => ?_)
  · skip
    have hd : ¬ dn_ s = true := by rw [b2_0.mp c7]; decide
    rw [a_prune, if_neg hd] at hK
    refine kw_aload_n dX11_prune_13 rfl ?_
    refine kw_callVf (As := []) (o_sn l s k hns) dX11_prune_14 cl_X11_186 rfl rfl rfl rfl (Nat.le_of_ble_eq_true rfl) ⟨(Nat.le_of_ble_eq_true rfl), (Nat.le_of_ble_eq_true rfl), (Nat.le_of_ble_eq_true rfl), (Nat.le_of_ble_eq_true rfl)⟩ ?_
    refine kw_istore_n dX11_prune_17 (Nat.le_of_ble_eq_true rfl) ?_
    refine kw_aload_n dX11_prune_18 rfl ?_
    refine kw_get dX11_prune_19 fl_X11_46 rfl rfl ?_
    refine kw_aload_n dX11_prune_22 rfl ?_
    refine kw_get dX11_prune_23 fl_X11_59 rfl rfl ?_
    refine kw_aload_n dX11_prune_26 rfl ?_
    refine kw_get dX11_prune_27 fl_X11_183 rfl rfl ?_
    refine kw_callV (As := [pr_ (15, 0), pi_ (nI (ns_ s))]) (u_judge l s k hns htm hru) dX11_prune_30 cl_X11_216 rfl rfl rfl rfl (Nat.le_of_ble_eq_true rfl) ⟨(Nat.le_of_ble_eq_true rfl), (Nat.le_of_ble_eq_true rfl), (Nat.le_of_ble_eq_true rfl), (Nat.le_of_ble_eq_true rfl)⟩ (fun r2 h2 hp2 => ?_)
    obtain ⟨rfl, a2, ha2, rfl⟩ := hp2
    obtain ⟨K2, hK2⟩ : ∃ K2, K2 = kA k 3 a2 := ⟨_, rfl⟩
    have hke : kEq K2 k := by rw [hK2]; exact ⟨rfl, rfl, rfl⟩
    have hk3 : ka_ K2 3 = a2 := by rw [hK2]; rfl
    rw [← hK2]
    have hth : thereN s ≤ ns_ s := cntN_le _
    have hcu : cntN (unkB s) (ns_ s) ≤ thereN s := cntN_sub (fun q h => by unfold unkB at h; rw [Bool.and_eq_true] at h; exact h.1)
    refine kw_iconst (v := 0) dX11_prune_33 (by decide) ?_
    refine kw_istore_n dX11_prune_34 (Nat.le_of_ble_eq_true rfl) ?_
    refine kw_iconst (v := 0) dX11_prune_35 (by decide) ?_
    refine kw_istore dX11_prune_36 (Nat.le_of_ble_eq_true rfl) ?_
    obtain ⟨W, hW⟩ : ∃ W, prL (unkB s) (ns_ s) 0 s = W := ⟨_, rfl⟩
    have loop1 : ∀ (n_ : Nat) (j : Nat), ns_ s - j < n_ → j ≤ ns_ s → kw_G l D cX11_prune RX11 (Option.some Jvm.ClassFile.FieldType.int) "prune" { frames := 6, cells := 0, slots := 0, locals := 151 } A K ad (hC s K2) 0 0 38 [some (pr_ (0, 0)), some (pi_ (b2 w)), some (pi_ (nI (thereN s))), some (pi_ (nI (cntN (unkB s) j))), some (pi_ (nI j))] [] := by
      intro n_
      induction n_ with
      | zero =>
        intro j hm_
        exact absurd hm_ (Nat.not_lt_zero _)
      | succ n_ ih =>
        intro j hm_ hj
        refine kw_iload dX11_prune_38 rfl ?_
        refine kw_aload_n dX11_prune_40 rfl ?_
        refine kw_get dX11_prune_41 fl_X11_183 rfl rfl ?_
        refine kw_icmp_ge (tgt := 70) dX11_prune_44 (by decide) (fun c44 => ?_) (fun c44 => ?_)
        · skip
          have e : j = ns_ s := Nat.le_antisymm hj (nI_le' (by omega) (by omega) c44)
          subst e
          refine kw_iload_n dX11_prune_70 rfl ?_
          refine kw_if_le (tgt := 86) dX11_prune_71 (by decide) (fun c71 => ?_) (fun c71 => ?_)
          · skip
            have e71 : ¬ 0 < thereN s := fun q => absurd c71 (nI_nle q (by omega))
            rw [if_neg (fun z => e71 z.1)] at hK
            refine kw_iconst (v := 0) dX11_prune_86 (by decide) ?_
            refine kw_istore dX11_prune_87 (Nat.le_of_ble_eq_true rfl) ?_
            rw [hW] at hK
            have loop2 : ∀ (n_ : Nat) (j : Nat) (t : SG), ns_ s - j < n_ → j ≤ ns_ s → ns_ t = ns_ s → (∀ i, j ≤ i → kp_ t i = kp_ s i) → nh_ t = nh_ s + cntN (unkB s) j → prL (unkB s) (ns_ s - j) j t = W → kw_G l D cX11_prune RX11 (Option.some Jvm.ClassFile.FieldType.int) "prune" { frames := 6, cells := 0, slots := 0, locals := 151 } A K ad (hC t K2) 0 0 89 [some (pr_ (0, 0)), some (pi_ (b2 w)), some (pi_ (nI (thereN s))), some (pi_ (nI (cntN (unkB s) (ns_ s)))), some (pi_ (nI j))] [] := by
              intro n_
              induction n_ with
              | zero =>
                intro j t hm_
                exact absurd hm_ (Nat.not_lt_zero _)
              | succ n_ ih =>
                intro j t hm_ hj ht hkp hh hw
                refine kw_iload dX11_prune_89 rfl ?_
                refine kw_aload_n dX11_prune_91 rfl ?_
                refine kw_get dX11_prune_92 fl_X11_183 rfl rfl ?_
                refine kw_top (v' := pi_ (nI (ns_ s))) (by rw [← ht]) ?_
                refine kw_icmp_ge (tgt := 127) dX11_prune_95 (by decide) (fun c95 => ?_) (fun c95 => ?_)
                · skip
                  have e : j = ns_ s := Nat.le_antisymm hj (nI_le' (by omega) (by omega) c95)
                  have hwt : W = (true, t) := by rw [← hw, show ns_ s - j = 0 by omega]; rfl
                  refine kw_iload_n dX11_prune_127 rfl ?_
                  exact kw_iret dX11_prune_128 rfl (Nat.le_of_ble_eq_true rfl) (Nat.le_of_ble_eq_true rfl) (hK _ _ _ ⟨rfl, by rw [hwt]; rfl, K2, hke, by rw [hwt]; rfl⟩)
                · skip
                  have hlt : j < ns_ s := nI_nle' (by omega) (by omega) c95
                  obtain ⟨d, hd9⟩ : ∃ d, ns_ s - j = d + 1 := ⟨ns_ s - j - 1, by omega⟩
                  rw [hd9, prL] at hw
                  have hcm := cntN_mono (unkB s) (show j + 1 ≤ ns_ s from hlt)
                  refine kw_aload_n dX11_prune_98 rfl ?_
                  refine kw_iload dX11_prune_99 rfl ?_
                  refine kw_callVf (As := [pi_ (nI j)]) (o_unkept l t K2 (by omega) j (by omega)) dX11_prune_101 cl_X11_223 rfl rfl rfl rfl (Nat.le_of_ble_eq_true rfl) ⟨(Nat.le_of_ble_eq_true rfl), (Nat.le_of_ble_eq_true rfl), (Nat.le_of_ble_eq_true rfl), (Nat.le_of_ble_eq_true rfl)⟩ ?_
                  refine kw_top (v' := pi_ (b2 (unkB s j))) (by rw [hkp j (Nat.le_refl _), hk3, ha2 j hlt]; rfl) ?_
                  refine kw_if_eq (tgt := 121) dX11_prune_104 (by decide) (fun c104 => ?_) (fun c104 => ?_)
                  · skip
                    have e104 := b2_0.mp c104
                    rw [e104, if_neg (by decide)] at hw
                    refine kw_iinc dX11_prune_121 rfl (nI_i j) ?_
                    refine kw_goto (tgt := 89) dX11_prune_124 (by decide) ?_
                    exact ih (j + 1) t (by omega) (by omega) ht (fun i hi => hkp i (by omega)) (by rw [hh, cntN, e104]; rfl) (by rw [show ns_ s - (j + 1) = d by omega]; exact hw)
                  · skip
                    have e104 := b2_n0.mp c104
                    rw [e104, if_pos rfl] at hw
                    rw [cntN, e104, if_pos rfl] at hcm
                    by_cases hcut : cut_ t = 0
                    · skip
                      rw [if_pos hcut] at hw
                      rw [← hw, if_neg (fun q => by cases q)] at hK
                      refine kw_aload_n dX11_prune_107 rfl ?_
                      refine kw_iload dX11_prune_108 rfl ?_
                      refine kw_callVf (As := [pi_ (nI j)]) (o_rm0 l t K2 hcut (nI j)) dX11_prune_110 cl_X11_206 rfl rfl rfl rfl (Nat.le_of_ble_eq_true rfl) ⟨(Nat.le_of_ble_eq_true rfl), (Nat.le_of_ble_eq_true rfl), (Nat.le_of_ble_eq_true rfl), (Nat.le_of_ble_eq_true rfl)⟩ ?_
                      refine kw_if_ne (tgt := 121) dX11_prune_113 (by decide) (fun c113 => ?_) (fun c113 => ?_)
                      · skip
                        exact absurd rfl c113
                      · skip
                        refine kw_aload_n dX11_prune_116 rfl ?_
                        refine kw_callVf (As := []) (o_lose l (s_w0 t) K2) dX11_prune_117 cl_X11_151 rfl rfl rfl rfl (Nat.le_of_ble_eq_true rfl) ⟨(Nat.le_of_ble_eq_true rfl), (Nat.le_of_ble_eq_true rfl), (Nat.le_of_ble_eq_true rfl), (Nat.le_of_ble_eq_true rfl)⟩ ?_
                        exact kw_iret dX11_prune_120 rfl (Nat.le_of_ble_eq_true rfl) (Nat.le_of_ble_eq_true rfl) (hK _ _ _ ⟨rfl, rfl, K2, hke, rfl⟩)
                    rw [if_neg hcut] at hw
                    refine kw_aload_n dX11_prune_107 rfl ?_
                    refine kw_iload dX11_prune_108 rfl ?_
                    refine kw_callVf (As := [pi_ (nI j)]) (o_rm1 l t K2 hcut (by omega) (by omega) j (by omega)) dX11_prune_110 cl_X11_206 rfl rfl rfl rfl (Nat.le_of_ble_eq_true rfl) ⟨(Nat.le_of_ble_eq_true rfl), (Nat.le_of_ble_eq_true rfl), (Nat.le_of_ble_eq_true rfl), (Nat.le_of_ble_eq_true rfl)⟩ ?_
                    refine kw_if_ne (tgt := 121) dX11_prune_113 (by decide) (fun c113 => ?_) (fun c113 => ?_)
                    · skip
                      refine kw_iinc dX11_prune_121 rfl (nI_i j) ?_
                      refine kw_goto (tgt := 89) dX11_prune_124 (by decide) ?_
                      refine ih (j + 1) (s_rmv t j) (by omega) (by omega) (by rw [ns_, s_rmv_1 t j 7 (by decide)]; exact ht) (fun i hi => ?_) ?_ (by rw [show ns_ s - (j + 1) = d by omega]; exact hw)
                      · show va_up (kp_ t) j false i = _; simp only [va_up]; rw [if_neg (by omega)]; exact hkp i (by omega)
                      · rw [s_rmv_nh, hh, cntN, e104]; rfl
                    · skip
                      exact absurd c113 (by decide)
            exact loop2 (ns_ s + 1) 0 s (by omega) (by omega) rfl (fun _ _ => rfl) rfl (by rw [Nat.sub_zero]; exact hW)
          · skip
            have e71 : 0 < thereN s := Nat.pos_of_ne_zero (fun q => c71 (by rw [q]; decide))
            refine kw_iload_n dX11_prune_74 rfl ?_
            refine kw_iload_n dX11_prune_75 rfl ?_
            refine kw_icmp_ne (tgt := 86) dX11_prune_76 (by decide) (fun c76 => ?_) (fun c76 => ?_)
            · skip
              rw [if_neg (fun z => c76 (by rw [z.2.1]))] at hK
              refine kw_iconst (v := 0) dX11_prune_86 (by decide) ?_
              refine kw_istore dX11_prune_87 (Nat.le_of_ble_eq_true rfl) ?_
              rw [hW] at hK
              have loop2 : ∀ (n_ : Nat) (j : Nat) (t : SG), ns_ s - j < n_ → j ≤ ns_ s → ns_ t = ns_ s → (∀ i, j ≤ i → kp_ t i = kp_ s i) → nh_ t = nh_ s + cntN (unkB s) j → prL (unkB s) (ns_ s - j) j t = W → kw_G l D cX11_prune RX11 (Option.some Jvm.ClassFile.FieldType.int) "prune" { frames := 6, cells := 0, slots := 0, locals := 151 } A K ad (hC t K2) 0 0 89 [some (pr_ (0, 0)), some (pi_ (b2 w)), some (pi_ (nI (thereN s))), some (pi_ (nI (cntN (unkB s) (ns_ s)))), some (pi_ (nI j))] [] := by
                intro n_
                induction n_ with
                | zero =>
                  intro j t hm_
                  exact absurd hm_ (Nat.not_lt_zero _)
                | succ n_ ih =>
                  intro j t hm_ hj ht hkp hh hw
                  refine kw_iload dX11_prune_89 rfl ?_
                  refine kw_aload_n dX11_prune_91 rfl ?_
                  refine kw_get dX11_prune_92 fl_X11_183 rfl rfl ?_
                  refine kw_top (v' := pi_ (nI (ns_ s))) (by rw [← ht]) ?_
                  refine kw_icmp_ge (tgt := 127) dX11_prune_95 (by decide) (fun c95 => ?_) (fun c95 => ?_)
                  · skip
                    have e : j = ns_ s := Nat.le_antisymm hj (nI_le' (by omega) (by omega) c95)
                    have hwt : W = (true, t) := by rw [← hw, show ns_ s - j = 0 by omega]; rfl
                    refine kw_iload_n dX11_prune_127 rfl ?_
                    exact kw_iret dX11_prune_128 rfl (Nat.le_of_ble_eq_true rfl) (Nat.le_of_ble_eq_true rfl) (hK _ _ _ ⟨rfl, by rw [hwt]; rfl, K2, hke, by rw [hwt]; rfl⟩)
                  · skip
                    have hlt : j < ns_ s := nI_nle' (by omega) (by omega) c95
                    obtain ⟨d, hd9⟩ : ∃ d, ns_ s - j = d + 1 := ⟨ns_ s - j - 1, by omega⟩
                    rw [hd9, prL] at hw
                    have hcm := cntN_mono (unkB s) (show j + 1 ≤ ns_ s from hlt)
                    refine kw_aload_n dX11_prune_98 rfl ?_
                    refine kw_iload dX11_prune_99 rfl ?_
                    refine kw_callVf (As := [pi_ (nI j)]) (o_unkept l t K2 (by omega) j (by omega)) dX11_prune_101 cl_X11_223 rfl rfl rfl rfl (Nat.le_of_ble_eq_true rfl) ⟨(Nat.le_of_ble_eq_true rfl), (Nat.le_of_ble_eq_true rfl), (Nat.le_of_ble_eq_true rfl), (Nat.le_of_ble_eq_true rfl)⟩ ?_
                    refine kw_top (v' := pi_ (b2 (unkB s j))) (by rw [hkp j (Nat.le_refl _), hk3, ha2 j hlt]; rfl) ?_
                    refine kw_if_eq (tgt := 121) dX11_prune_104 (by decide) (fun c104 => ?_) (fun c104 => ?_)
                    · skip
                      have e104 := b2_0.mp c104
                      rw [e104, if_neg (by decide)] at hw
                      refine kw_iinc dX11_prune_121 rfl (nI_i j) ?_
                      refine kw_goto (tgt := 89) dX11_prune_124 (by decide) ?_
                      exact ih (j + 1) t (by omega) (by omega) ht (fun i hi => hkp i (by omega)) (by rw [hh, cntN, e104]; rfl) (by rw [show ns_ s - (j + 1) = d by omega]; exact hw)
                    · skip
                      have e104 := b2_n0.mp c104
                      rw [e104, if_pos rfl] at hw
                      rw [cntN, e104, if_pos rfl] at hcm
                      by_cases hcut : cut_ t = 0
                      · skip
                        rw [if_pos hcut] at hw
                        rw [← hw, if_neg (fun q => by cases q)] at hK
                        refine kw_aload_n dX11_prune_107 rfl ?_
                        refine kw_iload dX11_prune_108 rfl ?_
                        refine kw_callVf (As := [pi_ (nI j)]) (o_rm0 l t K2 hcut (nI j)) dX11_prune_110 cl_X11_206 rfl rfl rfl rfl (Nat.le_of_ble_eq_true rfl) ⟨(Nat.le_of_ble_eq_true rfl), (Nat.le_of_ble_eq_true rfl), (Nat.le_of_ble_eq_true rfl), (Nat.le_of_ble_eq_true rfl)⟩ ?_
                        refine kw_if_ne (tgt := 121) dX11_prune_113 (by decide) (fun c113 => ?_) (fun c113 => ?_)
                        · skip
                          exact absurd rfl c113
                        · skip
                          refine kw_aload_n dX11_prune_116 rfl ?_
                          refine kw_callVf (As := []) (o_lose l (s_w0 t) K2) dX11_prune_117 cl_X11_151 rfl rfl rfl rfl (Nat.le_of_ble_eq_true rfl) ⟨(Nat.le_of_ble_eq_true rfl), (Nat.le_of_ble_eq_true rfl), (Nat.le_of_ble_eq_true rfl), (Nat.le_of_ble_eq_true rfl)⟩ ?_
                          exact kw_iret dX11_prune_120 rfl (Nat.le_of_ble_eq_true rfl) (Nat.le_of_ble_eq_true rfl) (hK _ _ _ ⟨rfl, rfl, K2, hke, rfl⟩)
                      rw [if_neg hcut] at hw
                      refine kw_aload_n dX11_prune_107 rfl ?_
                      refine kw_iload dX11_prune_108 rfl ?_
                      refine kw_callVf (As := [pi_ (nI j)]) (o_rm1 l t K2 hcut (by omega) (by omega) j (by omega)) dX11_prune_110 cl_X11_206 rfl rfl rfl rfl (Nat.le_of_ble_eq_true rfl) ⟨(Nat.le_of_ble_eq_true rfl), (Nat.le_of_ble_eq_true rfl), (Nat.le_of_ble_eq_true rfl), (Nat.le_of_ble_eq_true rfl)⟩ ?_
                      refine kw_if_ne (tgt := 121) dX11_prune_113 (by decide) (fun c113 => ?_) (fun c113 => ?_)
                      · skip
                        refine kw_iinc dX11_prune_121 rfl (nI_i j) ?_
                        refine kw_goto (tgt := 89) dX11_prune_124 (by decide) ?_
                        refine ih (j + 1) (s_rmv t j) (by omega) (by omega) (by rw [ns_, s_rmv_1 t j 7 (by decide)]; exact ht) (fun i hi => ?_) ?_ (by rw [show ns_ s - (j + 1) = d by omega]; exact hw)
                        · show va_up (kp_ t) j false i = _; simp only [va_up]; rw [if_neg (by omega)]; exact hkp i (by omega)
                        · rw [s_rmv_nh, hh, cntN, e104]; rfl
                      · skip
                        exact absurd c113 (by decide)
              exact loop2 (ns_ s + 1) 0 s (by omega) (by omega) rfl (fun _ _ => rfl) rfl (by rw [Nat.sub_zero]; exact hW)
            · skip
              have e76 := nI_eq' (a := cntN (unkB s) (ns_ s)) (b := thereN s) (by omega) (by omega) c76
              refine kw_iload_n dX11_prune_79 rfl ?_
              refine kw_if_ne (tgt := 86) dX11_prune_80 (by decide) (fun c80 => ?_) (fun c80 => ?_)
              · skip
                have e80 := b2_n0.mp c80
                rw [if_neg (fun z => by rw [e80] at z; exact absurd z.2.2 (by decide))] at hK
                refine kw_iconst (v := 0) dX11_prune_86 (by decide) ?_
                refine kw_istore dX11_prune_87 (Nat.le_of_ble_eq_true rfl) ?_
                rw [hW] at hK
                have loop2 : ∀ (n_ : Nat) (j : Nat) (t : SG), ns_ s - j < n_ → j ≤ ns_ s → ns_ t = ns_ s → (∀ i, j ≤ i → kp_ t i = kp_ s i) → nh_ t = nh_ s + cntN (unkB s) j → prL (unkB s) (ns_ s - j) j t = W → kw_G l D cX11_prune RX11 (Option.some Jvm.ClassFile.FieldType.int) "prune" { frames := 6, cells := 0, slots := 0, locals := 151 } A K ad (hC t K2) 0 0 89 [some (pr_ (0, 0)), some (pi_ (b2 w)), some (pi_ (nI (thereN s))), some (pi_ (nI (cntN (unkB s) (ns_ s)))), some (pi_ (nI j))] [] := by
                  intro n_
                  induction n_ with
                  | zero =>
                    intro j t hm_
                    exact absurd hm_ (Nat.not_lt_zero _)
                  | succ n_ ih =>
                    intro j t hm_ hj ht hkp hh hw
                    refine kw_iload dX11_prune_89 rfl ?_
                    refine kw_aload_n dX11_prune_91 rfl ?_
                    refine kw_get dX11_prune_92 fl_X11_183 rfl rfl ?_
                    refine kw_top (v' := pi_ (nI (ns_ s))) (by rw [← ht]) ?_
                    refine kw_icmp_ge (tgt := 127) dX11_prune_95 (by decide) (fun c95 => ?_) (fun c95 => ?_)
                    · skip
                      have e : j = ns_ s := Nat.le_antisymm hj (nI_le' (by omega) (by omega) c95)
                      have hwt : W = (true, t) := by rw [← hw, show ns_ s - j = 0 by omega]; rfl
                      refine kw_iload_n dX11_prune_127 rfl ?_
                      exact kw_iret dX11_prune_128 rfl (Nat.le_of_ble_eq_true rfl) (Nat.le_of_ble_eq_true rfl) (hK _ _ _ ⟨rfl, by rw [hwt]; rfl, K2, hke, by rw [hwt]; rfl⟩)
                    · skip
                      have hlt : j < ns_ s := nI_nle' (by omega) (by omega) c95
                      obtain ⟨d, hd9⟩ : ∃ d, ns_ s - j = d + 1 := ⟨ns_ s - j - 1, by omega⟩
                      rw [hd9, prL] at hw
                      have hcm := cntN_mono (unkB s) (show j + 1 ≤ ns_ s from hlt)
                      refine kw_aload_n dX11_prune_98 rfl ?_
                      refine kw_iload dX11_prune_99 rfl ?_
                      refine kw_callVf (As := [pi_ (nI j)]) (o_unkept l t K2 (by omega) j (by omega)) dX11_prune_101 cl_X11_223 rfl rfl rfl rfl (Nat.le_of_ble_eq_true rfl) ⟨(Nat.le_of_ble_eq_true rfl), (Nat.le_of_ble_eq_true rfl), (Nat.le_of_ble_eq_true rfl), (Nat.le_of_ble_eq_true rfl)⟩ ?_
                      refine kw_top (v' := pi_ (b2 (unkB s j))) (by rw [hkp j (Nat.le_refl _), hk3, ha2 j hlt]; rfl) ?_
                      refine kw_if_eq (tgt := 121) dX11_prune_104 (by decide) (fun c104 => ?_) (fun c104 => ?_)
                      · skip
                        have e104 := b2_0.mp c104
                        rw [e104, if_neg (by decide)] at hw
                        refine kw_iinc dX11_prune_121 rfl (nI_i j) ?_
                        refine kw_goto (tgt := 89) dX11_prune_124 (by decide) ?_
                        exact ih (j + 1) t (by omega) (by omega) ht (fun i hi => hkp i (by omega)) (by rw [hh, cntN, e104]; rfl) (by rw [show ns_ s - (j + 1) = d by omega]; exact hw)
                      · skip
                        have e104 := b2_n0.mp c104
                        rw [e104, if_pos rfl] at hw
                        rw [cntN, e104, if_pos rfl] at hcm
                        by_cases hcut : cut_ t = 0
                        · skip
                          rw [if_pos hcut] at hw
                          rw [← hw, if_neg (fun q => by cases q)] at hK
                          refine kw_aload_n dX11_prune_107 rfl ?_
                          refine kw_iload dX11_prune_108 rfl ?_
                          refine kw_callVf (As := [pi_ (nI j)]) (o_rm0 l t K2 hcut (nI j)) dX11_prune_110 cl_X11_206 rfl rfl rfl rfl (Nat.le_of_ble_eq_true rfl) ⟨(Nat.le_of_ble_eq_true rfl), (Nat.le_of_ble_eq_true rfl), (Nat.le_of_ble_eq_true rfl), (Nat.le_of_ble_eq_true rfl)⟩ ?_
                          refine kw_if_ne (tgt := 121) dX11_prune_113 (by decide) (fun c113 => ?_) (fun c113 => ?_)
                          · skip
                            exact absurd rfl c113
                          · skip
                            refine kw_aload_n dX11_prune_116 rfl ?_
                            refine kw_callVf (As := []) (o_lose l (s_w0 t) K2) dX11_prune_117 cl_X11_151 rfl rfl rfl rfl (Nat.le_of_ble_eq_true rfl) ⟨(Nat.le_of_ble_eq_true rfl), (Nat.le_of_ble_eq_true rfl), (Nat.le_of_ble_eq_true rfl), (Nat.le_of_ble_eq_true rfl)⟩ ?_
                            exact kw_iret dX11_prune_120 rfl (Nat.le_of_ble_eq_true rfl) (Nat.le_of_ble_eq_true rfl) (hK _ _ _ ⟨rfl, rfl, K2, hke, rfl⟩)
                        rw [if_neg hcut] at hw
                        refine kw_aload_n dX11_prune_107 rfl ?_
                        refine kw_iload dX11_prune_108 rfl ?_
                        refine kw_callVf (As := [pi_ (nI j)]) (o_rm1 l t K2 hcut (by omega) (by omega) j (by omega)) dX11_prune_110 cl_X11_206 rfl rfl rfl rfl (Nat.le_of_ble_eq_true rfl) ⟨(Nat.le_of_ble_eq_true rfl), (Nat.le_of_ble_eq_true rfl), (Nat.le_of_ble_eq_true rfl), (Nat.le_of_ble_eq_true rfl)⟩ ?_
                        refine kw_if_ne (tgt := 121) dX11_prune_113 (by decide) (fun c113 => ?_) (fun c113 => ?_)
                        · skip
                          refine kw_iinc dX11_prune_121 rfl (nI_i j) ?_
                          refine kw_goto (tgt := 89) dX11_prune_124 (by decide) ?_
                          refine ih (j + 1) (s_rmv t j) (by omega) (by omega) (by rw [ns_, s_rmv_1 t j 7 (by decide)]; exact ht) (fun i hi => ?_) ?_ (by rw [show ns_ s - (j + 1) = d by omega]; exact hw)
                          · show va_up (kp_ t) j false i = _; simp only [va_up]; rw [if_neg (by omega)]; exact hkp i (by omega)
                          · rw [s_rmv_nh, hh, cntN, e104]; rfl
                        · skip
                          exact absurd c113 (by decide)
                exact loop2 (ns_ s + 1) 0 s (by omega) (by omega) rfl (fun _ _ => rfl) rfl (by rw [Nat.sub_zero]; exact hW)
              · skip
                have e80 := b2_0.mp c80
                rw [if_pos ⟨e71, e76, e80⟩] at hK
                refine kw_bipush (v := (-103)) dX11_prune_83 (by decide) ?_
                exact kw_iret dX11_prune_85 rfl (Nat.le_of_ble_eq_true rfl) (Nat.le_of_ble_eq_true rfl) (hK _ _ _ ⟨rfl, rfl, K2, hke, rfl⟩)
        · skip
          have hlt : j < ns_ s := nI_nle' (by omega) (by omega) c44
          refine kw_iload_n dX11_prune_47 rfl ?_
          refine kw_aload_n dX11_prune_48 rfl ?_
          refine kw_iload dX11_prune_49 rfl ?_
          refine kw_callVf (As := [pi_ (nI j)]) (o_unkept l s K2 (by omega) j (by omega)) dX11_prune_51 cl_X11_223 rfl rfl rfl rfl (Nat.le_of_ble_eq_true rfl) ⟨(Nat.le_of_ble_eq_true rfl), (Nat.le_of_ble_eq_true rfl), (Nat.le_of_ble_eq_true rfl), (Nat.le_of_ble_eq_true rfl)⟩ ?_
          refine kw_top (v' := pi_ (b2 (unkB s j))) (by rw [hk3, ha2 j hlt]; rfl) ?_
          refine kw_if_eq (tgt := 61) dX11_prune_54 (by decide) (fun c54 => ?_) (fun c54 => ?_)
          · skip
            refine kw_iconst (v := 0) dX11_prune_61 (by decide) ?_
            refine kw_iadd dX11_prune_62 ?_
            refine kw_top (v' := pi_ (nI (cntN (unkB s) (j + 1)))) (cnt_f (b2_0.mp c54)) ?_
            refine kw_istore_n dX11_prune_63 (Nat.le_of_ble_eq_true rfl) ?_
            refine kw_iinc dX11_prune_64 rfl (nI_i j) ?_
            refine kw_goto (tgt := 38) dX11_prune_67 (by decide) ?_
            exact ih (j + 1) (by omega) (by omega)
          · skip
            refine kw_iconst (v := 1) dX11_prune_57 (by decide) ?_
            refine kw_goto (tgt := 62) dX11_prune_58 (by decide) ?_
            refine kw_iadd dX11_prune_62 ?_
            refine kw_top (v' := pi_ (nI (cntN (unkB s) (j + 1)))) (cnt_t (b2_n0.mp c54)) ?_
            refine kw_istore_n dX11_prune_63 (Nat.le_of_ble_eq_true rfl) ?_
            refine kw_iinc dX11_prune_64 rfl (nI_i j) ?_
            refine kw_goto (tgt := 38) dX11_prune_67 (by decide) ?_
            exact ih (j + 1) (by omega) (by omega)
    exact loop1 (ns_ s + 1) 0 (by omega) (by omega)
  · skip
    have hd := b2_n0.mp c7
    refine kw_bipush (v := (-106)) dX11_prune_10 (by decide) ?_
    exact kw_iret dX11_prune_12 rfl (Nat.le_of_ble_eq_true rfl) (Nat.le_of_ble_eq_true rfl) (hK _ _ _ ⟨rfl, by rw [a_prune, if_pos hd], k, kEq.rf k, by rw [a_prune, if_pos hd]⟩)
