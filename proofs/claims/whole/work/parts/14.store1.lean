/-! BLOCK AND STORE: reads; free, await -/
def likeB (s : SG) (i v : Nat) (key : Int64) (z : Nat) : Bool := decide (ky_ s i = key) && (decide (nI (sz_ s i) = nI z) && (decide (nI (cm_ s i) = nI (km_ s v)) && !anyN (fun j => !decide (nI (ch_ s i j) = nI (ks_ s v j))) (km_ s v)))
def holdsB (s : SG) (b : Int32) : Bool := anyN (fun j => decide (b = nI j) && th_ s j) (nb_ s)
def waitN (s : SG) : Nat := cntN (fun j => decide (0 < wt_ s j)) (nb_ s)
def liesB (s : SG) (j : Nat) (p : Int32) : Bool := th_ s j && decide (nI (pk_ s j) = p)
def lieN (s : SG) (p : Int32) : Nat := cntN (fun j => liesB s j p) (nb_ s)
/-- the first block that is like it -/
def findF (p : Nat → Bool) : Nat → Nat → Int32
  | 0, _ => -1
  | n + 1, i => if p i then nI i else findF p n (i + 1)
def findS (s : SG) (v : Nat) (key : Int64) (z : Nat) : Int32 := findF (fun i => th_ s i && likeB s i v key z) (nb_ s) 0
/-- how full the latest pack is -/
def fullS (s : SG) (k : KG) (leave : Int32) : Nat := if np_ s = 0 ∨ nI (np_ s - 1) = leave ∨ gn_ s (np_ s - 1) = true then cap_ s else ac_ k (np_ s - 1)
def roomS (s : SG) (k : KG) (z : Nat) : Bool := decide (nb_ s < 80) && (decide (fullS s k (-1) + z ≤ cap_ s) || decide (np_ s < 40))
def s_free1 (s : SG) (b : Nat) : SG := sF (sGb (s_ev (s_w1 s) 1 b) 0 (va_up (th_ s) b false)) 5 (va_up (wt_ s) b 0)
def s_free (s : SG) (b : Nat) : SG := sN (s_free1 s b) 2 (nfr_ s + 1)
def k_free (s : SG) (k : KG) (b : Nat) : KG := kN k 0 (va_up (ho_ k) (pk_ s b) (ho_ k (pk_ s b) + sz_ s b))
def s_await (s : SG) (b v : Nat) : SG := sF (s_w1 s) 5 (va_up (wt_ s) b v)
theorem cnt_f {p : Nat → Bool} {n : Nat} (h : p n = false) : pi_ (nI (cntN p n) + 0) = pi_ (nI (cntN p (n + 1))) := by
  rw [cntN, h, Int32.add_zero]; rfl
theorem cnt_t {p : Nat → Bool} {n : Nat} (h : p n = true) : pi_ (nI (cntN p n) + 1) = pi_ (nI (cntN p (n + 1))) := by
  rw [cntN, h, nI_1]; rfl
theorem not_b2 {b : Bool} (h : b2 (!b) = 0) : b = true := by cases b <;> simp_all [b2]
theorem not_b2n {b : Bool} (h : ¬ b2 (!b) = 0) : b = false := by cases b <;> simp_all [b2]
theorem holdsB_nI {s : SG} {j : Nat} (hb : nb_ s ≤ 80) (hj : j < nb_ s) : holdsB s (nI j) = th_ s j := by
  cases h : th_ s j with
  | true => exact anyN_t hj (by rw [decide_eq_true rfl, h]; rfl)
  | false =>
    refine anyN_f (fun a ha => ?_)
    by_cases q : nI j = nI a
    · rw [← nI_eq' (by omega) (by omega) q, h, Bool.and_false]
    · rw [decide_eq_false q]; rfl
set_option maxHeartbeats 4000000 in
set_option maxRecDepth 100000 in
theorem b_isLike (l : Launch) (s : SG) (k : KG) (i v : Nat) (hi : i < nb_ s) (hv : v < 4) (hkm : km_ s v ≤ 4) (hcm : cm_ s i ≤ 4) (key : Int64) (z : Nat) : kw_F l yX0_isLike cX0_isLike 7 (Option.some Jvm.ClassFile.FieldType.boolean) { frames := 0, cells := 0, slots := 0, locals := 0 } [pr_ (5, i), pl_ key, pi_ (nI z), pr_ (14, v), pi_ (nI (km_ s v))] (hC s k) (some (pi_ (b2 (likeB s i v key z)))) (hC s k) := by
  refine kw_M_of RX0 "isLike" [some (pr_ (5, i)), some (pl_ key), none, some (pi_ (nI z)), some (pr_ (14, v)), some (pi_ (nI (km_ s v))), none] (by decide) rfl rfl rfl (Nat.le_of_ble_eq_true rfl) ?_
  intro D ad A
  refine kw_Kgen (fun K hK => ?_)
  refine kw_aload_n dX0_isLike_0 rfl ?_
  refine kw_get dX0_isLike_1 fl_X0_7 (hC_bl hi) rfl ?_
  refine kw_lload_n dX0_isLike_4 rfl ?_
  refine kw_lcmp dX0_isLike_5 ?_
  refine kw_if_ne (tgt := 27) dX0_isLike_6 (by decide) (fun c6 => ?_) (fun c6 => ?_)
  · skip
    refine kw_iconst (v := 0) dX0_isLike_27 (by decide) ?_
    exact kw_zret dX0_isLike_28 rfl (by decide) (Nat.le_of_ble_eq_true rfl) (Nat.le_of_ble_eq_true rfl) (hK _ _ _ ⟨rfl, by rw [likeB, decide_eq_false (fun q => c6 ((lg_cmp_eq _ _).mpr q))]; rfl, rfl⟩)
  · skip
    have e6 := (lg_cmp_eq _ _).mp c6
    refine kw_aload_n dX0_isLike_9 rfl ?_
    refine kw_get dX0_isLike_10 fl_X0_13 (hC_bl hi) rfl ?_
    refine kw_iload_n dX0_isLike_13 rfl ?_
    refine kw_icmp_ne (tgt := 27) dX0_isLike_14 (by decide) (fun c14 => ?_) (fun c14 => ?_)
    · skip
      refine kw_iconst (v := 0) dX0_isLike_27 (by decide) ?_
      exact kw_zret dX0_isLike_28 rfl (by decide) (Nat.le_of_ble_eq_true rfl) (Nat.le_of_ble_eq_true rfl) (hK _ _ _ ⟨rfl, by rw [likeB, decide_eq_true e6, decide_eq_false c14]; rfl, rfl⟩)
    · skip
      refine kw_aload_n dX0_isLike_17 rfl ?_
      refine kw_get dX0_isLike_18 fl_X0_17 (hC_bl hi) rfl ?_
      refine kw_alen dX0_isLike_21 (hC_ch hi) ?_
      refine kw_iload dX0_isLike_22 rfl ?_
      refine kw_icmp_eq (tgt := 29) dX0_isLike_24 (by decide) (fun c24 => ?_) (fun c24 => ?_)
      · skip
        have e24 : cm_ s i = km_ s v := nI_eq' (by omega) (by omega) c24
        have hl0 : likeB s i v key z = !anyN (fun j => !decide (nI (ch_ s i j) = nI (ks_ s v j))) (km_ s v) := by rw [likeB, decide_eq_true e6, decide_eq_true c14, decide_eq_true c24]; simp
        have loop : ∀ (n_ : Nat) (j : Nat), km_ s v - j < n_ → j ≤ km_ s v → (∀ a, a < j → (!decide (nI (ch_ s i a) = nI (ks_ s v a))) = false) → kw_G l D cX0_isLike RX0 (Option.some Jvm.ClassFile.FieldType.boolean) "isLike" { frames := 0, cells := 0, slots := 0, locals := 0 } A K ad (hC s k) 0 0 32 [some (pr_ (5, i)), some (pl_ key), none, some (pi_ (nI z)), some (pr_ (14, v)), some (pi_ (nI (km_ s v))), some (pi_ (nI j))] [] := by
          intro n_
          induction n_ with
          | zero =>
            intro j hm_
            exact absurd hm_ (Nat.not_lt_zero _)
          | succ n_ ih =>
            intro j hm_ hj hno
            refine kw_iload dX0_isLike_32 rfl ?_
            refine kw_iload dX0_isLike_34 rfl ?_
            refine kw_icmp_ge (tgt := 62) dX0_isLike_36 (by decide) (fun c36 => ?_) (fun c36 => ?_)
            · skip
              have e : j = km_ s v := Nat.le_antisymm hj (nI_le' (by omega) (by omega) c36)
              refine kw_iconst (v := 1) dX0_isLike_62 (by decide) ?_
              exact kw_zret dX0_isLike_63 rfl (by decide) (Nat.le_of_ble_eq_true rfl) (Nat.le_of_ble_eq_true rfl) (hK _ _ _ ⟨rfl, by rw [hl0, anyN_f (fun a ha => hno a (by omega))]; rfl, rfl⟩)
            · skip
              have hlt : j < km_ s v := nI_nle' (by omega) (by omega) c36
              refine kw_aload_n dX0_isLike_39 rfl ?_
              refine kw_get dX0_isLike_40 fl_X0_17 (hC_bl hi) rfl ?_
              refine kw_iload dX0_isLike_43 rfl ?_
              refine kw_ialdN dX0_isLike_45 (hC_ch hi) (by omega) (by omega) ?_
              refine kw_aload dX0_isLike_46 rfl ?_
              refine kw_iload dX0_isLike_48 rfl ?_
              refine kw_ialdN dX0_isLike_50 (hC_kd hv) (by omega) (by decide) ?_
              refine kw_icmp_eq (tgt := 56) dX0_isLike_51 (by decide) (fun c51 => ?_) (fun c51 => ?_)
              · skip
                refine kw_iinc dX0_isLike_56 rfl (nI_i j) ?_
                refine kw_goto (tgt := 32) dX0_isLike_59 (by decide) ?_
                exact ih (j + 1) (by omega) (by omega) (lt_s hno (by rw [decide_eq_true c51]; rfl))
              · skip
                refine kw_iconst (v := 0) dX0_isLike_54 (by decide) ?_
                exact kw_zret dX0_isLike_55 rfl (by decide) (Nat.le_of_ble_eq_true rfl) (Nat.le_of_ble_eq_true rfl) (hK _ _ _ ⟨rfl, by rw [hl0, anyN_t hlt (by rw [decide_eq_false c51]; rfl)]; rfl, rfl⟩)
        refine kw_iconst (v := 0) dX0_isLike_29 (by decide) ?_
        refine kw_istore dX0_isLike_30 (Nat.le_of_ble_eq_true rfl) ?_
        exact loop (km_ s v + 1) 0 (by omega) (by omega) lt_0
      · skip
        refine kw_iconst (v := 0) dX0_isLike_27 (by decide) ?_
        exact kw_zret dX0_isLike_28 rfl (by decide) (Nat.le_of_ble_eq_true rfl) (Nat.le_of_ble_eq_true rfl) (hK _ _ _ ⟨rfl, by rw [likeB, decide_eq_true e6, decide_eq_true c14, decide_eq_false c24]; rfl, rfl⟩)
set_option maxHeartbeats 4000000 in
set_option maxRecDepth 100000 in
theorem t_holds (l : Launch) (s : SG) (k : KG) (hb : nb_ s ≤ 80) (b : Int32) : kw_F l yX9_holds cX9_holds 2 (Option.some Jvm.ClassFile.FieldType.boolean) { frames := 0, cells := 0, slots := 0, locals := 0 } [pr_ (3, 0), pi_ b] (hC s k) (some (pi_ (b2 (holdsB s b)))) (hC s k) := by
  refine kw_M_of RX9 "holds" [some (pr_ (3, 0)), some (pi_ b)] (by decide) rfl rfl rfl (Nat.le_of_ble_eq_true rfl) ?_
  intro D ad A
  refine kw_Kgen (fun K hK => ?_)
  rcases pk_ix b (n := nb_ s) (by omega) with hneg | hbig | ⟨j, hj, rfl⟩
  · skip
    refine kw_iload_n dX9_holds_0 rfl ?_
    refine kw_if_lt (tgt := 28) dX9_holds_1 (by decide) (fun c1 => ?_) (fun c1 => ?_)
    · skip
      refine kw_iconst (v := 0) dX9_holds_28 (by decide) ?_
      exact kw_zret dX9_holds_29 rfl (by decide) (Nat.le_of_ble_eq_true rfl) (Nat.le_of_ble_eq_true rfl) (hK _ _ _ ⟨rfl, by rw [holdsB, anyN_f (fun a ha => by rw [decide_eq_false (fun q => absurd hneg (by rw [q]; exact nI_pos (by omega)))]; rfl)]; rfl, rfl⟩)
    · skip
      exact absurd hneg c1
  · skip
    refine kw_iload_n dX9_holds_0 rfl ?_
    refine kw_if_lt (tgt := 28) dX9_holds_1 (by decide) (fun c1 => ?_) (fun c1 => ?_)
    · skip
      refine kw_iconst (v := 0) dX9_holds_28 (by decide) ?_
      exact kw_zret dX9_holds_29 rfl (by decide) (Nat.le_of_ble_eq_true rfl) (Nat.le_of_ble_eq_true rfl) (hK _ _ _ ⟨rfl, by rw [holdsB, anyN_f (fun a ha => by rw [decide_eq_false (fun q => absurd c1 (by rw [q]; exact nI_pos (by omega)))]; rfl)]; rfl, rfl⟩)
    · skip
      refine kw_iload_n dX9_holds_4 rfl ?_
      refine kw_aload_n dX9_holds_5 rfl ?_
      refine kw_get dX9_holds_6 fl_X9_35 rfl rfl ?_
      refine kw_icmp_ge (tgt := 28) dX9_holds_9 (by decide) (fun c9 => ?_) (fun c9 => ?_)
      · skip
        refine kw_iconst (v := 0) dX9_holds_28 (by decide) ?_
        exact kw_zret dX9_holds_29 rfl (by decide) (Nat.le_of_ble_eq_true rfl) (Nat.le_of_ble_eq_true rfl) (hK _ _ _ ⟨rfl, by rw [holdsB, anyN_f (fun a ha => by rw [decide_eq_false (fun q => absurd hbig (by rw [q]; exact nI_ge ha (by omega)))]; rfl)]; rfl, rfl⟩)
      · skip
        exact absurd hbig c9
  · skip
    refine kw_iload_n dX9_holds_0 rfl ?_
    refine kw_if_lt (tgt := 28) dX9_holds_1 (by decide) (fun c1 => ?_) (fun c1 => ?_)
    · skip
      exact absurd c1 (nI_pos (by omega))
    · skip
      refine kw_iload_n dX9_holds_4 rfl ?_
      refine kw_aload_n dX9_holds_5 rfl ?_
      refine kw_get dX9_holds_6 fl_X9_35 rfl rfl ?_
      refine kw_icmp_ge (tgt := 28) dX9_holds_9 (by decide) (fun c9 => ?_) (fun c9 => ?_)
      · skip
        exact absurd c9 (nI_ge hj (by omega))
      · skip
        refine kw_aload_n dX9_holds_12 rfl ?_
        refine kw_get dX9_holds_13 fl_X9_11 rfl rfl ?_
        refine kw_iload_n dX9_holds_16 rfl ?_
        refine kw_aaldN dX9_holds_17 rfl (by omega) (by decide) (if_pos hj) ?_
        refine kw_get dX9_holds_18 fl_X9_38 (hC_bl hj) rfl ?_
        refine kw_if_ne (tgt := 28) dX9_holds_21 (by decide) (fun c21 => ?_) (fun c21 => ?_)
        · skip
          refine kw_iconst (v := 0) dX9_holds_28 (by decide) ?_
          exact kw_zret dX9_holds_29 rfl (by decide) (Nat.le_of_ble_eq_true rfl) (Nat.le_of_ble_eq_true rfl) (hK _ _ _ ⟨rfl, by rw [holdsB_nI hb hj, not_b2n c21]; rfl, rfl⟩)
        · skip
          refine kw_iconst (v := 1) dX9_holds_24 (by decide) ?_
          refine kw_goto (tgt := 29) dX9_holds_25 (by decide) ?_
          exact kw_zret dX9_holds_29 rfl (by decide) (Nat.le_of_ble_eq_true rfl) (Nat.le_of_ble_eq_true rfl) (hK _ _ _ ⟨rfl, by rw [holdsB_nI hb hj, not_b2 c21]; rfl, rfl⟩)
set_option maxHeartbeats 4000000 in
set_option maxRecDepth 100000 in
theorem t_waiting (l : Launch) (s : SG) (k : KG) (hb : nb_ s ≤ 80) (hw : ∀ j, j < nb_ s → wt_ s j < 2 ^ 31) : kw_F l yX9_blocksWaiting cX9_blocksWaiting 3 (Option.some Jvm.ClassFile.FieldType.int) { frames := 0, cells := 0, slots := 0, locals := 0 } [pr_ (3, 0)] (hC s k) (some (pi_ (nI (waitN s)))) (hC s k) := by
  refine kw_M_of RX9 "blocksWaiting" [some (pr_ (3, 0)), none, none] (by decide) rfl rfl rfl (Nat.le_of_ble_eq_true rfl) ?_
  intro D ad A
  refine kw_Kgen (fun K hK => ?_)
  have loop : ∀ (n_ : Nat) (j : Nat), nb_ s - j < n_ → j ≤ nb_ s → kw_G l D cX9_blocksWaiting RX9 (Option.some Jvm.ClassFile.FieldType.int) "blocksWaiting" { frames := 0, cells := 0, slots := 0, locals := 0 } A K ad (hC s k) 0 0 4 [some (pr_ (3, 0)), some (pi_ (nI (cntN (fun j => decide (0 < wt_ s j)) j))), some (pi_ (nI j))] [] := by
    intro n_
    induction n_ with
    | zero =>
      intro j hm_
      exact absurd hm_ (Nat.not_lt_zero _)
    | succ n_ ih =>
      intro j hm_ hj
      refine kw_iload_n dX9_blocksWaiting_4 rfl ?_
      refine kw_aload_n dX9_blocksWaiting_5 rfl ?_
      refine kw_get dX9_blocksWaiting_6 fl_X9_35 rfl rfl ?_
      refine kw_icmp_ge (tgt := 38) dX9_blocksWaiting_9 (by decide) (fun c9 => ?_) (fun c9 => ?_)
      · skip
        have e : j = nb_ s := Nat.le_antisymm hj (nI_le' (by omega) (by omega) c9)
        refine kw_iload_n dX9_blocksWaiting_38 rfl ?_
        exact kw_iret dX9_blocksWaiting_39 rfl (Nat.le_of_ble_eq_true rfl) (Nat.le_of_ble_eq_true rfl) (hK _ _ _ ⟨rfl, by rw [waitN, e], rfl⟩)
      · skip
        have hlt : j < nb_ s := nI_nle' (by omega) (by omega) c9
        refine kw_iload_n dX9_blocksWaiting_12 rfl ?_
        refine kw_aload_n dX9_blocksWaiting_13 rfl ?_
        refine kw_get dX9_blocksWaiting_14 fl_X9_11 rfl rfl ?_
        refine kw_iload_n dX9_blocksWaiting_17 rfl ?_
        refine kw_aaldN dX9_blocksWaiting_18 rfl (by omega) (by decide) (if_pos hlt) ?_
        refine kw_get dX9_blocksWaiting_19 fl_X9_42 (hC_bl hlt) rfl ?_
        refine kw_if_le (tgt := 29) dX9_blocksWaiting_22 (by decide) (fun c22 => ?_) (fun c22 => ?_)
        · skip
          refine kw_iconst (v := 0) dX9_blocksWaiting_29 (by decide) ?_
          refine kw_iadd dX9_blocksWaiting_30 ?_
          refine kw_top (v' := pi_ (nI (cntN (fun j => decide (0 < wt_ s j)) (j + 1)))) (cnt_f (p := fun j => decide (0 < wt_ s j)) (decide_eq_false (fun q => absurd c22 (nI_nle q (hw j hlt))))) ?_
          refine kw_istore_n dX9_blocksWaiting_31 (Nat.le_of_ble_eq_true rfl) ?_
          refine kw_iinc dX9_blocksWaiting_32 rfl (nI_i j) ?_
          refine kw_goto (tgt := 4) dX9_blocksWaiting_35 (by decide) ?_
          exact ih (j + 1) (by omega) (by omega)
        · skip
          refine kw_iconst (v := 1) dX9_blocksWaiting_25 (by decide) ?_
          refine kw_goto (tgt := 30) dX9_blocksWaiting_26 (by decide) ?_
          refine kw_iadd dX9_blocksWaiting_30 ?_
          refine kw_top (v' := pi_ (nI (cntN (fun j => decide (0 < wt_ s j)) (j + 1)))) (cnt_t (p := fun j => decide (0 < wt_ s j)) (decide_eq_true (Nat.pos_of_ne_zero (fun q => c22 (by rw [q]; decide))))) ?_
          refine kw_istore_n dX9_blocksWaiting_31 (Nat.le_of_ble_eq_true rfl) ?_
          refine kw_iinc dX9_blocksWaiting_32 rfl (nI_i j) ?_
          refine kw_goto (tgt := 4) dX9_blocksWaiting_35 (by decide) ?_
          exact ih (j + 1) (by omega) (by omega)
  refine kw_iconst (v := 0) dX9_blocksWaiting_0 (by decide) ?_
  refine kw_istore_n dX9_blocksWaiting_1 (Nat.le_of_ble_eq_true rfl) ?_
  refine kw_iconst (v := 0) dX9_blocksWaiting_2 (by decide) ?_
  refine kw_istore_n dX9_blocksWaiting_3 (Nat.le_of_ble_eq_true rfl) ?_
  exact loop (nb_ s + 1) 0 (by omega) (by omega)
set_option maxHeartbeats 4000000 in
set_option maxRecDepth 100000 in
theorem t_liesIn (l : Launch) (s : SG) (k : KG) (hb : nb_ s ≤ 80) (j : Nat) (hj : j < nb_ s) (p : Int32) : kw_F l yX9_liesIn cX9_liesIn 3 (Option.some Jvm.ClassFile.FieldType.boolean) { frames := 0, cells := 0, slots := 0, locals := 0 } [pr_ (3, 0), pi_ (nI j), pi_ p] (hC s k) (some (pi_ (b2 (liesB s j p)))) (hC s k) := by
  refine kw_M_of RX9 "liesIn" [some (pr_ (3, 0)), some (pi_ (nI j)), some (pi_ p)] (by decide) rfl rfl rfl (Nat.le_of_ble_eq_true rfl) ?_
  intro D ad A
  refine kw_Kgen (fun K hK => ?_)
  refine kw_aload_n dX9_liesIn_0 rfl ?_
  refine kw_get dX9_liesIn_1 fl_X9_11 rfl rfl ?_
  refine kw_iload_n dX9_liesIn_4 rfl ?_
  refine kw_aaldN dX9_liesIn_5 rfl (by omega) (by decide) (if_pos hj) ?_
  refine kw_get dX9_liesIn_6 fl_X9_38 (hC_bl hj) rfl ?_
  refine kw_if_ne (tgt := 29) dX9_liesIn_9 (by decide) (fun c9 => ?_) (fun c9 => ?_)
  · skip
    refine kw_iconst (v := 0) dX9_liesIn_29 (by decide) ?_
    exact kw_zret dX9_liesIn_30 rfl (by decide) (Nat.le_of_ble_eq_true rfl) (Nat.le_of_ble_eq_true rfl) (hK _ _ _ ⟨rfl, by rw [liesB, not_b2n c9]; rfl, rfl⟩)
  · skip
    have e9 : th_ s j = true := not_b2 c9
    refine kw_aload_n dX9_liesIn_12 rfl ?_
    refine kw_get dX9_liesIn_13 fl_X9_11 rfl rfl ?_
    refine kw_iload_n dX9_liesIn_16 rfl ?_
    refine kw_aaldN dX9_liesIn_17 rfl (by omega) (by decide) (if_pos hj) ?_
    refine kw_get dX9_liesIn_18 fl_X9_49 (hC_bl hj) rfl ?_
    refine kw_iload_n dX9_liesIn_21 rfl ?_
    refine kw_icmp_ne (tgt := 29) dX9_liesIn_22 (by decide) (fun c22 => ?_) (fun c22 => ?_)
    · skip
      refine kw_iconst (v := 0) dX9_liesIn_29 (by decide) ?_
      exact kw_zret dX9_liesIn_30 rfl (by decide) (Nat.le_of_ble_eq_true rfl) (Nat.le_of_ble_eq_true rfl) (hK _ _ _ ⟨rfl, by rw [liesB, e9, decide_eq_false c22]; rfl, rfl⟩)
    · skip
      refine kw_iconst (v := 1) dX9_liesIn_25 (by decide) ?_
      refine kw_goto (tgt := 30) dX9_liesIn_26 (by decide) ?_
      exact kw_zret dX9_liesIn_30 rfl (by decide) (Nat.le_of_ble_eq_true rfl) (Nat.le_of_ble_eq_true rfl) (hK _ _ _ ⟨rfl, by rw [liesB, e9, decide_eq_true c22]; rfl, rfl⟩)
set_option maxHeartbeats 4000000 in
set_option maxRecDepth 100000 in
theorem t_blocksIn (l : Launch) (s : SG) (k : KG) (hb : nb_ s ≤ 80) (p : Int32) : kw_F l yX9_blocksIn cX9_blocksIn 4 (Option.some Jvm.ClassFile.FieldType.int) { frames := 1, cells := 0, slots := 0, locals := 22 } [pr_ (3, 0), pi_ p] (hC s k) (some (pi_ (nI (lieN s p)))) (hC s k) := by
  refine kw_M_of RX9 "blocksIn" [some (pr_ (3, 0)), some (pi_ p), none, none] (by decide) rfl rfl rfl (Nat.le_of_ble_eq_true rfl) ?_
  intro D ad A
  refine kw_Kgen (fun K hK => ?_)
  have loop : ∀ (n_ : Nat) (j : Nat), nb_ s - j < n_ → j ≤ nb_ s → kw_G l D cX9_blocksIn RX9 (Option.some Jvm.ClassFile.FieldType.int) "blocksIn" { frames := 1, cells := 0, slots := 0, locals := 22 } A K ad (hC s k) 0 0 4 [some (pr_ (3, 0)), some (pi_ p), some (pi_ (nI (cntN (fun j => liesB s j p) j))), some (pi_ (nI j))] [] := by
    intro n_
    induction n_ with
    | zero =>
      intro j hm_
      exact absurd hm_ (Nat.not_lt_zero _)
    | succ n_ ih =>
      intro j hm_ hj
      refine kw_iload_n dX9_blocksIn_4 rfl ?_
      refine kw_aload_n dX9_blocksIn_5 rfl ?_
      refine kw_get dX9_blocksIn_6 fl_X9_35 rfl rfl ?_
      refine kw_icmp_ge (tgt := 35) dX9_blocksIn_9 (by decide) (fun c9 => ?_) (fun c9 => ?_)
      · skip
        have e : j = nb_ s := Nat.le_antisymm hj (nI_le' (by omega) (by omega) c9)
        refine kw_iload_n dX9_blocksIn_35 rfl ?_
        exact kw_iret dX9_blocksIn_36 rfl (Nat.le_of_ble_eq_true rfl) (Nat.le_of_ble_eq_true rfl) (hK _ _ _ ⟨rfl, by rw [lieN, e], rfl⟩)
      · skip
        have hlt : j < nb_ s := nI_nle' (by omega) (by omega) c9
        refine kw_iload_n dX9_blocksIn_12 rfl ?_
        refine kw_aload_n dX9_blocksIn_13 rfl ?_
        refine kw_iload_n dX9_blocksIn_14 rfl ?_
        refine kw_iload_n dX9_blocksIn_15 rfl ?_
        refine kw_callVf (As := [pi_ (nI j), pi_ p]) (t_liesIn l s k hb j hlt p) dX9_blocksIn_16 cl_X9_45 rfl rfl rfl rfl (Nat.le_of_ble_eq_true rfl) ⟨(Nat.le_of_ble_eq_true rfl), (Nat.le_of_ble_eq_true rfl), (Nat.le_of_ble_eq_true rfl), (Nat.le_of_ble_eq_true rfl)⟩ ?_
        refine kw_if_eq (tgt := 26) dX9_blocksIn_19 (by decide) (fun c19 => ?_) (fun c19 => ?_)
        · skip
          refine kw_iconst (v := 0) dX9_blocksIn_26 (by decide) ?_
          refine kw_iadd dX9_blocksIn_27 ?_
          refine kw_top (v' := pi_ (nI (cntN (fun j => liesB s j p) (j + 1)))) (cnt_f (p := fun j => liesB s j p) (b2_0.mp c19)) ?_
          refine kw_istore_n dX9_blocksIn_28 (Nat.le_of_ble_eq_true rfl) ?_
          refine kw_iinc dX9_blocksIn_29 rfl (nI_i j) ?_
          refine kw_goto (tgt := 4) dX9_blocksIn_32 (by decide) ?_
          exact ih (j + 1) (by omega) (by omega)
        · skip
          refine kw_iconst (v := 1) dX9_blocksIn_22 (by decide) ?_
          refine kw_goto (tgt := 27) dX9_blocksIn_23 (by decide) ?_
          refine kw_iadd dX9_blocksIn_27 ?_
          refine kw_top (v' := pi_ (nI (cntN (fun j => liesB s j p) (j + 1)))) (cnt_t (p := fun j => liesB s j p) (b2_n0.mp c19)) ?_
          refine kw_istore_n dX9_blocksIn_28 (Nat.le_of_ble_eq_true rfl) ?_
          refine kw_iinc dX9_blocksIn_29 rfl (nI_i j) ?_
          refine kw_goto (tgt := 4) dX9_blocksIn_32 (by decide) ?_
          exact ih (j + 1) (by omega) (by omega)
  refine kw_iconst (v := 0) dX9_blocksIn_0 (by decide) ?_
  refine kw_istore_n dX9_blocksIn_1 (Nat.le_of_ble_eq_true rfl) ?_
  refine kw_iconst (v := 0) dX9_blocksIn_2 (by decide) ?_
  refine kw_istore_n dX9_blocksIn_3 (Nat.le_of_ble_eq_true rfl) ?_
  exact loop (nb_ s + 1) 0 (by omega) (by omega)
set_option maxHeartbeats 4000000 in
set_option maxRecDepth 100000 in
theorem t_find (l : Launch) (s : SG) (k : KG) (hb : nb_ s ≤ 80) (v : Nat) (hv : v < 4) (hkm : km_ s v ≤ 4) (hcm : ∀ j, j < nb_ s → cm_ s j ≤ 4) (key : Int64) (z : Nat) : kw_F l yX9_find cX9_find 7 (Option.some Jvm.ClassFile.FieldType.int) { frames := 1, cells := 0, slots := 0, locals := 26 } [pr_ (3, 0), pl_ key, pi_ (nI z), pr_ (14, v), pi_ (nI (km_ s v))] (hC s k) (some (pi_ (findS s v key z))) (hC s k) := by
  refine kw_M_of RX9 "find" [some (pr_ (3, 0)), some (pl_ key), none, some (pi_ (nI z)), some (pr_ (14, v)), some (pi_ (nI (km_ s v))), none] (by decide) rfl rfl rfl (Nat.le_of_ble_eq_true rfl) ?_
  intro D ad A
  refine kw_Kgen (fun K hK => ?_)
  have loop : ∀ (n_ : Nat) (j : Nat), nb_ s - j < n_ → j ≤ nb_ s → findS s v key z = findF (fun i => th_ s i && likeB s i v key z) (nb_ s - j) j → kw_G l D cX9_find RX9 (Option.some Jvm.ClassFile.FieldType.int) "find" { frames := 1, cells := 0, slots := 0, locals := 26 } A K ad (hC s k) 0 0 3 [some (pr_ (3, 0)), some (pl_ key), none, some (pi_ (nI z)), some (pr_ (14, v)), some (pi_ (nI (km_ s v))), some (pi_ (nI j))] [] := by
    intro n_
    induction n_ with
    | zero =>
      intro j hm_
      exact absurd hm_ (Nat.not_lt_zero _)
    | succ n_ ih =>
      intro j hm_ hj hf
      refine kw_iload dX9_find_3 rfl ?_
      refine kw_aload_n dX9_find_5 rfl ?_
      refine kw_get dX9_find_6 fl_X9_35 rfl rfl ?_
      refine kw_icmp_ge (tgt := 53) dX9_find_9 (by decide) (fun c9 => ?_) (fun c9 => ?_)
      · skip
        have e : j = nb_ s := Nat.le_antisymm hj (nI_le' (by omega) (by omega) c9)
        refine kw_iconst (v := (-1)) dX9_find_53 (by decide) ?_
        exact kw_iret dX9_find_54 rfl (Nat.le_of_ble_eq_true rfl) (Nat.le_of_ble_eq_true rfl) (hK _ _ _ ⟨rfl, by rw [hf, e, Nat.sub_self]; rfl, rfl⟩)
      · skip
        have hlt : j < nb_ s := nI_nle' (by omega) (by omega) c9
        have e1 : nb_ s - j = (nb_ s - (j + 1)) + 1 := by omega
        refine kw_aload_n dX9_find_12 rfl ?_
        refine kw_get dX9_find_13 fl_X9_11 rfl rfl ?_
        refine kw_iload dX9_find_16 rfl ?_
        refine kw_aaldN dX9_find_18 rfl (by omega) (by decide) (if_pos hlt) ?_
        refine kw_get dX9_find_19 fl_X9_38 (hC_bl hlt) rfl ?_
        refine kw_if_ne (tgt := 47) dX9_find_22 (by decide) (fun c22 => ?_) (fun c22 => ?_)
        · skip
          have hn : (th_ s j && likeB s j v key z) = false := by rw [not_b2n c22]; rfl
          refine kw_iinc dX9_find_47 rfl (nI_i j) ?_
          refine kw_goto (tgt := 3) dX9_find_50 (by decide) ?_
          exact ih (j + 1) (by omega) (by omega) (by rw [hf, e1, findF, hn]; rfl)
        · skip
          have e9 : th_ s j = true := not_b2 c22
          refine kw_aload_n dX9_find_25 rfl ?_
          refine kw_get dX9_find_26 fl_X9_11 rfl rfl ?_
          refine kw_iload dX9_find_29 rfl ?_
          refine kw_aaldN dX9_find_31 rfl (by omega) (by decide) (if_pos hlt) ?_
          refine kw_lload_n dX9_find_32 rfl ?_
          refine kw_iload_n dX9_find_33 rfl ?_
          refine kw_aload dX9_find_34 rfl ?_
          refine kw_iload dX9_find_36 rfl ?_
          refine kw_callVf (As := [pl_ key, pi_ (nI z), pr_ (14, v), pi_ (nI (km_ s v))]) (b_isLike l s k j v hlt hv hkm (hcm j hlt) key z) dX9_find_38 cl_X9_52 (hC_bl hlt) rfl rfl rfl (Nat.le_of_ble_eq_true rfl) ⟨(Nat.le_of_ble_eq_true rfl), (Nat.le_of_ble_eq_true rfl), (Nat.le_of_ble_eq_true rfl), (Nat.le_of_ble_eq_true rfl)⟩ ?_
          refine kw_if_eq (tgt := 47) dX9_find_41 (by decide) (fun c41 => ?_) (fun c41 => ?_)
          · skip
            have hn : (th_ s j && likeB s j v key z) = false := by rw [b2_0.mp c41, Bool.and_false]
            refine kw_iinc dX9_find_47 rfl (nI_i j) ?_
            refine kw_goto (tgt := 3) dX9_find_50 (by decide) ?_
            exact ih (j + 1) (by omega) (by omega) (by rw [hf, e1, findF, hn]; rfl)
          · skip
            refine kw_iload dX9_find_44 rfl ?_
            exact kw_iret dX9_find_46 rfl (Nat.le_of_ble_eq_true rfl) (Nat.le_of_ble_eq_true rfl) (hK _ _ _ ⟨rfl, by rw [hf, e1, findF, e9, b2_n0.mp c41]; rfl, rfl⟩)
  refine kw_iconst (v := 0) dX9_find_0 (by decide) ?_
  refine kw_istore dX9_find_1 (Nat.le_of_ble_eq_true rfl) ?_
  exact loop (nb_ s + 1) 0 (by omega) (by omega) rfl
