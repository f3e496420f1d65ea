/-! STORE: what is reached -/
theorem va_up2 {α : Type} (f : Nat → α) (i : Nat) (a b : α) : va_up (va_up f i a) i b = va_up f i b := by
  funext j
  by_cases h : j = i <;> simp [va_up, h]
theorem va_up_id {α : Type} (f : Nat → α) (i : Nat) : va_up f i (f i) = f := by
  funext j
  by_cases h : j = i
  · subst h; simp [va_up]
  · simp [va_up, h]
theorem nI_d (n : Nat) : nI n + Int32.ofInt (-1) = nI n - 1 := by rw [Int32.sub_eq_add_neg]; rfl
theorem kB2 (k : KG) (i : Nat) (a b : Nat → Bool) : kB (kB k i a) i b = kB k i b := by
  show (k.1, k.2.1, va_up (va_up k.2.2.1 i a) i b, k.2.2.2) = _
  rw [va_up2]
theorem kB_id (k : KG) (i : Nat) : kB k i (kb_ k i) = k := by
  show (k.1, k.2.1, va_up k.2.2.1 i (k.2.2.1 i), k.2.2.2) = _
  rw [va_up_id]
theorem up_R (s : SG) (k : KG) (r : Nat → Bool) (j : Nat) (v : Bool) : kw_up (hC s (kB k 0 r)) (4, 2) (rb_ 80 (va_up r j v)) = hC s (kB k 0 (va_up r j v)) := (up_rrc s (kB k 0 r) j v).trans (by rw [show rch_ (kB k 0 r) = r from rfl, kB2])
/-- what is reached: the children of one; from a number down -/
def rcP (s : SG) (i : Nat) (r : Nat → Bool) (n : Nat) : Nat → Bool := fun q => r q || anyN (fun a => decide (ch_ s i a = q)) n
def rcK (s : SG) (i : Nat) (r : Nat → Bool) : Nat → Bool := rcP s i r (cm_ s i)
def rdown (s : SG) : Nat → (Nat → Bool) → (Nat → Bool)
  | 0, r => r
  | n + 1, r => rdown s n (if r n then rcK s n r else r)
def rfrom (s : SG) (b : Nat) (r : Nat → Bool) : Nat → Bool := rdown s (b + 1) (va_up r b true)
def rrow (s : SG) (f : Nat → Nat) (r : Nat → Bool) : Nat → (Nat → Bool)
  | 0 => r
  | n + 1 => rfrom s (f n) (rrow s f r n)
def rthere (s : SG) (r : Nat → Bool) : Nat → (Nat → Bool)
  | 0 => r
  | n + 1 => if th_ s n then rfrom s n (rthere s r n) else rthere s r n
def rnone (n : Nat) (r : Nat → Bool) : Nat → Bool := fun q => if q < n then false else r q
theorem rcP_0 (s : SG) (i : Nat) (r : Nat → Bool) : rcP s i r 0 = r := by funext q; simp [rcP, anyN]
theorem rcP_s (s : SG) (i : Nat) (r : Nat → Bool) (n : Nat) : va_up (rcP s i r n) (ch_ s i n) true = rcP s i r (n + 1) := by
  funext q
  by_cases h : q = ch_ s i n
  · subst h; simp [va_up, rcP, anyN]
  · have h2 : ¬ ch_ s i n = q := fun e => h e.symm
    simp [va_up, rcP, anyN, h, h2]
theorem rnone_0 (r : Nat → Bool) : rnone 0 r = r := by funext q; simp [rnone]
theorem rnone_s (n : Nat) (r : Nat → Bool) : va_up (rnone n r) n false = rnone (n + 1) r := by
  funext q
  by_cases h : q = n
  · subst h; simp [va_up, rnone]
  · by_cases h2 : q < n
    · have : q < n + 1 := by omega
      simp [va_up, rnone, h, h2, this]
    · have : ¬ q < n + 1 := by omega
      simp [va_up, rnone, h, h2, this]
/-- children have lesser numbers -/
def kidsOk (s : SG) : Prop := ∀ i, i < nb_ s → cm_ s i ≤ 4 ∧ ∀ j, j < cm_ s i → ch_ s i j < i
set_option maxHeartbeats 4000000 in
set_option maxRecDepth 100000 in
theorem t_none (l : Launch) (s : SG) (k : KG) (hb : nb_ s ≤ 80) : kw_F l yX9_reachNothing cX9_reachNothing 2 (Option.none : Option Jvm.ClassFile.FieldType) { frames := 0, cells := 0, slots := 0, locals := 0 } [pr_ (3, 0)] (hC s k) none (hC s (kB k 0 (rnone (nb_ s) (rch_ k)))) := by
  refine kw_M_of RX9 "reachNothing" _ (by decide) rfl rfl rfl (Nat.le_of_ble_eq_true rfl) ?_
  intro D ad A
  refine kw_Kgen (fun K hK => ?_)
  have loop : ∀ (n_ : Nat) (j : Nat), nb_ s - j < n_ → j ≤ nb_ s → kw_G l D cX9_reachNothing RX9 (Option.none : Option Jvm.ClassFile.FieldType) "reachNothing" { frames := 0, cells := 0, slots := 0, locals := 0 } A K ad (hC s (kB k 0 (rnone j (rch_ k)))) 0 0 2 [some (pr_ (3, 0)), some (pi_ (nI j))] [] := by
    intro n_
    induction n_ with
    | zero =>
      intro j hm_
      exact absurd hm_ (Nat.not_lt_zero _)
    | succ n_ ih =>
      intro j hm_ hj
      refine kw_iload_n dX9_reachNothing_2 rfl ?_
      refine kw_aload_n dX9_reachNothing_3 rfl ?_
      refine kw_get dX9_reachNothing_4 fl_X9_35 rfl rfl ?_
      refine kw_icmp_ge (tgt := 23) dX9_reachNothing_7 (by decide) (fun c7 => ?_) (fun c7 => ?_)
      · skip
        have e : j = nb_ s := Nat.le_antisymm hj (nI_le' (by omega) (by omega) c7)
        exact kw_vret dX9_reachNothing_23 rfl (Nat.le_of_ble_eq_true rfl) (Nat.le_of_ble_eq_true rfl) (hK _ _ _ ⟨rfl, rfl, by rw [e]⟩)
      · skip
        have hlt : j < nb_ s := nI_nle' (by omega) (by omega) c7
        refine kw_aload_n dX9_reachNothing_10 rfl ?_
        refine kw_get dX9_reachNothing_11 fl_X9_23 rfl rfl ?_
        refine kw_iload_n dX9_reachNothing_14 rfl ?_
        refine kw_iconst (v := 0) dX9_reachNothing_15 (by decide) ?_
        refine kw_top (v' := pi_ (b2 false)) rfl ?_
        refine kw_zastN dX9_reachNothing_16 rfl (by omega) (by decide) ?_
        refine kw_heq (up_R s k _ _ _) ?_
        rw [rnone_s]
        refine kw_iinc dX9_reachNothing_17 rfl (nI_i j) ?_
        refine kw_goto (tgt := 2) dX9_reachNothing_20 (by decide) ?_
        exact ih (j + 1) (by omega) (by omega)
  refine kw_iconst (v := 0) dX9_reachNothing_0 (by decide) ?_
  refine kw_istore_n dX9_reachNothing_1 (Nat.le_of_ble_eq_true rfl) ?_
  have h0 : hC s k = hC s (kB k 0 (rnone 0 (rch_ k))) := by rw [rnone_0, kB_id]
  rw [h0]
  exact loop (nb_ s + 1) 0 (by omega) (by omega)
set_option maxHeartbeats 4000000 in
set_option maxRecDepth 100000 in
theorem t_kids (l : Launch) (s : SG) (k : KG) (hb : nb_ s ≤ 80) (hk : kidsOk s) (i : Nat) (hi : i < nb_ s) (r : Nat → Bool) : kw_F l yX9_reachChildren cX9_reachChildren 4 (Option.none : Option Jvm.ClassFile.FieldType) { frames := 0, cells := 0, slots := 0, locals := 0 } [pr_ (3, 0), pi_ (nI i)] (hC s (kB k 0 r)) none (hC s (kB k 0 (rcK s i r))) := by
  refine kw_M_of RX9 "reachChildren" _ (by decide) rfl rfl rfl (Nat.le_of_ble_eq_true rfl) ?_
  intro D ad A
  refine kw_Kgen (fun K hK => ?_)
  have loop : ∀ (n_ : Nat) (j : Nat), cm_ s i - j < n_ → j ≤ cm_ s i → kw_G l D cX9_reachChildren RX9 (Option.none : Option Jvm.ClassFile.FieldType) "reachChildren" { frames := 0, cells := 0, slots := 0, locals := 0 } A K ad (hC s (kB k 0 (rcP s i r j))) 0 0 12 [some (pr_ (3, 0)), some (pi_ (nI i)), some (pr_ (6, i)), some (pi_ (nI j))] [] := by
    intro n_
    induction n_ with
    | zero =>
      intro j hm_
      exact absurd hm_ (Nat.not_lt_zero _)
    | succ n_ ih =>
      intro j hm_ hj
      refine kw_iload_n dX9_reachChildren_12 rfl ?_
      refine kw_aload_n dX9_reachChildren_13 rfl ?_
      refine kw_alen dX9_reachChildren_14 (hC_ch hi) ?_
      refine kw_icmp_ge (tgt := 33) dX9_reachChildren_15 (by decide) (fun c15 => ?_) (fun c15 => ?_)
      · skip
        have e : j = cm_ s i := Nat.le_antisymm hj (nI_le' (a := cm_ s i) (by have := (hk i hi).1; omega) (by have := (hk i hi).1; omega) c15)
        exact kw_vret dX9_reachChildren_33 rfl (Nat.le_of_ble_eq_true rfl) (Nat.le_of_ble_eq_true rfl) (hK _ _ _ ⟨rfl, rfl, by rw [e]; rfl⟩)
      · skip
        have hlt : j < cm_ s i := nI_nle' (a := cm_ s i) (by have := (hk i hi).1; omega) (by have := (hk i hi).1; omega) c15
        have hch := (hk i hi).2 j hlt
        refine kw_aload_n dX9_reachChildren_18 rfl ?_
        refine kw_get dX9_reachChildren_19 fl_X9_23 rfl rfl ?_
        refine kw_aload_n dX9_reachChildren_22 rfl ?_
        refine kw_iload_n dX9_reachChildren_23 rfl ?_
        refine kw_ialdN dX9_reachChildren_24 (hC_ch hi) hlt (by have := (hk i hi).1; omega) ?_
        refine kw_iconst (v := 1) dX9_reachChildren_25 (by decide) ?_
        refine kw_top (v' := pi_ (b2 true)) rfl ?_
        refine kw_zastN dX9_reachChildren_26 rfl (by omega) (by decide) ?_
        refine kw_heq (up_R s k _ _ _) ?_
        rw [rcP_s]
        refine kw_iinc dX9_reachChildren_27 rfl (nI_i j) ?_
        refine kw_goto (tgt := 12) dX9_reachChildren_30 (by decide) ?_
        exact ih (j + 1) (by omega) (by omega)
  refine kw_aload_n dX9_reachChildren_0 rfl ?_
  refine kw_get dX9_reachChildren_1 fl_X9_11 rfl rfl ?_
  refine kw_iload_n dX9_reachChildren_4 rfl ?_
  refine kw_aaldN dX9_reachChildren_5 rfl (by omega) (by decide) (if_pos hi) ?_
  refine kw_get dX9_reachChildren_6 fl_X9_101 (hC_bl hi) rfl ?_
  refine kw_astore_n dX9_reachChildren_9 (Nat.le_of_ble_eq_true rfl) ?_
  refine kw_iconst (v := 0) dX9_reachChildren_10 (by decide) ?_
  refine kw_istore_n dX9_reachChildren_11 (Nat.le_of_ble_eq_true rfl) ?_
  have h0 : hC s (kB k 0 r) = hC s (kB k 0 (rcP s i r 0)) := by rw [rcP_0]
  rw [h0]
  exact loop (cm_ s i + 1) 0 (by omega) (by omega)
set_option maxHeartbeats 4000000 in
set_option maxRecDepth 100000 in
theorem t_from (l : Launch) (s : SG) (k : KG) (hb : nb_ s ≤ 80) (hk : kidsOk s) (b : Nat) (hbb : b < nb_ s) (r : Nat → Bool) : kw_F l yX9_reachFrom cX9_reachFrom 3 (Option.none : Option Jvm.ClassFile.FieldType) { frames := 1, cells := 0, slots := 0, locals := 23 } [pr_ (3, 0), pi_ (nI b)] (hC s (kB k 0 r)) none (hC s (kB k 0 (rfrom s b r))) := by
  refine kw_M_of RX9 "reachFrom" _ (by decide) rfl rfl rfl (Nat.le_of_ble_eq_true rfl) ?_
  intro D ad A
  refine kw_Kgen (fun K hK => ?_)
  have loop : ∀ (n_ : Nat) (q : Nat → Bool), n_ ≤ nb_ s → rdown s n_ q = rfrom s b r → kw_G l D cX9_reachFrom RX9 (Option.none : Option Jvm.ClassFile.FieldType) "reachFrom" { frames := 1, cells := 0, slots := 0, locals := 23 } A K ad (hC s (kB k 0 q)) 0 0 9 [some (pr_ (3, 0)), some (pi_ (nI b)), some (pi_ (nI n_ - 1))] [] := by
    intro n_
    induction n_ with
    | zero =>
      intro q hn hq
      refine kw_iload_n dX9_reachFrom_9 rfl ?_
      refine kw_if_lt (tgt := 33) dX9_reachFrom_10 (by decide) (fun c10 => ?_) (fun c10 => ?_)
      · skip
        exact kw_vret dX9_reachFrom_33 rfl (Nat.le_of_ble_eq_true rfl) (Nat.le_of_ble_eq_true rfl) (hK _ _ _ ⟨rfl, rfl, by rw [← hq]; rfl⟩)
      · skip
        exact absurd (by decide) c10
    | succ n_ ih =>
      intro q hn hq
      have e0 : nI (n_ + 1) - 1 = nI n_ := nI_pred n_
      rw [e0]
      refine kw_iload_n dX9_reachFrom_9 rfl ?_
      refine kw_if_lt (tgt := 33) dX9_reachFrom_10 (by decide) (fun c10 => ?_) (fun c10 => ?_)
      · skip
        exact absurd c10 (nI_pos (by omega))
      · skip
        refine kw_aload_n dX9_reachFrom_13 rfl ?_
        refine kw_get dX9_reachFrom_14 fl_X9_23 rfl rfl ?_
        refine kw_iload_n dX9_reachFrom_17 rfl ?_
        refine kw_zaldN dX9_reachFrom_18 rfl (by omega) (by decide) ?_
        refine kw_if_eq (tgt := 27) dX9_reachFrom_19 (by decide) (fun c19 => ?_) (fun c19 => ?_)
        · skip
          have c19 : b2 (q n_) = 0 := c19
          have e9 : rdown s n_ q = rfrom s b r := by rw [← hq, rdown, b2_0.mp c19]; rfl
          refine kw_iinc dX9_reachFrom_27 rfl (nI_d n_) ?_
          refine kw_goto (tgt := 9) dX9_reachFrom_30 (by decide) ?_
          refine kw_lveq (lv' := [some (pr_ (3, 0)), some (pi_ (nI b)), some (pi_ (nI n_ - 1))]) rfl ?_
          exact ih q (by omega) e9
        · skip
          have c19 : ¬ b2 (q n_) = 0 := c19
          have e9 : rdown s n_ (rcK s n_ q) = rfrom s b r := by rw [← hq, rdown, b2_n0.mp c19]; rfl
          refine kw_aload_n dX9_reachFrom_22 rfl ?_
          refine kw_iload_n dX9_reachFrom_23 rfl ?_
          refine kw_callVf (As := [pi_ (nI n_)]) (t_kids l s k hb hk n_ (by omega) q) dX9_reachFrom_24 cl_X9_97 rfl rfl rfl rfl (Nat.le_of_ble_eq_true rfl) ⟨(Nat.le_of_ble_eq_true rfl), (Nat.le_of_ble_eq_true rfl), (Nat.le_of_ble_eq_true rfl), (Nat.le_of_ble_eq_true rfl)⟩ ?_
          refine kw_iinc dX9_reachFrom_27 rfl (nI_d n_) ?_
          refine kw_goto (tgt := 9) dX9_reachFrom_30 (by decide) ?_
          refine kw_lveq (lv' := [some (pr_ (3, 0)), some (pi_ (nI b)), some (pi_ (nI n_ - 1))]) rfl ?_
          exact ih _ (by omega) e9
  refine kw_aload_n dX9_reachFrom_0 rfl ?_
  refine kw_get dX9_reachFrom_1 fl_X9_23 rfl rfl ?_
  refine kw_iload_n dX9_reachFrom_4 rfl ?_
  refine kw_iconst (v := 1) dX9_reachFrom_5 (by decide) ?_
  refine kw_top (v' := pi_ (b2 true)) rfl ?_
  refine kw_zastN dX9_reachFrom_6 rfl (by omega) (by decide) ?_
  refine kw_heq (up_R s k _ _ _) ?_
  refine kw_iload_n dX9_reachFrom_7 rfl ?_
  refine kw_istore_n dX9_reachFrom_8 (Nat.le_of_ble_eq_true rfl) ?_
  refine kw_lveq (lv' := [some (pr_ (3, 0)), some (pi_ (nI b)), some (pi_ (nI (b + 1) - 1))]) (by rw [nI_pred]; rfl) ?_
  exact loop (b + 1) _ (by omega) rfl
set_option maxHeartbeats 4000000 in
set_option maxRecDepth 100000 in
theorem t_all (l : Launch) (s : SG) (k : KG) (hb : nb_ s ≤ 80) (hk : kidsOk s) (q0 : KK) (N n : Nat) (f : Nat → Nat) (hq0 : ∀ r, hC s (kB k 0 r) q0 = some (ri_ N f)) (hN : N < 2 ^ 31) (hn : n ≤ N) (hf : ∀ j, j < n → f j < nb_ s) (r : Nat → Bool) : kw_F l yX9_reachFromAll cX9_reachFromAll 4 (Option.none : Option Jvm.ClassFile.FieldType) { frames := 2, cells := 0, slots := 0, locals := 45 } [pr_ (3, 0), pr_ q0, pi_ (nI n)] (hC s (kB k 0 r)) none (hC s (kB k 0 (rrow s f r n))) := by
  refine kw_M_of RX9 "reachFromAll" _ (by decide) rfl rfl rfl (Nat.le_of_ble_eq_true rfl) ?_
  intro D ad A
  refine kw_Kgen (fun K hK => ?_)
  have loop : ∀ (n_ : Nat) (j : Nat), n - j < n_ → j ≤ n → kw_G l D cX9_reachFromAll RX9 (Option.none : Option Jvm.ClassFile.FieldType) "reachFromAll" { frames := 2, cells := 0, slots := 0, locals := 45 } A K ad (hC s (kB k 0 (rrow s f r j))) 0 0 2 [some (pr_ (3, 0)), some (pr_ q0), some (pi_ (nI n)), some (pi_ (nI j))] [] := by
    intro n_
    induction n_ with
    | zero =>
      intro j hm_
      exact absurd hm_ (Nat.not_lt_zero _)
    | succ n_ ih =>
      intro j hm_ hj
      refine kw_iload_n dX9_reachFromAll_2 rfl ?_
      refine kw_iload_n dX9_reachFromAll_3 rfl ?_
      refine kw_icmp_ge (tgt := 20) dX9_reachFromAll_4 (by decide) (fun c4 => ?_) (fun c4 => ?_)
      · skip
        have e : j = n := Nat.le_antisymm hj (nI_le' (by omega) (by omega) c4)
        exact kw_vret dX9_reachFromAll_20 rfl (Nat.le_of_ble_eq_true rfl) (Nat.le_of_ble_eq_true rfl) (hK _ _ _ ⟨rfl, rfl, by rw [e]⟩)
      · skip
        have hlt : j < n := nI_nle' (by omega) (by omega) c4
        refine kw_aload_n dX9_reachFromAll_7 rfl ?_
        refine kw_aload_n dX9_reachFromAll_8 rfl ?_
        refine kw_iload_n dX9_reachFromAll_9 rfl ?_
        refine kw_ialdN dX9_reachFromAll_10 (hq0 _) (by omega) hN ?_
        refine kw_callVf (As := [pi_ (nI (f j))]) (t_from l s k hb hk (f j) (hf j hlt) _) dX9_reachFromAll_11 cl_X9_105 rfl rfl rfl rfl (Nat.le_of_ble_eq_true rfl) ⟨(Nat.le_of_ble_eq_true rfl), (Nat.le_of_ble_eq_true rfl), (Nat.le_of_ble_eq_true rfl), (Nat.le_of_ble_eq_true rfl)⟩ ?_
        refine kw_iinc dX9_reachFromAll_14 rfl (nI_i j) ?_
        refine kw_goto (tgt := 2) dX9_reachFromAll_17 (by decide) ?_
        exact ih (j + 1) (by omega) (by omega)
  refine kw_iconst (v := 0) dX9_reachFromAll_0 (by decide) ?_
  refine kw_istore_n dX9_reachFromAll_1 (Nat.le_of_ble_eq_true rfl) ?_
  exact loop (n + 1) 0 (by omega) (by omega)
set_option maxHeartbeats 4000000 in
set_option maxRecDepth 100000 in
theorem t_there (l : Launch) (s : SG) (k : KG) (hb : nb_ s ≤ 80) (hk : kidsOk s) (r : Nat → Bool) : kw_F l yX9_reachFromThere cX9_reachFromThere 2 (Option.none : Option Jvm.ClassFile.FieldType) { frames := 2, cells := 0, slots := 0, locals := 45 } [pr_ (3, 0)] (hC s (kB k 0 r)) none (hC s (kB k 0 (rthere s r (nb_ s)))) := by
  refine kw_M_of RX9 "reachFromThere" _ (by decide) rfl rfl rfl (Nat.le_of_ble_eq_true rfl) ?_
  intro D ad A
  refine kw_Kgen (fun K hK => ?_)
  have loop : ∀ (n_ : Nat) (j : Nat), nb_ s - j < n_ → j ≤ nb_ s → kw_G l D cX9_reachFromThere RX9 (Option.none : Option Jvm.ClassFile.FieldType) "reachFromThere" { frames := 2, cells := 0, slots := 0, locals := 45 } A K ad (hC s (kB k 0 (rthere s r j))) 0 0 2 [some (pr_ (3, 0)), some (pi_ (nI j))] [] := by
    intro n_
    induction n_ with
    | zero =>
      intro j hm_
      exact absurd hm_ (Nat.not_lt_zero _)
    | succ n_ ih =>
      intro j hm_ hj
      refine kw_iload_n dX9_reachFromThere_2 rfl ?_
      refine kw_aload_n dX9_reachFromThere_3 rfl ?_
      refine kw_get dX9_reachFromThere_4 fl_X9_35 rfl rfl ?_
      refine kw_icmp_ge (tgt := 33) dX9_reachFromThere_7 (by decide) (fun c7 => ?_) (fun c7 => ?_)
      · skip
        have e : j = nb_ s := Nat.le_antisymm hj (nI_le' (by omega) (by omega) c7)
        exact kw_vret dX9_reachFromThere_33 rfl (Nat.le_of_ble_eq_true rfl) (Nat.le_of_ble_eq_true rfl) (hK _ _ _ ⟨rfl, rfl, by rw [e]⟩)
      · skip
        have hlt : j < nb_ s := nI_nle' (by omega) (by omega) c7
        refine kw_aload_n dX9_reachFromThere_10 rfl ?_
        refine kw_get dX9_reachFromThere_11 fl_X9_11 rfl rfl ?_
        refine kw_iload_n dX9_reachFromThere_14 rfl ?_
        refine kw_aaldN dX9_reachFromThere_15 rfl (by omega) (by decide) (if_pos hlt) ?_
        refine kw_get dX9_reachFromThere_16 fl_X9_38 (hC_bl hlt) rfl ?_
        refine kw_if_ne (tgt := 27) dX9_reachFromThere_19 (by decide) (fun c19 => ?_) (fun c19 => ?_)
        · skip
          have e9 : rthere s r (j + 1) = rthere s r j := by rw [rthere, not_b2n c19]; rfl
          refine kw_iinc dX9_reachFromThere_27 rfl (nI_i j) ?_
          refine kw_goto (tgt := 2) dX9_reachFromThere_30 (by decide) ?_
          rw [← e9]
          exact ih (j + 1) (by omega) (by omega)
        · skip
          have e9 : rthere s r (j + 1) = rfrom s j (rthere s r j) := by rw [rthere, not_b2 c19]; rfl
          refine kw_aload_n dX9_reachFromThere_22 rfl ?_
          refine kw_iload_n dX9_reachFromThere_23 rfl ?_
          refine kw_callVf (As := [pi_ (nI j)]) (t_from l s k hb hk j hlt _) dX9_reachFromThere_24 cl_X9_105 rfl rfl rfl rfl (Nat.le_of_ble_eq_true rfl) ⟨(Nat.le_of_ble_eq_true rfl), (Nat.le_of_ble_eq_true rfl), (Nat.le_of_ble_eq_true rfl), (Nat.le_of_ble_eq_true rfl)⟩ ?_
          refine kw_iinc dX9_reachFromThere_27 rfl (nI_i j) ?_
          refine kw_goto (tgt := 2) dX9_reachFromThere_30 (by decide) ?_
          rw [← e9]
          exact ih (j + 1) (by omega) (by omega)
  refine kw_iconst (v := 0) dX9_reachFromThere_0 (by decide) ?_
  refine kw_istore_n dX9_reachFromThere_1 (Nat.le_of_ble_eq_true rfl) ?_
  exact loop (nb_ s + 1) 0 (by omega) (by omega)
set_option maxHeartbeats 4000000 in
set_option maxRecDepth 100000 in
theorem t_outside (l : Launch) (s : SG) (k : KG) (hb : nb_ s ≤ 80) (i : Nat) (hi : i < 3) : kw_F l yX9_reachedOutside cX9_reachedOutside 4 (Option.some Jvm.ClassFile.FieldType.int) { frames := 0, cells := 0, slots := 0, locals := 0 } [pr_ (3, 0), pr_ (20, i)] (hC s k) (some (pi_ (nI (cntN (fun j => rch_ k j && !kb_ k (1 + i) j) (nb_ s))))) (hC s k) := by
  refine kw_M_of RX9 "reachedOutside" _ (by decide) rfl rfl rfl (Nat.le_of_ble_eq_true rfl) ?_
  intro D ad A
  refine kw_Kgen (fun K hK => ?_)
  have loop : ∀ (n_ : Nat) (j : Nat), nb_ s - j < n_ → j ≤ nb_ s → kw_G l D cX9_reachedOutside RX9 (Option.some Jvm.ClassFile.FieldType.int) "reachedOutside" { frames := 0, cells := 0, slots := 0, locals := 0 } A K ad (hC s k) 0 0 4 [some (pr_ (3, 0)), some (pr_ (20, i)), some (pi_ (nI (cntN (fun j => rch_ k j && !kb_ k (1 + i) j) j))), some (pi_ (nI j))] [] := by
    intro n_
    induction n_ with
    | zero =>
      intro j hm_
      exact absurd hm_ (Nat.not_lt_zero _)
    | succ n_ ih =>
      intro j hm_ hj
      refine kw_iload_n dX9_reachedOutside_4 rfl ?_
      refine kw_aload_n dX9_reachedOutside_5 rfl ?_
      refine kw_get dX9_reachedOutside_6 fl_X9_35 rfl rfl ?_
      refine kw_icmp_ge (tgt := 41) dX9_reachedOutside_9 (by decide) (fun c9 => ?_) (fun c9 => ?_)
      · skip
        have e : j = nb_ s := Nat.le_antisymm hj (nI_le' (by omega) (by omega) c9)
        refine kw_iload_n dX9_reachedOutside_41 rfl ?_
        exact kw_iret dX9_reachedOutside_42 rfl (Nat.le_of_ble_eq_true rfl) (Nat.le_of_ble_eq_true rfl) (hK _ _ _ ⟨rfl, by rw [e], rfl⟩)
      · skip
        have hlt : j < nb_ s := nI_nle' (by omega) (by omega) c9
        refine kw_iload_n dX9_reachedOutside_12 rfl ?_
        refine kw_aload_n dX9_reachedOutside_13 rfl ?_
        refine kw_get dX9_reachedOutside_14 fl_X9_23 rfl rfl ?_
        refine kw_iload_n dX9_reachedOutside_17 rfl ?_
        refine kw_zaldN dX9_reachedOutside_18 rfl (by omega) (by decide) ?_
        refine kw_if_eq (tgt := 32) dX9_reachedOutside_19 (by decide) (fun c19 => ?_) (fun c19 => ?_)
        · skip
          refine kw_iconst (v := 0) dX9_reachedOutside_32 (by decide) ?_
          refine kw_iadd dX9_reachedOutside_33 ?_
          refine kw_top (v' := pi_ (nI (cntN (fun j => rch_ k j && !kb_ k (1 + i) j) (j + 1)))) (cnt_f (p := fun j => rch_ k j && !kb_ k (1 + i) j) (by simp only [b2_0.mp c19]; rfl)) ?_
          refine kw_istore_n dX9_reachedOutside_34 (Nat.le_of_ble_eq_true rfl) ?_
          refine kw_iinc dX9_reachedOutside_35 rfl (nI_i j) ?_
          refine kw_goto (tgt := 4) dX9_reachedOutside_38 (by decide) ?_
          exact ih (j + 1) (by omega) (by omega)
        · skip
          refine kw_aload_n dX9_reachedOutside_22 rfl ?_
          refine kw_iload_n dX9_reachedOutside_23 rfl ?_
          refine kw_zaldN dX9_reachedOutside_24 (hC_mb hi) (by omega) (by decide) ?_
          refine kw_if_ne (tgt := 32) dX9_reachedOutside_25 (by decide) (fun c25 => ?_) (fun c25 => ?_)
          · skip
            refine kw_iconst (v := 0) dX9_reachedOutside_32 (by decide) ?_
            refine kw_iadd dX9_reachedOutside_33 ?_
            refine kw_top (v' := pi_ (nI (cntN (fun j => rch_ k j && !kb_ k (1 + i) j) (j + 1)))) (cnt_f (p := fun j => rch_ k j && !kb_ k (1 + i) j) (by simp only [b2_n0.mp c25]; simp)) ?_
            refine kw_istore_n dX9_reachedOutside_34 (Nat.le_of_ble_eq_true rfl) ?_
            refine kw_iinc dX9_reachedOutside_35 rfl (nI_i j) ?_
            refine kw_goto (tgt := 4) dX9_reachedOutside_38 (by decide) ?_
            exact ih (j + 1) (by omega) (by omega)
          · skip
            refine kw_iconst (v := 1) dX9_reachedOutside_28 (by decide) ?_
            refine kw_goto (tgt := 33) dX9_reachedOutside_29 (by decide) ?_
            refine kw_iadd dX9_reachedOutside_33 ?_
            refine kw_top (v' := pi_ (nI (cntN (fun j => rch_ k j && !kb_ k (1 + i) j) (j + 1)))) (cnt_t (p := fun j => rch_ k j && !kb_ k (1 + i) j) (by simp only [b2_n0.mp c19, b2_0.mp c25]; rfl)) ?_
            refine kw_istore_n dX9_reachedOutside_34 (Nat.le_of_ble_eq_true rfl) ?_
            refine kw_iinc dX9_reachedOutside_35 rfl (nI_i j) ?_
            refine kw_goto (tgt := 4) dX9_reachedOutside_38 (by decide) ?_
            exact ih (j + 1) (by omega) (by omega)
  refine kw_iconst (v := 0) dX9_reachedOutside_0 (by decide) ?_
  refine kw_istore_n dX9_reachedOutside_1 (Nat.le_of_ble_eq_true rfl) ?_
  refine kw_iconst (v := 0) dX9_reachedOutside_2 (by decide) ?_
  refine kw_istore_n dX9_reachedOutside_3 (Nat.le_of_ble_eq_true rfl) ?_
  exact loop (nb_ s + 1) 0 (by omega) (by omega)
set_option maxHeartbeats 4000000 in
set_option maxRecDepth 100000 in
theorem t_butFreed (l : Launch) (s : SG) (k : KG) (hb : nb_ s ≤ 80) : kw_F l yX9_reachedButFreed cX9_reachedButFreed 3 (Option.some Jvm.ClassFile.FieldType.int) { frames := 0, cells := 0, slots := 0, locals := 0 } [pr_ (3, 0)] (hC s k) (some (pi_ (nI (cntN (fun j => rch_ k j && !th_ s j) (nb_ s))))) (hC s k) := by
  refine kw_M_of RX9 "reachedButFreed" _ (by decide) rfl rfl rfl (Nat.le_of_ble_eq_true rfl) ?_
  intro D ad A
  refine kw_Kgen (fun K hK => ?_)
  have loop : ∀ (n_ : Nat) (j : Nat), nb_ s - j < n_ → j ≤ nb_ s → kw_G l D cX9_reachedButFreed RX9 (Option.some Jvm.ClassFile.FieldType.int) "reachedButFreed" { frames := 0, cells := 0, slots := 0, locals := 0 } A K ad (hC s k) 0 0 4 [some (pr_ (3, 0)), some (pi_ (nI (cntN (fun j => rch_ k j && !th_ s j) j))), some (pi_ (nI j))] [] := by
    intro n_
    induction n_ with
    | zero =>
      intro j hm_
      exact absurd hm_ (Nat.not_lt_zero _)
    | succ n_ ih =>
      intro j hm_ hj
      refine kw_iload_n dX9_reachedButFreed_4 rfl ?_
      refine kw_aload_n dX9_reachedButFreed_5 rfl ?_
      refine kw_get dX9_reachedButFreed_6 fl_X9_35 rfl rfl ?_
      refine kw_icmp_ge (tgt := 47) dX9_reachedButFreed_9 (by decide) (fun c9 => ?_) (fun c9 => ?_)
      · skip
        have e : j = nb_ s := Nat.le_antisymm hj (nI_le' (by omega) (by omega) c9)
        refine kw_iload_n dX9_reachedButFreed_47 rfl ?_
        exact kw_iret dX9_reachedButFreed_48 rfl (Nat.le_of_ble_eq_true rfl) (Nat.le_of_ble_eq_true rfl) (hK _ _ _ ⟨rfl, by rw [e], rfl⟩)
      · skip
        have hlt : j < nb_ s := nI_nle' (by omega) (by omega) c9
        refine kw_iload_n dX9_reachedButFreed_12 rfl ?_
        refine kw_aload_n dX9_reachedButFreed_13 rfl ?_
        refine kw_get dX9_reachedButFreed_14 fl_X9_23 rfl rfl ?_
        refine kw_iload_n dX9_reachedButFreed_17 rfl ?_
        refine kw_zaldN dX9_reachedButFreed_18 rfl (by omega) (by decide) ?_
        refine kw_if_eq (tgt := 38) dX9_reachedButFreed_19 (by decide) (fun c19 => ?_) (fun c19 => ?_)
        · skip
          refine kw_iconst (v := 0) dX9_reachedButFreed_38 (by decide) ?_
          refine kw_iadd dX9_reachedButFreed_39 ?_
          refine kw_top (v' := pi_ (nI (cntN (fun j => rch_ k j && !th_ s j) (j + 1)))) (cnt_f (p := fun j => rch_ k j && !th_ s j) (by simp only [b2_0.mp c19]; rfl)) ?_
          refine kw_istore_n dX9_reachedButFreed_40 (Nat.le_of_ble_eq_true rfl) ?_
          refine kw_iinc dX9_reachedButFreed_41 rfl (nI_i j) ?_
          refine kw_goto (tgt := 4) dX9_reachedButFreed_44 (by decide) ?_
          exact ih (j + 1) (by omega) (by omega)
        · skip
          refine kw_aload_n dX9_reachedButFreed_22 rfl ?_
          refine kw_get dX9_reachedButFreed_23 fl_X9_11 rfl rfl ?_
          refine kw_iload_n dX9_reachedButFreed_26 rfl ?_
          refine kw_aaldN dX9_reachedButFreed_27 rfl (by omega) (by decide) (if_pos hlt) ?_
          refine kw_get dX9_reachedButFreed_28 fl_X9_38 (hC_bl hlt) rfl ?_
          refine kw_if_eq (tgt := 38) dX9_reachedButFreed_31 (by decide) (fun c31 => ?_) (fun c31 => ?_)
          · skip
            refine kw_iconst (v := 0) dX9_reachedButFreed_38 (by decide) ?_
            refine kw_iadd dX9_reachedButFreed_39 ?_
            refine kw_top (v' := pi_ (nI (cntN (fun j => rch_ k j && !th_ s j) (j + 1)))) (cnt_f (p := fun j => rch_ k j && !th_ s j) (by simp only [not_b2 c31]; simp)) ?_
            refine kw_istore_n dX9_reachedButFreed_40 (Nat.le_of_ble_eq_true rfl) ?_
            refine kw_iinc dX9_reachedButFreed_41 rfl (nI_i j) ?_
            refine kw_goto (tgt := 4) dX9_reachedButFreed_44 (by decide) ?_
            exact ih (j + 1) (by omega) (by omega)
          · skip
            refine kw_iconst (v := 1) dX9_reachedButFreed_34 (by decide) ?_
            refine kw_goto (tgt := 39) dX9_reachedButFreed_35 (by decide) ?_
            refine kw_iadd dX9_reachedButFreed_39 ?_
            refine kw_top (v' := pi_ (nI (cntN (fun j => rch_ k j && !th_ s j) (j + 1)))) (cnt_t (p := fun j => rch_ k j && !th_ s j) (by simp only [b2_n0.mp c19, not_b2n c31]; rfl)) ?_
            refine kw_istore_n dX9_reachedButFreed_40 (Nat.le_of_ble_eq_true rfl) ?_
            refine kw_iinc dX9_reachedButFreed_41 rfl (nI_i j) ?_
            refine kw_goto (tgt := 4) dX9_reachedButFreed_44 (by decide) ?_
            exact ih (j + 1) (by omega) (by omega)
  refine kw_iconst (v := 0) dX9_reachedButFreed_0 (by decide) ?_
  refine kw_istore_n dX9_reachedButFreed_1 (Nat.le_of_ble_eq_true rfl) ?_
  refine kw_iconst (v := 0) dX9_reachedButFreed_2 (by decide) ?_
  refine kw_istore_n dX9_reachedButFreed_3 (Nat.le_of_ble_eq_true rfl) ?_
  exact loop (nb_ s + 1) 0 (by omega) (by omega)
