/-! STORE: what is reached -/
theorem va_up2 {α : Type} (f : Nat → α) (i : Nat) (a b : α) : va_up (va_up f i a) i b = va_up f i b := by
  funext j
  by_cases h : j = i <;> simp [va_up, h]
theorem va_up_id {α : Type} (f : Nat → α) (i : Nat) : va_up f i (f i) = f := by
  funext j
  by_cases h : j = i
  · subst h; simp [va_up]
  · simp [va_up, h]
theorem nI_d (n : Nat) : nI n + Int32.ofInt (-1) = nI n - 1 := by rw [Int32.sub_eq_add_neg]; rfl
theorem kB2 (k : KG) (i : Nat) (a b : Nat → Bool) : kB (kB k i a) i b = kB k i b := by
  show (k.1, k.2.1, va_up (va_up k.2.2.1 i a) i b, k.2.2.2) = _
  rw [va_up2]
theorem kB_id (k : KG) (i : Nat) : kB k i (kb_ k i) = k := by
  show (k.1, k.2.1, va_up k.2.2.1 i (k.2.2.1 i), k.2.2.2) = _
  rw [va_up_id]
theorem up_R (s : SG) (k : KG) (r : Nat → Bool) (j : Nat) (v : Bool) : kw_up (hC s (kB k 0 r)) (4, 2) (rb_ 80 (va_up r j v)) = hC s (kB k 0 (va_up r j v)) := (up_rrc s (kB k 0 r) j v).trans (by rw [show rch_ (kB k 0 r) = r from rfl, kB2])
/-- what is reached: the children of one; from a number down -/
def rcP (s : SG) (i : Nat) (r : Nat → Bool) (n : Nat) : Nat → Bool := fun q => r q || anyN (fun a => decide (ch_ s i a = q)) n
def rcK (s : SG) (i : Nat) (r : Nat → Bool) : Nat → Bool := rcP s i r (cm_ s i)
def rdown (s : SG) : Nat → (Nat → Bool) → (Nat → Bool)
  | 0, r => r
  | n + 1, r => rdown s n (if r n then rcK s n r else r)
def rfrom (s : SG) (b : Nat) (r : Nat → Bool) : Nat → Bool := rdown s (b + 1) (va_up r b true)
/-- where it starts from: a row; what is there -/
def rst (f : Nat → Nat) (r : Nat → Bool) : Nat → (Nat → Bool)
  | 0 => r
  | n + 1 => va_up (rst f r n) (f n) true
def rthere (s : SG) (r : Nat → Bool) : Nat → (Nat → Bool)
  | 0 => r
  | n + 1 => if th_ s n then va_up (rthere s r n) n true else rthere s r n
def rnone (n : Nat) (r : Nat → Bool) : Nat → Bool := fun q => if q < n then false else r q
theorem rcP_0 (s : SG) (i : Nat) (r : Nat → Bool) : rcP s i r 0 = r := by funext q; simp [rcP, anyN]
theorem rcP_s (s : SG) (i : Nat) (r : Nat → Bool) (n : Nat) : va_up (rcP s i r n) (ch_ s i n) true = rcP s i r (n + 1) := by
  funext q
  by_cases h : q = ch_ s i n
  · subst h; simp [va_up, rcP, anyN]
  · have h2 : ¬ ch_ s i n = q := fun e => h e.symm
    simp [va_up, rcP, anyN, h, h2]
theorem rst_P (s : SG) (i : Nat) (r : Nat → Bool) : ∀ n, rst (ch_ s i) r n = rcP s i r n
  | 0 => (rcP_0 s i r).symm
  | n + 1 => by rw [rst, rst_P s i r n, rcP_s]
theorem rst_K (s : SG) (i : Nat) (r : Nat → Bool) : rst (ch_ s i) r (cm_ s i) = rcK s i r := rst_P s i r _
/-- from above the greatest that is reached nothing more comes -/
theorem rdown_top (s : SG) {m : Nat} {r : Nat → Bool} : ∀ d, (∀ q, m ≤ q → q < m + d → r q = false) → rdown s (m + d) r = rdown s m r
  | 0, _ => rfl
  | d + 1, h => by
    show rdown s (m + d + 1) r = _
    rw [rdown, h (m + d) (by omega) (by omega)]
    exact rdown_top s d (fun q h1 h2 => h q h1 (by omega))
theorem rdown_from (s : SG) {N b : Nat} {r : Nat → Bool} (hb : b < N) (h : ∀ q, q < N → r q = false) : rdown s N (va_up r b true) = rfrom s b r := by
  have e := rdown_top s (m := b + 1) (r := va_up r b true) (N - (b + 1)) (fun q h1 h2 => by simp only [va_up]; rw [if_neg (by omega)]; exact h q (by omega))
  rw [show b + 1 + (N - (b + 1)) = N by omega] at e
  exact e
theorem rnone_0 (r : Nat → Bool) : rnone 0 r = r := by funext q; simp [rnone]
theorem rnone_s (n : Nat) (r : Nat → Bool) : va_up (rnone n r) n false = rnone (n + 1) r := by
  funext q
  by_cases h : q = n
  · subst h; simp [va_up, rnone]
  · by_cases h2 : q < n
    · have : q < n + 1 := by omega
      simp [va_up, rnone, h, h2, this]
    · have : ¬ q < n + 1 := by omega
      simp [va_up, rnone, h, h2, this]
/-- children have lesser numbers -/
def kidsOk (s : SG) : Prop := ∀ i, i < nb_ s → cm_ s i ≤ 4 ∧ ∀ j, j < cm_ s i → ch_ s i j < i
set_option maxHeartbeats 4000000 in
set_option maxRecDepth 100000 in
theorem t_none (l : Launch) (s : SG) (k : KG) (hb : nb_ s ≤ 80) : kw_F l yX9_reachNothing cX9_reachNothing 2 (Option.none : Option Jvm.ClassFile.FieldType) { frames := 0, cells := 0, slots := 0, locals := 0 } [pr_ (3, 0)] (hC s k) none (hC s (kB k 0 (rnone (nb_ s) (rch_ k)))) := by
  refine kw_M_of RX9 "reachNothing" [some (pr_ (3, 0)), none] (by decide) rfl rfl rfl (Nat.le_of_ble_eq_true rfl) ?_
  intro D ad A
  refine kw_Kgen (fun K hK => ?_)
  have loop : ∀ (n_ : Nat) (j : Nat), nb_ s - j < n_ → j ≤ nb_ s → kw_G l D cX9_reachNothing RX9 (Option.none : Option Jvm.ClassFile.FieldType) "reachNothing" { frames := 0, cells := 0, slots := 0, locals := 0 } A K ad (hC s (kB k 0 (rnone j (rch_ k)))) 0 0 2 [some (pr_ (3, 0)), some (pi_ (nI j))] [] := by
    intro n_
    induction n_ with
    | zero =>
      intro j hm_
      exact absurd hm_ (Nat.not_lt_zero _)
    | succ n_ ih =>
      intro j hm_ hj
      refine kw_iload_n dX9_reachNothing_2 rfl ?_
      refine kw_aload_n dX9_reachNothing_3 rfl ?_
      refine kw_get dX9_reachNothing_4 fl_X9_35 rfl rfl ?_
      refine kw_icmp_ge (tgt := 23) dX9_reachNothing_7 (by decide) (fun c7 => ?_) (fun c7 => ?_)
      · skip
        have e : j = nb_ s := Nat.le_antisymm hj (nI_le' (by omega) (by omega) c7)
        exact kw_vret dX9_reachNothing_23 rfl (Nat.le_of_ble_eq_true rfl) (Nat.le_of_ble_eq_true rfl) (hK _ _ _ ⟨rfl, rfl, by rw [e]⟩)
      · skip
        have hlt : j < nb_ s := nI_nle' (by omega) (by omega) c7
        refine kw_aload_n dX9_reachNothing_10 rfl ?_
        refine kw_get dX9_reachNothing_11 fl_X9_23 rfl rfl ?_
        refine kw_iload_n dX9_reachNothing_14 rfl ?_
        refine kw_iconst (v := 0) dX9_reachNothing_15 (by decide) ?_
        refine kw_top (v' := pi_ (b2 false)) rfl ?_
        refine kw_zastN dX9_reachNothing_16 rfl (by omega) (by decide) ?_
        refine kw_heq (up_R s k _ _ _) ?_
        rw [rnone_s]
        refine kw_iinc dX9_reachNothing_17 rfl (nI_i j) ?_
        refine kw_goto (tgt := 2) dX9_reachNothing_20 (by decide) ?_
        exact ih (j + 1) (by omega) (by omega)
  refine kw_iconst (v := 0) dX9_reachNothing_0 (by decide) ?_
  refine kw_istore_n dX9_reachNothing_1 (Nat.le_of_ble_eq_true rfl) ?_
  have h0 : hC s k = hC s (kB k 0 (rnone 0 (rch_ k))) := by rw [rnone_0, kB_id]
  rw [h0]
  exact loop (nb_ s + 1) 0 (by omega) (by omega)
set_option maxHeartbeats 4000000 in
set_option maxRecDepth 100000 in
theorem t_start (l : Launch) (s : SG) (k : KG) (hb : nb_ s ≤ 80) (b : Nat) (hbb : b < nb_ s) (r : Nat → Bool) : kw_F l yX9_startFrom cX9_startFrom 2 (Option.none : Option Jvm.ClassFile.FieldType) { frames := 0, cells := 0, slots := 0, locals := 0 } [pr_ (3, 0), pi_ (nI b)] (hC s (kB k 0 r)) none (hC s (kB k 0 (va_up r b true))) := by
  refine kw_M_of RX9 "startFrom" [some (pr_ (3, 0)), some (pi_ (nI b))] (by decide) rfl rfl rfl (Nat.le_of_ble_eq_true rfl) ?_
  intro D ad A
  refine kw_Kgen (fun K hK => ?_)
  refine kw_aload_n dX9_startFrom_0 rfl ?_
  refine kw_get dX9_startFrom_1 fl_X9_23 rfl rfl ?_
  refine kw_iload_n dX9_startFrom_4 rfl ?_
  refine kw_iconst (v := 1) dX9_startFrom_5 (by decide) ?_
  refine kw_top (v' := pi_ (b2 true)) rfl ?_
  refine kw_zastN dX9_startFrom_6 rfl (by omega) (by decide) ?_
  refine kw_heq (up_R s k _ _ _) ?_
  exact kw_vret dX9_startFrom_7 rfl (Nat.le_of_ble_eq_true rfl) (Nat.le_of_ble_eq_true rfl) (hK _ _ _ ⟨rfl, rfl, rfl⟩)
set_option maxHeartbeats 4000000 in
set_option maxRecDepth 100000 in
theorem t_all (l : Launch) (s : SG) (k : KG) (hb : nb_ s ≤ 80) (q0 : KK) (N n : Nat) (f : Nat → Nat) (hq0 : ∀ r, hC s (kB k 0 r) q0 = some (ri_ N f)) (hN : N < 2 ^ 31) (hn : n ≤ N) (hf : ∀ j, j < n → f j < nb_ s) (r : Nat → Bool) : kw_F l yX9_startFromAll cX9_startFromAll 4 (Option.none : Option Jvm.ClassFile.FieldType) { frames := 1, cells := 0, slots := 0, locals := 21 } [pr_ (3, 0), pr_ q0, pi_ (nI n)] (hC s (kB k 0 r)) none (hC s (kB k 0 (rst f r n))) := by
  refine kw_M_of RX9 "startFromAll" [some (pr_ (3, 0)), some (pr_ q0), some (pi_ (nI n)), none] (by decide) rfl rfl rfl (Nat.le_of_ble_eq_true rfl) ?_
  intro D ad A
  refine kw_Kgen (fun K hK => ?_)
  have loop : ∀ (n_ : Nat) (j : Nat), n - j < n_ → j ≤ n → kw_G l D cX9_startFromAll RX9 (Option.none : Option Jvm.ClassFile.FieldType) "startFromAll" { frames := 1, cells := 0, slots := 0, locals := 21 } A K ad (hC s (kB k 0 (rst f r j))) 0 0 2 [some (pr_ (3, 0)), some (pr_ q0), some (pi_ (nI n)), some (pi_ (nI j))] [] := by
    intro n_
    induction n_ with
    | zero =>
      intro j hm_
      exact absurd hm_ (Nat.not_lt_zero _)
    | succ n_ ih =>
      intro j hm_ hj
      refine kw_iload_n dX9_startFromAll_2 rfl ?_
      refine kw_iload_n dX9_startFromAll_3 rfl ?_
      refine kw_icmp_ge (tgt := 20) dX9_startFromAll_4 (by decide) (fun c4 => ?_) (fun c4 => ?_)
      · skip
        have e : j = n := Nat.le_antisymm hj (nI_le' (by omega) (by omega) c4)
        exact kw_vret dX9_startFromAll_20 rfl (Nat.le_of_ble_eq_true rfl) (Nat.le_of_ble_eq_true rfl) (hK _ _ _ ⟨rfl, rfl, by rw [e]⟩)
      · skip
        have hlt : j < n := nI_nle' (by omega) (by omega) c4
        refine kw_aload_n dX9_startFromAll_7 rfl ?_
        refine kw_aload_n dX9_startFromAll_8 rfl ?_
        refine kw_iload_n dX9_startFromAll_9 rfl ?_
        refine kw_ialdN dX9_startFromAll_10 (hq0 _) (by omega) hN ?_
        refine kw_callVf (As := [pi_ (nI (f j))]) (t_start l s k hb (f j) (hf j hlt) _) dX9_startFromAll_11 cl_X9_97 rfl rfl rfl rfl (Nat.le_of_ble_eq_true rfl) ⟨(Nat.le_of_ble_eq_true rfl), (Nat.le_of_ble_eq_true rfl), (Nat.le_of_ble_eq_true rfl), (Nat.le_of_ble_eq_true rfl)⟩ ?_
        refine kw_iinc dX9_startFromAll_14 rfl (nI_i j) ?_
        refine kw_goto (tgt := 2) dX9_startFromAll_17 (by decide) ?_
        exact ih (j + 1) (by omega) (by omega)
  refine kw_iconst (v := 0) dX9_startFromAll_0 (by decide) ?_
  refine kw_istore_n dX9_startFromAll_1 (Nat.le_of_ble_eq_true rfl) ?_
  exact loop (n + 1) 0 (by omega) (by omega)
set_option maxHeartbeats 4000000 in
set_option maxRecDepth 100000 in
theorem t_there (l : Launch) (s : SG) (k : KG) (hb : nb_ s ≤ 80) (r : Nat → Bool) : kw_F l yX9_startFromThere cX9_startFromThere 2 (Option.none : Option Jvm.ClassFile.FieldType) { frames := 1, cells := 0, slots := 0, locals := 21 } [pr_ (3, 0)] (hC s (kB k 0 r)) none (hC s (kB k 0 (rthere s r (nb_ s)))) := by
  refine kw_M_of RX9 "startFromThere" [some (pr_ (3, 0)), none] (by decide) rfl rfl rfl (Nat.le_of_ble_eq_true rfl) ?_
  intro D ad A
  refine kw_Kgen (fun K hK => ?_)
  have loop : ∀ (n_ : Nat) (j : Nat), nb_ s - j < n_ → j ≤ nb_ s → kw_G l D cX9_startFromThere RX9 (Option.none : Option Jvm.ClassFile.FieldType) "startFromThere" { frames := 1, cells := 0, slots := 0, locals := 21 } A K ad (hC s (kB k 0 (rthere s r j))) 0 0 2 [some (pr_ (3, 0)), some (pi_ (nI j))] [] := by
    intro n_
    induction n_ with
    | zero =>
      intro j hm_
      exact absurd hm_ (Nat.not_lt_zero _)
    | succ n_ ih =>
      intro j hm_ hj
      refine kw_iload_n dX9_startFromThere_2 rfl ?_
      refine kw_aload_n dX9_startFromThere_3 rfl ?_
      refine kw_get dX9_startFromThere_4 fl_X9_35 rfl rfl ?_
      refine kw_icmp_ge (tgt := 33) dX9_startFromThere_7 (by decide) (fun c7 => ?_) (fun c7 => ?_)
      · skip
        have e : j = nb_ s := Nat.le_antisymm hj (nI_le' (by omega) (by omega) c7)
        exact kw_vret dX9_startFromThere_33 rfl (Nat.le_of_ble_eq_true rfl) (Nat.le_of_ble_eq_true rfl) (hK _ _ _ ⟨rfl, rfl, by rw [e]⟩)
      · skip
        have hlt : j < nb_ s := nI_nle' (by omega) (by omega) c7
        refine kw_aload_n dX9_startFromThere_10 rfl ?_
        refine kw_get dX9_startFromThere_11 fl_X9_11 rfl rfl ?_
        refine kw_iload_n dX9_startFromThere_14 rfl ?_
        refine kw_aaldN dX9_startFromThere_15 rfl (by omega) (by decide) (if_pos hlt) ?_
        refine kw_get dX9_startFromThere_16 fl_X9_38 (hC_bl hlt) rfl ?_
        refine kw_if_ne (tgt := 27) dX9_startFromThere_19 (by decide) (fun c19 => ?_) (fun c19 => ?_)
        · skip
          have e9 : rthere s r (j + 1) = rthere s r j := by rw [rthere, not_b2n c19]; rfl
          refine kw_iinc dX9_startFromThere_27 rfl (nI_i j) ?_
          refine kw_goto (tgt := 2) dX9_startFromThere_30 (by decide) ?_
          rw [← e9]
          exact ih (j + 1) (by omega) (by omega)
        · skip
          have e9 : rthere s r (j + 1) = va_up (rthere s r j) j true := by rw [rthere, not_b2 c19]; rfl
          refine kw_aload_n dX9_startFromThere_22 rfl ?_
          refine kw_iload_n dX9_startFromThere_23 rfl ?_
          refine kw_callVf (As := [pi_ (nI j)]) (t_start l s k hb j hlt _) dX9_startFromThere_24 cl_X9_97 rfl rfl rfl rfl (Nat.le_of_ble_eq_true rfl) ⟨(Nat.le_of_ble_eq_true rfl), (Nat.le_of_ble_eq_true rfl), (Nat.le_of_ble_eq_true rfl), (Nat.le_of_ble_eq_true rfl)⟩ ?_
          refine kw_iinc dX9_startFromThere_27 rfl (nI_i j) ?_
          refine kw_goto (tgt := 2) dX9_startFromThere_30 (by decide) ?_
          rw [← e9]
          exact ih (j + 1) (by omega) (by omega)
  refine kw_iconst (v := 0) dX9_startFromThere_0 (by decide) ?_
  refine kw_istore_n dX9_startFromThere_1 (Nat.le_of_ble_eq_true rfl) ?_
  exact loop (nb_ s + 1) 0 (by omega) (by omega)
set_option maxHeartbeats 4000000 in
set_option maxRecDepth 100000 in
theorem t_on (l : Launch) (s : SG) (k : KG) (hb : nb_ s ≤ 80) (hk : kidsOk s) (r : Nat → Bool) : kw_F l yX9_reachOn cX9_reachOn 2 (Option.none : Option Jvm.ClassFile.FieldType) { frames := 2, cells := 0, slots := 0, locals := 44 } [pr_ (3, 0)] (hC s (kB k 0 r)) none (hC s (kB k 0 (rdown s (nb_ s) r))) := by
  refine kw_M_of RX9 "reachOn" [some (pr_ (3, 0)), none] (by decide) rfl rfl rfl (Nat.le_of_ble_eq_true rfl) ?_
  intro D ad A
  refine kw_Kgen (fun K hK => ?_)
  have loop : ∀ (n_ : Nat) (q : Nat → Bool), n_ ≤ nb_ s → rdown s n_ q = rdown s (nb_ s) r → kw_G l D cX9_reachOn RX9 (Option.none : Option Jvm.ClassFile.FieldType) "reachOn" { frames := 2, cells := 0, slots := 0, locals := 44 } A K ad (hC s (kB k 0 q)) 0 0 7 [some (pr_ (3, 0)), some (pi_ (nI n_ - 1))] [] := by
    intro n_
    induction n_ with
    | zero =>
      intro q hn hq
      refine kw_iload_n dX9_reachOn_7 rfl ?_
      refine kw_if_lt (tgt := 49) dX9_reachOn_8 (by decide) (fun c8 => ?_) (fun c8 => ?_)
      · skip
        exact kw_vret dX9_reachOn_49 rfl (Nat.le_of_ble_eq_true rfl) (Nat.le_of_ble_eq_true rfl) (hK _ _ _ ⟨rfl, rfl, by rw [← hq]; rfl⟩)
      · skip
        exact absurd (by decide) c8
    | succ n_ ih =>
      intro q hn hq
      have hlt : n_ < nb_ s := hn
      have e0 : nI (n_ + 1) - 1 = nI n_ := nI_pred n_
      rw [e0]
      refine kw_iload_n dX9_reachOn_7 rfl ?_
      refine kw_if_lt (tgt := 49) dX9_reachOn_8 (by decide) (fun c8 => ?_) (fun c8 => ?_)
      · skip
        exact absurd c8 (nI_pos (by omega))
      · skip
        refine kw_aload_n dX9_reachOn_11 rfl ?_
        refine kw_get dX9_reachOn_12 fl_X9_23 rfl rfl ?_
        refine kw_iload_n dX9_reachOn_15 rfl ?_
        refine kw_zaldN dX9_reachOn_16 rfl (by omega) (by decide) ?_
        refine kw_if_eq (tgt := 43) dX9_reachOn_17 (by decide) (fun c17 => ?_) (fun c17 => ?_)
        · skip
          have c17 : b2 (q n_) = 0 := c17
          have e9 : rdown s n_ q = rdown s (nb_ s) r := by rw [← hq, rdown, b2_0.mp c17]; rfl
          refine kw_iinc dX9_reachOn_43 rfl (nI_d n_) ?_
          refine kw_goto (tgt := 7) dX9_reachOn_46 (by decide) ?_
          refine kw_lveq (lv' := [some (pr_ (3, 0)), some (pi_ (nI n_ - 1))]) rfl ?_
          exact ih q (by omega) e9
        · skip
          have c17 : ¬ b2 (q n_) = 0 := c17
          have e9 : rdown s n_ (rcK s n_ q) = rdown s (nb_ s) r := by rw [← hq, rdown, b2_n0.mp c17]; rfl
          obtain ⟨h4, hch⟩ := hk n_ hlt
          refine kw_aload_n dX9_reachOn_20 rfl ?_
          refine kw_aload_n dX9_reachOn_21 rfl ?_
          refine kw_get dX9_reachOn_22 fl_X9_11 rfl rfl ?_
          refine kw_iload_n dX9_reachOn_25 rfl ?_
          refine kw_aaldN dX9_reachOn_26 rfl (by omega) (by decide) (if_pos hlt) ?_
          refine kw_get dX9_reachOn_27 fl_X9_101 (hC_bl hlt) rfl ?_
          refine kw_aload_n dX9_reachOn_30 rfl ?_
          refine kw_get dX9_reachOn_31 fl_X9_11 rfl rfl ?_
          refine kw_iload_n dX9_reachOn_34 rfl ?_
          refine kw_aaldN dX9_reachOn_35 rfl (by omega) (by decide) (if_pos hlt) ?_
          refine kw_get dX9_reachOn_36 fl_X9_101 (hC_bl hlt) rfl ?_
          refine kw_alen dX9_reachOn_39 (hC_ch hlt) ?_
          refine kw_callVf (As := [pr_ (6, n_), pi_ (nI (cm_ s n_))]) (t_all l s k hb (6, n_) (cm_ s n_) (cm_ s n_) (ch_ s n_) (fun _ => hC_ch hlt) (by omega) (Nat.le_refl _) (fun j hj => Nat.lt_trans (hch j hj) hlt) q) dX9_reachOn_40 cl_X9_105 rfl rfl rfl rfl (Nat.le_of_ble_eq_true rfl) ⟨(Nat.le_of_ble_eq_true rfl), (Nat.le_of_ble_eq_true rfl), (Nat.le_of_ble_eq_true rfl), (Nat.le_of_ble_eq_true rfl)⟩ ?_
          rw [rst_K]
          refine kw_iinc dX9_reachOn_43 rfl (nI_d n_) ?_
          refine kw_goto (tgt := 7) dX9_reachOn_46 (by decide) ?_
          refine kw_lveq (lv' := [some (pr_ (3, 0)), some (pi_ (nI n_ - 1))]) rfl ?_
          exact ih _ (by omega) e9
  refine kw_aload_n dX9_reachOn_0 rfl ?_
  refine kw_get dX9_reachOn_1 fl_X9_35 rfl rfl ?_
  refine kw_iconst (v := 1) dX9_reachOn_4 (by decide) ?_
  refine kw_isub dX9_reachOn_5 ?_
  refine kw_istore_n dX9_reachOn_6 (Nat.le_of_ble_eq_true rfl) ?_
  exact loop (nb_ s) r (Nat.le_refl _) rfl
set_option maxHeartbeats 4000000 in
set_option maxRecDepth 100000 in
theorem t_outside (l : Launch) (s : SG) (k : KG) (hb : nb_ s ≤ 80) (i : Nat) (hi : i < 3) : kw_F l yX9_reachedOutside cX9_reachedOutside 4 (Option.some Jvm.ClassFile.FieldType.int) { frames := 0, cells := 0, slots := 0, locals := 0 } [pr_ (3, 0), pr_ (20, i)] (hC s k) (some (pi_ (nI (cntN (fun j => rch_ k j && !kb_ k (1 + i) j) (nb_ s))))) (hC s k) := by
  refine kw_M_of RX9 "reachedOutside" [some (pr_ (3, 0)), some (pr_ (20, i)), none, none] (by decide) rfl rfl rfl (Nat.le_of_ble_eq_true rfl) ?_
  intro D ad A
  refine kw_Kgen (fun K hK => ?_)
  have loop : ∀ (n_ : Nat) (j : Nat), nb_ s - j < n_ → j ≤ nb_ s → kw_G l D cX9_reachedOutside RX9 (Option.some Jvm.ClassFile.FieldType.int) "reachedOutside" { frames := 0, cells := 0, slots := 0, locals := 0 } A K ad (hC s k) 0 0 4 [some (pr_ (3, 0)), some (pr_ (20, i)), some (pi_ (nI (cntN (fun j => rch_ k j && !kb_ k (1 + i) j) j))), some (pi_ (nI j))] [] := by
    intro n_
    induction n_ with
    | zero =>
      intro j hm_
      exact absurd hm_ (Nat.not_lt_zero _)
    | succ n_ ih =>
      intro j hm_ hj
      refine kw_iload_n dX9_reachedOutside_4 rfl ?_
      refine kw_aload_n dX9_reachedOutside_5 rfl ?_
      refine kw_get dX9_reachedOutside_6 fl_X9_35 rfl rfl ?_
      refine kw_icmp_ge (tgt := 41) dX9_reachedOutside_9 (by decide) (fun c9 => ?_) (fun c9 => ?_)
      · skip
        have e : j = nb_ s := Nat.le_antisymm hj (nI_le' (by omega) (by omega) c9)
        refine kw_iload_n dX9_reachedOutside_41 rfl ?_
        exact kw_iret dX9_reachedOutside_42 rfl (Nat.le_of_ble_eq_true rfl) (Nat.le_of_ble_eq_true rfl) (hK _ _ _ ⟨rfl, by rw [e], rfl⟩)
      · skip
        have hlt : j < nb_ s := nI_nle' (by omega) (by omega) c9
        refine kw_iload_n dX9_reachedOutside_12 rfl ?_
        refine kw_aload_n dX9_reachedOutside_13 rfl ?_
        refine kw_get dX9_reachedOutside_14 fl_X9_23 rfl rfl ?_
        refine kw_iload_n dX9_reachedOutside_17 rfl ?_
        refine kw_zaldN dX9_reachedOutside_18 rfl (by omega) (by decide) ?_
        refine kw_if_eq (tgt := 32) dX9_reachedOutside_19 (by decide) (fun c19 => ?_) (fun c19 => ?_)
        · skip
          refine kw_iconst (v := 0) dX9_reachedOutside_32 (by decide) ?_
          refine kw_iadd dX9_reachedOutside_33 ?_
          refine kw_top (v' := pi_ (nI (cntN (fun j => rch_ k j && !kb_ k (1 + i) j) (j + 1)))) (cnt_f (p := fun j => rch_ k j && !kb_ k (1 + i) j) (by simp only [b2_0.mp c19]; rfl)) ?_
          refine kw_istore_n dX9_reachedOutside_34 (Nat.le_of_ble_eq_true rfl) ?_
          refine kw_iinc dX9_reachedOutside_35 rfl (nI_i j) ?_
          refine kw_goto (tgt := 4) dX9_reachedOutside_38 (by decide) ?_
          exact ih (j + 1) (by omega) (by omega)
        · skip
          refine kw_aload_n dX9_reachedOutside_22 rfl ?_
          refine kw_iload_n dX9_reachedOutside_23 rfl ?_
          refine kw_zaldN dX9_reachedOutside_24 (hC_mb hi) (by omega) (by decide) ?_
          refine kw_if_ne (tgt := 32) dX9_reachedOutside_25 (by decide) (fun c25 => ?_) (fun c25 => ?_)
          · skip
            refine kw_iconst (v := 0) dX9_reachedOutside_32 (by decide) ?_
            refine kw_iadd dX9_reachedOutside_33 ?_
            refine kw_top (v' := pi_ (nI (cntN (fun j => rch_ k j && !kb_ k (1 + i) j) (j + 1)))) (cnt_f (p := fun j => rch_ k j && !kb_ k (1 + i) j) (by simp only [b2_n0.mp c25]; simp)) ?_
            refine kw_istore_n dX9_reachedOutside_34 (Nat.le_of_ble_eq_true rfl) ?_
            refine kw_iinc dX9_reachedOutside_35 rfl (nI_i j) ?_
            refine kw_goto (tgt := 4) dX9_reachedOutside_38 (by decide) ?_
            exact ih (j + 1) (by omega) (by omega)
          · skip
            refine kw_iconst (v := 1) dX9_reachedOutside_28 (by decide) ?_
            refine kw_goto (tgt := 33) dX9_reachedOutside_29 (by decide) ?_
            refine kw_iadd dX9_reachedOutside_33 ?_
            refine kw_top (v' := pi_ (nI (cntN (fun j => rch_ k j && !kb_ k (1 + i) j) (j + 1)))) (cnt_t (p := fun j => rch_ k j && !kb_ k (1 + i) j) (by simp only [b2_n0.mp c19, b2_0.mp c25]; rfl)) ?_
            refine kw_istore_n dX9_reachedOutside_34 (Nat.le_of_ble_eq_true rfl) ?_
            refine kw_iinc dX9_reachedOutside_35 rfl (nI_i j) ?_
            refine kw_goto (tgt := 4) dX9_reachedOutside_38 (by decide) ?_
            exact ih (j + 1) (by omega) (by omega)
  refine kw_iconst (v := 0) dX9_reachedOutside_0 (by decide) ?_
  refine kw_istore_n dX9_reachedOutside_1 (Nat.le_of_ble_eq_true rfl) ?_
  refine kw_iconst (v := 0) dX9_reachedOutside_2 (by decide) ?_
  refine kw_istore_n dX9_reachedOutside_3 (Nat.le_of_ble_eq_true rfl) ?_
  exact loop (nb_ s + 1) 0 (by omega) (by omega)
set_option maxHeartbeats 4000000 in
set_option maxRecDepth 100000 in
theorem t_butFreed (l : Launch) (s : SG) (k : KG) (hb : nb_ s ≤ 80) : kw_F l yX9_reachedButFreed cX9_reachedButFreed 3 (Option.some Jvm.ClassFile.FieldType.int) { frames := 0, cells := 0, slots := 0, locals := 0 } [pr_ (3, 0)] (hC s k) (some (pi_ (nI (cntN (fun j => rch_ k j && !th_ s j) (nb_ s))))) (hC s k) := by
  refine kw_M_of RX9 "reachedButFreed" [some (pr_ (3, 0)), none, none] (by decide) rfl rfl rfl (Nat.le_of_ble_eq_true rfl) ?_
  intro D ad A
  refine kw_Kgen (fun K hK => ?_)
  have loop : ∀ (n_ : Nat) (j : Nat), nb_ s - j < n_ → j ≤ nb_ s → kw_G l D cX9_reachedButFreed RX9 (Option.some Jvm.ClassFile.FieldType.int) "reachedButFreed" { frames := 0, cells := 0, slots := 0, locals := 0 } A K ad (hC s k) 0 0 4 [some (pr_ (3, 0)), some (pi_ (nI (cntN (fun j => rch_ k j && !th_ s j) j))), some (pi_ (nI j))] [] := by
    intro n_
    induction n_ with
    | zero =>
      intro j hm_
      exact absurd hm_ (Nat.not_lt_zero _)
    | succ n_ ih =>
      intro j hm_ hj
      refine kw_iload_n dX9_reachedButFreed_4 rfl ?_
      refine kw_aload_n dX9_reachedButFreed_5 rfl ?_
      refine kw_get dX9_reachedButFreed_6 fl_X9_35 rfl rfl ?_
      refine kw_icmp_ge (tgt := 47) dX9_reachedButFreed_9 (by decide) (fun c9 => ?_) (fun c9 => ?_)
      · skip
        have e : j = nb_ s := Nat.le_antisymm hj (nI_le' (by omega) (by omega) c9)
        refine kw_iload_n dX9_reachedButFreed_47 rfl ?_
        exact kw_iret dX9_reachedButFreed_48 rfl (Nat.le_of_ble_eq_true rfl) (Nat.le_of_ble_eq_true rfl) (hK _ _ _ ⟨rfl, by rw [e], rfl⟩)
      · skip
        have hlt : j < nb_ s := nI_nle' (by omega) (by omega) c9
        refine kw_iload_n dX9_reachedButFreed_12 rfl ?_
        refine kw_aload_n dX9_reachedButFreed_13 rfl ?_
        refine kw_get dX9_reachedButFreed_14 fl_X9_23 rfl rfl ?_
        refine kw_iload_n dX9_reachedButFreed_17 rfl ?_
        refine kw_zaldN dX9_reachedButFreed_18 rfl (by omega) (by decide) ?_
        refine kw_if_eq (tgt := 38) dX9_reachedButFreed_19 (by decide) (fun c19 => ?_) (fun c19 => ?_)
        · skip
          refine kw_iconst (v := 0) dX9_reachedButFreed_38 (by decide) ?_
          refine kw_iadd dX9_reachedButFreed_39 ?_
          refine kw_top (v' := pi_ (nI (cntN (fun j => rch_ k j && !th_ s j) (j + 1)))) (cnt_f (p := fun j => rch_ k j && !th_ s j) (by simp only [b2_0.mp c19]; rfl)) ?_
          refine kw_istore_n dX9_reachedButFreed_40 (Nat.le_of_ble_eq_true rfl) ?_
          refine kw_iinc dX9_reachedButFreed_41 rfl (nI_i j) ?_
          refine kw_goto (tgt := 4) dX9_reachedButFreed_44 (by decide) ?_
          exact ih (j + 1) (by omega) (by omega)
        · skip
          refine kw_aload_n dX9_reachedButFreed_22 rfl ?_
          refine kw_get dX9_reachedButFreed_23 fl_X9_11 rfl rfl ?_
          refine kw_iload_n dX9_reachedButFreed_26 rfl ?_
          refine kw_aaldN dX9_reachedButFreed_27 rfl (by omega) (by decide) (if_pos hlt) ?_
          refine kw_get dX9_reachedButFreed_28 fl_X9_38 (hC_bl hlt) rfl ?_
          refine kw_if_eq (tgt := 38) dX9_reachedButFreed_31 (by decide) (fun c31 => ?_) (fun c31 => ?_)
          · skip
            refine kw_iconst (v := 0) dX9_reachedButFreed_38 (by decide) ?_
            refine kw_iadd dX9_reachedButFreed_39 ?_
            refine kw_top (v' := pi_ (nI (cntN (fun j => rch_ k j && !th_ s j) (j + 1)))) (cnt_f (p := fun j => rch_ k j && !th_ s j) (by simp only [not_b2 c31]; simp)) ?_
            refine kw_istore_n dX9_reachedButFreed_40 (Nat.le_of_ble_eq_true rfl) ?_
            refine kw_iinc dX9_reachedButFreed_41 rfl (nI_i j) ?_
            refine kw_goto (tgt := 4) dX9_reachedButFreed_44 (by decide) ?_
            exact ih (j + 1) (by omega) (by omega)
          · skip
            refine kw_iconst (v := 1) dX9_reachedButFreed_34 (by decide) ?_
            refine kw_goto (tgt := 39) dX9_reachedButFreed_35 (by decide) ?_
            refine kw_iadd dX9_reachedButFreed_39 ?_
            refine kw_top (v' := pi_ (nI (cntN (fun j => rch_ k j && !th_ s j) (j + 1)))) (cnt_t (p := fun j => rch_ k j && !th_ s j) (by simp only [b2_n0.mp c19, not_b2n c31]; rfl)) ?_
            refine kw_istore_n dX9_reachedButFreed_40 (Nat.le_of_ble_eq_true rfl) ?_
            refine kw_iinc dX9_reachedButFreed_41 rfl (nI_i j) ?_
            refine kw_goto (tgt := 4) dX9_reachedButFreed_44 (by decide) ?_
            exact ih (j + 1) (by omega) (by omega)
  refine kw_iconst (v := 0) dX9_reachedButFreed_0 (by decide) ?_
  refine kw_istore_n dX9_reachedButFreed_1 (Nat.le_of_ble_eq_true rfl) ?_
  refine kw_iconst (v := 0) dX9_reachedButFreed_2 (by decide) ?_
  refine kw_istore_n dX9_reachedButFreed_3 (Nat.le_of_ble_eq_true rfl) ?_
  exact loop (nb_ s + 1) 0 (by omega) (by omega)
