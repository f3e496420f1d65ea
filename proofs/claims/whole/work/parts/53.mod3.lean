/-! THE MODEL'S METHODS, 3: reach, take -/
def rC (s : SG) (b : Nat) : Nat → Bool := rfrom s b (fun _ => false)
theorem rC_sub {s : SG} {b : Nat} (hkd : kidsOk s) (hb : b < nb_ s) : ∀ q, rC s b q = true → q ≤ b :=
  rfrom_sub s (T := fun q => q ≤ b) hb (fun j hj h i hi => by have := (hkd j hj).2 i hi; omega) (Nat.le_refl _) (fun q h => by cases h)
theorem rC_f {s : SG} {b q : Nat} (hkd : kidsOk s) (hb : b < nb_ s) (hq : b < q) : rC s b q = false := by
  cases h : rC s b q with
  | false => rfl
  | true => have := rC_sub hkd hb q h; omega
theorem revL_skip {r : Nat → Bool} : ∀ (n j : Nat) (s : SG) (c : Nat), (∀ q, j ≤ q → r q = false) → revL r n j s c = (true, s, c)
  | 0, j, s, c, _ => rfl
  | n + 1, j, s, c, h => by
    rw [revL, h j (Nat.le_refl _)]
    exact revL_skip n (j + 1) s c (fun q hq => h q (by omega))
def tkS (s : SG) (b : Nat) : Bool × SG × Nat := revL (rC s b) (nb_ s) 0 s 0
def s_sp (s : SG) (r : Nat → Bool) (b : Nat) : SG := if ph_ s = 2 ∨ ph_ s = 3 then sGb s 1 (mkP s r (nb_ s)) else if ph_ s = 1 ∧ mk_ s b = false then s_line s b else s
def a_tk (s : SG) (j b : Nat) : Bool × SG := if (tkS s b).1 = true then (true, s_use (s_sp (tkS s b).2.1 (rC s b) b) j b) else (false, s_gone (tkS s b).2.1)
def a_take (s : SG) (x b : Int32) : Int32 × SG := if dn_ s = true then (-106, s) else if svOk s x = true then (if holdsB s b = true then (if dead_ s (cl_ x) = true then (-103, s_rn s (cl_ x)) else if um_ s (cl_ x) < 8 ∨ usesB s (cl_ x) b = true then (if (a_tk (s_rn s (cl_ x)) (cl_ x) (cl_ b)).1 = true then (nI (tkS (s_rn s (cl_ x)) (cl_ b)).2.2, (a_tk (s_rn s (cl_ x)) (cl_ x) (cl_ b)).2) else (-105, (a_tk (s_rn s (cl_ x)) (cl_ x) (cl_ b)).2)) else (-104, s_rn s (cl_ x))) else (-101, s_rn s (cl_ x))) else (-101, s)
theorem uma_28b (s : SG) (k : KG) (R : Nat → Bool) (i : Nat) (v : Bool) : kw_up (hM s (kB k 0 R)) (41, 28) (rb_ 80 (va_up R i v)) = hM s (kB k 0 (va_up R i v)) := (uma_28 s (kB k 0 R) i v).trans (by rw [kB2]; rfl)
theorem ini_s {R : Nat → Bool} {j b : Nat} {v : Bool} (h : ∀ q, q < j → R q = decide (q = b)) (hv : v = decide (j = b)) : ∀ q, q < j + 1 → va_up R j v q = decide (q = b) := by
  intro q hq
  simp only [va_up]
  by_cases e : q = j
  · rw [if_pos e, e]; exact hv
  · rw [if_neg e]; exact h q (by omega)
set_option maxHeartbeats 4000000 in
set_option maxRecDepth 100000 in
theorem n_reach (l : Launch) (s : SG) (k : KG) (hb : nb_ s ≤ 80) (hkd : kidsOk s) (hMI : MI s k) (b : Nat) (hbb : b < nb_ s) : kw_P l yX12_reachFrom cX12_reachFrom 4 (Option.none : Option Jvm.ClassFile.FieldType) { frames := 0, cells := 0, slots := 0, locals := 0 } [pr_ (40, 0), pi_ (nI b)] (hM s k) (fun r h' => r = none ∧ ∃ R, (∀ q, q < 80 → R q = rC s b q) ∧ h' = hM s (kB k 0 R)) := by
  refine kw_M_of RX12 "reachFrom" [some (pr_ (40, 0)), some (pi_ (nI b)), none, none] (by decide) rfl rfl rfl (Nat.le_of_ble_eq_true rfl) ?_
  intro D ad A
  refine kw_Kgen (fun K hK => ?_)
  have loop2 : ∀ (n_ : Nat) (n : Nat) (R : Nat → Bool), n < n_ → n ≤ b + 1 → (∀ q, q < 80 → rdown s n R q = rC s b q) → kw_G l D cX12_reachFrom RX12 (Option.none : Option Jvm.ClassFile.FieldType) "reachFrom" { frames := 0, cells := 0, slots := 0, locals := 0 } A K ad (hM s (kB k 0 R)) 0 0 32 [some (pr_ (40, 0)), some (pi_ (nI b)), some (pi_ (nI n - 1)), none] [] := by
    intro n_
    induction n_ with
    | zero =>
      intro n R hm_
      exact absurd hm_ (Nat.not_lt_zero _)
    | succ n_ ih =>
      intro n R hm_ hn hR
      refine kw_iload_n dX12_reachFrom_32 rfl ?_
      refine kw_if_lt (tgt := 85) dX12_reachFrom_33 (by decide) (fun c33 => ?_) (fun c33 => ?_)
      · skip
        have e : n = 0 := by
          cases n with
          | zero => rfl
          | succ n => rw [nI_pred] at c33; exact absurd c33 (nI_pos (by omega))
        subst e
        exact kw_vret dX12_reachFrom_85 rfl (Nat.le_of_ble_eq_true rfl) (Nat.le_of_ble_eq_true rfl) (hK _ _ _ ⟨rfl, rfl, R, hR, rfl⟩)
      · skip
        cases n with
        | zero => exact absurd (by decide) c33
        | succ n => ?_
        refine kw_lveq (lv' := [some (pr_ (40, 0)), some (pi_ (nI b)), some (pi_ (nI n)), none]) (by rw [nI_pred]) ?_
        obtain ⟨hk4, hkl⟩ := hkd n (by omega)
        have hmc := hMI.1 n (by omega)
        rw [rdown] at hR
        by_cases er : R n = true
        · rw [if_pos er] at hR
          have inner : ∀ (n_ : Nat) (i : Nat), cm_ s n - i < n_ → i ≤ cm_ s n → kw_G l D cX12_reachFrom RX12 (Option.none : Option Jvm.ClassFile.FieldType) "reachFrom" { frames := 0, cells := 0, slots := 0, locals := 0 } A K ad (hM s (kB k 0 (rcP s n R i))) 0 0 38 [some (pr_ (40, 0)), some (pi_ (nI b)), some (pi_ (nI n)), some (pi_ (nI i))] [] := by
            intro n_
            induction n_ with
            | zero =>
              intro i hm_
              exact absurd hm_ (Nat.not_lt_zero _)
            | succ n_ ih2 =>
              intro i hm_ hi
              refine kw_iload_n dX12_reachFrom_38 rfl ?_
              refine kw_aload_n dX12_reachFrom_39 rfl ?_
              refine kw_get dX12_reachFrom_40 fl_X12_27 rfl rfl ?_
              refine kw_iload_n dX12_reachFrom_43 rfl ?_
              refine kw_ialdN dX12_reachFrom_44 rfl (by omega) (by decide) ?_
              refine kw_icmp_ge (tgt := 79) dX12_reachFrom_45 (by decide) (fun c45 => ?_) (fun c45 => ?_)
              · skip
                have e : i = cm_ s n := Nat.le_antisymm hi (nI_le' (by omega) (by omega) c45)
                subst e
                refine kw_iinc dX12_reachFrom_79 rfl (nI_d _) ?_
                refine kw_goto (tgt := 32) dX12_reachFrom_82 (by decide) ?_
                refine kw_lvle (lv' := [some (pr_ (40, 0)), some (pi_ (nI b)), some (pi_ (nI n - 1)), none]) (kw_le_s (kw_le_s (kw_le_s (kw_le_n kw_le_0)))) ?_
                exact ih n _ (by omega) (by omega) hR
              · skip
                have hlt : i < cm_ s n := nI_nle' (by omega) (by omega) c45
                have hch := hkl i hlt
                refine kw_aload_n dX12_reachFrom_48 rfl ?_
                refine kw_get dX12_reachFrom_49 fl_X12_109 rfl rfl ?_
                refine kw_iload_n dX12_reachFrom_52 rfl ?_
                refine kw_zaldN dX12_reachFrom_53 rfl (by omega) (by decide) ?_
                refine kw_if_eq (tgt := 79) dX12_reachFrom_54 (by decide) (fun c54 => ?_) (fun c54 => ?_)
                · skip
                  have e54 : rcP s n R i n = false := b2_0.mp c54
                  rw [rcP, er] at e54
                  cases e54
                · skip
                  refine kw_aload_n dX12_reachFrom_57 rfl ?_
                  refine kw_get dX12_reachFrom_58 fl_X12_109 rfl rfl ?_
                  refine kw_aload_n dX12_reachFrom_61 rfl ?_
                  refine kw_get dX12_reachFrom_62 fl_X12_30 rfl rfl ?_
                  refine kw_iconst (v := (nI 4)) dX12_reachFrom_65 (by decide) ?_
                  refine kw_iload_n dX12_reachFrom_66 rfl ?_
                  refine kw_imul dX12_reachFrom_67 ?_
                  refine kw_top (v' := pi_ (nI (4 * n))) (by rw [nI_mul]) ?_
                  refine kw_iload_n dX12_reachFrom_68 rfl ?_
                  refine kw_iadd dX12_reachFrom_69 ?_
                  refine kw_top (v' := pi_ (nI (4 * n + i))) (by rw [nI_add]) ?_
                  refine kw_ialdN dX12_reachFrom_70 rfl (by omega) (by decide) ?_
                  refine kw_top (v' := pi_ (nI (ch_ s n i))) (by rw [← hmc i hlt]) ?_
                  refine kw_iconst (v := 1) dX12_reachFrom_71 (by decide) ?_
                  refine kw_top (v' := pi_ (b2 true)) rfl ?_
                  refine kw_zastN dX12_reachFrom_72 rfl (by omega) (by decide) ?_
                  refine kw_heq (h' := hM s (kB k 0 (rcP s n R (i + 1)))) ((uma_28b s k (rcP s n R i) (ch_ s n i) true).trans (by rw [rcP_s])) ?_
                  refine kw_iinc dX12_reachFrom_73 rfl (nI_i i) ?_
                  refine kw_goto (tgt := 38) dX12_reachFrom_76 (by decide) ?_
                  exact ih2 (i + 1) (by omega) (by omega)
          refine kw_iconst (v := 0) dX12_reachFrom_36 (by decide) ?_
          refine kw_istore_n dX12_reachFrom_37 (Nat.le_of_ble_eq_true rfl) ?_
          refine kw_heq (h' := hM s (kB k 0 (rcP s n R 0))) (by rw [rcP_0]) ?_
          exact inner (cm_ s n + 1) 0 (by omega) (by omega)
        rw [if_neg er] at hR
        refine kw_iconst (v := 0) dX12_reachFrom_36 (by decide) ?_
        refine kw_istore_n dX12_reachFrom_37 (Nat.le_of_ble_eq_true rfl) ?_
        refine kw_iload_n dX12_reachFrom_38 rfl ?_
        refine kw_aload_n dX12_reachFrom_39 rfl ?_
        refine kw_get dX12_reachFrom_40 fl_X12_27 rfl rfl ?_
        refine kw_iload_n dX12_reachFrom_43 rfl ?_
        refine kw_ialdN dX12_reachFrom_44 rfl (by omega) (by decide) ?_
        refine kw_icmp_ge (tgt := 79) dX12_reachFrom_45 (by decide) (fun c45 => ?_) (fun c45 => ?_)
        · skip
          refine kw_iinc dX12_reachFrom_79 rfl (nI_d _) ?_
          refine kw_goto (tgt := 32) dX12_reachFrom_82 (by decide) ?_
          refine kw_lvle (lv' := [some (pr_ (40, 0)), some (pi_ (nI b)), some (pi_ (nI n - 1)), none]) (kw_le_s (kw_le_s (kw_le_s (kw_le_n kw_le_0)))) ?_
          exact ih n R (by omega) (by omega) hR
        · skip
          refine kw_aload_n dX12_reachFrom_48 rfl ?_
          refine kw_get dX12_reachFrom_49 fl_X12_109 rfl rfl ?_
          refine kw_iload_n dX12_reachFrom_52 rfl ?_
          refine kw_zaldN dX12_reachFrom_53 rfl (by omega) (by decide) ?_
          refine kw_if_eq (tgt := 79) dX12_reachFrom_54 (by decide) (fun c54 => ?_) (fun c54 => ?_)
          · skip
            refine kw_iinc dX12_reachFrom_79 rfl (nI_d _) ?_
            refine kw_goto (tgt := 32) dX12_reachFrom_82 (by decide) ?_
            refine kw_lvle (lv' := [some (pr_ (40, 0)), some (pi_ (nI b)), some (pi_ (nI n - 1)), none]) (kw_le_s (kw_le_s (kw_le_s (kw_le_n kw_le_0)))) ?_
            exact ih n R (by omega) (by omega) hR
          · skip
            exact absurd (b2_n0.mp c54) er
  have loop : ∀ (n_ : Nat) (j : Nat) (R : Nat → Bool), 80 - j < n_ → j ≤ 80 → (∀ q, q < j → R q = decide (q = b)) → kw_G l D cX12_reachFrom RX12 (Option.none : Option Jvm.ClassFile.FieldType) "reachFrom" { frames := 0, cells := 0, slots := 0, locals := 0 } A K ad (hM s (kB k 0 R)) 0 0 2 [some (pr_ (40, 0)), some (pi_ (nI b)), some (pi_ (nI j)), none] [] := by
    intro n_
    induction n_ with
    | zero =>
      intro j R hm_
      exact absurd hm_ (Nat.not_lt_zero _)
    | succ n_ ih =>
      intro j R hm_ hj hR
      refine kw_iload_n dX12_reachFrom_2 rfl ?_
      refine kw_bipush (v := 80) dX12_reachFrom_3 (by decide) ?_
      refine kw_icmp_ge (tgt := 30) dX12_reachFrom_5 (by decide) (fun c5 => ?_) (fun c5 => ?_)
      · skip
        have e : j = 80 := Nat.le_antisymm hj (nI_le' (a := 80) (by omega) (by omega) c5)
        subst e
        refine kw_iload_n dX12_reachFrom_30 rfl ?_
        refine kw_istore_n dX12_reachFrom_31 (Nat.le_of_ble_eq_true rfl) ?_
        refine kw_lveq (lv' := [some (pr_ (40, 0)), some (pi_ (nI b)), some (pi_ (nI (b + 1) - 1)), none]) (by rw [nI_pred]; rfl) ?_
        refine loop2 (b + 2) (b + 1) R (by omega) (Nat.le_refl _) (fun q hq => ?_)
        refine rdown_congr s 80 (b + 1) R (va_up (fun _ => false) b true) (by omega) (fun q hq => ?_) q hq
        rw [hR q hq]
        simp only [va_up]
        by_cases e : q = b
        · rw [if_pos e, decide_eq_true e]
        · rw [if_neg e, decide_eq_false e]
      · skip
        have hlt : j < 80 := nI_nle' (a := 80) (by omega) (by omega) c5
        refine kw_aload_n dX12_reachFrom_8 rfl ?_
        refine kw_get dX12_reachFrom_9 fl_X12_109 rfl rfl ?_
        refine kw_iload_n dX12_reachFrom_12 rfl ?_
        refine kw_iload_n dX12_reachFrom_13 rfl ?_
        refine kw_iload_n dX12_reachFrom_14 rfl ?_
        refine kw_icmp_ne (tgt := 22) dX12_reachFrom_15 (by decide) (fun c15 => ?_) (fun c15 => ?_)
        · skip
          have e15 : ¬ j = b := fun q => c15 (by rw [q])
          refine kw_iconst (v := 0) dX12_reachFrom_22 (by decide) ?_
          refine kw_top (v' := pi_ (b2 false)) rfl ?_
          refine kw_zastN dX12_reachFrom_23 rfl hlt (by decide) ?_
          refine kw_heq (uma_28b s k R j false) ?_
          refine kw_iinc dX12_reachFrom_24 rfl (nI_i j) ?_
          refine kw_goto (tgt := 2) dX12_reachFrom_27 (by decide) ?_
          exact ih (j + 1) _ (by omega) (by omega) (ini_s hR (decide_eq_false e15).symm)
        · skip
          have e15 : j = b := nI_eq' (by omega) (by omega) c15
          refine kw_iconst (v := 1) dX12_reachFrom_18 (by decide) ?_
          refine kw_top (v' := pi_ (b2 true)) rfl ?_
          refine kw_goto (tgt := 23) dX12_reachFrom_19 (by decide) ?_
          refine kw_zastN dX12_reachFrom_23 rfl hlt (by decide) ?_
          refine kw_heq (uma_28b s k R j true) ?_
          refine kw_iinc dX12_reachFrom_24 rfl (nI_i j) ?_
          refine kw_goto (tgt := 2) dX12_reachFrom_27 (by decide) ?_
          exact ih (j + 1) _ (by omega) (by omega) (ini_s hR (decide_eq_true e15).symm)
  refine kw_iconst (v := 0) dX12_reachFrom_0 (by decide) ?_
  refine kw_istore_n dX12_reachFrom_1 (Nat.le_of_ble_eq_true rfl) ?_
  refine kw_heq (h' := hM s (kB k 0 (kb_ k 0))) (by rw [kB_id]) ?_
  exact loop 81 0 _ (by omega) (by omega) (fun q hq => absurd hq (Nat.not_lt_zero _))
theorem MI_rev {s : SG} {k : KG} (h : MI s k) (j : Nat) : MI (s_rev1 s j) k := MI_w1 h
theorem mkP_eq {t : SG} {R r : Nat → Bool} {b n : Nat} (hb : b < n) (h1 : ∀ q, q < b + 1 → R q = r q) (h2 : ∀ q, b < q → r q = false) : mkP t R (b + 1) = mkP t r n := by
  funext q
  unfold mkP
  by_cases e : q < b + 1
  · rw [h1 q e, decide_eq_true e, decide_eq_true (show q < n by omega)]
  · rw [decide_eq_false e, h2 q (by omega), Bool.false_and, Bool.and_false]
theorem rev1_e (t : SG) (q : Nat) : sN (sF (s_w1 t) 5 (va_up (wt_ (s_w1 t)) q 0)) 3 (nrv_ (s_w1 t) + 1) = s_rev1 t q := by
  unfold s_rev1 s_await
  rw [show wt_ (s_w1 t) = wt_ t by rw [wt_, fs_, wt_, fs_, s_w1_2], nrv_, s_w1_1]
theorem sGb_mk (t : SG) (k : KG) (R : Nat → Bool) (q : Nat) (v : Bool) : kw_up (hM (sGb t 1 (mkP t R q)) k) (41, 26) (rb_ 80 (va_up (mkP t R q) q v)) = hM (sGb t 1 (va_up (mkP t R q) q v)) k := (uma_26 (sGb t 1 (mkP t R q)) k q v).trans (by rw [sGb2]; rfl)
theorem mkP_or {t : SG} {R : Nat → Bool} {q : Nat} : va_up (mkP t R q) q (mk_ t q || R q) = mkP t R (q + 1) := by
  funext a
  simp only [va_up]
  by_cases e : a = q
  · rw [if_pos e]; unfold mkP; rw [e, decide_eq_true (Nat.lt_succ_self _), Bool.true_and]
  · rw [if_neg e]; unfold mkP; rw [show decide (a < q + 1) = decide (a < q) from decide_eq_decide.mpr ⟨fun h => by omega, fun h => by omega⟩]
theorem mkP_at {t : SG} {R : Nat → Bool} {q : Nat} : mkP t R q q = mk_ t q := by unfold mkP; rw [decide_eq_false (Nat.lt_irrefl _), Bool.false_and, Bool.or_false]
theorem kX2 (k : KG) (i : Nat) (a b : Int32) : kX (kX k i a) i b = kX k i b := by
  show (va_up (va_up k.1 i a) i b, k.2) = _
  rw [va_up2]
theorem s_rev1_ff (t : SG) (q : Nat) : us_ (s_rev1 t q) = us_ t := by show (s_w1 t).2.2.2.2.2.2.2 2 = _; rw [s_w1_2]
set_option maxHeartbeats 4000000 in
set_option maxRecDepth 100000 in
theorem n_taken (l : Launch) (s : SG) (k : KG) (hb : nb_ s ≤ 80) (hkd : kidsOk s) (hMI : MI s k) (hw : ∀ i, i < nb_ s → wt_ s i < 2 ^ 31) (hph : ph_ s ≤ 4) (hr : rt_ s < 944) (j b : Nat) (hj : j < 4) (hu : ∀ i, i < 4 → um_ s i ≤ 8) (hc : um_ s j < 8 ∨ usesB s j (nI b) = true) (hbb : b < nb_ s) : kw_P l yX12_taken cX12_taken 4 (Option.some Jvm.ClassFile.FieldType.boolean) { frames := 2, cells := 0, slots := 0, locals := 46 } [pr_ (40, 0), pi_ (nI j), pi_ (nI b)] (hM s k) (fun r h' => r = some (pi_ (b2 (a_tk s j b).1)) ∧ ∃ κ, mEq κ k ∧ MI (a_tk s j b).2 κ ∧ h' = hM (a_tk s j b).2 κ ∧ ((a_tk s j b).1 = true → ml_ κ = nI (tkS s b).2.2)) := by
  refine kw_M_of RX12 "taken" [some (pr_ (40, 0)), some (pi_ (nI j)), some (pi_ (nI b)), none] (by decide) rfl rfl rfl (Nat.le_of_ble_eq_true rfl) ?_
  intro D ad A
  refine kw_Kgen (fun K hK => ?_)
  refine kw_aload_n dX12_taken_0 rfl ?_
  refine kw_iconst (v := 0) dX12_taken_1 (by decide) ?_
  refine kw_put dX12_taken_2 fl_X12_205 rfl (kw_ok_i _) (Nat.le_of_ble_eq_true rfl) ?_
  refine kw_heq (um_ml s k (0 : Int32)) ?_
  refine kw_aload_n dX12_taken_5 rfl ?_
  refine kw_iload_n dX12_taken_6 rfl ?_
  refine kw_callV (As := [pi_ (nI b)]) (n_reach l s (kX k 2 0) hb hkd hMI b hbb) dX12_taken_7 cl_X12_208 rfl rfl rfl rfl (Nat.le_of_ble_eq_true rfl) ⟨(Nat.le_of_ble_eq_true rfl), (Nat.le_of_ble_eq_true rfl), (Nat.le_of_ble_eq_true rfl), (Nat.le_of_ble_eq_true rfl)⟩ (fun r2 h2 hp2 => ?_)
  obtain ⟨rfl, R, hR, rfl⟩ := hp2
  obtain ⟨W, hW⟩ : ∃ W, tkS s b = W := ⟨_, rfl⟩
  unfold a_tk at hK
  rw [hW] at hK
  refine kw_iconst (v := 0) dX12_taken_10 (by decide) ?_
  refine kw_istore_n dX12_taken_11 (Nat.le_of_ble_eq_true rfl) ?_
  have tail : ∀ (u : SG) (c : Nat) (i : Nat), MI u (kX (kB k 0 R) 2 (nI c)) → ph_ u ≤ 4 → rt_ u < 944 → um_ u = um_ s → us_ u = us_ s → nb_ u = nb_ s → (∀ K9, K9 = (if ph_ u = 1 ∧ mk_ u b = false then s_line u b else u) → ∀ (r : Option PV) (ad' : KK → Nat) (h' : PH), (ad' = ad ∧ r = some (pi_ 1) ∧ ∃ κ, mEq κ k ∧ MI (s_use K9 j b) κ ∧ h' = hM (s_use K9 j b) κ ∧ ml_ κ = nI c) → K r ad' h') → kw_G l D cX12_taken RX12 (Option.some Jvm.ClassFile.FieldType.boolean) "taken" { frames := 2, cells := 0, slots := 0, locals := 46 } A K ad (hM u (kX (kB k 0 R) 2 (nI c))) 0 0 135 [some (pr_ (40, 0)), some (pi_ (nI j)), some (pi_ (nI b)), some (pi_ (nI i))] [] := by
    intro u c i hMu hpu hru eum eus enb hK9
    have hc9 : ∀ t, um_ t = um_ s → us_ t = us_ s → (um_ t j < 8 ∨ usesB t j (nI b) = true) := fun t h1 h2 => by unfold usesB; rw [h1, h2]; exact hc
    refine kw_aload_n dX12_taken_135 rfl ?_
    refine kw_get dX12_taken_136 fl_X12_131 rfl rfl ?_
    refine kw_iconst (v := 1) dX12_taken_139 (by decide) ?_
    refine kw_icmp_ne (tgt := 172) dX12_taken_140 (by decide) (fun c140 => ?_) (fun c140 => ?_)
    · skip
      have e140 : ¬ ph_ u = 1 := fun q => c140 (by rw [q]; rfl)
      refine kw_aload_n dX12_taken_172 rfl ?_
      refine kw_iload_n dX12_taken_173 rfl ?_
      refine kw_iload_n dX12_taken_174 rfl ?_
      refine kw_callV (As := [pi_ (nI j), pi_ (nI b)]) (n_use l u (kX (kB k 0 R) 2 (nI c)) (by exact hMu) j hj (by exact fun i hi => by rw [show um_ u = um_ s from eum]; exact hu i hi) b (hc9 u eum eus)) dX12_taken_175 cl_X12_202 rfl rfl rfl rfl (Nat.le_of_ble_eq_true rfl) ⟨(Nat.le_of_ble_eq_true rfl), (Nat.le_of_ble_eq_true rfl), (Nat.le_of_ble_eq_true rfl), (Nat.le_of_ble_eq_true rfl)⟩ (fun r2 h2 hp2 => ?_)
      obtain ⟨rfl, κ, m1, m2, rfl, m3, m4⟩ := hp2
      refine kw_iconst (v := 1) dX12_taken_178 (by decide) ?_
      exact kw_zret dX12_taken_179 rfl (by decide) (Nat.le_of_ble_eq_true rfl) (Nat.le_of_ble_eq_true rfl) (hK9 _ ((if_neg (fun z => e140 z.1)).symm) _ _ _ ⟨rfl, rfl, κ, ⟨m1.1, m1.2⟩, m2, rfl, by rw [ml_, m3]; rfl⟩)
    · skip
      have e140 : ph_ u = 1 := nI_eq' (b := 1) (by omega) (by decide) c140
      refine kw_aload_n dX12_taken_143 rfl ?_
      refine kw_get dX12_taken_144 fl_X12_103 rfl rfl ?_
      refine kw_iload_n dX12_taken_147 rfl ?_
      refine kw_zaldN dX12_taken_148 rfl (by omega) (by decide) ?_
      refine kw_if_ne (tgt := 172) dX12_taken_149 (by decide) (fun c149 => ?_) (fun c149 => ?_)
      · skip
        have e149 := b2_n0.mp c149
        refine kw_aload_n dX12_taken_172 rfl ?_
        refine kw_iload_n dX12_taken_173 rfl ?_
        refine kw_iload_n dX12_taken_174 rfl ?_
        refine kw_callV (As := [pi_ (nI j), pi_ (nI b)]) (n_use l u (kX (kB k 0 R) 2 (nI c)) (by exact hMu) j hj (by exact fun i hi => by rw [show um_ u = um_ s from eum]; exact hu i hi) b (hc9 u eum eus)) dX12_taken_175 cl_X12_202 rfl rfl rfl rfl (Nat.le_of_ble_eq_true rfl) ⟨(Nat.le_of_ble_eq_true rfl), (Nat.le_of_ble_eq_true rfl), (Nat.le_of_ble_eq_true rfl), (Nat.le_of_ble_eq_true rfl)⟩ (fun r2 h2 hp2 => ?_)
        obtain ⟨rfl, κ, m1, m2, rfl, m3, m4⟩ := hp2
        refine kw_iconst (v := 1) dX12_taken_178 (by decide) ?_
        exact kw_zret dX12_taken_179 rfl (by decide) (Nat.le_of_ble_eq_true rfl) (Nat.le_of_ble_eq_true rfl) (hK9 _ ((if_neg (fun z => by rw [e149] at z; exact absurd z.2 (by decide))).symm) _ _ _ ⟨rfl, rfl, κ, ⟨m1.1, m1.2⟩, m2, rfl, by rw [ml_, m3]; rfl⟩)
      · skip
        have e149 := b2_0.mp c149
        refine kw_aload_n dX12_taken_152 rfl ?_
        refine kw_get dX12_taken_153 fl_X12_106 rfl rfl ?_
        refine kw_aload_n dX12_taken_156 rfl ?_
        refine kw_get dX12_taken_157 fl_X12_215 rfl rfl ?_
        refine kw_iload_n dX12_taken_160 rfl ?_
        refine kw_iastN dX12_taken_161 rfl (by omega) (by decide) ?_
        refine kw_heq (uma_27 u _ (rt_ u) b) ?_
        refine kw_aload_n dX12_taken_162 rfl ?_
        refine kw_dup dX12_taken_163 rfl ?_
        refine kw_get dX12_taken_164 fl_X12_215 rfl rfl ?_
        refine kw_iconst (v := 1) dX12_taken_167 (by decide) ?_
        refine kw_iadd dX12_taken_168 ?_
        refine kw_top (v' := pi_ (nI (rt_ u + 1))) (by rw [← nI_1]) ?_
        refine kw_put dX12_taken_169 fl_X12_215 rfl (kw_ok_i _) (Nat.le_of_ble_eq_true rfl) ?_
        refine kw_heq (h' := hM (s_line u b) (kX (kB k 0 R) 2 (nI c))) (um_rt _ _ (rt_ u + 1)) ?_
        refine kw_aload_n dX12_taken_172 rfl ?_
        refine kw_iload_n dX12_taken_173 rfl ?_
        refine kw_iload_n dX12_taken_174 rfl ?_
        refine kw_callV (As := [pi_ (nI j), pi_ (nI b)]) (n_use l (s_line u b) (kX (kB k 0 R) 2 (nI c)) (by exact hMu) j hj (by exact fun i hi => by rw [show um_ (s_line u b) = um_ s from eum]; exact hu i hi) b (hc9 (s_line u b) eum eus)) dX12_taken_175 cl_X12_202 rfl rfl rfl rfl (Nat.le_of_ble_eq_true rfl) ⟨(Nat.le_of_ble_eq_true rfl), (Nat.le_of_ble_eq_true rfl), (Nat.le_of_ble_eq_true rfl), (Nat.le_of_ble_eq_true rfl)⟩ (fun r2 h2 hp2 => ?_)
        obtain ⟨rfl, κ, m1, m2, rfl, m3, m4⟩ := hp2
        refine kw_iconst (v := 1) dX12_taken_178 (by decide) ?_
        exact kw_zret dX12_taken_179 rfl (by decide) (Nat.le_of_ble_eq_true rfl) (Nat.le_of_ble_eq_true rfl) (hK9 _ ((if_pos ⟨e140, e149⟩).symm) _ _ _ ⟨rfl, rfl, κ, ⟨m1.1, m1.2⟩, m2, rfl, by rw [ml_, m3]; rfl⟩)
  have marks : ∀ (t : SG) (c : Nat), W = (true, t, c) → MI t (kX (kB k 0 R) 2 (nI c)) → ph_ t = ph_ s → rt_ t = rt_ s → um_ t = um_ s → us_ t = us_ s → nb_ t = nb_ s → kw_G l D cX12_taken RX12 (Option.some Jvm.ClassFile.FieldType.boolean) "taken" { frames := 2, cells := 0, slots := 0, locals := 46 } A K ad (hM t (kX (kB k 0 R) 2 (nI c))) 0 0 79 [some (pr_ (40, 0)), some (pi_ (nI j)), some (pi_ (nI b)), some (pi_ (nI 0))] [] := by
    intro t c hWt hMt eph ert eum eus enb
    rw [hWt, if_pos rfl] at hK
    have rf : ∀ q, b < q → rC s b q = false := fun q hq => rC_f hkd hbb hq
    by_cases hp : ph_ t = 2 ∨ ph_ t = 3
    · skip
      have lm : ∀ (n_ : Nat) (q : Nat), b + 1 - q < n_ → q ≤ b + 1 → kw_G l D cX12_taken RX12 (Option.some Jvm.ClassFile.FieldType.boolean) "taken" { frames := 2, cells := 0, slots := 0, locals := 46 } A K ad (hM (sGb t 1 (mkP t R q)) (kX (kB k 0 R) 2 (nI c))) 0 0 79 [some (pr_ (40, 0)), some (pi_ (nI j)), some (pi_ (nI b)), some (pi_ (nI q))] [] := by
        intro n_
        induction n_ with
        | zero =>
          intro q hm_
          exact absurd hm_ (Nat.not_lt_zero _)
        | succ n_ ih =>
          intro q hm_ hq
          refine kw_iload_n dX12_taken_79 rfl ?_
          refine kw_iload_n dX12_taken_80 rfl ?_
          refine kw_icmp_gt (tgt := 135) dX12_taken_81 (by decide) (fun c81 => ?_) (fun c81 => ?_)
          · skip
            have e81 : q = b + 1 := by have := nI_lt' (a := b) (b := q) (by omega) (by omega) c81; omega
            subst e81
            refine tail (sGb t 1 (mkP t R (b + 1))) c (b + 1) (by exact hMt) (by show ph_ t ≤ 4; omega) (by show rt_ t < 944; omega) eum eus enb (fun K9 hK9 r ad' h' hx => hK r ad' h' ?_)
            have e9 : K9 = s_sp t (rC s b) b := by
              rw [hK9, s_sp, if_pos hp, if_neg (fun z => by have z1 : ph_ t = 1 := z.1; omega), mkP_eq (n := nb_ t) (by omega) (fun q hq => hR q (by omega)) rf]
            rw [e9] at hx
            obtain ⟨x1, x2, κ, x3, x4, x5, x6⟩ := hx
            exact ⟨x1, x2, κ, x3, x4, x5, fun _ => x6⟩
          · skip
            have e81 := nI_nlt' (a := b) (b := q) (by omega) (by omega) c81
            refine kw_aload_n dX12_taken_84 rfl ?_
            refine kw_get dX12_taken_85 fl_X12_131 rfl rfl ?_
            refine kw_iconst (v := 2) dX12_taken_88 (by decide) ?_
            refine kw_icmp_eq (tgt := 100) dX12_taken_89 (by decide) (fun c89 => ?_) (fun c89 => ?_)
            · skip
              refine kw_aload_n dX12_taken_100 rfl ?_
              refine kw_get dX12_taken_101 fl_X12_103 rfl rfl ?_
              refine kw_iload_n dX12_taken_104 rfl ?_
              refine kw_aload_n dX12_taken_105 rfl ?_
              refine kw_get dX12_taken_106 fl_X12_103 rfl rfl ?_
              refine kw_iload_n dX12_taken_109 rfl ?_
              refine kw_zaldN dX12_taken_110 rfl (by omega) (by decide) ?_
              refine kw_top (v' := pi_ (b2 (mk_ t q))) (by show pi_ (b2 (mkP t R q q)) = _; rw [mkP_at]) ?_
              refine kw_if_ne (tgt := 123) dX12_taken_111 (by decide) (fun c111 => ?_) (fun c111 => ?_)
              · skip
                have e111 := b2_n0.mp c111
                refine kw_iconst (v := 1) dX12_taken_123 (by decide) ?_
                refine kw_goto (tgt := 128) dX12_taken_124 (by decide) ?_
                refine kw_top (v' := pi_ (b2 (mk_ t q || R q))) (by rw [e111]; rfl) ?_
                refine kw_zastN dX12_taken_128 rfl (by omega) (by decide) ?_
                refine kw_heq (h' := hM (sGb t 1 (mkP t R (q + 1))) (kX (kB k 0 R) 2 (nI c))) ((sGb_mk t _ R q _).trans (by rw [mkP_or])) ?_
                refine kw_iinc dX12_taken_129 rfl (nI_i q) ?_
                refine kw_goto (tgt := 79) dX12_taken_132 (by decide) ?_
                exact ih (q + 1) (by omega) (by omega)
              · skip
                have e111 := b2_0.mp c111
                refine kw_aload_n dX12_taken_114 rfl ?_
                refine kw_get dX12_taken_115 fl_X12_109 rfl rfl ?_
                refine kw_iload_n dX12_taken_118 rfl ?_
                refine kw_zaldN dX12_taken_119 rfl (by omega) (by decide) ?_
                refine kw_if_eq (tgt := 127) dX12_taken_120 (by decide) (fun c120 => ?_) (fun c120 => ?_)
                · skip
                  have e120 : R q = false := b2_0.mp c120
                  refine kw_iconst (v := 0) dX12_taken_127 (by decide) ?_
                  refine kw_top (v' := pi_ (b2 (mk_ t q || R q))) (by rw [e111, e120]; rfl) ?_
                  refine kw_zastN dX12_taken_128 rfl (by omega) (by decide) ?_
                  refine kw_heq (h' := hM (sGb t 1 (mkP t R (q + 1))) (kX (kB k 0 R) 2 (nI c))) ((sGb_mk t _ R q _).trans (by rw [mkP_or])) ?_
                  refine kw_iinc dX12_taken_129 rfl (nI_i q) ?_
                  refine kw_goto (tgt := 79) dX12_taken_132 (by decide) ?_
                  exact ih (q + 1) (by omega) (by omega)
                · skip
                  have e120 : R q = true := b2_n0.mp c120
                  refine kw_iconst (v := 1) dX12_taken_123 (by decide) ?_
                  refine kw_goto (tgt := 128) dX12_taken_124 (by decide) ?_
                  refine kw_top (v' := pi_ (b2 (mk_ t q || R q))) (by rw [e111, e120]; rfl) ?_
                  refine kw_zastN dX12_taken_128 rfl (by omega) (by decide) ?_
                  refine kw_heq (h' := hM (sGb t 1 (mkP t R (q + 1))) (kX (kB k 0 R) 2 (nI c))) ((sGb_mk t _ R q _).trans (by rw [mkP_or])) ?_
                  refine kw_iinc dX12_taken_129 rfl (nI_i q) ?_
                  refine kw_goto (tgt := 79) dX12_taken_132 (by decide) ?_
                  exact ih (q + 1) (by omega) (by omega)
            · skip
              have e89 : ph_ t ≠ 2 := fun z => c89 (by show nI (ph_ t) = _; rw [z]; rfl)
              refine kw_aload_n dX12_taken_92 rfl ?_
              refine kw_get dX12_taken_93 fl_X12_131 rfl rfl ?_
              refine kw_iconst (v := 3) dX12_taken_96 (by decide) ?_
              refine kw_icmp_ne (tgt := 135) dX12_taken_97 (by decide) (fun c97 => ?_) (fun c97 => ?_)
              · skip
                exact absurd (show nI (ph_ t) = 3 by rw [show ph_ t = 3 by omega]; rfl) c97
              · skip
                refine kw_aload_n dX12_taken_100 rfl ?_
                refine kw_get dX12_taken_101 fl_X12_103 rfl rfl ?_
                refine kw_iload_n dX12_taken_104 rfl ?_
                refine kw_aload_n dX12_taken_105 rfl ?_
                refine kw_get dX12_taken_106 fl_X12_103 rfl rfl ?_
                refine kw_iload_n dX12_taken_109 rfl ?_
                refine kw_zaldN dX12_taken_110 rfl (by omega) (by decide) ?_
                refine kw_top (v' := pi_ (b2 (mk_ t q))) (by show pi_ (b2 (mkP t R q q)) = _; rw [mkP_at]) ?_
                refine kw_if_ne (tgt := 123) dX12_taken_111 (by decide) (fun c111 => ?_) (fun c111 => ?_)
                · skip
                  have e111 := b2_n0.mp c111
                  refine kw_iconst (v := 1) dX12_taken_123 (by decide) ?_
                  refine kw_goto (tgt := 128) dX12_taken_124 (by decide) ?_
                  refine kw_top (v' := pi_ (b2 (mk_ t q || R q))) (by rw [e111]; rfl) ?_
                  refine kw_zastN dX12_taken_128 rfl (by omega) (by decide) ?_
                  refine kw_heq (h' := hM (sGb t 1 (mkP t R (q + 1))) (kX (kB k 0 R) 2 (nI c))) ((sGb_mk t _ R q _).trans (by rw [mkP_or])) ?_
                  refine kw_iinc dX12_taken_129 rfl (nI_i q) ?_
                  refine kw_goto (tgt := 79) dX12_taken_132 (by decide) ?_
                  exact ih (q + 1) (by omega) (by omega)
                · skip
                  have e111 := b2_0.mp c111
                  refine kw_aload_n dX12_taken_114 rfl ?_
                  refine kw_get dX12_taken_115 fl_X12_109 rfl rfl ?_
                  refine kw_iload_n dX12_taken_118 rfl ?_
                  refine kw_zaldN dX12_taken_119 rfl (by omega) (by decide) ?_
                  refine kw_if_eq (tgt := 127) dX12_taken_120 (by decide) (fun c120 => ?_) (fun c120 => ?_)
                  · skip
                    have e120 : R q = false := b2_0.mp c120
                    refine kw_iconst (v := 0) dX12_taken_127 (by decide) ?_
                    refine kw_top (v' := pi_ (b2 (mk_ t q || R q))) (by rw [e111, e120]; rfl) ?_
                    refine kw_zastN dX12_taken_128 rfl (by omega) (by decide) ?_
                    refine kw_heq (h' := hM (sGb t 1 (mkP t R (q + 1))) (kX (kB k 0 R) 2 (nI c))) ((sGb_mk t _ R q _).trans (by rw [mkP_or])) ?_
                    refine kw_iinc dX12_taken_129 rfl (nI_i q) ?_
                    refine kw_goto (tgt := 79) dX12_taken_132 (by decide) ?_
                    exact ih (q + 1) (by omega) (by omega)
                  · skip
                    have e120 : R q = true := b2_n0.mp c120
                    refine kw_iconst (v := 1) dX12_taken_123 (by decide) ?_
                    refine kw_goto (tgt := 128) dX12_taken_124 (by decide) ?_
                    refine kw_top (v' := pi_ (b2 (mk_ t q || R q))) (by rw [e111, e120]; rfl) ?_
                    refine kw_zastN dX12_taken_128 rfl (by omega) (by decide) ?_
                    refine kw_heq (h' := hM (sGb t 1 (mkP t R (q + 1))) (kX (kB k 0 R) 2 (nI c))) ((sGb_mk t _ R q _).trans (by rw [mkP_or])) ?_
                    refine kw_iinc dX12_taken_129 rfl (nI_i q) ?_
                    refine kw_goto (tgt := 79) dX12_taken_132 (by decide) ?_
                    exact ih (q + 1) (by omega) (by omega)
      refine kw_heq (h' := hM (sGb t 1 (mkP t R 0)) (kX (kB k 0 R) 2 (nI c))) (by rw [mkP_0, sGb_id]) ?_
      exact lm (b + 2) 0 (by omega) (by omega)
    refine kw_iload_n dX12_taken_79 rfl ?_
    refine kw_iload_n dX12_taken_80 rfl ?_
    refine kw_icmp_gt (tgt := 135) dX12_taken_81 (by decide) (fun c81 => ?_) (fun c81 => ?_)
    · skip
      exact absurd (nI_lt' (a := b) (b := 0) (by omega) (by decide) c81) (by omega)
    · skip
      refine kw_aload_n dX12_taken_84 rfl ?_
      refine kw_get dX12_taken_85 fl_X12_131 rfl rfl ?_
      refine kw_iconst (v := 2) dX12_taken_88 (by decide) ?_
      refine kw_icmp_eq (tgt := 100) dX12_taken_89 (by decide) (fun c89 => ?_) (fun c89 => ?_)
      · skip
        exact absurd (Or.inl (nI_eq' (b := 2) (by omega) (by decide) c89)) hp
      · skip
        refine kw_aload_n dX12_taken_92 rfl ?_
        refine kw_get dX12_taken_93 fl_X12_131 rfl rfl ?_
        refine kw_iconst (v := 3) dX12_taken_96 (by decide) ?_
        refine kw_icmp_ne (tgt := 135) dX12_taken_97 (by decide) (fun c97 => ?_) (fun c97 => ?_)
        · skip
          refine tail t c 0 hMt (by omega) (by omega) eum eus enb (fun K9 hK9 r ad' h' hx => hK r ad' h' ?_)
          have e9 : K9 = s_sp t (rC s b) b := by rw [hK9, s_sp, if_neg hp]
          rw [e9] at hx
          obtain ⟨x1, x2, κ, x3, x4, x5, x6⟩ := hx
          exact ⟨x1, x2, κ, x3, x4, x5, fun _ => x6⟩
        · skip
          exact absurd (Or.inr (nI_eq' (b := 3) (by omega) (by decide) c97)) hp
  have loop1 : ∀ (n_ : Nat) (q : Nat) (t : SG) (c : Nat), b + 1 - q < n_ → q ≤ b + 1 → revL (rC s b) (nb_ s - q) q t c = W → (∀ i, i ≠ 3 → t.1 i = s.1 i) → um_ t = um_ s → us_ t = us_ s → True → MI t k → (∀ i, i < nb_ s → wt_ t i < 2 ^ 31) → c ≤ q → kw_G l D cX12_taken RX12 (Option.some Jvm.ClassFile.FieldType.boolean) "taken" { frames := 2, cells := 0, slots := 0, locals := 46 } A K ad (hM t (kX (kB k 0 R) 2 (nI c))) 0 0 12 [some (pr_ (40, 0)), some (pi_ (nI j)), some (pi_ (nI b)), some (pi_ (nI q))] [] := by
    intro n_
    induction n_ with
    | zero =>
      intro q t c hm_
      exact absurd hm_ (Nat.not_lt_zero _)
    | succ n_ ih =>
      intro q t c hm_ hq hW1 eph eum eus e_ hMt hwt hcb
      refine kw_iload_n dX12_taken_12 rfl ?_
      refine kw_iload_n dX12_taken_13 rfl ?_
      refine kw_icmp_gt (tgt := 77) dX12_taken_14 (by decide) (fun c14 => ?_) (fun c14 => ?_)
      · skip
        have e14 : q = b + 1 := by have := nI_lt' (a := b) (b := q) (by omega) (by omega) c14; omega
        have hWt : W = (true, t, c) := by rw [← hW1]; exact revL_skip _ _ _ _ (fun z hz => rC_f hkd hbb (by omega))
        refine kw_iconst (v := 0) dX12_taken_77 (by decide) ?_
        refine kw_istore_n dX12_taken_78 (Nat.le_of_ble_eq_true rfl) ?_
        exact marks t c hWt hMt (eph 10 (by decide)) (eph 12 (by decide)) eum eus (eph 1 (by decide))
      · skip
        have e14 := nI_nlt' (a := b) (b := q) (by omega) (by omega) c14
        obtain ⟨d, hd9⟩ : ∃ d, nb_ s - q = d + 1 := ⟨nb_ s - q - 1, by omega⟩
        have hRq : R q = rC s b q := hR q (by omega)
        rw [hd9, revL, ← hRq] at hW1
        have hwq := hwt q (by omega)
        have hn1 : ∀ z, nb_ s - (q + 1) = z → z = d := fun z hz => by omega
        refine kw_aload_n dX12_taken_17 rfl ?_
        refine kw_get dX12_taken_18 fl_X12_109 rfl rfl ?_
        refine kw_iload_n dX12_taken_21 rfl ?_
        refine kw_zaldN dX12_taken_22 rfl (by omega) (by decide) ?_
        refine kw_if_eq (tgt := 71) dX12_taken_23 (by decide) (fun c23 => ?_) (fun c23 => ?_)
        · skip
          have e23 : R q = false := b2_0.mp c23
          rw [e23, Bool.false_and, if_neg (by decide)] at hW1
          refine kw_iinc dX12_taken_71 rfl (nI_i q) ?_
          refine kw_goto (tgt := 12) dX12_taken_74 (by decide) ?_
          exact ih (q + 1) t c (by omega) (by omega) (by rw [show nb_ s - (q + 1) = d by omega]; exact hW1) eph eum eus trivial hMt hwt (by omega)
        · skip
          have e23 : R q = true := b2_n0.mp c23
          refine kw_aload_n dX12_taken_26 rfl ?_
          refine kw_get dX12_taken_27 fl_X12_43 rfl rfl ?_
          refine kw_iload_n dX12_taken_30 rfl ?_
          refine kw_ialdN dX12_taken_31 rfl (by omega) (by decide) ?_
          refine kw_if_le (tgt := 71) dX12_taken_32 (by decide) (fun c32 => ?_) (fun c32 => ?_)
          · skip
            have e32 : ¬ 0 < wt_ t q := fun z => absurd c32 (nI_nle z hwq)
            rw [e23, Bool.true_and, decide_eq_false e32, if_neg (by decide)] at hW1
            refine kw_iinc dX12_taken_71 rfl (nI_i q) ?_
            refine kw_goto (tgt := 12) dX12_taken_74 (by decide) ?_
            exact ih (q + 1) t c (by omega) (by omega) (by rw [show nb_ s - (q + 1) = d by omega]; exact hW1) eph eum eus trivial hMt hwt (by omega)
          · skip
            have e32 : 0 < wt_ t q := Nat.pos_of_ne_zero (fun z => c32 (by rw [z]; decide))
            rw [e23, Bool.true_and, decide_eq_true e32, if_pos rfl] at hW1
            by_cases hcut : cut_ t = 0
            · rw [if_pos hcut] at hW1
              rw [← hW1, if_neg (fun z => by cases z)] at hK
              refine kw_aload_n dX12_taken_35 rfl ?_
              refine kw_callVf (As := []) (n_write0 l t (kX (kB k 0 R) 2 (nI c)) hcut) dX12_taken_36 cl_X12_191 rfl rfl rfl rfl (Nat.le_of_ble_eq_true rfl) ⟨(Nat.le_of_ble_eq_true rfl), (Nat.le_of_ble_eq_true rfl), (Nat.le_of_ble_eq_true rfl), (Nat.le_of_ble_eq_true rfl)⟩ ?_
              refine kw_if_ne (tgt := 44) dX12_taken_39 (by decide) (fun c39 => ?_) (fun c39 => ?_)
              · skip
                exact absurd rfl c39
              · skip
                refine kw_iconst (v := 0) dX12_taken_42 (by decide) ?_
                exact kw_zret dX12_taken_43 rfl (by decide) (Nat.le_of_ble_eq_true rfl) (Nat.le_of_ble_eq_true rfl) (hK _ _ _ ⟨rfl, rfl, (kX (kB k 0 R) 2 (nI c)), ⟨rfl, rfl⟩, MI_lost hMt, rfl, fun z => by cases z⟩)
            rw [if_neg hcut] at hW1
            refine kw_aload_n dX12_taken_35 rfl ?_
            refine kw_callVf (As := []) (n_write1 l t (kX (kB k 0 R) 2 (nI c)) hcut) dX12_taken_36 cl_X12_191 rfl rfl rfl rfl (Nat.le_of_ble_eq_true rfl) ⟨(Nat.le_of_ble_eq_true rfl), (Nat.le_of_ble_eq_true rfl), (Nat.le_of_ble_eq_true rfl), (Nat.le_of_ble_eq_true rfl)⟩ ?_
            refine kw_if_ne (tgt := 44) dX12_taken_39 (by decide) (fun c39 => ?_) (fun c39 => ?_)
            · skip
              refine kw_aload_n dX12_taken_44 rfl ?_
              refine kw_get dX12_taken_45 fl_X12_43 rfl rfl ?_
              refine kw_iload_n dX12_taken_48 rfl ?_
              refine kw_iconst (v := 0) dX12_taken_49 (by decide) ?_
              refine kw_top (v' := pi_ (nI 0)) rfl ?_
              refine kw_iastN dX12_taken_50 rfl (by omega) (by decide) ?_
              refine kw_heq (uma_7 (s_w1 t) (kX (kB k 0 R) 2 (nI c)) q 0) ?_
              refine kw_aload_n dX12_taken_51 rfl ?_
              refine kw_dup dX12_taken_52 rfl ?_
              refine kw_get dX12_taken_53 fl_X12_212 rfl rfl ?_
              refine kw_iconst (v := 1) dX12_taken_56 (by decide) ?_
              refine kw_iadd dX12_taken_57 ?_
              refine kw_top (v' := pi_ (nI (nrv_ (s_w1 t) + 1))) (by rw [← nI_1]) ?_
              refine kw_put dX12_taken_58 fl_X12_212 rfl (kw_ok_i _) (Nat.le_of_ble_eq_true rfl) ?_
              refine kw_heq (h' := hM (s_rev1 t q) (kX (kB k 0 R) 2 (nI c))) ((um_nrv (sF (s_w1 t) 5 (va_up (wt_ (s_w1 t)) q 0)) (kX (kB k 0 R) 2 (nI c)) (nrv_ (s_w1 t) + 1)).trans (by rw [rev1_e])) ?_
              refine kw_aload_n dX12_taken_61 rfl ?_
              refine kw_dup dX12_taken_62 rfl ?_
              refine kw_get dX12_taken_63 fl_X12_205 rfl rfl ?_
              refine kw_iconst (v := 1) dX12_taken_66 (by decide) ?_
              refine kw_iadd dX12_taken_67 ?_
              refine kw_top (v' := pi_ (nI (c + 1))) (by rw [← nI_1]; rfl) ?_
              refine kw_put dX12_taken_68 fl_X12_205 rfl (kw_ok_i _) (Nat.le_of_ble_eq_true rfl) ?_
              refine kw_heq (h' := hM (s_rev1 t q) (kX (kB k 0 R) 2 (nI (c + 1)))) ((um_ml (s_rev1 t q) (kX (kB k 0 R) 2 (nI c)) (nI (c + 1))).trans (by rw [kX2])) ?_
              refine kw_iinc dX12_taken_71 rfl (nI_i q) ?_
              refine kw_goto (tgt := 12) dX12_taken_74 (by decide) ?_
              exact ih (q + 1) (s_rev1 t q) (c + 1) (by omega) (by omega) (by rw [show nb_ s - (q + 1) = d by omega]; exact hW1) (fun i hi => (s_rev1_1 t q i hi).trans (eph i hi)) (by rw [um_, s_rev1_f t q 14 (by decide)]; exact eum) (by rw [s_rev1_ff]; exact eus) trivial (MI_rev hMt q) (va_up_all (p := fun z => z < 2 ^ 31) hwt (by decide)) (by omega)
            · skip
              exact absurd c39 (by decide)
  refine kw_heq (h' := hM s (kX (kB k 0 R) 2 (nI 0))) rfl ?_
  exact loop1 (b + 2) 0 s 0 (by omega) (by omega) hW (fun _ _ => rfl) rfl rfl trivial hMI hw (by omega)
set_option maxHeartbeats 4000000 in
set_option maxRecDepth 100000 in
theorem M_take (l : Launch) (s : SG) (k : KG) (hMI : MI s k) (hb : nb_ s ≤ 80) (hkd : kidsOk s) (hw : ∀ i, i < nb_ s → wt_ s i < 2 ^ 31) (hph : ph_ s ≤ 4) (hr : rt_ s < 944) (hu : ∀ i, i < 4 → um_ s i ≤ 8) (x b : Int32) : kw_P l yX12_take cX12_take 4 (Option.some Jvm.ClassFile.FieldType.int) { frames := 3, cells := 0, slots := 0, locals := 69 } [pr_ (40, 0), pi_ x, pi_ b] (hM s k) (fun r h' => r = some (pi_ (a_take s x b).1) ∧ mW (a_take s x b).2 k h') := by
  refine kw_M_of RX12 "take" [some (pr_ (40, 0)), some (pi_ x), some (pi_ b), none] (by decide) rfl rfl rfl (Nat.le_of_ble_eq_true rfl) ?_
  intro D ad A
  refine kw_Kgen (fun K hK => ?_)
  refine kw_aload_n dX12_take_0 rfl ?_
  refine kw_get dX12_take_1 fl_X12_127 rfl rfl ?_
  refine kw_if_eq (tgt := 10) dX12_take_4 (by decide) (fun c4 => ?_) (fun c4 => ?_)
  · skip
    have hd : ¬ dn_ s = true := by rw [b2_0.mp c4]; decide
    refine kw_aload_n dX12_take_10 rfl ?_
    refine kw_iload_n dX12_take_11 rfl ?_
    refine kw_callVf (As := [pi_ x]) (n_isSaver l s k x) dX12_take_12 cl_X12_165 rfl rfl rfl rfl (Nat.le_of_ble_eq_true rfl) ⟨(Nat.le_of_ble_eq_true rfl), (Nat.le_of_ble_eq_true rfl), (Nat.le_of_ble_eq_true rfl), (Nat.le_of_ble_eq_true rfl)⟩ ?_
    refine kw_if_ne (tgt := 21) dX12_take_15 (by decide) (fun c15 => ?_) (fun c15 => ?_)
    · skip
      have e15 := b2_n0.mp c15
      obtain ⟨j, hj, e16⟩ := anyN_iff.mp e15
      rw [Bool.and_eq_true] at e16
      have ex := of_decide_eq_true e16.1
      subst ex
      have ecl : cl_ (nI j) = j := nI_clamp (by omega)
      rw [a_take, if_neg hd, if_pos e15, ecl] at hK
      obtain ⟨y, hy, -⟩ := s_rn_e s j
      have r1 : (s_rn s j).1 = s.1 := by rw [hy]
      have r5 : (s_rn s j).2.2.2.2.1 = s.2.2.2.2.1 := by rw [hy]
      have r6 : (s_rn s j).2.2.2.2.2.1 = s.2.2.2.2.2.1 := by rw [hy]
      have r8 : (s_rn s j).2.2.2.2.2.2.2 = s.2.2.2.2.2.2.2 := by rw [hy]
      have hM2 := MI_rn hMI j
      obtain ⟨t, ht⟩ : ∃ t, t = s_rn s j := ⟨_, rfl⟩
      rw [← ht] at r1 r5 r6 r8 hM2 hK
      have eb : nb_ t = nb_ s := congrFun r1 1
      have eum : um_ t = um_ s := congrFun r5 14
      have ekm : km_ t = km_ s := congrFun r5 16
      have eh : ∀ z, holdsB t z = holdsB s z := fun z => by unfold holdsB; rw [nb_, r1, th_, gs_, r6]
      have eu : ∀ z, usesB t j z = usesB s j z := fun z => by unfold usesB; rw [eum, us_, ff_, r8]
      have ewt : wt_ t = wt_ s := congrFun r5 5
      have ekd : kidsOk t := fun i hi => by rw [cm_, fs_, r5, ch_, ff_, r8]; exact hkd i (by omega)
      have ephh : ph_ t = ph_ s := congrFun r1 10
      have ertt : rt_ t = rt_ s := congrFun r1 12
      rw [← ewt, ← eb] at hw
      rw [← eum] at hu hK
      rw [← ephh] at hph
      rw [← ertt] at hr
      refine kw_aload_n dX12_take_21 rfl ?_
      refine kw_iload_n dX12_take_22 rfl ?_
      refine kw_callVf (As := [pi_ (nI j)]) (n_meet l s k j hj) dX12_take_23 cl_X12_168 rfl rfl rfl rfl (Nat.le_of_ble_eq_true rfl) ⟨(Nat.le_of_ble_eq_true rfl), (Nat.le_of_ble_eq_true rfl), (Nat.le_of_ble_eq_true rfl), (Nat.le_of_ble_eq_true rfl)⟩ ?_
      rw [← ht]
      refine kw_istore_n dX12_take_26 (Nat.le_of_ble_eq_true rfl) ?_
      refine kw_aload_n dX12_take_27 rfl ?_
      refine kw_iload_n dX12_take_28 rfl ?_
      refine kw_callVf (As := [pi_ b]) (n_isBlock l t k (by omega) b) dX12_take_29 cl_X12_171 rfl rfl rfl rfl (Nat.le_of_ble_eq_true rfl) ⟨(Nat.le_of_ble_eq_true rfl), (Nat.le_of_ble_eq_true rfl), (Nat.le_of_ble_eq_true rfl), (Nat.le_of_ble_eq_true rfl)⟩ ?_
      refine kw_if_ne (tgt := 38) dX12_take_32 (by decide) (fun c32 => ?_) (fun c32 => ?_)
      · skip
        have e32 := b2_n0.mp c32
        rw [eh] at e32
        rw [if_pos e32] at hK
        obtain ⟨bn, hbn, e49⟩ := anyN_iff.mp e32
        rw [Bool.and_eq_true] at e49
        have exb := of_decide_eq_true e49.1
        subst exb
        have eclb : cl_ (nI bn) = bn := nI_clamp (by omega)
        rw [eclb] at hK
        refine kw_iload_n dX12_take_38 rfl ?_
        refine kw_if_ne (tgt := 45) dX12_take_39 (by decide) (fun c39 => ?_) (fun c39 => ?_)
        · skip
          have e39 : dead_ s j = false := not_b2n c39
          rw [if_neg (by rw [e39]; decide), ← eu] at hK
          refine kw_aload_n dX12_take_45 rfl ?_
          refine kw_iload_n dX12_take_46 rfl ?_
          refine kw_iload_n dX12_take_47 rfl ?_
          refine kw_callVf (As := [pi_ (nI j), pi_ (nI bn)]) (n_uses l t k j hj (hu j hj) (hM2.2.2.1 j hj) (nI bn)) dX12_take_48 cl_X12_174 rfl rfl rfl rfl (Nat.le_of_ble_eq_true rfl) ⟨(Nat.le_of_ble_eq_true rfl), (Nat.le_of_ble_eq_true rfl), (Nat.le_of_ble_eq_true rfl), (Nat.le_of_ble_eq_true rfl)⟩ ?_
          refine kw_if_ne (tgt := 68) dX12_take_51 (by decide) (fun c51 => ?_) (fun c51 => ?_)
          · skip
            have e51 := b2_n0.mp c51
            have hcx : um_ t j < 8 ∨ usesB t j (nI bn) = true := Or.inr e51
            rw [if_pos hcx] at hK
            refine kw_aload_n dX12_take_68 rfl ?_
            refine kw_iload_n dX12_take_69 rfl ?_
            refine kw_iload_n dX12_take_70 rfl ?_
            refine kw_callV (As := [pi_ (nI j), pi_ (nI bn)]) (n_taken l t k (by omega) ekd hM2 hw (by omega) (by omega) j bn hj hu (hcx) (by omega)) dX12_take_71 cl_X12_185 rfl rfl rfl rfl (Nat.le_of_ble_eq_true rfl) ⟨(Nat.le_of_ble_eq_true rfl), (Nat.le_of_ble_eq_true rfl), (Nat.le_of_ble_eq_true rfl), (Nat.le_of_ble_eq_true rfl)⟩ (fun r2 h2 hp2 => ?_)
            obtain ⟨rfl, κ, m1, m2, rfl, m3⟩ := hp2
            refine kw_if_ne (tgt := 80) dX12_take_74 (by decide) (fun c74 => ?_) (fun c74 => ?_)
            · skip
              have e74 := b2_n0.mp c74
              rw [if_pos e74] at hK
              refine kw_aload_n dX12_take_80 rfl ?_
              refine kw_get dX12_take_81 fl_X12_205 rfl rfl ?_
              refine kw_top (v' := pi_ (nI (tkS t bn).2.2)) (congrArg pi_ (m3 e74)) ?_
              exact kw_iret dX12_take_84 rfl (Nat.le_of_ble_eq_true rfl) (Nat.le_of_ble_eq_true rfl) (hK _ _ _ ⟨rfl, rfl, κ, m1, m2, rfl⟩)
            · skip
              have e74 := b2_0.mp c74
              rw [if_neg (by rw [e74]; decide)] at hK
              refine kw_bipush (v := (-105)) dX12_take_77 (by decide) ?_
              exact kw_iret dX12_take_79 rfl (Nat.le_of_ble_eq_true rfl) (Nat.le_of_ble_eq_true rfl) (hK _ _ _ ⟨rfl, rfl, κ, m1, m2, rfl⟩)
          · skip
            have e51 := b2_0.mp c51
            refine kw_aload_n dX12_take_54 rfl ?_
            refine kw_get dX12_take_55 fl_X12_88 rfl rfl ?_
            refine kw_iload_n dX12_take_58 rfl ?_
            refine kw_ialdN dX12_take_59 rfl hj (by decide) ?_
            refine kw_bipush (v := 8) dX12_take_60 (by decide) ?_
            refine kw_icmp_ne (tgt := 68) dX12_take_62 (by decide) (fun c62 => ?_) (fun c62 => ?_)
            · skip
              have hcx : um_ t j < 8 ∨ usesB t j (nI bn) = true := Or.inl (Nat.lt_of_le_of_ne (hu j hj) (fun q => c62 (by rw [q]; rfl)))
              rw [if_pos hcx] at hK
              refine kw_aload_n dX12_take_68 rfl ?_
              refine kw_iload_n dX12_take_69 rfl ?_
              refine kw_iload_n dX12_take_70 rfl ?_
              refine kw_callV (As := [pi_ (nI j), pi_ (nI bn)]) (n_taken l t k (by omega) ekd hM2 hw (by omega) (by omega) j bn hj hu (hcx) (by omega)) dX12_take_71 cl_X12_185 rfl rfl rfl rfl (Nat.le_of_ble_eq_true rfl) ⟨(Nat.le_of_ble_eq_true rfl), (Nat.le_of_ble_eq_true rfl), (Nat.le_of_ble_eq_true rfl), (Nat.le_of_ble_eq_true rfl)⟩ (fun r2 h2 hp2 => ?_)
              obtain ⟨rfl, κ, m1, m2, rfl, m3⟩ := hp2
              refine kw_if_ne (tgt := 80) dX12_take_74 (by decide) (fun c74 => ?_) (fun c74 => ?_)
              · skip
                have e74 := b2_n0.mp c74
                rw [if_pos e74] at hK
                refine kw_aload_n dX12_take_80 rfl ?_
                refine kw_get dX12_take_81 fl_X12_205 rfl rfl ?_
                refine kw_top (v' := pi_ (nI (tkS t bn).2.2)) (congrArg pi_ (m3 e74)) ?_
                exact kw_iret dX12_take_84 rfl (Nat.le_of_ble_eq_true rfl) (Nat.le_of_ble_eq_true rfl) (hK _ _ _ ⟨rfl, rfl, κ, m1, m2, rfl⟩)
              · skip
                have e74 := b2_0.mp c74
                rw [if_neg (by rw [e74]; decide)] at hK
                refine kw_bipush (v := (-105)) dX12_take_77 (by decide) ?_
                exact kw_iret dX12_take_79 rfl (Nat.le_of_ble_eq_true rfl) (Nat.le_of_ble_eq_true rfl) (hK _ _ _ ⟨rfl, rfl, κ, m1, m2, rfl⟩)
            · skip
              have e62 : um_ t j = 8 := nI_eq' (b := 8) (by have := hu j hj; omega) (by decide) c62
              refine kw_bipush (v := (-104)) dX12_take_65 (by decide) ?_
              exact kw_iret dX12_take_67 rfl (Nat.le_of_ble_eq_true rfl) (Nat.le_of_ble_eq_true rfl) (hK _ _ _ ⟨rfl, by rw [if_neg (fun z => z.elim (fun z => by omega) (fun z => by rw [e51] at z; cases z))], by rw [if_neg (fun z => z.elim (fun z => by omega) (fun z => by rw [e51] at z; cases z))]; exact ⟨k, mEq.rf k, hM2, rfl⟩⟩)
        · skip
          have e39 : dead_ s j = true := not_b2 c39
          refine kw_bipush (v := (-103)) dX12_take_42 (by decide) ?_
          exact kw_iret dX12_take_44 rfl (Nat.le_of_ble_eq_true rfl) (Nat.le_of_ble_eq_true rfl) (hK _ _ _ ⟨rfl, by rw [if_pos e39], by rw [if_pos e39]; exact ⟨k, mEq.rf k, hM2, rfl⟩⟩)
      · skip
        refine kw_bipush (v := (-101)) dX12_take_35 (by decide) ?_
        exact kw_iret dX12_take_37 rfl (Nat.le_of_ble_eq_true rfl) (Nat.le_of_ble_eq_true rfl) (hK _ _ _ ⟨rfl, by rw [if_neg (by rw [← eh, b2_0.mp c32]; decide)], by rw [if_neg (by rw [← eh, b2_0.mp c32]; decide)]; exact ⟨k, mEq.rf k, hM2, rfl⟩⟩)
    · skip
      have e15 : ¬ svOk s x = true := by rw [b2_0.mp c15]; decide
      refine kw_bipush (v := (-101)) dX12_take_18 (by decide) ?_
      exact kw_iret dX12_take_20 rfl (Nat.le_of_ble_eq_true rfl) (Nat.le_of_ble_eq_true rfl) (hK _ _ _ ⟨rfl, by rw [a_take, if_neg hd, if_neg e15], by rw [a_take, if_neg hd, if_neg e15]; exact ⟨k, mEq.rf k, hMI, rfl⟩⟩)
  · skip
    have hd := b2_n0.mp c4
    refine kw_bipush (v := (-106)) dX12_take_7 (by decide) ?_
    exact kw_iret dX12_take_9 rfl (Nat.le_of_ble_eq_true rfl) (Nat.le_of_ble_eq_true rfl) (hK _ _ _ ⟨rfl, by rw [a_take, if_pos hd], by rw [a_take, if_pos hd]; exact ⟨k, mEq.rf k, hMI, rfl⟩⟩)
