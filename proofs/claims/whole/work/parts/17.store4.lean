/-! STORE: revive, mark, audit -/
def s_rev1 (s : SG) (j : Nat) : SG := sN (s_await s j 0) 3 (nrv_ s + 1)
/-- all that wait among the reached ones, from j on, n of them: whether power stayed, the state, how many -/
def revL (r : Nat → Bool) : Nat → Nat → SG → Nat → Bool × SG × Nat
  | 0, _, s, c => (true, s, c)
  | n + 1, j, s, c => if r j && decide (0 < wt_ s j) then (if cut_ s = 0 then (false, s_w0 s, c) else revL r n (j + 1) (s_rev1 s j) (c + 1)) else revL r n (j + 1) s c
theorem s_await_1 (s : SG) (b v : Nat) : (s_await s b v).1 = s.1 := s_w1_1 s
theorem s_await_wt (s : SG) (b v : Nat) : wt_ (s_await s b v) = va_up (wt_ s) b v := rfl
theorem s_rev1_nb (s : SG) (j : Nat) : nb_ (s_rev1 s j) = nb_ s := congrFun (s_await_1 s j 0) 1
theorem va_up_all {α : Type} {p : α → Prop} {f : Nat → α} {j n : Nat} {v : α} (h : ∀ a, a < n → p (f a)) (hv : p v) : ∀ a, a < n → p (va_up f j v a) := by
  intro a ha
  by_cases e : a = j
  · simp only [va_up, if_pos e]; exact hv
  · simp only [va_up, if_neg e]; exact h a ha
def mkP (s : SG) (r : Nat → Bool) (n : Nat) : Nat → Bool := fun q => mk_ s q || (decide (q < n) && r q)
theorem mkP_0 (s : SG) (r : Nat → Bool) : mkP s r 0 = mk_ s := by funext q; simp [mkP]
theorem mkP_f (s : SG) (r : Nat → Bool) {n : Nat} (h : r n = false) : mkP s r (n + 1) = mkP s r n := by
  funext q
  by_cases e : q = n
  · subst e; simp [mkP, h]
  · have : (q < n + 1) ↔ (q < n) := by omega
    simp [mkP, this]
theorem mkP_t (s : SG) (r : Nat → Bool) {n : Nat} (h : r n = true) : va_up (mkP s r n) n true = mkP s r (n + 1) := by
  funext q
  by_cases e : q = n
  · subst e; simp [mkP, h, va_up]
  · have : (q < n + 1) ↔ (q < n) := by omega
    simp [mkP, this, va_up, e]
theorem sGb_id (s : SG) (i : Nat) : sGb s i (gs_ s i) = s := by
  show (s.1, s.2.1, s.2.2.1, s.2.2.2.1, s.2.2.2.2.1, va_up s.2.2.2.2.2.1 i (s.2.2.2.2.2.1 i), s.2.2.2.2.2.2) = _
  rw [va_up_id]
/-- blocks lie as they should -/
def PlOk (s : SG) (k : KG) : Prop :=
  (∀ i, i < nb_ s → th_ s i = true → pk_ s i < np_ s ∧ gn_ s (pk_ s i) = false ∧ pp_ s i + sz_ s i ≤ ac_ k (pk_ s i) ∧ ac_ k (pk_ s i) ≤ 1000) ∧
  (∀ i j, i < j → j < nb_ s → th_ s i = true → th_ s j = true → pk_ s i = pk_ s j → pp_ s i + sz_ s i ≤ pp_ s j ∨ pp_ s j + sz_ s j ≤ pp_ s i) ∧
  ∀ p, p < np_ s → ho_ k p + sumN (fun j => if liesB s j (nI p) then sz_ s j else 0) (nb_ s) = ac_ k p
set_option maxHeartbeats 4000000 in
set_option maxRecDepth 100000 in
theorem t_revive (l : Launch) (s : SG) (k : KG) (hb : nb_ s ≤ 80) (hw : ∀ j, j < nb_ s → wt_ s j < 2 ^ 31) (res : Bool × SG × Nat) (hres : revL (rch_ k) (nb_ s) 0 s 0 = res) : kw_F l yX9_reviveReached cX9_reviveReached 3 (Option.some Jvm.ClassFile.FieldType.int) { frames := 2, cells := 0, slots := 0, locals := 42 } [pr_ (3, 0)] (hC s k) (some (pi_ (if res.1 then nI res.2.2 else -105))) (hC res.2.1 k) := by
  refine kw_M_of RX9 "reviveReached" [some (pr_ (3, 0)), none, none] (by decide) rfl rfl rfl (Nat.le_of_ble_eq_true rfl) ?_
  intro D ad A
  refine kw_Kgen (fun K hK => ?_)
  have loop : ∀ (n_ : Nat) (t : SG) (j : Nat) (c : Nat), nb_ t - j < n_ → nb_ t ≤ 80 → j ≤ nb_ t → (∀ j, j < nb_ t → wt_ t j < 2 ^ 31) → revL (rch_ k) (nb_ t - j) j t c = res → kw_G l D cX9_reviveReached RX9 (Option.some Jvm.ClassFile.FieldType.int) "reviveReached" { frames := 2, cells := 0, slots := 0, locals := 42 } A K ad (hC t k) 0 0 4 [some (pr_ (3, 0)), some (pi_ (nI c)), some (pi_ (nI j))] [] := by
    intro n_
    induction n_ with
    | zero =>
      intro t j c hm_
      exact absurd hm_ (Nat.not_lt_zero _)
    | succ n_ ih =>
      intro t j c hm_ hb hj hw hres
      refine kw_iload_n dX9_reviveReached_4 rfl ?_
      refine kw_aload_n dX9_reviveReached_5 rfl ?_
      refine kw_get dX9_reviveReached_6 fl_X9_35 rfl rfl ?_
      refine kw_icmp_ge (tgt := 64) dX9_reviveReached_9 (by decide) (fun c9 => ?_) (fun c9 => ?_)
      · skip
        have e : nb_ t - j = 0 := by have := nI_le' (by omega) (by omega) c9; omega
        rw [e] at hres
        refine kw_iload_n dX9_reviveReached_64 rfl ?_
        exact kw_iret dX9_reviveReached_65 rfl (Nat.le_of_ble_eq_true rfl) (Nat.le_of_ble_eq_true rfl) (hK _ _ _ ⟨rfl, by rw [← hres]; rfl, by rw [← hres]; rfl⟩)
      · skip
        have hlt : j < nb_ t := nI_nle' (by omega) (by omega) c9
        have e1 : nb_ t - j = (nb_ t - (j + 1)) + 1 := by omega
        rw [e1, revL] at hres
        refine kw_aload_n dX9_reviveReached_12 rfl ?_
        refine kw_get dX9_reviveReached_13 fl_X9_23 rfl rfl ?_
        refine kw_iload_n dX9_reviveReached_16 rfl ?_
        refine kw_zaldN dX9_reviveReached_17 rfl (by omega) (by decide) ?_
        refine kw_if_eq (tgt := 58) dX9_reviveReached_18 (by decide) (fun c18 => ?_) (fun c18 => ?_)
        · skip
          rw [b2_0.mp c18, Bool.false_and] at hres
          refine kw_iinc dX9_reviveReached_58 rfl (nI_i j) ?_
          refine kw_goto (tgt := 4) dX9_reviveReached_61 (by decide) ?_
          exact ih t (j + 1) c (by omega) hb (by omega) hw hres
        · skip
          rw [b2_n0.mp c18, Bool.true_and] at hres
          refine kw_aload_n dX9_reviveReached_21 rfl ?_
          refine kw_get dX9_reviveReached_22 fl_X9_11 rfl rfl ?_
          refine kw_iload_n dX9_reviveReached_25 rfl ?_
          refine kw_aaldN dX9_reviveReached_26 rfl (by omega) (by decide) (if_pos hlt) ?_
          refine kw_get dX9_reviveReached_27 fl_X9_42 (hC_bl hlt) rfl ?_
          refine kw_if_le (tgt := 58) dX9_reviveReached_30 (by decide) (fun c30 => ?_) (fun c30 => ?_)
          · skip
            rw [decide_eq_false (fun q => absurd c30 (nI_nle q (hw j hlt)))] at hres
            refine kw_iinc dX9_reviveReached_58 rfl (nI_i j) ?_
            refine kw_goto (tgt := 4) dX9_reviveReached_61 (by decide) ?_
            exact ih t (j + 1) c (by omega) hb (by omega) hw hres
          · skip
            rw [decide_eq_true (Nat.pos_of_ne_zero (fun q => c30 (by rw [q]; decide)))] at hres
            by_cases hcut : cut_ t = 0
            · rw [if_pos rfl, if_pos hcut] at hres
              refine kw_aload_n dX9_reviveReached_33 rfl ?_
              refine kw_iload_n dX9_reviveReached_34 rfl ?_
              refine kw_iconst (v := 0) dX9_reviveReached_35 (by decide) ?_
              refine kw_callVf (As := [pi_ (nI j), pi_ 0]) (t_await0 l t k hcut (nI j) 0) dX9_reviveReached_36 cl_X9_109 rfl rfl rfl rfl (Nat.le_of_ble_eq_true rfl) ⟨(Nat.le_of_ble_eq_true rfl), (Nat.le_of_ble_eq_true rfl), (Nat.le_of_ble_eq_true rfl), (Nat.le_of_ble_eq_true rfl)⟩ ?_
              refine kw_if_ne (tgt := 45) dX9_reviveReached_39 (by decide) (fun c39 => ?_) (fun c39 => ?_)
              · skip
                exact absurd rfl c39
              · skip
                refine kw_bipush (v := (-105)) dX9_reviveReached_42 (by decide) ?_
                exact kw_iret dX9_reviveReached_44 rfl (Nat.le_of_ble_eq_true rfl) (Nat.le_of_ble_eq_true rfl) (hK _ _ _ ⟨rfl, by rw [← hres]; rfl, by rw [← hres]⟩)
            rw [if_pos rfl, if_neg hcut] at hres
            refine kw_aload_n dX9_reviveReached_33 rfl ?_
            refine kw_iload_n dX9_reviveReached_34 rfl ?_
            refine kw_iconst (v := 0) dX9_reviveReached_35 (by decide) ?_
            refine kw_top (v' := pi_ (nI 0)) rfl ?_
            refine kw_callVf (As := [pi_ (nI j), pi_ (nI 0)]) (t_await1 l t k hcut hb j 0 hlt) dX9_reviveReached_36 cl_X9_109 rfl rfl rfl rfl (Nat.le_of_ble_eq_true rfl) ⟨(Nat.le_of_ble_eq_true rfl), (Nat.le_of_ble_eq_true rfl), (Nat.le_of_ble_eq_true rfl), (Nat.le_of_ble_eq_true rfl)⟩ ?_
            refine kw_if_ne (tgt := 45) dX9_reviveReached_39 (by decide) (fun c39 => ?_) (fun c39 => ?_)
            · skip
              refine kw_iinc dX9_reviveReached_45 rfl (nI_i c) ?_
              refine kw_aload_n dX9_reviveReached_48 rfl ?_
              refine kw_dup dX9_reviveReached_49 rfl ?_
              refine kw_get dX9_reviveReached_50 fl_X9_112 rfl rfl ?_
              refine kw_iconst (v := 1) dX9_reviveReached_53 (by decide) ?_
              refine kw_iadd dX9_reviveReached_54 ?_
              refine kw_top (v' := pi_ (nI (nrv_ t + 1))) (by rw [show nrv_ (s_await t j 0) = nrv_ t from congrFun (s_await_1 t j 0) 3, nI_1]) ?_
              refine kw_put dX9_reviveReached_55 fl_X9_112 rfl (kw_ok_i _) (Nat.le_of_ble_eq_true rfl) ?_
              refine kw_heq (up_nrv _ k _) ?_
              refine kw_iinc dX9_reviveReached_58 rfl (nI_i j) ?_
              refine kw_goto (tgt := 4) dX9_reviveReached_61 (by decide) ?_
              have enb := s_rev1_nb t j
              exact ih (s_rev1 t j) (j + 1) (c + 1) (by omega) (by omega) (by omega) (fun a ha => va_up_all (p := fun x => x < 2 ^ 31) hw (by decide) a (by omega)) (by rw [enb]; exact hres)
            · skip
              exact absurd c39 (by decide)
  refine kw_iconst (v := 0) dX9_reviveReached_0 (by decide) ?_
  refine kw_istore_n dX9_reviveReached_1 (Nat.le_of_ble_eq_true rfl) ?_
  refine kw_iconst (v := 0) dX9_reviveReached_2 (by decide) ?_
  refine kw_istore_n dX9_reviveReached_3 (Nat.le_of_ble_eq_true rfl) ?_
  exact loop (nb_ s + 1) s 0 0 (by omega) hb (by omega) hw hres
set_option maxHeartbeats 4000000 in
set_option maxRecDepth 100000 in
theorem t_mark (l : Launch) (s : SG) (k : KG) (hb : nb_ s ≤ 80) : kw_F l yX9_markReached cX9_markReached 2 (Option.none : Option Jvm.ClassFile.FieldType) { frames := 0, cells := 0, slots := 0, locals := 0 } [pr_ (3, 0)] (hC s k) none (hC (sGb s 1 (mkP s (rch_ k) (nb_ s))) k) := by
  refine kw_M_of RX9 "markReached" [some (pr_ (3, 0)), none] (by decide) rfl rfl rfl (Nat.le_of_ble_eq_true rfl) ?_
  intro D ad A
  refine kw_Kgen (fun K hK => ?_)
  have loop : ∀ (n_ : Nat) (j : Nat), nb_ s - j < n_ → j ≤ nb_ s → kw_G l D cX9_markReached RX9 (Option.none : Option Jvm.ClassFile.FieldType) "markReached" { frames := 0, cells := 0, slots := 0, locals := 0 } A K ad (hC (sGb s 1 (mkP s (rch_ k) j)) k) 0 0 2 [some (pr_ (3, 0)), some (pi_ (nI j))] [] := by
    intro n_
    induction n_ with
    | zero =>
      intro j hm_
      exact absurd hm_ (Nat.not_lt_zero _)
    | succ n_ ih =>
      intro j hm_ hj
      refine kw_iload_n dX9_markReached_2 rfl ?_
      refine kw_aload_n dX9_markReached_3 rfl ?_
      refine kw_get dX9_markReached_4 fl_X9_35 rfl rfl ?_
      refine kw_icmp_ge (tgt := 35) dX9_markReached_7 (by decide) (fun c7 => ?_) (fun c7 => ?_)
      · skip
        have e : j = nb_ s := Nat.le_antisymm hj (nI_le' (a := nb_ s) (by omega) (by omega) c7)
        exact kw_vret dX9_markReached_35 rfl (Nat.le_of_ble_eq_true rfl) (Nat.le_of_ble_eq_true rfl) (hK _ _ _ ⟨rfl, rfl, by rw [e]⟩)
      · skip
        have hlt : j < nb_ s := nI_nle' (a := nb_ s) (by omega) (by omega) c7
        refine kw_aload_n dX9_markReached_10 rfl ?_
        refine kw_get dX9_markReached_11 fl_X9_23 rfl rfl ?_
        refine kw_iload_n dX9_markReached_14 rfl ?_
        refine kw_zaldN dX9_markReached_15 rfl (by omega) (by decide) ?_
        refine kw_if_eq (tgt := 29) dX9_markReached_16 (by decide) (fun c16 => ?_) (fun c16 => ?_)
        · skip
          refine kw_iinc dX9_markReached_29 rfl (nI_i j) ?_
          refine kw_goto (tgt := 2) dX9_markReached_32 (by decide) ?_
          rw [← mkP_f s (rch_ k) (b2_0.mp c16)]
          exact ih (j + 1) (by omega) (by omega)
        · skip
          refine kw_aload_n dX9_markReached_19 rfl ?_
          refine kw_get dX9_markReached_20 fl_X9_11 rfl rfl ?_
          refine kw_iload_n dX9_markReached_23 rfl ?_
          refine kw_aaldN dX9_markReached_24 rfl (by omega) (by decide) (if_pos hlt) ?_
          refine kw_iconst (v := 1) dX9_markReached_25 (by decide) ?_
          refine kw_put dX9_markReached_26 fl_X9_115 (hC_bl (by exact hlt)) (kw_ok_z (Or.inr rfl)) (Nat.le_of_ble_eq_true rfl) ?_
          refine kw_heq (up_bmk _ k j (by exact hlt) true) ?_
          rw [show mk_ (sGb s 1 (mkP s (rch_ k) j)) = mkP s (rch_ k) j from rfl, mkP_t s (rch_ k) (b2_n0.mp c16), sGb2]
          refine kw_iinc dX9_markReached_29 rfl (nI_i j) ?_
          refine kw_goto (tgt := 2) dX9_markReached_32 (by decide) ?_
          exact ih (j + 1) (by omega) (by omega)
  refine kw_iconst (v := 0) dX9_markReached_0 (by decide) ?_
  refine kw_istore_n dX9_markReached_1 (Nat.le_of_ble_eq_true rfl) ?_
  have h0 : hC s k = hC (sGb s 1 (mkP s (rch_ k) 0)) k := by rw [mkP_0, sGb_id]
  rw [h0]
  exact loop (nb_ s + 1) 0 (by omega) (by omega)
set_option maxHeartbeats 4000000 in
set_option maxRecDepth 100000 in
theorem t_over (l : Launch) (s : SG) (k : KG) (hb : nb_ s ≤ 80) (hpl : PlOk s k) (i : Nat) (hi : i < nb_ s) (hth : th_ s i = true) (hsm : ∀ j, j < nb_ s → th_ s j = true → pp_ s j + sz_ s j ≤ 1000 ∧ pk_ s j < 40) : kw_F l yX9_liesOverLater cX9_liesOverLater 5 (Option.some Jvm.ClassFile.FieldType.boolean) { frames := 1, cells := 0, slots := 0, locals := 22 } [pr_ (3, 0), pi_ (nI i)] (hC s k) (some (pi_ 0)) (hC s k) := by
  refine kw_M_of RX9 "liesOverLater" [some (pr_ (3, 0)), some (pi_ (nI i)), none, none, none] (by decide) rfl rfl rfl (Nat.le_of_ble_eq_true rfl) ?_
  intro D ad A
  refine kw_Kgen (fun K hK => ?_)
  have loop : ∀ (n_ : Nat) (j : Nat), nb_ s - j < n_ → i < j → j ≤ nb_ s → kw_G l D cX9_liesOverLater RX9 (Option.some Jvm.ClassFile.FieldType.boolean) "liesOverLater" { frames := 1, cells := 0, slots := 0, locals := 22 } A K ad (hC s k) 0 0 11 [some (pr_ (3, 0)), some (pi_ (nI i)), some (pr_ (5, i)), some (pi_ (nI j)), none] [] := by
    intro n_
    induction n_ with
    | zero =>
      intro j hm_
      exact absurd hm_ (Nat.not_lt_zero _)
    | succ n_ ih =>
      intro j hm_ hij hj
      refine kw_iload_n dX9_liesOverLater_11 rfl ?_
      refine kw_aload_n dX9_liesOverLater_12 rfl ?_
      refine kw_get dX9_liesOverLater_13 fl_X9_35 rfl rfl ?_
      refine kw_icmp_ge (tgt := 82) dX9_liesOverLater_16 (by decide) (fun c16 => ?_) (fun c16 => ?_)
      · skip
        refine kw_iconst (v := 0) dX9_liesOverLater_82 (by decide) ?_
        exact kw_zret dX9_liesOverLater_83 rfl (by decide) (Nat.le_of_ble_eq_true rfl) (Nat.le_of_ble_eq_true rfl) (hK _ _ _ ⟨rfl, rfl, rfl⟩)
      · skip
        have hlt : j < nb_ s := nI_nle' (by omega) (by omega) c16
        refine kw_aload_n dX9_liesOverLater_19 rfl ?_
        refine kw_get dX9_liesOverLater_20 fl_X9_11 rfl rfl ?_
        refine kw_iload_n dX9_liesOverLater_23 rfl ?_
        refine kw_aaldN dX9_liesOverLater_24 rfl (by omega) (by decide) (if_pos hlt) ?_
        refine kw_astore dX9_liesOverLater_25 (Nat.le_of_ble_eq_true rfl) ?_
        refine kw_aload_n dX9_liesOverLater_27 rfl ?_
        refine kw_iload_n dX9_liesOverLater_28 rfl ?_
        refine kw_aload_n dX9_liesOverLater_29 rfl ?_
        refine kw_get dX9_liesOverLater_30 fl_X9_49 (hC_bl hi) rfl ?_
        refine kw_callVf (As := [pi_ (nI j), pi_ (nI (pk_ s i))]) (t_liesIn l s k hb j hlt _) dX9_liesOverLater_33 cl_X9_45 rfl rfl rfl rfl (Nat.le_of_ble_eq_true rfl) ⟨(Nat.le_of_ble_eq_true rfl), (Nat.le_of_ble_eq_true rfl), (Nat.le_of_ble_eq_true rfl), (Nat.le_of_ble_eq_true rfl)⟩ ?_
        refine kw_if_eq (tgt := 76) dX9_liesOverLater_36 (by decide) (fun c36 => ?_) (fun c36 => ?_)
        · skip
          refine kw_iinc dX9_liesOverLater_76 rfl (nI_i j) ?_
          refine kw_goto (tgt := 11) dX9_liesOverLater_79 (by decide) ?_
          refine kw_lvle (lv' := [some (pr_ (3, 0)), some (pi_ (nI i)), some (pr_ (5, i)), some (pi_ (nI (j + 1))), none]) (kw_le_s (kw_le_s (kw_le_s (kw_le_s (kw_le_n kw_le_0))))) ?_
          exact ih (j + 1) (by omega) (by omega) (by omega)
        · skip
          have e36 := b2_n0.mp c36
          rw [liesB, Bool.and_eq_true] at e36
          have ej := e36.1
          have a1 := hsm i hi hth
          have a2 := hsm j hlt ej
          have ep : pk_ s i = pk_ s j := (nI_eq' (by omega) (by omega) (of_decide_eq_true e36.2)).symm
          have a3 := hpl.2.1 i j hij hlt hth ej ep
          refine kw_aload_n dX9_liesOverLater_39 rfl ?_
          refine kw_get dX9_liesOverLater_40 fl_X9_82 (hC_bl hi) rfl ?_
          refine kw_aload dX9_liesOverLater_43 rfl ?_
          refine kw_get dX9_liesOverLater_45 fl_X9_82 (hC_bl hlt) rfl ?_
          refine kw_aload dX9_liesOverLater_48 rfl ?_
          refine kw_get dX9_liesOverLater_50 fl_X9_85 (hC_bl hlt) rfl ?_
          refine kw_iadd dX9_liesOverLater_53 ?_
          refine kw_top (v' := pi_ (nI (pp_ s j + sz_ s j))) (by rw [nI_add]) ?_
          refine kw_icmp_ge (tgt := 76) dX9_liesOverLater_54 (by decide) (fun c54 => ?_) (fun c54 => ?_)
          · skip
            refine kw_iinc dX9_liesOverLater_76 rfl (nI_i j) ?_
            refine kw_goto (tgt := 11) dX9_liesOverLater_79 (by decide) ?_
            refine kw_lvle (lv' := [some (pr_ (3, 0)), some (pi_ (nI i)), some (pr_ (5, i)), some (pi_ (nI (j + 1))), none]) (kw_le_s (kw_le_s (kw_le_s (kw_le_s (kw_le_n kw_le_0))))) ?_
            exact ih (j + 1) (by omega) (by omega) (by omega)
          · skip
            have b1 := nI_nle' (a := pp_ s j + sz_ s j) (b := pp_ s i) (by omega) (by omega) c54
            refine kw_aload dX9_liesOverLater_57 rfl ?_
            refine kw_get dX9_liesOverLater_59 fl_X9_82 (hC_bl hlt) rfl ?_
            refine kw_aload_n dX9_liesOverLater_62 rfl ?_
            refine kw_get dX9_liesOverLater_63 fl_X9_82 (hC_bl hi) rfl ?_
            refine kw_aload_n dX9_liesOverLater_66 rfl ?_
            refine kw_get dX9_liesOverLater_67 fl_X9_85 (hC_bl hi) rfl ?_
            refine kw_iadd dX9_liesOverLater_70 ?_
            refine kw_top (v' := pi_ (nI (pp_ s i + sz_ s i))) (by rw [nI_add]) ?_
            refine kw_icmp_ge (tgt := 76) dX9_liesOverLater_71 (by decide) (fun c71 => ?_) (fun c71 => ?_)
            · skip
              refine kw_iinc dX9_liesOverLater_76 rfl (nI_i j) ?_
              refine kw_goto (tgt := 11) dX9_liesOverLater_79 (by decide) ?_
              refine kw_lvle (lv' := [some (pr_ (3, 0)), some (pi_ (nI i)), some (pr_ (5, i)), some (pi_ (nI (j + 1))), none]) (kw_le_s (kw_le_s (kw_le_s (kw_le_s (kw_le_n kw_le_0))))) ?_
              exact ih (j + 1) (by omega) (by omega) (by omega)
            · skip
              have b2 := nI_nle' (a := pp_ s i + sz_ s i) (b := pp_ s j) (by omega) (by omega) c71
              omega
  refine kw_aload_n dX9_liesOverLater_0 rfl ?_
  refine kw_get dX9_liesOverLater_1 fl_X9_11 rfl rfl ?_
  refine kw_iload_n dX9_liesOverLater_4 rfl ?_
  refine kw_aaldN dX9_liesOverLater_5 rfl (by omega) (by decide) (if_pos hi) ?_
  refine kw_astore_n dX9_liesOverLater_6 (Nat.le_of_ble_eq_true rfl) ?_
  refine kw_iload_n dX9_liesOverLater_7 rfl ?_
  refine kw_iconst (v := 1) dX9_liesOverLater_8 (by decide) ?_
  refine kw_iadd dX9_liesOverLater_9 ?_
  refine kw_top (v' := pi_ (nI (i + 1))) (by rw [nI_1]) ?_
  refine kw_istore_n dX9_liesOverLater_10 (Nat.le_of_ble_eq_true rfl) ?_
  exact loop (nb_ s + 1) (i + 1) (by omega) (by omega) (by omega)
set_option maxHeartbeats 4000000 in
set_option maxRecDepth 100000 in
theorem t_misplaced (l : Launch) (s : SG) (k : KG) (hb : nb_ s ≤ 80) (hp : np_ s ≤ 40) (hpl : PlOk s k) : kw_F l yX9_misplacedBlocks cX9_misplacedBlocks 5 (Option.some Jvm.ClassFile.FieldType.int) { frames := 2, cells := 0, slots := 0, locals := 46 } [pr_ (3, 0)] (hC s k) (some (pi_ 0)) (hC s k) := by
  refine kw_M_of RX9 "misplacedBlocks" [some (pr_ (3, 0)), none, none, none, none] (by decide) rfl rfl rfl (Nat.le_of_ble_eq_true rfl) ?_
  intro D ad A
  refine kw_Kgen (fun K hK => ?_)
  have hsm : ∀ j, j < nb_ s → th_ s j = true → pp_ s j + sz_ s j ≤ 1000 ∧ pk_ s j < 40 := fun j hj ht => by have a := hpl.1 j hj ht; omega
  have loop : ∀ (n_ : Nat) (j : Nat), nb_ s - j < n_ → j ≤ nb_ s → kw_G l D cX9_misplacedBlocks RX9 (Option.some Jvm.ClassFile.FieldType.int) "misplacedBlocks" { frames := 2, cells := 0, slots := 0, locals := 46 } A K ad (hC s k) 0 0 4 [some (pr_ (3, 0)), some (pi_ 0), some (pi_ (nI j)), none, none] [] := by
    intro n_
    induction n_ with
    | zero =>
      intro j hm_
      exact absurd hm_ (Nat.not_lt_zero _)
    | succ n_ ih =>
      intro j hm_ hj
      refine kw_iload_n dX9_misplacedBlocks_4 rfl ?_
      refine kw_aload_n dX9_misplacedBlocks_5 rfl ?_
      refine kw_get dX9_misplacedBlocks_6 fl_X9_35 rfl rfl ?_
      refine kw_icmp_ge (tgt := 118) dX9_misplacedBlocks_9 (by decide) (fun c9 => ?_) (fun c9 => ?_)
      · skip
        refine kw_iload_n dX9_misplacedBlocks_118 rfl ?_
        exact kw_iret dX9_misplacedBlocks_119 rfl (Nat.le_of_ble_eq_true rfl) (Nat.le_of_ble_eq_true rfl) (hK _ _ _ ⟨rfl, rfl, rfl⟩)
      · skip
        have hlt : j < nb_ s := nI_nle' (by omega) (by omega) c9
        refine kw_aload_n dX9_misplacedBlocks_12 rfl ?_
        refine kw_get dX9_misplacedBlocks_13 fl_X9_11 rfl rfl ?_
        refine kw_iload_n dX9_misplacedBlocks_16 rfl ?_
        refine kw_aaldN dX9_misplacedBlocks_17 rfl (by omega) (by decide) (if_pos hlt) ?_
        refine kw_get dX9_misplacedBlocks_18 fl_X9_38 (hC_bl hlt) rfl ?_
        refine kw_if_ne (tgt := 112) dX9_misplacedBlocks_21 (by decide) (fun c21 => ?_) (fun c21 => ?_)
        · skip
          refine kw_iinc dX9_misplacedBlocks_112 rfl (nI_i j) ?_
          refine kw_goto (tgt := 4) dX9_misplacedBlocks_115 (by decide) ?_
          refine kw_lvle (lv' := [some (pr_ (3, 0)), some (pi_ 0), some (pi_ (nI (j + 1))), none, none]) (kw_le_s (kw_le_s (kw_le_s (kw_le_n (kw_le_n kw_le_0))))) ?_
          exact ih (j + 1) (by omega) (by omega)
        · skip
          have ht := not_b2 c21
          have a := hpl.1 j hlt ht
          refine kw_aload_n dX9_misplacedBlocks_24 rfl ?_
          refine kw_get dX9_misplacedBlocks_25 fl_X9_19 rfl rfl ?_
          refine kw_aload_n dX9_misplacedBlocks_28 rfl ?_
          refine kw_get dX9_misplacedBlocks_29 fl_X9_11 rfl rfl ?_
          refine kw_iload_n dX9_misplacedBlocks_32 rfl ?_
          refine kw_aaldN dX9_misplacedBlocks_33 rfl (by omega) (by decide) (if_pos hlt) ?_
          refine kw_get dX9_misplacedBlocks_34 fl_X9_49 (hC_bl hlt) rfl ?_
          refine kw_aaldN dX9_misplacedBlocks_37 rfl (by omega) (by decide) (if_pos a.1) ?_
          refine kw_astore_n dX9_misplacedBlocks_38 (Nat.le_of_ble_eq_true rfl) ?_
          refine kw_aload_n dX9_misplacedBlocks_39 rfl ?_
          refine kw_get dX9_misplacedBlocks_40 fl_X9_11 rfl rfl ?_
          refine kw_iload_n dX9_misplacedBlocks_43 rfl ?_
          refine kw_aaldN dX9_misplacedBlocks_44 rfl (by omega) (by decide) (if_pos hlt) ?_
          refine kw_get dX9_misplacedBlocks_45 fl_X9_82 (hC_bl hlt) rfl ?_
          refine kw_if_lt (tgt := 81) dX9_misplacedBlocks_48 (by decide) (fun c48 => ?_) (fun c48 => ?_)
          · skip
            exact absurd c48 (nI_pos (by omega))
          · skip
            refine kw_aload_n dX9_misplacedBlocks_51 rfl ?_
            refine kw_get dX9_misplacedBlocks_52 fl_X9_11 rfl rfl ?_
            refine kw_iload_n dX9_misplacedBlocks_55 rfl ?_
            refine kw_aaldN dX9_misplacedBlocks_56 rfl (by omega) (by decide) (if_pos hlt) ?_
            refine kw_get dX9_misplacedBlocks_57 fl_X9_82 (hC_bl hlt) rfl ?_
            refine kw_aload_n dX9_misplacedBlocks_60 rfl ?_
            refine kw_get dX9_misplacedBlocks_61 fl_X9_11 rfl rfl ?_
            refine kw_iload_n dX9_misplacedBlocks_64 rfl ?_
            refine kw_aaldN dX9_misplacedBlocks_65 rfl (by omega) (by decide) (if_pos hlt) ?_
            refine kw_get dX9_misplacedBlocks_66 fl_X9_85 (hC_bl hlt) rfl ?_
            refine kw_iadd dX9_misplacedBlocks_69 ?_
            refine kw_top (v' := pi_ (nI (pp_ s j + sz_ s j))) (by rw [nI_add]) ?_
            refine kw_aload_n dX9_misplacedBlocks_70 rfl ?_
            refine kw_get dX9_misplacedBlocks_71 fl_X9_62 (hC_pa a.1) rfl ?_
            refine kw_icmp_gt (tgt := 81) dX9_misplacedBlocks_74 (by decide) (fun c74 => ?_) (fun c74 => ?_)
            · skip
              exact absurd c74 (nI_nlt a.2.2.1 (by omega))
            · skip
              refine kw_iconst (v := 1) dX9_misplacedBlocks_77 (by decide) ?_
              refine kw_goto (tgt := 82) dX9_misplacedBlocks_78 (by decide) ?_
              refine kw_istore dX9_misplacedBlocks_82 (Nat.le_of_ble_eq_true rfl) ?_
              refine kw_iload_n dX9_misplacedBlocks_84 rfl ?_
              refine kw_aload_n dX9_misplacedBlocks_85 rfl ?_
              refine kw_get dX9_misplacedBlocks_86 fl_X9_59 (hC_pa a.1) rfl ?_
              refine kw_if_ne (tgt := 105) dX9_misplacedBlocks_89 (by decide) (fun c89 => ?_) (fun c89 => ?_)
              · skip
                exact absurd (by rw [a.2.1]; rfl) c89
              · skip
                refine kw_iload dX9_misplacedBlocks_92 rfl ?_
                refine kw_if_eq (tgt := 105) dX9_misplacedBlocks_94 (by decide) (fun c94 => ?_) (fun c94 => ?_)
                · skip
                  exact absurd c94 (by decide)
                · skip
                  refine kw_aload_n dX9_misplacedBlocks_97 rfl ?_
                  refine kw_iload_n dX9_misplacedBlocks_98 rfl ?_
                  refine kw_callVf (As := [pi_ (nI j)]) (t_over l s k hb hpl j hlt ht hsm) dX9_misplacedBlocks_99 cl_X9_118 rfl rfl rfl rfl (Nat.le_of_ble_eq_true rfl) ⟨(Nat.le_of_ble_eq_true rfl), (Nat.le_of_ble_eq_true rfl), (Nat.le_of_ble_eq_true rfl), (Nat.le_of_ble_eq_true rfl)⟩ ?_
                  refine kw_if_eq (tgt := 109) dX9_misplacedBlocks_102 (by decide) (fun c102 => ?_) (fun c102 => ?_)
                  · skip
                    refine kw_iconst (v := 0) dX9_misplacedBlocks_109 (by decide) ?_
                    refine kw_iadd dX9_misplacedBlocks_110 ?_
                    refine kw_top (v' := pi_ 0) (by decide) ?_
                    refine kw_istore_n dX9_misplacedBlocks_111 (Nat.le_of_ble_eq_true rfl) ?_
                    refine kw_iinc dX9_misplacedBlocks_112 rfl (nI_i j) ?_
                    refine kw_goto (tgt := 4) dX9_misplacedBlocks_115 (by decide) ?_
                    refine kw_lvle (lv' := [some (pr_ (3, 0)), some (pi_ 0), some (pi_ (nI (j + 1))), none, none]) (kw_le_s (kw_le_s (kw_le_s (kw_le_n (kw_le_n kw_le_0))))) ?_
                    exact ih (j + 1) (by omega) (by omega)
                  · skip
                    exact absurd rfl c102
  refine kw_iconst (v := 0) dX9_misplacedBlocks_0 (by decide) ?_
  refine kw_istore_n dX9_misplacedBlocks_1 (Nat.le_of_ble_eq_true rfl) ?_
  refine kw_iconst (v := 0) dX9_misplacedBlocks_2 (by decide) ?_
  refine kw_istore_n dX9_misplacedBlocks_3 (Nat.le_of_ble_eq_true rfl) ?_
  exact loop (nb_ s + 1) 0 (by omega) (by omega)
set_option maxHeartbeats 4000000 in
set_option maxRecDepth 100000 in
theorem t_uneven (l : Launch) (s : SG) (k : KG) (hb : nb_ s ≤ 80) (hp : np_ s ≤ 40) (hpl : PlOk s k) : kw_F l yX9_unevenPacks cX9_unevenPacks 5 (Option.some Jvm.ClassFile.FieldType.int) { frames := 1, cells := 0, slots := 0, locals := 22 } [pr_ (3, 0)] (hC s k) (some (pi_ 0)) (hC s k) := by
  refine kw_M_of RX9 "unevenPacks" [some (pr_ (3, 0)), none, none, none, none] (by decide) rfl rfl rfl (Nat.le_of_ble_eq_true rfl) ?_
  intro D ad A
  refine kw_Kgen (fun K hK => ?_)
  have loop : ∀ (n_ p : Nat), np_ s - p < n_ → p ≤ np_ s → kw_G l D cX9_unevenPacks RX9 (Option.some Jvm.ClassFile.FieldType.int) "unevenPacks" { frames := 1, cells := 0, slots := 0, locals := 22 } A K ad (hC s k) 0 0 4 [some (pr_ (3, 0)), some (pi_ 0), some (pi_ (nI p)), none, none] [] := by
    intro n_
    induction n_ with
    | zero =>
      intro p hm_
      exact absurd hm_ (Nat.not_lt_zero _)
    | succ n_ ih =>
      intro p hm_ hpp
      refine kw_iload_n dX9_unevenPacks_4 rfl ?_
      refine kw_aload_n dX9_unevenPacks_5 rfl ?_
      refine kw_get dX9_unevenPacks_6 fl_X9_56 rfl rfl ?_
      refine kw_icmp_ge (tgt := 94) dX9_unevenPacks_9 (by decide) (fun c9 => ?_) (fun c9 => ?_)
      · skip
        refine kw_iload_n dX9_unevenPacks_94 rfl ?_
        exact kw_iret dX9_unevenPacks_95 rfl (Nat.le_of_ble_eq_true rfl) (Nat.le_of_ble_eq_true rfl) (hK _ _ _ ⟨rfl, rfl, rfl⟩)
      · skip
        have hlp : p < np_ s := nI_nle' (by omega) (by omega) c9
        have ihp := ih
        clear ih
        have loop : ∀ (n_ : Nat) (j : Nat), nb_ s - j < n_ → j ≤ nb_ s → kw_G l D cX9_unevenPacks RX9 (Option.some Jvm.ClassFile.FieldType.int) "unevenPacks" { frames := 1, cells := 0, slots := 0, locals := 22 } A K ad (hC s k) 0 0 25 [some (pr_ (3, 0)), some (pi_ 0), some (pi_ (nI p)), some (pi_ (nI (ho_ k p + sumN (fun j => if liesB s j (nI p) then sz_ s j else 0) j))), some (pi_ (nI j))] [] := by
          intro n_
          induction n_ with
          | zero =>
            intro j hm_
            exact absurd hm_ (Nat.not_lt_zero _)
          | succ n_ ih =>
            intro j hm_ hj
            refine kw_iload dX9_unevenPacks_25 rfl ?_
            refine kw_aload_n dX9_unevenPacks_27 rfl ?_
            refine kw_get dX9_unevenPacks_28 fl_X9_35 rfl rfl ?_
            refine kw_icmp_ge (tgt := 67) dX9_unevenPacks_31 (by decide) (fun c31 => ?_) (fun c31 => ?_)
            · skip
              have e : j = nb_ s := Nat.le_antisymm hj (nI_le' (by omega) (by omega) c31)
              rw [e, hpl.2.2 p hlp]
              refine kw_iload_n dX9_unevenPacks_67 rfl ?_
              refine kw_iload_n dX9_unevenPacks_68 rfl ?_
              refine kw_aload_n dX9_unevenPacks_69 rfl ?_
              refine kw_get dX9_unevenPacks_70 fl_X9_19 rfl rfl ?_
              refine kw_iload_n dX9_unevenPacks_73 rfl ?_
              refine kw_aaldN dX9_unevenPacks_74 rfl (by omega) (by decide) (if_pos hlp) ?_
              refine kw_get dX9_unevenPacks_75 fl_X9_62 (hC_pa hlp) rfl ?_
              refine kw_icmp_ne (tgt := 85) dX9_unevenPacks_78 (by decide) (fun c78 => ?_) (fun c78 => ?_)
              · skip
                exact absurd rfl c78
              · skip
                refine kw_iconst (v := 0) dX9_unevenPacks_81 (by decide) ?_
                refine kw_goto (tgt := 86) dX9_unevenPacks_82 (by decide) ?_
                refine kw_iadd dX9_unevenPacks_86 ?_
                refine kw_top (v' := pi_ 0) (by decide) ?_
                refine kw_istore_n dX9_unevenPacks_87 (Nat.le_of_ble_eq_true rfl) ?_
                refine kw_iinc dX9_unevenPacks_88 rfl (nI_i p) ?_
                refine kw_goto (tgt := 4) dX9_unevenPacks_91 (by decide) ?_
                refine kw_lvle (lv' := [some (pr_ (3, 0)), some (pi_ 0), some (pi_ (nI (p + 1))), none, none]) (kw_le_s (kw_le_s (kw_le_s (kw_le_n (kw_le_n kw_le_0))))) ?_
                exact ihp (p + 1) (by omega) (by omega)
            · skip
              have hlt : j < nb_ s := nI_nle' (by omega) (by omega) c31
              refine kw_iload_n dX9_unevenPacks_34 rfl ?_
              refine kw_aload_n dX9_unevenPacks_35 rfl ?_
              refine kw_iload dX9_unevenPacks_36 rfl ?_
              refine kw_iload_n dX9_unevenPacks_38 rfl ?_
              refine kw_callVf (As := [pi_ (nI j), pi_ (nI p)]) (t_liesIn l s k hb j hlt (nI p)) dX9_unevenPacks_39 cl_X9_45 rfl rfl rfl rfl (Nat.le_of_ble_eq_true rfl) ⟨(Nat.le_of_ble_eq_true rfl), (Nat.le_of_ble_eq_true rfl), (Nat.le_of_ble_eq_true rfl), (Nat.le_of_ble_eq_true rfl)⟩ ?_
              refine kw_if_eq (tgt := 58) dX9_unevenPacks_42 (by decide) (fun c42 => ?_) (fun c42 => ?_)
              · skip
                refine kw_iconst (v := 0) dX9_unevenPacks_58 (by decide) ?_
                refine kw_iadd dX9_unevenPacks_59 ?_
                refine kw_top (v' := pi_ (nI (ho_ k p + sumN (fun j => if liesB s j (nI p) then sz_ s j else 0) (j + 1)))) (by rw [sumN, b2_0.mp c42, Int32.add_zero]; rfl) ?_
                refine kw_istore_n dX9_unevenPacks_60 (Nat.le_of_ble_eq_true rfl) ?_
                refine kw_iinc dX9_unevenPacks_61 rfl (nI_i j) ?_
                refine kw_goto (tgt := 25) dX9_unevenPacks_64 (by decide) ?_
                exact ih (j + 1) (by omega) (by omega)
              · skip
                refine kw_aload_n dX9_unevenPacks_45 rfl ?_
                refine kw_get dX9_unevenPacks_46 fl_X9_11 rfl rfl ?_
                refine kw_iload dX9_unevenPacks_49 rfl ?_
                refine kw_aaldN dX9_unevenPacks_51 rfl (by omega) (by decide) (if_pos hlt) ?_
                refine kw_get dX9_unevenPacks_52 fl_X9_85 (hC_bl hlt) rfl ?_
                refine kw_goto (tgt := 59) dX9_unevenPacks_55 (by decide) ?_
                refine kw_iadd dX9_unevenPacks_59 ?_
                refine kw_top (v' := pi_ (nI (ho_ k p + sumN (fun j => if liesB s j (nI p) then sz_ s j else 0) (j + 1)))) (by rw [sumN, b2_n0.mp c42, nI_add, Nat.add_assoc]; rfl) ?_
                refine kw_istore_n dX9_unevenPacks_60 (Nat.le_of_ble_eq_true rfl) ?_
                refine kw_iinc dX9_unevenPacks_61 rfl (nI_i j) ?_
                refine kw_goto (tgt := 25) dX9_unevenPacks_64 (by decide) ?_
                exact ih (j + 1) (by omega) (by omega)
        refine kw_aload_n dX9_unevenPacks_12 rfl ?_
        refine kw_get dX9_unevenPacks_13 fl_X9_19 rfl rfl ?_
        refine kw_iload_n dX9_unevenPacks_16 rfl ?_
        refine kw_aaldN dX9_unevenPacks_17 rfl (by omega) (by decide) (if_pos hlp) ?_
        refine kw_get dX9_unevenPacks_18 fl_X9_88 (hC_pa hlp) rfl ?_
        refine kw_istore_n dX9_unevenPacks_21 (Nat.le_of_ble_eq_true rfl) ?_
        refine kw_iconst (v := 0) dX9_unevenPacks_22 (by decide) ?_
        refine kw_istore dX9_unevenPacks_23 (Nat.le_of_ble_eq_true rfl) ?_
        exact loop (nb_ s + 1) 0 (by omega) (by omega)
  refine kw_iconst (v := 0) dX9_unevenPacks_0 (by decide) ?_
  refine kw_istore_n dX9_unevenPacks_1 (Nat.le_of_ble_eq_true rfl) ?_
  refine kw_iconst (v := 0) dX9_unevenPacks_2 (by decide) ?_
  refine kw_istore_n dX9_unevenPacks_3 (Nat.le_of_ble_eq_true rfl) ?_
  exact loop (np_ s + 1) 0 (by omega) (by omega)
