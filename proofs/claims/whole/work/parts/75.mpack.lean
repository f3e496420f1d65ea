/-! THE MODEL'S PACKING -/
def extP (u : SG) (A : Nat) : SG := sN (sGb (sF u 6 (fun x => if np_ u ≤ x ∧ x < A then 0 else al_ u x)) 2 (fun x => if np_ u ≤ x ∧ x < A then false else gn_ u x)) 4 A
theorem ext_id (u : SG) : extP u (np_ u) = u := by
  unfold extP
  rw [show (fun x => if np_ u ≤ x ∧ x < np_ u then 0 else al_ u x) = fs_ u 6 from funext (fun x => if_neg (by omega)), show (fun x => if np_ u ≤ x ∧ x < np_ u then false else gn_ u x) = gs_ u 2 from funext (fun x => if_neg (by omega))]
  show (va_up u.1 4 (u.1 4), u.2.1, u.2.2.1, u.2.2.2.1, va_up u.2.2.2.2.1 6 (u.2.2.2.2.1 6), va_up u.2.2.2.2.2.1 2 (u.2.2.2.2.2.1 2), u.2.2.2.2.2.2) = u
  rw [va_up_id, va_up_id, va_up_id]
theorem ext_lay {u : SG} {b P O A : Nat} (h : (P < np_ u ∧ al_ u P = O) ∨ (P = np_ u ∧ O = 0)) (hA : P < A) : sF (sF (sF (extP u A) 3 (va_up (pk_ u) b P)) 4 (va_up (pp_ u) b O)) 6 (va_up (al_ (extP u A)) P (O + sz_ u b)) = extP (aLay u b P O) A := by
  have e6 : al_ (extP u A) = fun x => if np_ u ≤ x ∧ x < A then 0 else al_ u x := rfl
  rw [e6]
  rcases h with ⟨h1, h2⟩ | ⟨h1, h2⟩
  · rw [show aLay u b P O = sA (s_lay u b P O) P (O + sz_ u b) from if_pos h1]
    unfold extP
    refine sg_ext rfl rfl rfl rfl ?_ rfl rfl rfl
    show va_up (va_up (va_up (va_up (fs_ u) 6 _) 3 _) 4 _) 6 _ = va_up (va_up (va_up (va_up (fs_ u) 3 _) 4 _) 6 _) 6 _
    rw [va_up_comm (va_up (fs_ u) 6 _) (show (3 : Nat) ≠ 4 by decide), va_up_comm (fs_ u) (show (6 : Nat) ≠ 4 by decide), va_up_comm _ (show (6 : Nat) ≠ 3 by decide), va_up2, va_up2, va_up_comm (fs_ u) (show (4 : Nat) ≠ 3 by decide)]
    refine congrArg (va_up _ 6) (funext (fun x => ?_))
    show (if x = P then O + sz_ u b else if np_ u ≤ x ∧ x < A then 0 else al_ u x) = if np_ u ≤ x ∧ x < A then 0 else if x = P then O + sz_ u b else al_ u x
    by_cases e : x = P
    · rw [if_pos e, if_pos e, if_neg (by omega)]
    · rw [if_neg e, if_neg e]
  · subst h1
    subst h2
    rw [show aLay u b (np_ u) 0 = sA (s_lay (s_np u) b (np_ u) 0) (np_ u) (0 + sz_ u b) from if_neg (Nat.lt_irrefl _)]
    unfold extP
    refine sg_ext ?_ rfl rfl rfl ?_ ?_ rfl rfl
    · show va_up u.1 4 A = va_up (va_up u.1 4 _) 4 A
      rw [va_up2]
    · show va_up (va_up (va_up (va_up (fs_ u) 6 _) 3 _) 4 _) 6 _ = va_up (va_up (va_up (va_up (fs_ u) 3 _) 4 _) 6 _) 6 _
      rw [va_up_comm (va_up (fs_ u) 6 _) (show (3 : Nat) ≠ 4 by decide), va_up_comm (fs_ u) (show (6 : Nat) ≠ 4 by decide), va_up_comm _ (show (6 : Nat) ≠ 3 by decide), va_up2, va_up2, va_up_comm (fs_ u) (show (4 : Nat) ≠ 3 by decide)]
      refine congrArg (va_up _ 6) (funext (fun x => ?_))
      show (if x = np_ u then 0 + sz_ u b else if np_ u ≤ x ∧ x < A then 0 else al_ u x) = if np_ u + 1 ≤ x ∧ x < A then 0 else if x = np_ u then 0 + sz_ u b else al_ u x
      by_cases e : x = np_ u
      · rw [if_pos e, if_pos e, if_neg (by omega)]
      · rw [if_neg e, if_neg e]
        by_cases e2 : np_ u ≤ x ∧ x < A
        · rw [if_pos e2, if_pos (by omega)]
        · rw [if_neg e2, if_neg (by omega)]
    · show va_up (gs_ u) 2 _ = va_up (va_up (gs_ u) 2 _) 2 _
      rw [va_up2]
      refine congrArg (va_up _ 2) (funext (fun x => ?_))
      show (if np_ u ≤ x ∧ x < A then false else gn_ u x) = if np_ u + 1 ≤ x ∧ x < A then false else if x = np_ u then false else gn_ u x
      by_cases e : x = np_ u
      · rw [if_pos (by omega), if_neg (by omega), if_pos e]
      · rw [if_neg e]
        by_cases e2 : np_ u ≤ x ∧ x < A
        · rw [if_pos e2, if_pos (by omega)]
        · rw [if_neg e2, if_neg (by omega)]
theorem Pk_put {s : SG} {p : Nat} {f : Nat → Nat} {x0 : Nat × Nat} {t : SG} {κ : KG} {i : Nat} (h : PkInv s p f x0 t κ i) (hz : 1 ≤ sz_ s (f i)) : ((plP s f x0 i).1 < np_ t ∧ al_ t (plP s f x0 i).1 = (plP s f x0 i).2) ∨ ((plP s f x0 i).1 = np_ t ∧ (plP s f x0 i).2 = 0) := by
  obtain ⟨v1, v2, v3, v4, v5, v6, v7, v8⟩ := h
  unfold plP plA
  by_cases e : (plT s f x0 i).2 + sz_ s (f i) ≤ cap_ s
  · rw [if_pos e]
    have := v4.resolve_left (by omega)
    exact Or.inl ⟨by omega, this.2.2⟩
  · rw [if_neg e]
    exact Or.inr ⟨v3, rfl⟩
theorem extZ (t : SG) (q : Nat) (hq : np_ t ≤ q) : sGb (sF (sGb (sF t 6 (fun x => if np_ t ≤ x ∧ x < q then 0 else al_ t x)) 2 (fun x => if np_ t ≤ x ∧ x < q then false else gn_ t x)) 6 (va_up (fun x => if np_ t ≤ x ∧ x < q then 0 else al_ t x) q 0)) 2 (va_up (fun x => if np_ t ≤ x ∧ x < q then false else gn_ t x) q false) = sGb (sF t 6 (fun x => if np_ t ≤ x ∧ x < q + 1 then 0 else al_ t x)) 2 (fun x => if np_ t ≤ x ∧ x < q + 1 then false else gn_ t x) := by
  refine sg_ext rfl rfl rfl rfl ?_ ?_ rfl rfl
  · show va_up (va_up (fs_ t) 6 _) 6 _ = va_up (fs_ t) 6 _
    rw [va_up2]
    refine congrArg (va_up _ 6) (funext (fun x => ?_))
    show (if x = q then 0 else if np_ t ≤ x ∧ x < q then 0 else al_ t x) = if np_ t ≤ x ∧ x < q + 1 then 0 else al_ t x
    by_cases e : x = q
    · rw [if_pos e, if_pos (by omega)]
    · rw [if_neg e]
      by_cases e2 : np_ t ≤ x ∧ x < q
      · rw [if_pos e2, if_pos (by omega)]
      · rw [if_neg e2, if_neg (by omega)]
  · show va_up (va_up (gs_ t) 2 _) 2 _ = va_up (gs_ t) 2 _
    rw [va_up2]
    refine congrArg (va_up _ 2) (funext (fun x => ?_))
    show (if x = q then false else if np_ t ≤ x ∧ x < q then false else gn_ t x) = if np_ t ≤ x ∧ x < q + 1 then false else gn_ t x
    by_cases e : x = q
    · rw [if_pos e, if_pos (by omega)]
    · rw [if_neg e]
      by_cases e2 : np_ t ≤ x ∧ x < q
      · rw [if_pos e2, if_pos (by omega)]
      · rw [if_neg e2, if_neg (by omega)]
set_option maxHeartbeats 4000000 in
set_option maxRecDepth 100000 in
theorem n_packStep (l : Launch) (n : Nat) (s : SG) (kc k : KG) (hA : JA n s) (hK0 : VK s kc) (p : Nat) (hp : p < np_ s) (hnx : nx_ k = nI p) : kw_P l yX12_packStep cX12_packStep 6 (Option.some Jvm.ClassFile.FieldType.boolean) { frames := 1, cells := 0, slots := 0, locals := 31 } [pr_ (40, 0)] (hM s k) (fun r h' => r = some (pi_ (b2 (pkNF s kc p).1)) ∧ ∃ κ, nx_ κ = nI (p + 1) ∧ pe_ κ = pe_ k ∧ kn_ κ = kn_ k ∧ h' = hM (if (pkNF s kc p).1 = true then (pkNF s kc p).2.1 else s_gone (pkNF s kc p).2.1) κ) := by
  refine kw_M_of RX12 "packStep" [some (pr_ (40, 0)), none, none, none, none, none] (by decide) rfl rfl rfl (Nat.le_of_ble_eq_true rfl) ?_
  intro D ad A
  refine kw_Kgen (fun K hK => ?_)
  have hA0 := hA
  obtain ⟨a1, a2, a3, a4, a5, a6, a7, a8, a9, a10, a11, a12⟩ := hA
  have hb := a1.1
  have hp4 := a1.2.1
  have hcap := a1.2.2.2.1
  have hshr := a1.2.2.2.2.1
  obtain ⟨hal, hby⟩ := a12.2.2.2 p hp
  obtain ⟨hac, hho⟩ := hK0 p hp
  obtain ⟨N, hN⟩ : ∃ N, N = lieN s (nI p) := ⟨_, rfl⟩
  have hNb : N ≤ nb_ s := by rw [hN]; exact cntN_le _
  refine kw_aload_n dX12_packStep_0 rfl ?_
  refine kw_get dX12_packStep_1 fl_X12_267 rfl rfl ?_
  refine kw_top (v' := pi_ (nI p)) (by rw [← hnx]) ?_
  refine kw_istore_n dX12_packStep_4 (Nat.le_of_ble_eq_true rfl) ?_
  refine kw_aload_n dX12_packStep_5 rfl ?_
  refine kw_dup dX12_packStep_6 rfl ?_
  refine kw_get dX12_packStep_7 fl_X12_267 rfl rfl ?_
  refine kw_iconst (v := 1) dX12_packStep_10 (by decide) ?_
  refine kw_iadd dX12_packStep_11 ?_
  refine kw_top (v' := pi_ (nI (p + 1))) (by rw [← nI_1, ← hnx]) ?_
  refine kw_put dX12_packStep_12 fl_X12_267 rfl (kw_ok_i _) (Nat.le_of_ble_eq_true rfl) ?_
  refine kw_heq (um_nx s k (nI (p + 1))) ?_
  refine kw_aload_n dX12_packStep_15 rfl ?_
  refine kw_get dX12_packStep_16 fl_X12_49 rfl rfl ?_
  refine kw_iload_n dX12_packStep_19 rfl ?_
  refine kw_ialdN dX12_packStep_20 rfl (by omega) (by decide) ?_
  refine kw_aload_n dX12_packStep_21 rfl ?_
  refine kw_iload_n dX12_packStep_22 rfl ?_
  refine kw_callVf (As := [pi_ (nI p)]) (n_bytes l s (kX k 0 (nI (p + 1))) hb (nI p)) dX12_packStep_23 cl_X12_288 rfl rfl rfl rfl (Nat.le_of_ble_eq_true rfl) ⟨(Nat.le_of_ble_eq_true rfl), (Nat.le_of_ble_eq_true rfl), (Nat.le_of_ble_eq_true rfl), (Nat.le_of_ble_eq_true rfl)⟩ ?_
  refine kw_isub dX12_packStep_26 ?_
  refine kw_top (v' := pi_ (nI (al_ s p - byN s p))) (by rw [← pk_sub hby]; rfl) ?_
  refine kw_istore_n dX12_packStep_27 (Nat.le_of_ble_eq_true rfl) ?_
  refine kw_aload_n dX12_packStep_28 rfl ?_
  refine kw_get dX12_packStep_29 fl_X12_46 rfl rfl ?_
  refine kw_iload_n dX12_packStep_32 rfl ?_
  refine kw_zaldN dX12_packStep_33 rfl (by omega) (by decide) ?_
  refine kw_if_ne (tgt := 66) dX12_packStep_34 (by decide) (fun c34 => ?_) (fun c34 => ?_)
  · skip
    have e34 := b2_n0.mp c34
    have eN : pkNF s kc p = (true, s, kX kc 0 (nI (p + 1))) := if_neg (fun q => by unfold dueB at q; rw [e34] at q; simp at q)
    refine kw_iconst (v := 1) dX12_packStep_66 (by decide) ?_
    exact kw_zret dX12_packStep_67 rfl (by decide) (Nat.le_of_ble_eq_true rfl) (Nat.le_of_ble_eq_true rfl) (hK _ _ _ ⟨rfl, by rw [eN]; rfl, (kX k 0 (nI (p + 1))), rfl, rfl, rfl, by rw [eN]; rfl⟩)
  · skip
    have e34 := b2_0.mp c34
    rw [e34, if_neg (by decide)] at hac hho
    refine kw_iload_n dX12_packStep_37 rfl ?_
    refine kw_if_eq (tgt := 66) dX12_packStep_38 (by decide) (fun c38 => ?_) (fun c38 => ?_)
    · skip
      have e38 : al_ s p - byN s p = 0 := nI_eq' (b := 0) (by omega) (by decide) c38
      have eN : pkNF s kc p = (true, s, kX kc 0 (nI (p + 1))) := if_neg (fun q => by unfold dueB at q; rw [hho, e38] at q; simp at q)
      refine kw_iconst (v := 1) dX12_packStep_66 (by decide) ?_
      exact kw_zret dX12_packStep_67 rfl (by decide) (Nat.le_of_ble_eq_true rfl) (Nat.le_of_ble_eq_true rfl) (hK _ _ _ ⟨rfl, by rw [eN]; rfl, (kX k 0 (nI (p + 1))), rfl, rfl, rfl, by rw [eN]; rfl⟩)
    · skip
      have e38 : 0 < al_ s p - byN s p := Nat.pos_of_ne_zero (fun q => c38 (by rw [q]; rfl))
      refine kw_aload_n dX12_packStep_41 rfl ?_
      refine kw_get dX12_packStep_42 fl_X12_52 rfl rfl ?_
      refine kw_if_eq (tgt := 66) dX12_packStep_45 (by decide) (fun c45 => ?_) (fun c45 => ?_)
      · skip
        have e45 : shr_ s = 0 := nI_eq' (b := 0) (by omega) (by decide) c45
        have eN : pkNF s kc p = (true, s, kX kc 0 (nI (p + 1))) := if_neg (fun q => by unfold dueB at q; rw [e45] at q; simp at q)
        refine kw_iconst (v := 1) dX12_packStep_66 (by decide) ?_
        exact kw_zret dX12_packStep_67 rfl (by decide) (Nat.le_of_ble_eq_true rfl) (Nat.le_of_ble_eq_true rfl) (hK _ _ _ ⟨rfl, by rw [eN]; rfl, (kX k 0 (nI (p + 1))), rfl, rfl, rfl, by rw [eN]; rfl⟩)
      · skip
        have e45 : 0 < shr_ s := Nat.pos_of_ne_zero (fun q => c45 (by rw [q]; rfl))
        refine kw_bipush (v := (nI 100)) dX12_packStep_48 (by decide) ?_
        refine kw_iload_n dX12_packStep_50 rfl ?_
        refine kw_imul dX12_packStep_51 ?_
        refine kw_top (v' := pi_ (nI (100 * (al_ s p - byN s p)))) (by rw [nI_mul]) ?_
        refine kw_aload_n dX12_packStep_52 rfl ?_
        refine kw_get dX12_packStep_53 fl_X12_52 rfl rfl ?_
        refine kw_aload_n dX12_packStep_56 rfl ?_
        refine kw_get dX12_packStep_57 fl_X12_49 rfl rfl ?_
        refine kw_iload_n dX12_packStep_60 rfl ?_
        refine kw_ialdN dX12_packStep_61 rfl (by omega) (by decide) ?_
        refine kw_imul dX12_packStep_62 ?_
        refine kw_top (v' := pi_ (nI (shr_ s * al_ s p))) (by rw [nI_mul]) ?_
        refine kw_icmp_ge (tgt := 68) dX12_packStep_63 (by decide) (fun c63 => ?_) (fun c63 => ?_)
        · skip
          have hm1 : shr_ s * al_ s p ≤ 100 * 1000 := Nat.mul_le_mul hshr (by omega)
          have e63 : shr_ s * al_ s p ≤ 100 * (al_ s p - byN s p) := nI_le' (by omega) (by omega) c63
          have hdue : dueB s kc p = true := by unfold dueB; rw [e34, hac, hho, decide_eq_true e45, decide_eq_true e38, decide_eq_true e63]; rfl
          obtain ⟨kd, hkd⟩ : ∃ kd, kd = kX kc 0 (nI (p + 1)) := ⟨_, rfl⟩
          have hKd : VK s kd := by rw [hkd]; exact hK0
          have eN : pkNF s kc p = pkF s kd p := by rw [hkd]; exact if_pos hdue
          rw [eN] at hK
          have hx0 : (pkx0 s kd p).1 = np_ s - 1 ∧ ((np_ s - 1 = p ∨ gn_ s (np_ s - 1) = true) → (pkx0 s kd p).2 = cap_ s) ∧ (¬ (np_ s - 1 = p ∨ gn_ s (np_ s - 1) = true) → (pkx0 s kd p).2 = al_ s (np_ s - 1)) := by
            refine ⟨rfl, fun q => ?_, fun q => ?_⟩
            · show fullS s kd (nI p) = _
              unfold fullS
              exact if_pos (q.elim (fun y => Or.inr (Or.inl (by rw [y]))) (fun y => Or.inr (Or.inr y)))
            · show fullS s kd (nI p) = _
              unfold fullS
              rw [if_neg (fun y => y.elim (fun z => by omega) (fun y => y.elim (fun z => q (Or.inl (nI_eq' (by omega) (by omega) z))) (fun z => q (Or.inr z))))]
              have := (hKd (np_ s - 1) (by omega)).1
              rw [if_neg (fun y => q (Or.inr y))] at this
              exact this
          have hpp : ∀ j, j < nb_ s → pp_ s j ≤ 1000 ∧ 1 ≤ sz_ s j ∧ sz_ s j ≤ cap_ s := fun j hj => ⟨(a12.1 j hj).2.2.2, (a12.1 j hj).2.1, (a12.1 j hj).2.2.1⟩
          have hdis := dis_ok a12 hp4 (p := p) (by omega)
          refine kw_aload_n dX12_packStep_68 rfl ?_
          refine kw_iload_n dX12_packStep_69 rfl ?_
          refine kw_callVf (As := [pi_ (nI p)]) (n_blocks l s (kX k 0 (nI (p + 1))) hb (nI p)) dX12_packStep_70 cl_X12_291 rfl rfl rfl rfl (Nat.le_of_ble_eq_true rfl) ⟨(Nat.le_of_ble_eq_true rfl), (Nat.le_of_ble_eq_true rfl), (Nat.le_of_ble_eq_true rfl), (Nat.le_of_ble_eq_true rfl)⟩ ?_
          refine kw_top (v' := pi_ (nI N)) (by rw [hN]; rfl) ?_
          refine kw_istore_n dX12_packStep_73 (Nat.le_of_ble_eq_true rfl) ?_
          refine kw_aload_n dX12_packStep_74 rfl ?_
          refine kw_iload_n dX12_packStep_75 rfl ?_
          refine kw_iload_n dX12_packStep_76 rfl ?_
          refine kw_callV (As := [pi_ (nI p), pi_ (nI N)]) (n_plan l s (kX k 0 (nI (p + 1))) hb hp4 hcap p hp hdis hpp (a12.2.2.2 (np_ s - 1) (by omega)).1 N hN (mvO s p) rfl (pkx0 s kd p) hx0) dX12_packStep_77 cl_X12_294 rfl rfl rfl rfl (Nat.le_of_ble_eq_true rfl) ⟨(Nat.le_of_ble_eq_true rfl), (Nat.le_of_ble_eq_true rfl), (Nat.le_of_ble_eq_true rfl), (Nat.le_of_ble_eq_true rfl)⟩ (fun r2 h2 hp2 => ?_)
          obtain ⟨rfl, a, b, c, ha, hbb, hc, rfl⟩ := hp2
          obtain ⟨T, hT⟩ : ∃ T, T = (plT s (mvO s p) (pkx0 s kd p) N).1 := ⟨_, rfl⟩
          rw [← hT]
          have hTb : T ≤ np_ s - 1 + N := by rw [hT]; exact plT_le s (mvO s p) (pkx0 s kd p) N
          have hpk : pkTo s kd p = T := by rw [hT, hN]
          refine kw_istore dX12_packStep_80 (Nat.le_of_ble_eq_true rfl) ?_
          refine kw_iload dX12_packStep_82 rfl ?_
          refine kw_bipush (v := 40) dX12_packStep_84 (by decide) ?_
          refine kw_icmp_le (tgt := 91) dX12_packStep_86 (by decide) (fun c86 => ?_) (fun c86 => ?_)
          · skip
            have e86 : T < 40 := Nat.lt_of_succ_le (nI_le' (a := T + 1) (b := 40) (by omega) (by decide) c86)
            have h40 : pkTo s kd p < 40 := by rw [hpk]; exact e86
            have eF : pkF s kd p = if (wrL (N + 1) s).1 = true then (true, pkS s kd p (wrL (N + 1) s).2, pkK s kd p (wrL (N + 1) s).2) else (false, (wrL (N + 1) s).2, kd) := by rw [hN]; exact if_pos h40
            obtain ⟨κ, hκ⟩ : ∃ κ, κ = k3 (kX k 0 (nI (p + 1))) a b c := ⟨_, rfl⟩
            rw [← hκ]
            have κ0 : nx_ κ = nI (p + 1) := by rw [hκ]; rfl
            have κ1 : pe_ κ = pe_ k := by rw [hκ]; rfl
            have κ2 : kn_ κ = kn_ k := by rw [hκ]
            have κa : ka_ κ 0 = a := by rw [hκ]; rfl
            have κb : ka_ κ 1 = b := by rw [hκ]; rfl
            have κc : ka_ κ 2 = c := by rw [hκ]; rfl
            have loopW : ∀ (n_ : Nat) (i : Nat) (t : SG), N + 1 - i < n_ → i ≤ N + 1 → wrL (N + 1 - i) t = wrL (N + 1) s → kw_G l D cX12_packStep RX12 (Option.some Jvm.ClassFile.FieldType.boolean) "packStep" { frames := 1, cells := 0, slots := 0, locals := 31 } A K ad (hM t κ) 0 0 94 [some (pr_ (40, 0)), some (pi_ (nI p)), none, some (pi_ (nI N)), some (pi_ (nI (T + 1))), some (pi_ (nI i))] [] := by
              intro n_
              induction n_ with
              | zero =>
                intro i t hm_
                exact absurd hm_ (Nat.not_lt_zero _)
              | succ n_ ih =>
                intro i t hm_ hi hw
                refine kw_iload dX12_packStep_94 rfl ?_
                refine kw_iload_n dX12_packStep_96 rfl ?_
                refine kw_icmp_gt (tgt := 115) dX12_packStep_97 (by decide) (fun c97 => ?_) (fun c97 => ?_)
                · skip
                  have e : N < i := nI_lt' (by omega) (by omega) c97
                  have ei : i = N + 1 := by omega
                  subst ei
                  rw [Nat.sub_self] at hw
                  have hwt : (wrL (N + 1) s).1 = true := by rw [← hw]; rfl
                  have ht0 : (wrL (N + 1) s).2 = t := by rw [← hw]; rfl
                  obtain ⟨t0, et0⟩ : ∃ t0, t0 = t := ⟨_, rfl⟩
                  rw [← et0] at ht0 ⊢
                  obtain ⟨X, db, eW, _⟩ := wrL_e (N + 1) s
                  have hwf : sz_ (wrL (N + 1) s).2 = sz_ s := by rw [eW]
                  have h0e : t0 = (s.1, X, s.2.2.1, db, s.2.2.2.2) := ht0.symm.trans eW
                  have hnp0 : np_ t0 = np_ s := by rw [h0e]
                  have hall : ∀ i, i ≤ N → PkInv s p (mvO s p) (pkx0 s kd p) (aS (mvO s p) (plP s (mvO s p) (pkx0 s kd p)) t0 i) (kS (mvO s p) (plP s (mvO s p) (pkx0 s kd p)) t0 kd i) i := by rw [h0e, hN]; exact Pk_all hA0 hKd hp e34 h40 X db
                  have hpl : planM s p (nb_ s) N (mvO s p) := by rw [hN]; exact mvO_plan hdis
                  have hTn : np_ t0 ≤ T + 1 := by
                    have h1 := plT_mono s (mvO s p) (pkx0 s kd p) 0 N
                    rw [Nat.zero_add, ← hT] at h1
                    have h1 : np_ s - 1 ≤ T := h1
                    omega
                  have loopY : ∀ (n_ : Nat) (i : Nat), N - i < n_ → i ≤ N → kw_G l D cX12_packStep RX12 (Option.some Jvm.ClassFile.FieldType.boolean) "packStep" { frames := 1, cells := 0, slots := 0, locals := 31 } A K ad (hM (extP (aS (mvO s p) (plP s (mvO s p) (pkx0 s kd p)) t0 i) (T + 1)) κ) 0 0 159 [some (pr_ (40, 0)), some (pi_ (nI p)), none, some (pi_ (nI N)), some (pi_ (nI (T + 1))), some (pi_ (nI i))] [] := by
                    intro n_
                    induction n_ with
                    | zero =>
                      intro i hm_
                      exact absurd hm_ (Nat.not_lt_zero _)
                    | succ n_ ih =>
                      intro i hm_ hi
                      refine kw_iload dX12_packStep_159 rfl ?_
                      refine kw_iload_n dX12_packStep_161 rfl ?_
                      refine kw_icmp_ge (tgt := 236) dX12_packStep_162 (by decide) (fun c162 => ?_) (fun c162 => ?_)
                      · skip
                        have e : N = i := (Nat.le_antisymm hi (nI_le' (by omega) (by omega) c162)).symm
                        subst e
                        have hlast := (hall N (Nat.le_refl _)).2.2.1
                        rw [← hT] at hlast
                        rw [hlast, ext_id]
                        obtain ⟨uN, huN⟩ : ∃ uN, uN = aS (mvO s p) (plP s (mvO s p) (pkx0 s kd p)) t0 N := ⟨_, rfl⟩
                        rw [← huN]
                        have hgp := (hall N (Nat.le_refl _)).2.2.2.2.2.1.2
                        rw [← huN] at hgp hlast
                        have eF2 : pkF s kd p = (true, s_left uN p, pkK s kd p (wrL (N + 1) s).2) := by rw [eF, if_pos hwt, huN, ht0]; unfold pkS; rw [← hN]
                        rw [eF2] at hK
                        refine kw_aload_n dX12_packStep_236 rfl ?_
                        refine kw_get dX12_packStep_237 fl_X12_46 rfl rfl ?_
                        refine kw_iload_n dX12_packStep_240 rfl ?_
                        refine kw_iconst (v := 1) dX12_packStep_241 (by decide) ?_
                        refine kw_top (v' := pi_ (b2 true)) rfl ?_
                        refine kw_zastN dX12_packStep_242 rfl (by omega) (by decide) ?_
                        refine kw_heq (uma_8 uN κ p true) ?_
                        refine kw_aload_n dX12_packStep_243 rfl ?_
                        refine kw_dup dX12_packStep_244 rfl ?_
                        refine kw_get dX12_packStep_245 fl_X12_298 rfl rfl ?_
                        refine kw_iconst (v := 1) dX12_packStep_248 (by decide) ?_
                        refine kw_iadd dX12_packStep_249 ?_
                        refine kw_top (v' := pi_ (nI (nan_ uN + 1))) (by rw [← nI_1]) ?_
                        refine kw_put dX12_packStep_250 fl_X12_298 rfl (kw_ok_i _) (Nat.le_of_ble_eq_true rfl) ?_
                        refine kw_heq (um_nan _ κ (nan_ uN + 1)) ?_
                        refine kw_iconst (v := 1) dX12_packStep_253 (by decide) ?_
                        exact kw_zret dX12_packStep_254 rfl (by decide) (Nat.le_of_ble_eq_true rfl) (Nat.le_of_ble_eq_true rfl) (hK _ _ _ ⟨rfl, rfl, κ, κ0, κ1, κ2, rfl⟩)
                      · skip
                        have hlt : i < N := nI_nle' (by omega) (by omega) c162
                        have hinv := hall i (by omega)
                        obtain ⟨u, hu⟩ : ∃ u, u = (aS (mvO s p) (plP s (mvO s p) (pkx0 s kd p)) t0 i) := ⟨_, rfl⟩
                        rw [← hu] at hinv ⊢
                        obtain ⟨hfi, hli⟩ := hpl.1 i hlt
                        have hpf := hpp (mvO s p i) hfi
                        have hput := Pk_put hinv hpf.2.1
                        obtain ⟨P, hP⟩ : ∃ P, P = (plP s (mvO s p) (pkx0 s kd p) i).1 := ⟨_, rfl⟩
                        obtain ⟨O, hO⟩ : ∃ O, O = (plP s (mvO s p) (pkx0 s kd p) i).2 := ⟨_, rfl⟩
                        rw [← hP, ← hO] at hput
                        have hPT : P < T + 1 := by
                          have h1 := plT_mono s (mvO s p) (pkx0 s kd p) (i + 1) (N - (i + 1))
                          rw [show i + 1 + (N - (i + 1)) = N by omega] at h1
                          rw [hT, hP]
                          exact Nat.lt_succ_of_le h1
                        have hsu : sz_ u = sz_ s := by rw [hu, show sz_ (aS (mvO s p) (plP s (mvO s p) (pkx0 s kd p)) t0 i) = sz_ t0 from aS_f _ _ _ 0 (by decide) (by decide) (by decide) i, ← ht0]; exact hwf
                        have haO : al_ (extP u (T + 1)) P = O := by
                          show (if np_ u ≤ P ∧ P < T + 1 then 0 else al_ u P) = O
                          rcases hput with h | h
                          · rw [if_neg (by omega)]; exact h.2
                          · rw [if_pos (by omega)]; exact h.2.symm
                        obtain ⟨v, hv⟩ : ∃ v, v = mvO s p i := ⟨_, rfl⟩
                        rw [← hv] at hfi
                        have hav : a i = nI v := by rw [hv]; exact ha i hlt
                        have hbv : b i = nI P := by rw [hP]; exact hbb i hlt
                        have hcv : c i = nI O := by rw [hO]; exact hc i hlt
                        refine kw_aload_n dX12_packStep_165 rfl ?_
                        refine kw_get dX12_packStep_166 fl_X12_37 rfl rfl ?_
                        refine kw_aload_n dX12_packStep_169 rfl ?_
                        refine kw_get dX12_packStep_170 fl_X12_115 rfl rfl ?_
                        refine kw_iload dX12_packStep_173 rfl ?_
                        refine kw_ialdN dX12_packStep_175 rfl (by omega) (by decide) ?_
                        refine kw_top (v' := pi_ (nI v)) (by rw [κa, hav]) ?_
                        refine kw_aload_n dX12_packStep_176 rfl ?_
                        refine kw_get dX12_packStep_177 fl_X12_118 rfl rfl ?_
                        refine kw_iload dX12_packStep_180 rfl ?_
                        refine kw_ialdN dX12_packStep_182 rfl (by omega) (by decide) ?_
                        refine kw_top (v' := pi_ (nI P)) (by rw [κb, hbv]) ?_
                        refine kw_iastN dX12_packStep_183 rfl (by omega) (by decide) ?_
                        refine kw_heq (uma_5 (extP u (T + 1)) κ v P) ?_
                        refine kw_aload_n dX12_packStep_184 rfl ?_
                        refine kw_get dX12_packStep_185 fl_X12_40 rfl rfl ?_
                        refine kw_aload_n dX12_packStep_188 rfl ?_
                        refine kw_get dX12_packStep_189 fl_X12_115 rfl rfl ?_
                        refine kw_iload dX12_packStep_192 rfl ?_
                        refine kw_ialdN dX12_packStep_194 rfl (by omega) (by decide) ?_
                        refine kw_top (v' := pi_ (nI v)) (by rw [κa, hav]) ?_
                        refine kw_aload_n dX12_packStep_195 rfl ?_
                        refine kw_get dX12_packStep_196 fl_X12_121 rfl rfl ?_
                        refine kw_iload dX12_packStep_199 rfl ?_
                        refine kw_ialdN dX12_packStep_201 rfl (by omega) (by decide) ?_
                        refine kw_top (v' := pi_ (nI O)) (by rw [κc, hcv]) ?_
                        refine kw_iastN dX12_packStep_202 rfl (by omega) (by decide) ?_
                        refine kw_heq (uma_6 (sF (extP u (T + 1)) 3 (va_up (pk_ u) v P)) κ v O) ?_
                        refine kw_aload_n dX12_packStep_203 rfl ?_
                        refine kw_get dX12_packStep_204 fl_X12_49 rfl rfl ?_
                        refine kw_aload_n dX12_packStep_207 rfl ?_
                        refine kw_get dX12_packStep_208 fl_X12_118 rfl rfl ?_
                        refine kw_iload dX12_packStep_211 rfl ?_
                        refine kw_ialdN dX12_packStep_213 rfl (by omega) (by decide) ?_
                        refine kw_top (v' := pi_ (nI P)) (by rw [κb, hbv]) ?_
                        refine kw_dup2 dX12_packStep_214 rfl rfl ?_
                        refine kw_ialdN dX12_packStep_215 rfl (by omega) (by decide) ?_
                        refine kw_top (v' := pi_ (nI O)) (congrArg (fun q => pi_ (nI q)) haO) ?_
                        refine kw_aload_n dX12_packStep_216 rfl ?_
                        refine kw_get dX12_packStep_217 fl_X12_23 rfl rfl ?_
                        refine kw_aload_n dX12_packStep_220 rfl ?_
                        refine kw_get dX12_packStep_221 fl_X12_115 rfl rfl ?_
                        refine kw_iload dX12_packStep_224 rfl ?_
                        refine kw_ialdN dX12_packStep_226 rfl (by omega) (by decide) ?_
                        refine kw_top (v' := pi_ (nI v)) (by rw [κa, hav]) ?_
                        refine kw_ialdN dX12_packStep_227 rfl (by omega) (by decide) ?_
                        refine kw_top (v' := pi_ (nI (sz_ u v))) rfl ?_
                        refine kw_iadd dX12_packStep_228 ?_
                        refine kw_top (v' := pi_ (nI (O + sz_ u v))) (by rw [nI_add]) ?_
                        refine kw_iastN dX12_packStep_229 rfl (by omega) (by decide) ?_
                        refine kw_heq (uma_9 (sF (sF (extP u (T + 1)) 3 (va_up (pk_ u) v P)) 4 (va_up (pp_ u) v O)) κ P (O + sz_ u v)) ?_
                        refine kw_heq (h' := hM (extP (aLay u v P O) (T + 1)) κ) (congrArg (fun q => hM q κ) (ext_lay hput hPT)) ?_
                        refine kw_iinc dX12_packStep_230 rfl (nI_i i) ?_
                        refine kw_goto (tgt := 159) dX12_packStep_233 (by decide) ?_
                        have hnext : aLay u v P O = aS (mvO s p) (plP s (mvO s p) (pkx0 s kd p)) t0 (i + 1) := by rw [hu, hv, hP, hO]; rfl
                        rw [hnext]
                        exact ih (i + 1) (by omega) (by omega)
                  have loopZ : ∀ (n_ : Nat) (q : Nat), T + 1 - q < n_ → np_ t0 ≤ q → q ≤ T + 1 → kw_G l D cX12_packStep RX12 (Option.some Jvm.ClassFile.FieldType.boolean) "packStep" { frames := 1, cells := 0, slots := 0, locals := 31 } A K ad (hM (sGb (sF t0 6 (fun x => if np_ t0 ≤ x ∧ x < q then 0 else al_ t0 x)) 2 (fun x => if np_ t0 ≤ x ∧ x < q then false else gn_ t0 x)) κ) 0 0 121 [some (pr_ (40, 0)), some (pi_ (nI p)), none, some (pi_ (nI N)), some (pi_ (nI (T + 1))), some (pi_ (nI q))] [] := by
                    intro n_
                    induction n_ with
                    | zero =>
                      intro q hm_
                      exact absurd hm_ (Nat.not_lt_zero _)
                    | succ n_ ih =>
                      intro q hm_ hq hq2
                      refine kw_iload dX12_packStep_121 rfl ?_
                      refine kw_iload dX12_packStep_123 rfl ?_
                      refine kw_icmp_ge (tgt := 150) dX12_packStep_125 (by decide) (fun c125 => ?_) (fun c125 => ?_)
                      · skip
                        have e : q = T + 1 := Nat.le_antisymm hq2 (nI_le' (by omega) (by omega) c125)
                        subst e
                        refine kw_aload_n dX12_packStep_150 rfl ?_
                        refine kw_iload dX12_packStep_151 rfl ?_
                        refine kw_put dX12_packStep_153 fl_X12_178 rfl (kw_ok_i _) (Nat.le_of_ble_eq_true rfl) ?_
                        refine kw_heq (um_np (sGb (sF t0 6 (fun x => if np_ t0 ≤ x ∧ x < (T + 1) then 0 else al_ t0 x)) 2 (fun x => if np_ t0 ≤ x ∧ x < (T + 1) then false else gn_ t0 x)) κ (T + 1)) ?_
                        refine kw_heq (h' := hM (extP t0 (T + 1)) κ) rfl ?_
                        refine kw_iconst (v := 0) dX12_packStep_156 (by decide) ?_
                        refine kw_istore dX12_packStep_157 (Nat.le_of_ble_eq_true rfl) ?_
                        exact loopY (N + 1) 0 (by omega) (by omega)
                      · skip
                        have hlt : q < T + 1 := nI_nle' (by omega) (by omega) c125
                        refine kw_aload_n dX12_packStep_128 rfl ?_
                        refine kw_get dX12_packStep_129 fl_X12_49 rfl rfl ?_
                        refine kw_iload dX12_packStep_132 rfl ?_
                        refine kw_iconst (v := 0) dX12_packStep_134 (by decide) ?_
                        refine kw_top (v' := pi_ (nI 0)) rfl ?_
                        refine kw_iastN dX12_packStep_135 rfl (by omega) (by decide) ?_
                        refine kw_heq (uma_9 (sGb (sF t0 6 (fun x => if np_ t0 ≤ x ∧ x < q then 0 else al_ t0 x)) 2 (fun x => if np_ t0 ≤ x ∧ x < q then false else gn_ t0 x)) κ q 0) ?_
                        refine kw_aload_n dX12_packStep_136 rfl ?_
                        refine kw_get dX12_packStep_137 fl_X12_46 rfl rfl ?_
                        refine kw_iload dX12_packStep_140 rfl ?_
                        refine kw_iconst (v := 0) dX12_packStep_142 (by decide) ?_
                        refine kw_top (v' := pi_ (b2 false)) rfl ?_
                        refine kw_zastN dX12_packStep_143 rfl (by omega) (by decide) ?_
                        refine kw_heq (uma_8 (sF (sGb (sF t0 6 (fun x => if np_ t0 ≤ x ∧ x < q then 0 else al_ t0 x)) 2 (fun x => if np_ t0 ≤ x ∧ x < q then false else gn_ t0 x)) 6 (va_up (al_ (sGb (sF t0 6 (fun x => if np_ t0 ≤ x ∧ x < q then 0 else al_ t0 x)) 2 (fun x => if np_ t0 ≤ x ∧ x < q then false else gn_ t0 x))) q 0)) κ q false) ?_
                        refine kw_heq (h' := hM (sGb (sF t0 6 (fun x => if np_ t0 ≤ x ∧ x < (q + 1) then 0 else al_ t0 x)) 2 (fun x => if np_ t0 ≤ x ∧ x < (q + 1) then false else gn_ t0 x)) κ) (congrArg (fun z => hM z κ) (extZ t0 q hq)) ?_
                        refine kw_iinc dX12_packStep_144 rfl (nI_i q) ?_
                        refine kw_goto (tgt := 121) dX12_packStep_147 (by decide) ?_
                        exact ih (q + 1) (by omega) (by omega) (by omega)
                  refine kw_aload_n dX12_packStep_115 rfl ?_
                  refine kw_get dX12_packStep_116 fl_X12_178 rfl rfl ?_
                  refine kw_top (v' := pi_ (nI (np_ t0))) rfl ?_
                  refine kw_istore dX12_packStep_119 (Nat.le_of_ble_eq_true rfl) ?_
                  refine kw_heq (h' := hM (sGb (sF t0 6 (fun x => if np_ t0 ≤ x ∧ x < (np_ t0) then 0 else al_ t0 x)) 2 (fun x => if np_ t0 ≤ x ∧ x < (np_ t0) then false else gn_ t0 x)) κ) (by rw [show (fun x => if np_ t0 ≤ x ∧ x < np_ t0 then 0 else al_ t0 x) = fs_ t0 6 from funext (fun x => if_neg (by omega)), show (fun x => if np_ t0 ≤ x ∧ x < np_ t0 then false else gn_ t0 x) = gs_ t0 2 from funext (fun x => if_neg (by omega))]; show hM t0 κ = hM (t0.1, t0.2.1, t0.2.2.1, t0.2.2.2.1, va_up t0.2.2.2.2.1 6 (t0.2.2.2.2.1 6), va_up t0.2.2.2.2.2.1 2 (t0.2.2.2.2.2.1 2), t0.2.2.2.2.2.2) κ; rw [va_up_id, va_up_id]) ?_
                  exact loopZ (T + 2) (np_ t0) (by omega) (Nat.le_refl _) hTn
                · skip
                  have e : i ≤ N := Nat.not_lt.mp (fun q => c97 (nI_lt q (by omega)))
                  rw [show N + 1 - i = (N - i) + 1 by omega, wrL] at hw
                  by_cases hcut : cut_ t = 0
                  · rw [if_pos hcut] at hw
                    have eF2 : pkF s kd p = (false, s_w0 t, kd) := by rw [eF, ← hw]; rfl
                    rw [eF2] at hK
                    refine kw_aload_n dX12_packStep_100 rfl ?_
                    refine kw_callVf (As := []) (n_write0 l t κ hcut) dX12_packStep_101 cl_X12_191 rfl rfl rfl rfl (Nat.le_of_ble_eq_true rfl) ⟨(Nat.le_of_ble_eq_true rfl), (Nat.le_of_ble_eq_true rfl), (Nat.le_of_ble_eq_true rfl), (Nat.le_of_ble_eq_true rfl)⟩ ?_
                    refine kw_if_ne (tgt := 109) dX12_packStep_104 (by decide) (fun c104 => ?_) (fun c104 => ?_)
                    · skip
                      exact absurd rfl c104
                    · skip
                      refine kw_iconst (v := 0) dX12_packStep_107 (by decide) ?_
                      exact kw_zret dX12_packStep_108 rfl (by decide) (Nat.le_of_ble_eq_true rfl) (Nat.le_of_ble_eq_true rfl) (hK _ _ _ ⟨rfl, rfl, κ, κ0, κ1, κ2, rfl⟩)
                  rw [if_neg hcut] at hw
                  refine kw_aload_n dX12_packStep_100 rfl ?_
                  refine kw_callVf (As := []) (n_write1 l t κ hcut) dX12_packStep_101 cl_X12_191 rfl rfl rfl rfl (Nat.le_of_ble_eq_true rfl) ⟨(Nat.le_of_ble_eq_true rfl), (Nat.le_of_ble_eq_true rfl), (Nat.le_of_ble_eq_true rfl), (Nat.le_of_ble_eq_true rfl)⟩ ?_
                  refine kw_if_ne (tgt := 109) dX12_packStep_104 (by decide) (fun c104 => ?_) (fun c104 => ?_)
                  · skip
                    refine kw_iinc dX12_packStep_109 rfl (nI_i i) ?_
                    refine kw_goto (tgt := 94) dX12_packStep_112 (by decide) ?_
                    exact ih (i + 1) (s_w1 t) (by omega) (by omega) (by rw [show N + 1 - (i + 1) = N - i by omega]; exact hw)
                  · skip
                    exact absurd c104 (by decide)
            refine kw_iconst (v := 0) dX12_packStep_91 (by decide) ?_
            refine kw_istore dX12_packStep_92 (Nat.le_of_ble_eq_true rfl) ?_
            refine kw_lvle (lv' := [some (pr_ (40, 0)), some (pi_ (nI p)), none, some (pi_ (nI N)), some (pi_ (nI (T + 1))), some (pi_ (nI 0))]) (kw_le_s (kw_le_s (kw_le_n (kw_le_s (kw_le_s (kw_le_s kw_le_0)))))) ?_
            exact loopW (N + 2) 0 s (by omega) (by omega) rfl
          · skip
            have e86 : ¬ T < 40 := fun q => c86 (nI_le (a := T + 1) (b := 40) (by omega) (by decide))
            have eF : pkF s kd p = (true, s, kd) := if_neg (by rw [hpk]; exact e86)
            refine kw_iconst (v := 1) dX12_packStep_89 (by decide) ?_
            exact kw_zret dX12_packStep_90 rfl (by decide) (Nat.le_of_ble_eq_true rfl) (Nat.le_of_ble_eq_true rfl) (hK _ _ _ ⟨rfl, by rw [eF]; rfl, k3 (kX k 0 (nI (p + 1))) a b c, rfl, rfl, rfl, by rw [eF]; rfl⟩)
        · skip
          have hm1 : shr_ s * al_ s p ≤ 100 * 1000 := Nat.mul_le_mul hshr (by omega)
          have e63 : 100 * (al_ s p - byN s p) < shr_ s * al_ s p := nI_nle' (by omega) (by omega) c63
          have eN : pkNF s kc p = (true, s, kX kc 0 (nI (p + 1))) := if_neg (fun q => by unfold dueB at q; rw [hac, hho, decide_eq_false (p := shr_ s * al_ s p ≤ 100 * (al_ s p - byN s p)) (by omega)] at q; simp at q)
          refine kw_iconst (v := 1) dX12_packStep_66 (by decide) ?_
          exact kw_zret dX12_packStep_67 rfl (by decide) (Nat.le_of_ble_eq_true rfl) (Nat.le_of_ble_eq_true rfl) (hK _ _ _ ⟨rfl, by rw [eN]; rfl, (kX k 0 (nI (p + 1))), rfl, rfl, rfl, by rw [eN]; rfl⟩)
