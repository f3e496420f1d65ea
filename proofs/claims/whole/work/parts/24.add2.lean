/-! STORE.ADD -/
theorem kw_nm_up {h : PH} {key q : KK} {c0 : PC} (hn : ∀ k c, h k = some c → kw_nmc key c) (hc : kw_nmc key c0) : ∀ k c, kw_up h q c0 k = some c → kw_nmc key c := by
  intro k c hk
  by_cases e : k = q
  · subst e; rw [kw_up_s] at hk; cases hk; exact hc
  · rw [kw_up_n _ _ e] at hk; exact hn k c hk
theorem kw_up_nn {h : PH} {k q : KK} {c : PC} (hq : h q ≠ none) : kw_up h k c q ≠ none := by
  by_cases e : q = k
  · subst e; rw [kw_up_s]; exact fun z => by cases z
  · rw [kw_up_n _ _ e]; exact hq
set_option maxRecDepth 20000 in
theorem hC_al {s s' : SG} {k k' : KG} (h1 : nb_ s = nb_ s') (h2 : np_ s = np_ s') (h3 : ns_ s = ns_ s') : ∀ q, hC s k q ≠ none → hC s' k' q ≠ none := by
  rintro ⟨a, b⟩ hq
  match a, hq with
  | 0, hq =>
    have hq : o1_ b _ ≠ none := hq
    show o1_ b _ ≠ none
    unfold o1_ at hq ⊢
    by_cases e : b = 0
    · rw [if_pos e]; exact fun z => by cases z
    · rw [if_neg e] at hq; exact absurd rfl hq
  | 1, hq =>
    have hq : o1_ b _ ≠ none := hq
    show o1_ b _ ≠ none
    unfold o1_ at hq ⊢
    by_cases e : b = 0
    · rw [if_pos e]; exact fun z => by cases z
    · rw [if_neg e] at hq; exact absurd rfl hq
  | 2, hq =>
    match b, hq with
    | 0, hq => exact fun z => by cases z
    | 1, hq => exact fun z => by cases z
    | n + 2, hq => exact absurd rfl hq
  | 3, hq =>
    have hq : o1_ b _ ≠ none := hq
    show o1_ b _ ≠ none
    unfold o1_ at hq ⊢
    by_cases e : b = 0
    · rw [if_pos e]; exact fun z => by cases z
    · rw [if_neg e] at hq; exact absurd rfl hq
  | 4, hq =>
    match b, hq with
    | 0, hq => exact fun z => by cases z
    | 1, hq => exact fun z => by cases z
    | 2, hq => exact fun z => by cases z
    | n + 3, hq => exact absurd rfl hq
  | 5, hq =>
    have hq : on_ b (nb_ s) _ ≠ none := hq
    show on_ b _ _ ≠ none
    unfold on_ at hq ⊢
    by_cases e : b < nb_ s
    · rw [h1] at e; rw [if_pos e]; exact fun z => by cases z
    · rw [if_neg e] at hq; exact absurd rfl hq
  | 6, hq =>
    have hq : on_ b (nb_ s) _ ≠ none := hq
    show on_ b _ _ ≠ none
    unfold on_ at hq ⊢
    by_cases e : b < nb_ s
    · rw [h1] at e; rw [if_pos e]; exact fun z => by cases z
    · rw [if_neg e] at hq; exact absurd rfl hq
  | 7, hq =>
    have hq : on_ b (np_ s) _ ≠ none := hq
    show on_ b _ _ ≠ none
    unfold on_ at hq ⊢
    by_cases e : b < np_ s
    · rw [h2] at e; rw [if_pos e]; exact fun z => by cases z
    · rw [if_neg e] at hq; exact absurd rfl hq
  | 8, hq =>
    match b, hq with
    | 0, hq => exact fun z => by cases z
    | 1, hq => exact fun z => by cases z
    | n + 2, hq => exact absurd rfl hq
  | 9, hq =>
    match b, hq with
    | 0, hq => exact fun z => by cases z
    | 1, hq => exact fun z => by cases z
    | 2, hq => exact fun z => by cases z
    | 3, hq => exact fun z => by cases z
    | n + 4, hq => exact absurd rfl hq
  | 10, hq =>
    match b, hq with
    | 0, hq => exact fun z => by cases z
    | 1, hq => exact fun z => by cases z
    | 2, hq => exact fun z => by cases z
    | n + 3, hq => exact absurd rfl hq
  | 11, hq =>
    have hq : o1_ b _ ≠ none := hq
    show o1_ b _ ≠ none
    unfold o1_ at hq ⊢
    by_cases e : b = 0
    · rw [if_pos e]; exact fun z => by cases z
    · rw [if_neg e] at hq; exact absurd rfl hq
  | 12, hq =>
    have hq : on_ b (4) _ ≠ none := hq
    show on_ b _ _ ≠ none
    unfold on_ at hq ⊢
    by_cases e : b < 4
    · rw [if_pos e]; exact fun z => by cases z
    · rw [if_neg e] at hq; exact absurd rfl hq
  | 13, hq =>
    have hq : on_ b (4) _ ≠ none := hq
    show on_ b _ _ ≠ none
    unfold on_ at hq ⊢
    by_cases e : b < 4
    · rw [if_pos e]; exact fun z => by cases z
    · rw [if_neg e] at hq; exact absurd rfl hq
  | 14, hq =>
    have hq : on_ b (4) _ ≠ none := hq
    show on_ b _ _ ≠ none
    unfold on_ at hq ⊢
    by_cases e : b < 4
    · rw [if_pos e]; exact fun z => by cases z
    · rw [if_neg e] at hq; exact absurd rfl hq
  | 15, hq =>
    have hq : o1_ b _ ≠ none := hq
    show o1_ b _ ≠ none
    unfold o1_ at hq ⊢
    by_cases e : b = 0
    · rw [if_pos e]; exact fun z => by cases z
    · rw [if_neg e] at hq; exact absurd rfl hq
  | 16, hq =>
    have hq : on_ b (ns_ s) _ ≠ none := hq
    show on_ b _ _ ≠ none
    unfold on_ at hq ⊢
    by_cases e : b < ns_ s
    · rw [h3] at e; rw [if_pos e]; exact fun z => by cases z
    · rw [if_neg e] at hq; exact absurd rfl hq
  | 17, hq =>
    have hq : on_ b (ns_ s) _ ≠ none := hq
    show on_ b _ _ ≠ none
    unfold on_ at hq ⊢
    by_cases e : b < ns_ s
    · rw [h3] at e; rw [if_pos e]; exact fun z => by cases z
    · rw [if_neg e] at hq; exact absurd rfl hq
  | 18, hq =>
    have hq : o1_ b _ ≠ none := hq
    show o1_ b _ ≠ none
    unfold o1_ at hq ⊢
    by_cases e : b = 0
    · rw [if_pos e]; exact fun z => by cases z
    · rw [if_neg e] at hq; exact absurd rfl hq
  | 19, hq =>
    have hq : on_ b (3) _ ≠ none := hq
    show on_ b _ _ ≠ none
    unfold on_ at hq ⊢
    by_cases e : b < 3
    · rw [if_pos e]; exact fun z => by cases z
    · rw [if_neg e] at hq; exact absurd rfl hq
  | 20, hq =>
    have hq : on_ b (3) _ ≠ none := hq
    show on_ b _ _ ≠ none
    unfold on_ at hq ⊢
    by_cases e : b < 3
    · rw [if_pos e]; exact fun z => by cases z
    · rw [if_neg e] at hq; exact absurd rfl hq
  | 21, hq =>
    have hq : on_ b (3) _ ≠ none := hq
    show on_ b _ _ ≠ none
    unfold on_ at hq ⊢
    by_cases e : b < 3
    · rw [if_pos e]; exact fun z => by cases z
    · rw [if_neg e] at hq; exact absurd rfl hq
  | n + 22, hq => exact absurd rfl hq
def s_add1 (s : SG) (key : Int64) (z n : Nat) (f : Nat → Nat) : SG := s_blk (s_ev (s_w1 s) 0 (nb_ s)) key z n f
def s_add (s : SG) (k : KG) (key : Int64) (z n : Nat) (f : Nat → Nat) : SG := if fullS s k (-1) + z ≤ cap_ s then s_lay (s_add1 s key z n f) (nb_ s) (np_ s - 1) (fullS s k (-1)) else s_lay (s_np (s_add1 s key z n f)) (nb_ s) (np_ s) 0
def k_add (s : SG) (k : KG) (key : Int64) (z n : Nat) (f : Nat → Nat) : KG := if fullS s k (-1) + z ≤ cap_ s then k_lay k (np_ s - 1) (fullS s k (-1) + z) else k_lay (k_np (s_add1 s key z n f) k) (np_ s) (0 + z)
set_option maxHeartbeats 4000000 in
set_option maxRecDepth 100000 in
theorem t_add0 (l : Launch) (s : SG) (k : KG) (hc : cut_ s = 0) (key : Int64) (z : Int32) (n : Nat) (f : Nat → Nat) : kw_Q l yX9_add cX9_add 8 (Option.some Jvm.ClassFile.FieldType.int) { frames := 3, cells := 2, slots := 11, locals := 63 } [pr_ (3, 0), pl_ key, pi_ z, pr_ (6, nb_ s)] (kw_up (hC s k) (6, nb_ s) (ri_ n f)) (fun r h' => r = some (pi_ (-105)) ∧ h' = hC (s_w0 s) k) := by
  refine kw_M_of RX9 "add" [some (pr_ (3, 0)), some (pl_ key), none, some (pi_ z), some (pr_ (6, nb_ s)), none, none, none] (by decide) rfl rfl rfl (Nat.le_of_ble_eq_true rfl) ?_
  intro D ad A
  refine kw_Kgen (fun K hK => ?_)
  have hk6 : hC s k (6, nb_ s) = none := if_neg (Nat.lt_irrefl _)
  have hk6b : hC (s_w0 s) k (6, nb_ s) = none := if_neg (Nat.lt_irrefl _)
  refine kw_aload_n dX9_add_0 rfl ?_
  refine kw_get dX9_add_1 fl_X9_35 rfl rfl ?_
  refine kw_istore dX9_add_4 (Nat.le_of_ble_eq_true rfl) ?_
  refine kw_aload_n dX9_add_6 rfl ?_
  refine kw_get dX9_add_7 fl_X9_31 rfl rfl ?_
  refine kw_iconst (v := 0) dX9_add_10 (by decide) ?_
  refine kw_iload dX9_add_11 rfl ?_
  refine kw_callVf (As := [pi_ 0, pi_ (nI (nb_ s))]) (kw_F.up1 (ri_ n f) (j_ev0 l s k hc 0 (nI (nb_ s))) hk6 hk6b) dX9_add_13 cl_X9_71 rfl rfl rfl rfl (Nat.le_of_ble_eq_true rfl) ⟨(Nat.le_of_ble_eq_true rfl), (Nat.le_of_ble_eq_true rfl), (Nat.le_of_ble_eq_true rfl), (Nat.le_of_ble_eq_true rfl)⟩ ?_
  refine kw_if_ne (tgt := 22) dX9_add_16 (by decide) (fun c16 => ?_) (fun c16 => ?_)
  · skip
    exact absurd rfl c16
  · skip
    refine kw_bipush (v := (-105)) dX9_add_19 (by decide) ?_
    refine kw_drop (h' := hC (s_w0 s) k) (fun q c hq => by rw [kw_up_n _ _ (fun e => by rw [e, hk6b] at hq; cases hq)]; exact hq) ?_
    exact kw_iret dX9_add_21 rfl (Nat.le_of_ble_eq_true rfl) (Nat.le_of_ble_eq_true rfl) (hK _ _ _ ⟨fun _ _ => rfl, rfl, rfl⟩)
set_option maxHeartbeats 4000000 in
set_option maxRecDepth 100000 in
theorem t_add1 (l : Launch) (s : SG) (k : KG) (hc : ¬ cut_ s = 0) (hb : nb_ s < 80) (hp : np_ s ≤ 40) (hns : ns_ s ≤ 40) (hnh : nh_ s < 240) (key : Int64) (z n : Nat) (hz : 1 ≤ z) (hz2 : z ≤ 1000) (hcap : cap_ s ≤ 1000) (hfull : fullS s k (-1) ≤ 1000) (f : Nat → Nat) (hroom : fullS s k (-1) + z ≤ cap_ s ∨ np_ s < 40) : kw_Q l yX9_add cX9_add 8 (Option.some Jvm.ClassFile.FieldType.int) { frames := 3, cells := 2, slots := 11, locals := 63 } [pr_ (3, 0), pl_ key, pi_ (nI z), pr_ (6, nb_ s)] (kw_up (hC s k) (6, nb_ s) (ri_ n f)) (fun r h' => r = some (pi_ (nI (nb_ s))) ∧ h' = hC (s_add s k key z n f) (k_add s k key z n f)) := by
  refine kw_M_of RX9 "add" [some (pr_ (3, 0)), some (pl_ key), none, some (pi_ (nI z)), some (pr_ (6, nb_ s)), none, none, none] (by decide) rfl rfl rfl (Nat.le_of_ble_eq_true rfl) ?_
  intro D ad A
  refine kw_Kgen (fun K hK => ?_)
  have hk6 : hC s k (6, nb_ s) = none := if_neg (Nat.lt_irrefl _)
  obtain ⟨s1, hs1⟩ : ∃ s1, s1 = s_ev (s_w1 s) 0 (nb_ s) := ⟨_, rfl⟩
  have e1 : ∀ i, i ≠ 8 → s1.1 i = s.1 i := fun i hi => by rw [hs1]; show va_up (s_w1 s).1 8 _ i = _; simp only [va_up, if_neg hi]; rw [s_w1_1]
  have eg : gs_ s1 = gs_ s := by rw [hs1]; show (s_w1 s).2.2.2.2.2.1 = _; rw [s_w1_2]
  have en : nb_ s1 = nb_ s := e1 1 (by decide)
  have hs1b : s_ev (s_w1 s) 0 (nb_ s1) = s1 := by rw [en]; exact hs1.symm
  have ep : np_ s1 = np_ s := e1 4 (by decide)
  have ec : cap_ s1 = cap_ s := e1 0 (by decide)
  have ef : fullS s1 k (-1) = fullS s k (-1) := by unfold fullS; rw [ep, ec, show gn_ s1 = gn_ s from congrFun eg 2]
  have al0 : ∀ q, hC s k q ≠ none → hC s1 k q ≠ none := hC_al en.symm ep.symm (e1 7 (by decide)).symm
  unfold s_add k_add s_add1 at hK
  rw [← hs1, ← ef, ← ep, ← ec] at hK
  rw [← en] at hK hk6
  have al : ∀ q, kw_up (hC s k) (6, nb_ s1) (ri_ n f) q ≠ none → kw_up (hC s1 k) (6, nb_ s1) (ri_ n f) q ≠ none := by
    intro q hq
    by_cases e : q = (6, nb_ s1)
    · rw [e, kw_up_s]; exact fun z => by cases z
    · rw [kw_up_n _ _ e] at hq ⊢; exact al0 q hq
  have hk6b : hC s1 k (6, nb_ s1) = none := if_neg (Nat.lt_irrefl _)
  have hk5 : hC s1 k (5, nb_ s1) = none := if_neg (Nat.lt_irrefl _)
  have hns1 : ns_ s1 ≤ 40 := by rw [show ns_ s1 = ns_ s from e1 7 (by decide)]; exact hns
  have esz : sz_ (s_blk s1 key z n f) (nb_ s1) = z := by show va_up (sz_ s1) (nb_ s1) z (nb_ s1) = z; simp [va_up]
  rw [← en] at hb ⊢
  rw [← ep] at hp hroom
  rw [← ec] at hcap hroom
  rw [← ef] at hfull hroom
  refine kw_aload_n dX9_add_0 rfl ?_
  refine kw_get dX9_add_1 fl_X9_35 rfl rfl ?_
  refine kw_top (v' := pi_ (nI (nb_ s1))) (by rw [en]) ?_
  refine kw_istore dX9_add_4 (Nat.le_of_ble_eq_true rfl) ?_
  refine kw_aload_n dX9_add_6 rfl ?_
  refine kw_get dX9_add_7 fl_X9_31 rfl rfl ?_
  refine kw_iconst (v := 0) dX9_add_10 (by decide) ?_
  refine kw_iload dX9_add_11 rfl ?_
  refine kw_callVf (As := [pi_ (nI 0), pi_ (nI (nb_ s1))]) (kw_F.up1 (q := (6, nb_ s1)) (ri_ n f) (j_ev1 l s k hc hnh 0 (nb_ s1)) hk6 (by rw [hs1b]; exact hk6b)) dX9_add_13 cl_X9_71 rfl rfl rfl rfl (Nat.le_of_ble_eq_true rfl) ⟨(Nat.le_of_ble_eq_true rfl), (Nat.le_of_ble_eq_true rfl), (Nat.le_of_ble_eq_true rfl), (Nat.le_of_ble_eq_true rfl)⟩ ?_
  rw [hs1b]
  refine kw_if_ne (tgt := 22) dX9_add_16 (by decide) (fun c16 => ?_) (fun c16 => ?_)
  · skip
    refine kw_aload_n dX9_add_22 rfl ?_
    refine kw_iconst (v := (-1)) dX9_add_23 (by decide) ?_
    refine kw_callVf (As := [pi_ (-1)]) (kw_F.up1 (ri_ n f) (t_full l s1 k hp (-1)) hk6b hk6b) dX9_add_24 cl_X9_65 rfl rfl rfl rfl (Nat.le_of_ble_eq_true rfl) ⟨(Nat.le_of_ble_eq_true rfl), (Nat.le_of_ble_eq_true rfl), (Nat.le_of_ble_eq_true rfl), (Nat.le_of_ble_eq_true rfl)⟩ ?_
    refine kw_istore dX9_add_27 (Nat.le_of_ble_eq_true rfl) ?_
    refine kw_iload dX9_add_29 rfl ?_
    refine kw_iload_n dX9_add_31 rfl ?_
    refine kw_iadd dX9_add_32 ?_
    refine kw_top (v' := pi_ (nI (fullS s1 k (-1) + z))) (by rw [nI_add]) ?_
    refine kw_aload_n dX9_add_33 rfl ?_
    refine kw_get dX9_add_34 fl_X9_27 rfl rfl ?_
    refine kw_icmp_gt (tgt := 44) dX9_add_37 (by decide) (fun c37 => ?_) (fun c37 => ?_)
    · skip
      have nf : ¬ fullS s1 k (-1) + z ≤ cap_ s1 := Nat.not_le.mpr (nI_lt' (by omega) (by omega) c37)
      have hp40 : np_ s1 < 40 := by omega
      refine kw_iconst (v := 0) dX9_add_44 (by decide) ?_
      refine kw_istore dX9_add_45 (Nat.le_of_ble_eq_true rfl) ?_
      refine kw_aload_n dX9_add_47 rfl ?_
      refine kw_get dX9_add_48 fl_X9_11 rfl rfl ?_
      refine kw_iload dX9_add_51 rfl ?_
      refine kw_new (5, nb_ s1) (fs := [pl_ 0, pi_ 0, pn_, pi_ 0, pi_ 0, pi_ 0, pi_ 0, pi_ 0]) dX9_add_53 kc_X0 kt_70 kt_394 kt_13 (fun _ j hj => match j, hj with | 0, _ => rfl | 1, _ => rfl | 2, _ => rfl | 3, _ => rfl | 4, _ => rfl | 5, _ => rfl | 6, _ => rfl | 7, _ => rfl | k + 8, h9 => absurd h9 (by omega)) ((kw_up_n _ _ (fun z => by cases z)).trans hk5) (kw_nm_up (hC_nm hk5 hns1 (by omega) hp) trivial) (by simp [kw_all, kw_nmo, kw_nmv, kw_set1, kw_set2, kw_keep, kw_alo, kw_alv]) (by simp [kw_all, kw_nmo, kw_nmv, kw_set1, kw_set2, kw_keep, kw_alo, kw_alv]) (Nat.le_of_ble_eq_true rfl) (Nat.le_of_ble_eq_true rfl) (fun a9 => ?_)
      refine kw_dup dX9_add_56 rfl ?_
      refine kw_lload_n dX9_add_57 rfl ?_
      refine kw_iload_n dX9_add_58 rfl ?_
      refine kw_aload dX9_add_59 rfl ?_
      refine kw_callIf (As := [pl_ key, pi_ (nI z), pr_ (6, nb_ s1)]) (b_init l _ (5, nb_ s1) (6, nb_ s1) key (nI z) (kw_up_s _ _ _)) dX9_add_61 cl_X9_74 rfl rfl (Nat.le_of_ble_eq_true rfl) ⟨(Nat.le_of_ble_eq_true rfl), (Nat.le_of_ble_eq_true rfl), (Nat.le_of_ble_eq_true rfl), (Nat.le_of_ble_eq_true rfl)⟩ ?_
      rw [kw_up2]
      refine kw_aast dX9_add_64 rfl rfl (kw_up_s _ _ _) (vp_in_nI hb (by decide)) ?_
      rw [nI_clamp (by omega)]
      refine kw_aload_n dX9_add_65 rfl ?_
      refine kw_dup dX9_add_66 rfl ?_
      refine kw_get dX9_add_67 fl_X9_35 rfl rfl ?_
      refine kw_iconst (v := 1) dX9_add_70 (by decide) ?_
      refine kw_iadd dX9_add_71 ?_
      refine kw_top (v' := pi_ (nI (nb_ s1 + 1))) (by rw [← nI_1]) ?_
      refine kw_put dX9_add_72 fl_X9_35 rfl (kw_ok_i _) (Nat.le_of_ble_eq_true rfl) ?_
      refine kw_heq (up_newblock s1 k key z n f) ?_
      refine kw_aload_n dX9_add_75 rfl ?_
      refine kw_iload dX9_add_76 rfl ?_
      refine kw_iload dX9_add_78 rfl ?_
      refine kw_if_eq (tgt := 92) dX9_add_80 (by decide) (fun c80 => ?_) (fun c80 => ?_)
      · skip
        refine kw_aload_n dX9_add_92 rfl ?_
        refine kw_get dX9_add_93 fl_X9_56 rfl rfl ?_
        refine kw_iload dX9_add_96 rfl ?_
        refine kw_if_eq (tgt := 106) dX9_add_98 (by decide) (fun c98 => ?_) (fun c98 => ?_)
        · skip
          refine kw_iconst (v := 0) dX9_add_106 (by decide) ?_
          refine kw_callVq (As := [pi_ (nI (nb_ s1)), pi_ (nI (np_ s1)), pi_ (nI 0)]) (t_lay0 l (s_blk s1 key z n f) k (by show nb_ s1 + 1 ≤ 80; omega) hns1 hp40 (nb_ s1) 0 (Nat.lt_succ_self _)) dX9_add_107 cl_X9_77 rfl rfl rfl rfl (Nat.le_of_ble_eq_true rfl) ⟨(Nat.le_of_ble_eq_true rfl), (Nat.le_of_ble_eq_true rfl), (Nat.le_of_ble_eq_true rfl), (Nat.le_of_ble_eq_true rfl)⟩ (by simp [kw_all, kw_alo, kw_alv, kw_set1, kw_keep]; exact ⟨nm_some (show hC _ k (3, 0) = some _ from rfl), nm_some (hC_ch (Nat.lt_succ_self _))⟩) (by simp [kw_all, kw_nmo, kw_nmv, kw_set1, kw_set2, kw_keep, kw_alo, kw_alv]) (fun r2 ad2 h2 he2 hp2 => ?_)
          obtain ⟨rfl, rfl⟩ := hp2
          refine kw_iload dX9_add_110 rfl ?_
          exact kw_iret dX9_add_112 rfl (Nat.le_of_ble_eq_true rfl) (Nat.le_of_ble_eq_true rfl) (hK _ _ _ ⟨fun q hq => by rw [he2 q (by rw [← up_newblock s1 k key z n f]; exact kw_up_nn (kw_up_nn (kw_up_nn (al q hq)))), kw_ad_n _ _ (fun e => by rw [e, kw_up_n _ _ (fun z => by cases z)] at hq; exact al0 _ hq hk5)], rfl, by rw [if_neg nf, if_neg nf, esz]; rfl⟩)
        · skip
          exact absurd rfl c98
      · skip
        exact absurd rfl c80
    · skip
      have yf : fullS s1 k (-1) + z ≤ cap_ s1 := nI_nlt' (a := cap_ s1) (by omega) (by omega) c37
      have hnp0 : np_ s1 ≠ 0 := fun q => by have : fullS s1 k (-1) = cap_ s1 := if_pos (Or.inl q); omega
      obtain ⟨m1, hm1⟩ : ∃ m1, np_ s1 = m1 + 1 := ⟨np_ s1 - 1, by omega⟩
      have em1 : np_ s1 - 1 = m1 := by omega
      refine kw_iconst (v := 1) dX9_add_40 (by decide) ?_
      refine kw_goto (tgt := 45) dX9_add_41 (by decide) ?_
      refine kw_istore dX9_add_45 (Nat.le_of_ble_eq_true rfl) ?_
      refine kw_aload_n dX9_add_47 rfl ?_
      refine kw_get dX9_add_48 fl_X9_11 rfl rfl ?_
      refine kw_iload dX9_add_51 rfl ?_
      refine kw_new (5, nb_ s1) (fs := [pl_ 0, pi_ 0, pn_, pi_ 0, pi_ 0, pi_ 0, pi_ 0, pi_ 0]) dX9_add_53 kc_X0 kt_70 kt_394 kt_13 (fun _ j hj => match j, hj with | 0, _ => rfl | 1, _ => rfl | 2, _ => rfl | 3, _ => rfl | 4, _ => rfl | 5, _ => rfl | 6, _ => rfl | 7, _ => rfl | k + 8, h9 => absurd h9 (by omega)) ((kw_up_n _ _ (fun z => by cases z)).trans hk5) (kw_nm_up (hC_nm hk5 hns1 (by omega) hp) trivial) (by simp [kw_all, kw_nmo, kw_nmv, kw_set1, kw_set2, kw_keep, kw_alo, kw_alv]) (by simp [kw_all, kw_nmo, kw_nmv, kw_set1, kw_set2, kw_keep, kw_alo, kw_alv]) (Nat.le_of_ble_eq_true rfl) (Nat.le_of_ble_eq_true rfl) (fun a9 => ?_)
      refine kw_dup dX9_add_56 rfl ?_
      refine kw_lload_n dX9_add_57 rfl ?_
      refine kw_iload_n dX9_add_58 rfl ?_
      refine kw_aload dX9_add_59 rfl ?_
      refine kw_callIf (As := [pl_ key, pi_ (nI z), pr_ (6, nb_ s1)]) (b_init l _ (5, nb_ s1) (6, nb_ s1) key (nI z) (kw_up_s _ _ _)) dX9_add_61 cl_X9_74 rfl rfl (Nat.le_of_ble_eq_true rfl) ⟨(Nat.le_of_ble_eq_true rfl), (Nat.le_of_ble_eq_true rfl), (Nat.le_of_ble_eq_true rfl), (Nat.le_of_ble_eq_true rfl)⟩ ?_
      rw [kw_up2]
      refine kw_aast dX9_add_64 rfl rfl (kw_up_s _ _ _) (vp_in_nI hb (by decide)) ?_
      rw [nI_clamp (by omega)]
      refine kw_aload_n dX9_add_65 rfl ?_
      refine kw_dup dX9_add_66 rfl ?_
      refine kw_get dX9_add_67 fl_X9_35 rfl rfl ?_
      refine kw_iconst (v := 1) dX9_add_70 (by decide) ?_
      refine kw_iadd dX9_add_71 ?_
      refine kw_top (v' := pi_ (nI (nb_ s1 + 1))) (by rw [← nI_1]) ?_
      refine kw_put dX9_add_72 fl_X9_35 rfl (kw_ok_i _) (Nat.le_of_ble_eq_true rfl) ?_
      refine kw_heq (up_newblock s1 k key z n f) ?_
      refine kw_aload_n dX9_add_75 rfl ?_
      refine kw_iload dX9_add_76 rfl ?_
      refine kw_iload dX9_add_78 rfl ?_
      refine kw_if_eq (tgt := 92) dX9_add_80 (by decide) (fun c80 => ?_) (fun c80 => ?_)
      · skip
        exact absurd c80 (by decide)
      · skip
        refine kw_aload_n dX9_add_83 rfl ?_
        refine kw_get dX9_add_84 fl_X9_56 rfl rfl ?_
        refine kw_iconst (v := 1) dX9_add_87 (by decide) ?_
        refine kw_isub dX9_add_88 ?_
        refine kw_top (v' := pi_ (nI m1)) (by show pi_ (nI (np_ s1) - 1) = _; rw [hm1, nI_pred]) ?_
        refine kw_goto (tgt := 96) dX9_add_89 (by decide) ?_
        refine kw_iload dX9_add_96 rfl ?_
        refine kw_if_eq (tgt := 106) dX9_add_98 (by decide) (fun c98 => ?_) (fun c98 => ?_)
        · skip
          exact absurd c98 (by decide)
        · skip
          refine kw_iload dX9_add_101 rfl ?_
          refine kw_goto (tgt := 107) dX9_add_103 (by decide) ?_
          refine kw_callVq (As := [pi_ (nI (nb_ s1)), pi_ (nI m1), pi_ (nI (fullS s1 k (-1)))]) (t_lay1 l (s_blk s1 key z n f) k (by show nb_ s1 + 1 ≤ 80; omega) hp (nb_ s1) m1 (fullS s1 k (-1)) (Nat.lt_succ_self _) (by show m1 < np_ s1; omega)) dX9_add_107 cl_X9_77 rfl rfl rfl rfl (Nat.le_of_ble_eq_true rfl) ⟨(Nat.le_of_ble_eq_true rfl), (Nat.le_of_ble_eq_true rfl), (Nat.le_of_ble_eq_true rfl), (Nat.le_of_ble_eq_true rfl)⟩ (by simp [kw_all, kw_alo, kw_alv, kw_set1, kw_keep]; exact ⟨nm_some (show hC _ k (3, 0) = some _ from rfl), nm_some (hC_ch (Nat.lt_succ_self _))⟩) (by simp [kw_all, kw_nmo, kw_nmv, kw_set1, kw_set2, kw_keep, kw_alo, kw_alv]) (fun r2 ad2 h2 he2 hp2 => ?_)
          obtain ⟨rfl, rfl⟩ := hp2
          refine kw_iload dX9_add_110 rfl ?_
          exact kw_iret dX9_add_112 rfl (Nat.le_of_ble_eq_true rfl) (Nat.le_of_ble_eq_true rfl) (hK _ _ _ ⟨fun q hq => by rw [he2 q (by rw [← up_newblock s1 k key z n f]; exact kw_up_nn (kw_up_nn (kw_up_nn (al q hq)))), kw_ad_n _ _ (fun e => by rw [e, kw_up_n _ _ (fun z => by cases z)] at hq; exact al0 _ hq hk5)], rfl, by rw [if_pos yf, if_pos yf, em1, esz]⟩)
  · skip
    exact absurd c16 (by decide)
