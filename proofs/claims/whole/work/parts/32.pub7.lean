/-! THE CLASS'S CALLS, 7: sweep; mirrored, audit -/
def rowSn (s : SG) : Nat → SG
  | 0 => s
  | n + 1 => if kp_ s n = true then s_lines (rowSn s n) (ro_ s n) (rm_ s n) else rowSn s n
def svOne (t : SG) (j : Nat) : SG := if sv_ t j = true then (if dead_ t j = true then sGb t 4 (va_up (sv_ t) j false) else s_lines t (us_ t j) (um_ t j)) else t
def rowSv (s : SG) : Nat → SG
  | 0 => s
  | n + 1 => svOne (rowSv s n) n
theorem s_lines_pres {P : SG → Prop} (h1 : ∀ t b, P t → P (s_line t b)) (s : SG) (f : Nat → Nat) : ∀ n, P s → P (s_lines s f n)
  | 0, h => h
  | n + 1, h => h1 _ _ (s_lines_pres h1 s f n h)
theorem rowSn_pres {P : SG → Prop} (h1 : ∀ t b, P t → P (s_line t b)) (s : SG) : ∀ n, P s → P (rowSn s n)
  | 0, h => h
  | n + 1, h => by
    rw [rowSn]
    split
    · exact s_lines_pres h1 _ _ _ (rowSn_pres h1 s n h)
    · exact rowSn_pres h1 s n h
theorem rowSv_pres {P : SG → Prop} (h1 : ∀ t b, P t → P (s_line t b)) (h2 : ∀ t j, P t → P (sGb t 4 (va_up (sv_ t) j false))) (s : SG) : ∀ n, P s → P (rowSv s n)
  | 0, h => h
  | n + 1, h => by
    rw [rowSv, svOne]
    split
    · split
      · exact h2 _ _ (rowSv_pres h1 h2 s n h)
      · exact s_lines_pres h1 _ _ _ (rowSv_pres h1 h2 s n h)
    · exact rowSv_pres h1 h2 s n h
theorem rowSn_1 (s : SG) (n i : Nat) (hi : i ≠ 12) : (rowSn s n).1 i = s.1 i := rowSn_pres (P := fun t => t.1 i = s.1 i) (fun t b h => (s_line_1 t b i hi).trans h) s n rfl
theorem rowSn_g (s : SG) (n : Nat) : (rowSn s n).2.2.2.2.2 = s.2.2.2.2.2 := rowSn_pres (P := fun t => t.2.2.2.2.2 = s.2.2.2.2.2) (fun _ _ h => h) s n rfl
theorem s_line_f (s : SG) (b i : Nat) (hi : i ≠ 19) : fs_ (s_line s b) i = fs_ s i := by
  show va_up (fs_ s) 19 _ i = _
  simp only [va_up, if_neg hi]
theorem rowSn_f (s : SG) (n i : Nat) (hi : i ≠ 19) : fs_ (rowSn s n) i = fs_ s i := rowSn_pres (P := fun t => fs_ t i = fs_ s i) (fun t b h => (s_line_f t b i hi).trans h) s n rfl
theorem rowSv_1 (s : SG) (n i : Nat) (hi : i ≠ 12) : (rowSv s n).1 i = s.1 i := rowSv_pres (P := fun t => t.1 i = s.1 i) (fun t b h => (s_line_1 t b i hi).trans h) (fun _ _ h => h) s n rfl
theorem rowSv_f (s : SG) (n i : Nat) (hi : i ≠ 19) : fs_ (rowSv s n) i = fs_ s i := rowSv_pres (P := fun t => fs_ t i = fs_ s i) (fun t b h => (s_line_f t b i hi).trans h) (fun _ _ h => h) s n rfl
theorem rowSn_rt (s : SG) (h8 : ∀ j, j < ns_ s → rm_ s j ≤ 8) : ∀ n, n ≤ ns_ s → rt_ (rowSn s n) ≤ rt_ s + 8 * cntN (fun j => kp_ s j) n
  | 0, _ => Nat.le_refl _
  | n + 1, hn => by
    have ih := rowSn_rt s h8 n (by omega)
    have := h8 n (by omega)
    rw [rowSn, cntN]
    cases h : kp_ s n with
    | true => rw [if_pos rfl, if_pos rfl, s_lines_rt]; omega
    | false => rw [if_neg (by decide), if_neg (by decide)]; omega
theorem rowSv_rt (s : SG) (h8 : ∀ j, j < 4 → um_ s j ≤ 8) : ∀ n, n ≤ 4 → rt_ (rowSv s n) ≤ rt_ s + 8 * n
  | 0, _ => Nat.le_refl _
  | n + 1, hn => by
    have ih := rowSv_rt s h8 n (by omega)
    have h1 := h8 n (by omega)
    have e : um_ (rowSv s n) = um_ s := rowSv_f s n 14 (by decide)
    rw [rowSv, svOne]
    split
    · split
      · show rt_ (rowSv s n) ≤ _; omega
      · rw [s_lines_rt, e]; omega
    · omega
def swS (s : SG) : SG := rowSv (rowSn (s_prep (s_w1 s)) (ns_ s)) 4
def c_sweep (s : SG) (k : KG) : Int32 × SG × KG := if dn_ s = true then (-106, s, k) else if ph_ s = 0 then (if cut_ s = 0 then (-105, s_lost s, k) else (nI (nsw_ (settleF (swS s, k)).1), (settleF (swS s, k)).1, (settleF (swS s, k)).2)) else (-103, s, k)
theorem cntN_mono (p : Nat → Bool) {a b : Nat} (h : a ≤ b) : cntN p a ≤ cntN p b := by
  induction b with
  | zero => rw [Nat.le_zero.mp h]; exact Nat.le_refl _
  | succ b ih =>
    rcases Nat.lt_or_ge a (b + 1) with q | q
    · exact Nat.le_trans (ih (by omega)) (by rw [cntN]; omega)
    · rw [show a = b + 1 by omega]; exact Nat.le_refl _
set_option maxHeartbeats 4000000 in
set_option maxRecDepth 100000 in
theorem o_line (l : Launch) (t : SG) (k : KG) (j : Nat) (hj : j < 4) (hu : um_ t j ≤ 8) (hr : rt_ t + um_ t j ≤ 944) : kw_F l yX11_lineUpOrDismiss cX11_lineUpOrDismiss 2 (Option.none : Option Jvm.ClassFile.FieldType) { frames := 2, cells := 0, slots := 0, locals := 44 } [pr_ (0, 0), pr_ (12, j)] (hC t k) none (hC (svOne t j) k) := by
  refine kw_M_of RX11 "lineUpOrDismiss" [some (pr_ (0, 0)), some (pr_ (12, j))] (by decide) rfl rfl rfl (Nat.le_of_ble_eq_true rfl) ?_
  intro D ad A
  refine kw_Kgen (fun K hK => ?_)
  unfold svOne at hK
  refine kw_aload_n dX11_lineUpOrDismiss_0 rfl ?_
  refine kw_get dX11_lineUpOrDismiss_1 fl_X11_87 (hC_sa hj) rfl ?_
  refine kw_if_ne (tgt := 8) dX11_lineUpOrDismiss_4 (by decide) (fun c4 => ?_) (fun c4 => ?_)
  · skip
    rw [if_pos (b2_n0.mp c4)] at hK
    refine kw_aload_n dX11_lineUpOrDismiss_8 rfl ?_
    refine kw_aload_n dX11_lineUpOrDismiss_9 rfl ?_
    refine kw_get dX11_lineUpOrDismiss_10 fl_X11_76 rfl rfl ?_
    refine kw_callVf (As := [pl_ (now_ t)]) (v_isDead l t k j hj) dX11_lineUpOrDismiss_13 cl_X11_102 (hC_sa hj) rfl rfl rfl (Nat.le_of_ble_eq_true rfl) ⟨(Nat.le_of_ble_eq_true rfl), (Nat.le_of_ble_eq_true rfl), (Nat.le_of_ble_eq_true rfl), (Nat.le_of_ble_eq_true rfl)⟩ ?_
    refine kw_if_eq (tgt := 27) dX11_lineUpOrDismiss_16 (by decide) (fun c16 => ?_) (fun c16 => ?_)
    · skip
      rw [if_neg (by rw [b2_0.mp c16]; decide)] at hK
      refine kw_aload_n dX11_lineUpOrDismiss_27 rfl ?_
      refine kw_get dX11_lineUpOrDismiss_28 fl_X11_39 rfl rfl ?_
      refine kw_aload_n dX11_lineUpOrDismiss_31 rfl ?_
      refine kw_get dX11_lineUpOrDismiss_32 fl_X11_193 (hC_sa hj) rfl ?_
      refine kw_aload_n dX11_lineUpOrDismiss_35 rfl ?_
      refine kw_get dX11_lineUpOrDismiss_36 fl_X11_135 (hC_sa hj) rfl ?_
      refine kw_callVf (As := [pr_ (13, j), pi_ (nI (um_ t j))]) (w_lines l t k (13, j) 8 (um_ t j) (us_ t j) (fun m => by rw [hC_us hj, show us_ (s_lines t (us_ t j) m) = us_ t from congrArg (fun x => x.2.2 2) (s_lines_ff t (us_ t j) m)]) (by decide) hu hr) dX11_lineUpOrDismiss_39 cl_X11_241 rfl rfl rfl rfl (Nat.le_of_ble_eq_true rfl) ⟨(Nat.le_of_ble_eq_true rfl), (Nat.le_of_ble_eq_true rfl), (Nat.le_of_ble_eq_true rfl), (Nat.le_of_ble_eq_true rfl)⟩ ?_
      exact kw_vret dX11_lineUpOrDismiss_42 rfl (Nat.le_of_ble_eq_true rfl) (Nat.le_of_ble_eq_true rfl) (hK _ _ _ ⟨rfl, rfl, rfl⟩)
    · skip
      rw [if_pos (b2_n0.mp c16)] at hK
      refine kw_aload_n dX11_lineUpOrDismiss_19 rfl ?_
      refine kw_iconst (v := 0) dX11_lineUpOrDismiss_20 (by decide) ?_
      refine kw_put dX11_lineUpOrDismiss_21 fl_X11_87 (hC_sa hj) (kw_ok_z (Or.inl rfl)) (Nat.le_of_ble_eq_true rfl) ?_
      refine kw_heq (up_ssv t k j hj false) ?_
      refine kw_goto (tgt := 42) dX11_lineUpOrDismiss_24 (by decide) ?_
      exact kw_vret dX11_lineUpOrDismiss_42 rfl (Nat.le_of_ble_eq_true rfl) (Nat.le_of_ble_eq_true rfl) (hK _ _ _ ⟨rfl, rfl, rfl⟩)
  · skip
    rw [if_neg (by rw [b2_0.mp c4]; decide)] at hK
    exact kw_vret dX11_lineUpOrDismiss_7 rfl (Nat.le_of_ble_eq_true rfl) (Nat.le_of_ble_eq_true rfl) (hK _ _ _ ⟨rfl, rfl, rfl⟩)
set_option maxHeartbeats 4000000 in
set_option maxRecDepth 100000 in
theorem P_sweep (l : Launch) (s : SG) (k : KG) (hb : nb_ s ≤ 80) (hph : ph_ s ≤ 4) (hns : ns_ s ≤ 40) (h10 : thereN s ≤ 10) (hrm : ∀ j, j < ns_ s → rm_ s j ≤ 8) (hu : ∀ i, i < 4 → um_ s i ≤ 8) : kw_F l yX11_sweep cX11_sweep 2 (Option.some Jvm.ClassFile.FieldType.int) { frames := 3, cells := 0, slots := 0, locals := 65 } [pr_ (0, 0)] (hC s k) (some (pi_ (c_sweep s k).1)) (hC (c_sweep s k).2.1 (c_sweep s k).2.2) := by
  refine kw_M_of RX11 "sweep" [some (pr_ (0, 0)), none] (by decide) rfl rfl rfl (Nat.le_of_ble_eq_true rfl) ?_
  intro D ad A
  refine kw_Kgen (fun K hK => ?_)
  refine kw_aload_n dX11_sweep_0 rfl ?_
  refine kw_get dX11_sweep_1 fl_X11_10 rfl rfl ?_
  refine kw_get dX11_sweep_4 fl_X11_80 rfl rfl ?_
  refine kw_if_eq (tgt := 13) dX11_sweep_7 (by decide) (fun c7 => ?_) (fun c7 => ?_)
  · skip
    have hd : ¬ dn_ s = true := by rw [b2_0.mp c7]; decide
    refine kw_aload_n dX11_sweep_13 rfl ?_
    refine kw_get dX11_sweep_14 fl_X11_39 rfl rfl ?_
    refine kw_get dX11_sweep_17 fl_X11_229 rfl rfl ?_
    refine kw_if_eq (tgt := 26) dX11_sweep_20 (by decide) (fun c20 => ?_) (fun c20 => ?_)
    · skip
      have e20 : ph_ s = 0 := nI_eq' (b := 0) (by omega) (by decide) c20
      rw [c_sweep, if_neg hd, if_pos e20] at hK
      by_cases hcut : cut_ s = 0
      · rw [if_pos hcut] at hK
        refine kw_aload_n dX11_sweep_26 rfl ?_
        refine kw_get dX11_sweep_27 fl_X11_10 rfl rfl ?_
        refine kw_callVf (As := []) (j_write0 l s k hcut) dX11_sweep_30 cl_X11_232 rfl rfl rfl rfl (Nat.le_of_ble_eq_true rfl) ⟨(Nat.le_of_ble_eq_true rfl), (Nat.le_of_ble_eq_true rfl), (Nat.le_of_ble_eq_true rfl), (Nat.le_of_ble_eq_true rfl)⟩ ?_
        refine kw_if_ne (tgt := 41) dX11_sweep_33 (by decide) (fun c33 => ?_) (fun c33 => ?_)
        · skip
          exact absurd rfl c33
        · skip
          refine kw_aload_n dX11_sweep_36 rfl ?_
          refine kw_callVf (As := []) (o_lose l (s_w0 s) k) dX11_sweep_37 cl_X11_151 rfl rfl rfl rfl (Nat.le_of_ble_eq_true rfl) ⟨(Nat.le_of_ble_eq_true rfl), (Nat.le_of_ble_eq_true rfl), (Nat.le_of_ble_eq_true rfl), (Nat.le_of_ble_eq_true rfl)⟩ ?_
          exact kw_iret dX11_sweep_40 rfl (Nat.le_of_ble_eq_true rfl) (Nat.le_of_ble_eq_true rfl) (hK _ _ _ ⟨rfl, rfl, rfl⟩)
      rw [if_neg hcut] at hK
      unfold swS at hK
      obtain ⟨s1, hs1⟩ : ∃ s1, s1 = s_prep (s_w1 s) := ⟨_, rfl⟩
      rw [← hs1] at hK
      have e1 : ∀ i, i < 9 → s1.1 i = s.1 i := fun i hi => by rw [hs1]; show va_up (va_up (va_up (va_up (va_up (s_w1 s).1 9 _) 10 _) 11 _) 12 _) 13 _ i = _; simp only [va_up]; rw [if_neg (by omega), if_neg (by omega), if_neg (by omega), if_neg (by omega), if_neg (by omega), s_w1_1]
      have en : ns_ s1 = ns_ s := e1 7 (by decide)
      have ert : rt_ s1 = 0 := by rw [hs1]; rfl
      have erf : rf_ s1 = 0 := by rw [hs1]; rfl
      have eph : ph_ s1 = 1 := by rw [hs1]; rfl
      have efs : fs_ s1 = fs_ s := by rw [hs1]; show (s_w1 s).2.2.2.2.1 = _; rw [s_w1_2]
      have ekp : kp_ s1 = kp_ s := by rw [hs1]; show (s_w1 s).2.2.2.2.2.1 3 = _; rw [s_w1_2]
      rw [thereN, ← ekp, ← en] at h10
      rw [← en] at hns hrm hK
      rw [show rm_ s = rm_ s1 from (congrFun efs 8).symm] at hrm
      rw [show um_ s = um_ s1 from (congrFun efs 14).symm] at hu
      have rts := rowSn_rt s1 hrm
      have hcn : ∀ j, j ≤ ns_ s1 → cntN (fun j => kp_ s1 j) j ≤ cntN (fun j => kp_ s1 j) (ns_ s1) := fun j hj => cntN_mono _ hj
      have rt1 := rts (ns_ s1) (Nat.le_refl _)
      have hum2 : ∀ i, i < 4 → um_ (rowSn s1 (ns_ s1)) i ≤ 8 := fun i hi => by rw [um_, rowSn_f _ _ 14 (by decide)]; exact hu i hi
      have loop2 : ∀ (n_ : Nat) (j : Nat), 4 - j < n_ → j ≤ 4 → kw_G l D cX11_sweep RX11 (Option.some Jvm.ClassFile.FieldType.int) "sweep" { frames := 3, cells := 0, slots := 0, locals := 65 } A K ad (hC (rowSv (rowSn s1 (ns_ s1)) j) k) 0 0 104 [some (pr_ (0, 0)), some (pi_ (nI j))] [] := by
        intro n_
        induction n_ with
        | zero =>
          intro j hm_
          exact absurd hm_ (Nat.not_lt_zero _)
        | succ n_ ih =>
          intro j hm_ hj
          refine kw_iload_n dX11_sweep_104 rfl ?_
          refine kw_iconst (v := 4) dX11_sweep_105 (by decide) ?_
          refine kw_icmp_ge (tgt := 125) dX11_sweep_106 (by decide) (fun c106 => ?_) (fun c106 => ?_)
          · skip
            have e : j = 4 := Nat.le_antisymm hj (nI_le' (a := 4) (by omega) (by omega) c106)
            subst e
            refine kw_aload_n dX11_sweep_125 rfl ?_
            refine kw_get dX11_sweep_126 fl_X11_39 rfl rfl ?_
            refine kw_callVf (As := []) (w_settle l (rowSv (rowSn s1 (ns_ s1)) 4) k (by rw [ph_, rowSv_1 _ _ 10 (by decide), rowSn_1 _ _ 10 (by decide)]; show ph_ s1 ≤ 4; omega) (by have := rowSv_rt (rowSn s1 (ns_ s1)) hum2 4 (by omega); omega) (by rw [rf_, rowSv_1 _ _ 11 (by decide), rowSn_1 _ _ 11 (by decide)]; show rf_ s1 ≤ 944; omega)) dX11_sweep_129 cl_X11_249 rfl rfl rfl rfl (Nat.le_of_ble_eq_true rfl) ⟨(Nat.le_of_ble_eq_true rfl), (Nat.le_of_ble_eq_true rfl), (Nat.le_of_ble_eq_true rfl), (Nat.le_of_ble_eq_true rfl)⟩ ?_
            refine kw_aload_n dX11_sweep_132 rfl ?_
            refine kw_get dX11_sweep_133 fl_X11_39 rfl rfl ?_
            refine kw_get dX11_sweep_136 fl_X11_252 rfl rfl ?_
            exact kw_iret dX11_sweep_139 rfl (Nat.le_of_ble_eq_true rfl) (Nat.le_of_ble_eq_true rfl) (hK _ _ _ ⟨rfl, rfl, rfl⟩)
          · skip
            have hlt : j < 4 := nI_nle' (a := 4) (by omega) (by omega) c106
            have er := rowSv_rt (rowSn s1 (ns_ s1)) hum2 j (by omega)
            have eu : um_ (rowSv (rowSn s1 (ns_ s1)) j) = um_ (rowSn s1 (ns_ s1)) := rowSv_f _ j 14 (by decide)
            have eu8 := hum2 j hlt
            refine kw_aload_n dX11_sweep_109 rfl ?_
            refine kw_aload_n dX11_sweep_110 rfl ?_
            refine kw_get dX11_sweep_111 fl_X11_52 rfl rfl ?_
            refine kw_iload_n dX11_sweep_114 rfl ?_
            refine kw_aaldN dX11_sweep_115 rfl hlt (by decide) (if_pos hlt) ?_
            refine kw_callVf (As := [pr_ (12, j)]) (o_line l (rowSv (rowSn s1 (ns_ s1)) j) k j hlt (by rw [eu]; exact eu8) (by rw [eu]; omega)) dX11_sweep_116 cl_X11_245 rfl rfl rfl rfl (Nat.le_of_ble_eq_true rfl) ⟨(Nat.le_of_ble_eq_true rfl), (Nat.le_of_ble_eq_true rfl), (Nat.le_of_ble_eq_true rfl), (Nat.le_of_ble_eq_true rfl)⟩ ?_
            refine kw_iinc dX11_sweep_119 rfl (nI_i j) ?_
            refine kw_goto (tgt := 104) dX11_sweep_122 (by decide) ?_
            exact ih (j + 1) (by omega) (by omega)
      have loop : ∀ (n_ : Nat) (j : Nat), ns_ s1 - j < n_ → j ≤ ns_ s1 → kw_G l D cX11_sweep RX11 (Option.some Jvm.ClassFile.FieldType.int) "sweep" { frames := 3, cells := 0, slots := 0, locals := 65 } A K ad (hC (rowSn s1 j) k) 0 0 50 [some (pr_ (0, 0)), some (pi_ (nI j))] [] := by
        intro n_
        induction n_ with
        | zero =>
          intro j hm_
          exact absurd hm_ (Nat.not_lt_zero _)
        | succ n_ ih =>
          intro j hm_ hj
          refine kw_iload_n dX11_sweep_50 rfl ?_
          refine kw_aload_n dX11_sweep_51 rfl ?_
          refine kw_get dX11_sweep_52 fl_X11_183 rfl rfl ?_
          refine kw_top (v' := pi_ (nI (ns_ s1))) (by rw [ns_, rowSn_1 _ _ 7 (by decide)]) ?_
          refine kw_icmp_ge (tgt := 102) dX11_sweep_55 (by decide) (fun c55 => ?_) (fun c55 => ?_)
          · skip
            have e : j = ns_ s1 := Nat.le_antisymm hj (nI_le' (by omega) (by omega) c55)
            subst e
            refine kw_iconst (v := 0) dX11_sweep_102 (by decide) ?_
            refine kw_istore_n dX11_sweep_103 (Nat.le_of_ble_eq_true rfl) ?_
            exact loop2 5 0 (by omega) (by omega)
          · skip
            have hlt : j < ns_ s1 := nI_nle' (by omega) (by omega) c55
            have ek : kp_ (rowSn s1 j) j = kp_ s1 j := by rw [kp_, gs_, show (rowSn s1 j).2.2.2.2.2.1 = s1.2.2.2.2.2.1 from congrArg (fun x => x.1) (rowSn_g s1 j)]
            have er := rts j hj
            have er2 := hcn (j + 1) (by omega)
            rw [cntN] at er2
            refine kw_aload_n dX11_sweep_58 rfl ?_
            refine kw_get dX11_sweep_59 fl_X11_59 rfl rfl ?_
            refine kw_iload_n dX11_sweep_62 rfl ?_
            refine kw_aaldN dX11_sweep_63 rfl (by omega) (by decide) (if_pos (by rw [ns_, rowSn_1 _ _ 7 (by decide)]; exact hlt)) ?_
            refine kw_get dX11_sweep_64 fl_X11_226 (hC_sn (by rw [ns_, rowSn_1 _ _ 7 (by decide)]; exact hlt)) rfl ?_
            refine kw_if_ne (tgt := 96) dX11_sweep_67 (by decide) (fun c67 => ?_) (fun c67 => ?_)
            · skip
              have e67 : rowSn s1 (j + 1) = rowSn s1 j := by rw [rowSn, ← ek, not_b2n c67]; rfl
              refine kw_iinc dX11_sweep_96 rfl (nI_i j) ?_
              refine kw_goto (tgt := 50) dX11_sweep_99 (by decide) ?_
              rw [← e67]
              exact ih (j + 1) (by omega) (by omega)
            · skip
              have k67 := not_b2 c67
              rw [ek] at k67
              rw [k67, if_pos rfl] at er2
              have e67 : rowSn s1 (j + 1) = s_lines (rowSn s1 j) (ro_ s1 j) (rm_ s1 j) := by rw [rowSn, if_pos k67]
              have hr8 := hrm j hlt
              have ero : ∀ m, ro_ (s_lines (rowSn s1 j) (ro_ s1 j) m) = ro_ s1 := fun m => (congrArg (fun x => x.2.2 1) (s_lines_ff (rowSn s1 j) (ro_ s1 j) m)).trans (congrArg (fun x => x.2.2 1) (rowSn_g s1 j))
              have erm : ∀ m, rm_ (s_lines (rowSn s1 j) (ro_ s1 j) m) = rm_ s1 := fun m => (s_lines_f _ _ 8 (by decide) m).trans (rowSn_f s1 j 8 (by decide))
              refine kw_aload_n dX11_sweep_70 rfl ?_
              refine kw_get dX11_sweep_71 fl_X11_39 rfl rfl ?_
              refine kw_aload_n dX11_sweep_74 rfl ?_
              refine kw_get dX11_sweep_75 fl_X11_59 rfl rfl ?_
              refine kw_iload_n dX11_sweep_78 rfl ?_
              refine kw_aaldN dX11_sweep_79 rfl (by omega) (by decide) (if_pos (by rw [ns_, rowSn_1 _ _ 7 (by decide)]; exact hlt)) ?_
              refine kw_get dX11_sweep_80 fl_X11_238 (hC_sn (by rw [ns_, rowSn_1 _ _ 7 (by decide)]; exact hlt)) rfl ?_
              refine kw_aload_n dX11_sweep_83 rfl ?_
              refine kw_get dX11_sweep_84 fl_X11_59 rfl rfl ?_
              refine kw_iload_n dX11_sweep_87 rfl ?_
              refine kw_aaldN dX11_sweep_88 rfl (by omega) (by decide) (if_pos (by rw [ns_, rowSn_1 _ _ 7 (by decide)]; exact hlt)) ?_
              refine kw_get dX11_sweep_89 fl_X11_238 (hC_sn (by rw [ns_, rowSn_1 _ _ 7 (by decide)]; exact hlt)) rfl ?_
              refine kw_alen dX11_sweep_92 (hC_rt (by rw [ns_, rowSn_1 _ _ 7 (by decide)]; exact hlt)) ?_
              refine kw_top (v' := pi_ (nI (rm_ s1 j))) (by show pi_ (nI (rm_ (rowSn s1 j) j)) = _; rw [rm_, rowSn_f s1 j 8 (by decide)]) ?_
              refine kw_callVf (As := [pr_ (17, j), pi_ (nI (rm_ s1 j))]) (w_lines l (rowSn s1 j) k (17, j) (rm_ s1 j) (rm_ s1 j) (ro_ s1 j) (fun m => by rw [hC_rt (by rw [ns_, s_lines_1 _ _ 7 (by decide), rowSn_1 _ _ 7 (by decide)]; exact hlt), ero, erm]) (by omega) (Nat.le_refl _) (by omega)) dX11_sweep_93 cl_X11_241 rfl rfl rfl rfl (Nat.le_of_ble_eq_true rfl) ⟨(Nat.le_of_ble_eq_true rfl), (Nat.le_of_ble_eq_true rfl), (Nat.le_of_ble_eq_true rfl), (Nat.le_of_ble_eq_true rfl)⟩ ?_
              refine kw_iinc dX11_sweep_96 rfl (nI_i j) ?_
              refine kw_goto (tgt := 50) dX11_sweep_99 (by decide) ?_
              rw [← e67]
              exact ih (j + 1) (by omega) (by omega)
      refine kw_aload_n dX11_sweep_26 rfl ?_
      refine kw_get dX11_sweep_27 fl_X11_10 rfl rfl ?_
      refine kw_callVf (As := []) (j_write1 l s k hcut) dX11_sweep_30 cl_X11_232 rfl rfl rfl rfl (Nat.le_of_ble_eq_true rfl) ⟨(Nat.le_of_ble_eq_true rfl), (Nat.le_of_ble_eq_true rfl), (Nat.le_of_ble_eq_true rfl), (Nat.le_of_ble_eq_true rfl)⟩ ?_
      refine kw_if_ne (tgt := 41) dX11_sweep_33 (by decide) (fun c33 => ?_) (fun c33 => ?_)
      · skip
        refine kw_aload_n dX11_sweep_41 rfl ?_
        refine kw_get dX11_sweep_42 fl_X11_39 rfl rfl ?_
        refine kw_callVf (As := []) (w_prepare l (s_w1 s) k (by rw [nb_, s_w1_1]; exact hb)) dX11_sweep_45 cl_X11_235 rfl rfl rfl rfl (Nat.le_of_ble_eq_true rfl) ⟨(Nat.le_of_ble_eq_true rfl), (Nat.le_of_ble_eq_true rfl), (Nat.le_of_ble_eq_true rfl), (Nat.le_of_ble_eq_true rfl)⟩ ?_
        rw [← hs1]
        refine kw_iconst (v := 0) dX11_sweep_48 (by decide) ?_
        refine kw_istore_n dX11_sweep_49 (Nat.le_of_ble_eq_true rfl) ?_
        exact loop (ns_ s1 + 1) 0 (by omega) (by omega)
      · skip
        exact absurd c33 (by decide)
    · skip
      have e20 : ¬ ph_ s = 0 := fun q => c20 (by rw [q]; rfl)
      refine kw_bipush (v := (-103)) dX11_sweep_23 (by decide) ?_
      exact kw_iret dX11_sweep_25 rfl (Nat.le_of_ble_eq_true rfl) (Nat.le_of_ble_eq_true rfl) (hK _ _ _ ⟨rfl, by rw [c_sweep, if_neg hd, if_neg e20], by rw [c_sweep, if_neg hd, if_neg e20]⟩)
  · skip
    refine kw_bipush (v := (-106)) dX11_sweep_10 (by decide) ?_
    exact kw_iret dX11_sweep_12 rfl (Nat.le_of_ble_eq_true rfl) (Nat.le_of_ble_eq_true rfl) (hK _ _ _ ⟨rfl, by rw [c_sweep, if_pos (b2_n0.mp c7)], by rw [c_sweep, if_pos (b2_n0.mp c7)]⟩)
