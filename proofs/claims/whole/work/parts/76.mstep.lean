/-! THE MODEL'S STEP -/
/-- where the sweep stands, as far as it matters -/
def mR (s : SG) (κ k : KG) : Prop := (2 ≤ ph_ s → nx_ κ = nx_ k) ∧ (ph_ s = 4 → pe_ κ = pe_ k)
theorem mR_0 {s : SG} (h : ph_ s = 0) (κ k : KG) : mR s κ k := ⟨fun x => by omega, fun x => by omega⟩
theorem R_st1 {s : SG} {κ k : KG} (h : mR s κ k) : (st1 (s, κ)).1 = (st1 (s, k)).1 ∧ mR (st1 (s, k)).1 (st1 (s, κ)).2 (st1 (s, k)).2 := by
  unfold st1
  by_cases e : ph_ s = 1 ∧ rt_ s ≤ rf_ s
  · rw [if_pos e, if_pos e]
    exact ⟨rfl, fun _ => rfl, fun x => absurd (show (2 : Nat) = 4 from x) (by decide)⟩
  · rw [if_neg e, if_neg e]
    exact ⟨rfl, h⟩
theorem R_st2 {s : SG} {κ k : KG} (h : mR s κ k) : (st2 (s, κ)).1 = (st2 (s, k)).1 ∧ mR (st2 (s, k)).1 (st2 (s, κ)).2 (st2 (s, k)).2 := by
  unfold st2
  by_cases e : ph_ s = 2 ∧ nI (end_ s) ≤ nx_ k
  · have e' : ph_ s = 2 ∧ nI (end_ s) ≤ nx_ κ := ⟨e.1, by rw [h.1 (by omega)]; exact e.2⟩
    rw [if_pos e, if_pos e']
    exact ⟨rfl, fun _ => rfl, fun x => absurd (show (3 : Nat) = 4 from x) (by decide)⟩
  · have e' : ¬ (ph_ s = 2 ∧ nI (end_ s) ≤ nx_ κ) := fun q => e ⟨q.1, by rw [← h.1 (by omega)]; exact q.2⟩
    rw [if_neg e, if_neg e']
    exact ⟨rfl, h⟩
theorem R_st3 {s : SG} {κ k : KG} (h : mR s κ k) : (st3 (s, κ)).1 = (st3 (s, k)).1 ∧ mR (st3 (s, k)).1 (st3 (s, κ)).2 (st3 (s, k)).2 := by
  unfold st3
  by_cases e : ph_ s = 3 ∧ nx_ k < 0
  · have e' : ph_ s = 3 ∧ nx_ κ < 0 := ⟨e.1, by rw [h.1 (by omega)]; exact e.2⟩
    rw [if_pos e, if_pos e']
    exact ⟨rfl, fun _ => rfl, fun _ => rfl⟩
  · have e' : ¬ (ph_ s = 3 ∧ nx_ κ < 0) := fun q => e ⟨q.1, by rw [← h.1 (by omega)]; exact q.2⟩
    rw [if_neg e, if_neg e']
    exact ⟨rfl, h⟩
theorem R_st4 {s : SG} {κ k : KG} (h : mR s κ k) : (st4 (s, κ)).1 = (st4 (s, k)).1 ∧ mR (st4 (s, k)).1 (st4 (s, κ)).2 (st4 (s, k)).2 := by
  unfold st4
  by_cases e : ph_ s = 4 ∧ pe_ k ≤ nx_ k
  · have e' : ph_ s = 4 ∧ pe_ κ ≤ nx_ κ := ⟨e.1, by rw [h.1 (by omega), h.2 e.1]; exact e.2⟩
    rw [if_pos e, if_pos e']
    exact ⟨rfl, mR_0 rfl _ _⟩
  · have e' : ¬ (ph_ s = 4 ∧ pe_ κ ≤ nx_ κ) := fun q => e ⟨q.1, by rw [← h.1 (by omega), ← h.2 q.1]; exact q.2⟩
    rw [if_neg e, if_neg e']
    exact ⟨rfl, h⟩
theorem R_st {s : SG} {κ k : KG} (h : mR s κ k) : (settleF (s, κ)).1 = (settleF (s, k)).1 ∧ mR (settleF (s, k)).1 (settleF (s, κ)).2 (settleF (s, k)).2 := by
  obtain ⟨a1, a2⟩ := R_st1 h
  have c1 : st1 (s, κ) = ((st1 (s, k)).1, (st1 (s, κ)).2) := Prod.ext a1 rfl
  obtain ⟨b1, b2⟩ := R_st2 (s := (st1 (s, k)).1) a2
  have c2 : st2 (st1 (s, κ)) = ((st2 (st1 (s, k))).1, (st2 ((st1 (s, k)).1, (st1 (s, κ)).2)).2) := by rw [c1]; exact Prod.ext b1 rfl
  obtain ⟨d1, d2⟩ := R_st3 (s := (st2 (st1 (s, k))).1) b2
  have c3 : st3 (st2 (st1 (s, κ))) = ((st3 (st2 (st1 (s, k)))).1, (st3 ((st2 (st1 (s, k))).1, (st2 ((st1 (s, k)).1, (st1 (s, κ)).2)).2)).2) := by rw [c2]; exact Prod.ext d1 rfl
  obtain ⟨f1, f2⟩ := R_st4 (s := (st3 (st2 (st1 (s, k)))).1) d2
  unfold settleF
  rw [c3]
  exact ⟨f1, f2⟩
theorem clearM_e (s : SG) (b : Nat) : (clearM s b).1 = (clearF s b).1 ∧ ((clearF s b).1 = true → (clearM s b).2 = (clearF s b).2) ∧ ((clearF s b).1 = false → (clearM s b).2 = s_lost s ∧ (clearF s b).2 = s_w0 s) := by
  unfold clearM clearF
  split
  · split
    · exact ⟨rfl, fun x => Bool.noConfusion (show false = true from x), fun _ => ⟨rfl, rfl⟩⟩
    · exact ⟨rfl, fun _ => rfl, fun x => Bool.noConfusion (show true = false from x)⟩
  · exact ⟨rfl, fun _ => rfl, fun x => Bool.noConfusion (show true = false from x)⟩
theorem chooseM_e (s : SG) (b : Nat) : (chooseM s b).1 = (chooseF s b).1 ∧ ((chooseF s b).1 = true → (chooseM s b).2 = (chooseF s b).2) ∧ ((chooseF s b).1 = false → (chooseM s b).2 = s_lost s ∧ (chooseF s b).2 = s_w0 s) := by
  unfold chooseM chooseF
  split
  · split
    · exact ⟨rfl, fun x => Bool.noConfusion (show false = true from x), fun _ => ⟨rfl, rfl⟩⟩
    · split
      · exact ⟨rfl, fun _ => rfl, fun x => Bool.noConfusion (show true = false from x)⟩
      · exact ⟨rfl, fun _ => rfl, fun x => Bool.noConfusion (show true = false from x)⟩
  · exact ⟨rfl, fun _ => rfl, fun x => Bool.noConfusion (show true = false from x)⟩
theorem MI_k {s : SG} {k k' : KG} (h : MI s k) (e : kn_ k' = kn_ k) : MI s k' := by
  unfold MI
  rw [e]
  exact h
theorem MI_clear {s : SG} {k : KG} (h : MI s k) (b : Nat) : MI (clearF s b).2 k := by
  unfold clearF
  split
  · split
    · exact h
    · exact MI_w1 h
  · exact h
theorem MI_choose {s : SG} {k : KG} (h : MI s k) (b : Nat) : MI (chooseF s b).2 k := by
  unfold chooseF
  split
  · split
    · exact h
    · split
      · exact MI_w1 h
      · exact MI_w1 h
  · exact h
theorem MI_mark {s : SG} {k : KG} (h : MI s k) : MI (s_mark1 s) k := by
  refine MI_row h (fun i _ _ h11 h12 _ => mark1_1 s i h11 h12) (fun i hi => ?_) ?_
  · unfold s_mark1
    split
    · rfl
    · exact s_lines_f _ _ i hi _
  · unfold s_mark1
    split
    · rfl
    · rw [ff_, s_lines_ff]; rfl
theorem MI_c {s t : SG} {k : KG} (h : MI s k) (h1 : nb_ t = nb_ s) (h2 : ns_ t = ns_ s) (h3 : cm_ t = cm_ s) (h4 : rm_ t = rm_ s) (h5 : um_ t = um_ s) (h6 : km_ t = km_ s) (h7 : ff_ t = ff_ s) : MI t k := by
  have f0 : ch_ t = ch_ s := congrFun h7 0
  have f1 : ro_ t = ro_ s := congrFun h7 1
  have f2 : us_ t = us_ s := congrFun h7 2
  have f3 : ks_ t = ks_ s := congrFun h7 3
  unfold MI
  rw [h1, h2, h3, h4, h5, h6, f0, f1, f2, f3]
  exact h
theorem MI_pkNF {s : SG} {k : KG} (h : MI s k) (kc : KG) (p : Nat) : MI (pkNF s kc p).2.1 k := by
  unfold pkNF
  split
  · unfold pkF
    obtain ⟨X, b, eW, _⟩ := wrL_e (lieN s (nI p) + 1) s
    split
    · split
      · show MI (pkS s _ p (wrL (lieN s (nI p) + 1) s).2) k
        have eW : (wrL (lieN s (nI p) + 1) s).2 = (s.1, X, s.2.2.1, b, s.2.2.2.2) := eW
        rw [eW]
        unfold pkS
        obtain ⟨u1, g6, f5, er, r1, r2, r3⟩ := aS_rest (mvO s p) (plP s (mvO s p) (pkx0 s (kX kc 0 (nI (p + 1))) p)) (s.1, X, s.2.2.1, b, s.2.2.2.2) (lieN s (nI p))
        rw [er]
        exact MI_c h (r1 1 (by decide)) (r1 7 (by decide)) (r3 1 (by decide) (by decide) (by decide)) (r3 8 (by decide) (by decide) (by decide)) (r3 14 (by decide) (by decide) (by decide)) (r3 16 (by decide) (by decide) (by decide)) rfl
      · show MI (wrL (lieN s (nI p) + 1) s).2 k
        have eW : (wrL (lieN s (nI p) + 1) s).2 = (s.1, X, s.2.2.1, b, s.2.2.2.2) := eW
        rw [eW]
        exact h
    · exact h
  · exact h
theorem pkNF_ph (s : SG) (k : KG) (p : Nat) : ph_ (pkNF s k p).2.1 = ph_ s := pkNF_1 s k p 10 (by decide) (by decide)
theorem lost_set (u : SG) (k : KG) (h : ph_ u = 0) : settleF (u, k) = (u, k) := by
  unfold settleF
  rw [show st1 (u, k) = (u, k) from if_neg (fun q => by have : ph_ u = 1 := q.1; omega), show st2 (u, k) = (u, k) from if_neg (fun q => by have : ph_ u = 2 := q.1; omega), show st3 (u, k) = (u, k) from if_neg (fun q => by have : ph_ u = 3 := q.1; omega), show st4 (u, k) = (u, k) from if_neg (fun q => by have : ph_ u = 4 := q.1; omega)]
theorem MI_gone {s : SG} {k : KG} (h : MI s k) : MI (s_gone s) k := h
theorem pkNF_nx (s : SG) (k : KG) (p : Nat) : nx_ (pkNF s k p).2.2 = nI (p + 1) ∧ pe_ (pkNF s k p).2.2 = pe_ k := by
  unfold pkNF
  split
  · unfold pkF
    split
    · split
      · show (pkK s (kX k 0 (nI (p + 1))) p _).1 0 = _ ∧ (pkK s (kX k 0 (nI (p + 1))) p _).1 1 = _
        unfold pkK
        show (kS _ _ _ _ _).1 0 = _ ∧ (kS _ _ _ _ _).1 1 = _
        rw [(kS_1 _ _ _ _ _).1]
        exact ⟨rfl, rfl⟩
      · exact ⟨rfl, rfl⟩
    · exact ⟨rfl, rfl⟩
  · exact ⟨rfl, rfl⟩
set_option maxHeartbeats 4000000 in
set_option maxRecDepth 100000 in
theorem M_step (l : Launch) (n : Nat) (hn : n ≤ 511) (s : SG) (kc k : KG) (hJ : JI n s kc) (hMI : MI s k) (hR : mR s k kc) (x : Int32) : kw_P l yX12_step cX12_step 4 (Option.some Jvm.ClassFile.FieldType.int) { frames := 2, cells := 0, slots := 0, locals := 56 } [pr_ (40, 0), pi_ x] (hM s k) (fun r h' => r = some (pi_ (c_step s kc x).1) ∧ ∃ κ, MI (c_step s kc x).2.1 κ ∧ mR (c_step s kc x).2.1 κ (c_step s kc x).2.2 ∧ h' = hM (c_step s kc x).2.1 κ) := by
  refine kw_M_of RX12 "step" [some (pr_ (40, 0)), some (pi_ x), none, none] (by decide) rfl rfl rfl (Nat.le_of_ble_eq_true rfl) ?_
  intro D ad A
  refine kw_Kgen (fun K hK => ?_)
  refine kw_aload_n dX12_step_0 rfl ?_
  refine kw_get dX12_step_1 fl_X12_127 rfl rfl ?_
  refine kw_if_eq (tgt := 10) dX12_step_4 (by decide) (fun c4 => ?_) (fun c4 => ?_)
  · skip
    have hd : ¬ dn_ s = true := by rw [b2_0.mp c4]; decide
    refine kw_iload_n dX12_step_10 rfl ?_
    refine kw_i2l dX12_step_11 ?_
    refine kw_lconst (v := 1) dX12_step_12 (by decide) ?_
    refine kw_top (v' := pl_ ((1 : Int32).toInt64)) (by decide) ?_
    refine kw_ldc2 dX12_step_13 kt_1058 ?_
    refine kw_top (v' := pl_ ((500 : Int32).toInt64)) (by decide) ?_
    refine kw_callSf (As := [pl_ x.toInt64, pl_ (1 : Int32).toInt64, pl_ (500 : Int32).toInt64]) (n_inI l _ x 1 500) dX12_step_16 cl_X12_144 rfl rfl (Nat.le_of_ble_eq_true rfl) ⟨(Nat.le_of_ble_eq_true rfl), (Nat.le_of_ble_eq_true rfl), (Nat.le_of_ble_eq_true rfl), (Nat.le_of_ble_eq_true rfl)⟩ ?_
    refine kw_if_ne (tgt := 25) dX12_step_19 (by decide) (fun c19 => ?_) (fun c19 => ?_)
    · skip
      obtain ⟨e19, e20⟩ := inB_t (b2_n0.mp c19)
      obtain ⟨N0, hN31, rfl⟩ := nI_of (x := x) (fun q => Int32.not_lt.mpr e19 (Int32.lt_trans q (by decide)))
      have hN5 : N0 ≤ 500 := nI_le' (b := 500) hN31 (by decide) e20
      rw [c_step, if_neg hd, if_neg (fun q => q.elim (fun z => Int32.not_lt.mpr e19 z) (fun z => Int32.not_lt.mpr e20 z)), show cl_ (nI N0) = N0 from nI_clamp hN31] at hK
      have hph0 := hJ.A.1.1.2.2.2.2.2
      refine kw_aload_n dX12_step_25 rfl ?_
      refine kw_get dX12_step_26 fl_X12_131 rfl rfl ?_
      refine kw_if_ne (tgt := 35) dX12_step_29 (by decide) (fun c29 => ?_) (fun c29 => ?_)
      · skip
        have e29 : ¬ ph_ s = 0 := fun q => c29 (by rw [q]; rfl)
        rw [if_neg e29] at hK
        obtain ⟨RES, hRES⟩ : ∃ RES, RES = stepF N0 s kc 0 := ⟨_, rfl⟩
        rw [← hRES] at hK
        have loop : ∀ (n_ : Nat) (d : Nat) (t : SG) (tc : KG) (κ : KG), N0 - d < n_ → d ≤ N0 → JI n t tc → MI t κ → mR t κ tc → stepF (N0 - d) t tc d = RES → kw_G l D cX12_step RX12 (Option.some Jvm.ClassFile.FieldType.int) "step" { frames := 2, cells := 0, slots := 0, locals := 56 } A K ad (hM t κ) 0 0 39 [some (pr_ (40, 0)), some (pi_ (nI N0)), some (pi_ (nI d)), some (pi_ (b2 true))] [] := by
          intro n_
          induction n_ with
          | zero =>
            intro d t tc κ hm_
            exact absurd hm_ (Nat.not_lt_zero _)
          | succ n_ ih =>
            intro d t tc κ hm_ hd hJt hMt hRt hres
            refine kw_iload_n dX12_step_39 rfl ?_
            refine kw_iload_n dX12_step_40 rfl ?_
            refine kw_icmp_ge (tgt := 115) dX12_step_41 (by decide) (fun c41 => ?_) (fun c41 => ?_)
            · skip
              have e : d = N0 := Nat.le_antisymm hd (nI_le' (by omega) (by omega) c41)
              rw [e, Nat.sub_self, stepF] at hres
              refine kw_iload_n dX12_step_115 rfl ?_
              refine kw_if_eq (tgt := 123) dX12_step_116 (by decide) (fun c116 => ?_) (fun c116 => ?_)
              · skip
                exact absurd c116 (by decide)
              · skip
                refine kw_iload_n dX12_step_119 rfl ?_
                refine kw_goto (tgt := 125) dX12_step_120 (by decide) ?_
                exact kw_iret dX12_step_125 rfl (Nat.le_of_ble_eq_true rfl) (Nat.le_of_ble_eq_true rfl) (hK _ _ _ ⟨rfl, by rw [← hres, e], by rw [← hres]; exact ⟨κ, hMt, hRt, rfl⟩⟩)
            · skip
              have hlt : d < N0 := nI_nle' (by omega) (by omega) c41
              obtain ⟨m, hP, hS⟩ := hJt
              have hPt := hP
              obtain ⟨⟨a1, a2, a3, a4, a5, a6, a7, a8, a9, a10, a11, a12⟩, b1, b2_, b3, b4⟩ := hP
              have hcn : cntN (mk_ t) (nb_ t) ≤ nb_ t := cntN_le _
              have hb := a1.1
              have hph := a1.2.2.2.2.2
              have hrt9 : rt_ t + 4 ≤ 944 := by have := a9.2.1; omega
              have hrf9 := a9.1
              have hnp := a1.2.1
              refine kw_aload_n dX12_step_44 rfl ?_
              refine kw_get dX12_step_45 fl_X12_131 rfl rfl ?_
              refine kw_if_eq (tgt := 115) dX12_step_48 (by decide) (fun c48 => ?_) (fun c48 => ?_)
              · skip
                have e48 : ph_ t = 0 := nI_eq' (b := 0) (by omega) (by decide) c48
                rw [show N0 - d = (N0 - (d + 1)) + 1 by omega, stepF, if_pos e48] at hres
                refine kw_iload_n dX12_step_115 rfl ?_
                refine kw_if_eq (tgt := 123) dX12_step_116 (by decide) (fun c116 => ?_) (fun c116 => ?_)
                · skip
                  exact absurd c116 (by decide)
                · skip
                  refine kw_iload_n dX12_step_119 rfl ?_
                  refine kw_goto (tgt := 125) dX12_step_120 (by decide) ?_
                  exact kw_iret dX12_step_125 rfl (Nat.le_of_ble_eq_true rfl) (Nat.le_of_ble_eq_true rfl) (hK _ _ _ ⟨rfl, by rw [← hres], by rw [← hres]; exact ⟨κ, hMt, hRt, rfl⟩⟩)
              · skip
                have e48 : ¬ ph_ t = 0 := fun q => c48 (by rw [q]; rfl)
                have wt31 : ∀ b, wt_ t b < 2 ^ 31 := fun b => by have := (a8.2.1 b).1; have := a8.1; omega
                have goT : ∀ (u : SG) (κu uc : KG) (m : Nat), JP n u uc m → MI u κu → mR u κu uc → advF t tc = (true, settleF (u, uc)) → kw_G l D cX12_step RX12 (Option.some Jvm.ClassFile.FieldType.int) "step" { frames := 2, cells := 0, slots := 0, locals := 56 } A K ad (hM u κu) 0 0 105 [some (pr_ (40, 0)), some (pi_ (nI N0)), some (pi_ (nI d)), some (pi_ (b2 true))] [] := by
                  intro u κu uc m hP hMu hRu ea
                  have ev : V9 n u := hP.1.2.2.2.2.2.2.2.2.1
                  have ev1 : V1 u := hP.1.1
                  have hcn : cntN (mk_ u) (nb_ u) ≤ nb_ u := cntN_le _
                  have hrt9 : rt_ u ≤ 1400 := by have := ev.2.1; have := ev1.1; omega
                  obtain ⟨w1, w2⟩ := R_st hRu
                  rw [show N0 - d = (N0 - (d + 1)) + 1 by omega, stepF, if_neg e48, ea, if_pos rfl] at hres
                  refine kw_iinc dX12_step_105 rfl (nI_i d) ?_
                  refine kw_aload_n dX12_step_108 rfl ?_
                  refine kw_callVf (As := []) (n_settle l u κu ev1.2.2.2.2.2 hrt9 ev.1) dX12_step_109 cl_X12_282 rfl rfl rfl rfl (Nat.le_of_ble_eq_true rfl) ⟨(Nat.le_of_ble_eq_true rfl), (Nat.le_of_ble_eq_true rfl), (Nat.le_of_ble_eq_true rfl), (Nat.le_of_ble_eq_true rfl)⟩ ?_
                  rw [w1]
                  refine kw_goto (tgt := 39) dX12_step_112 (by decide) ?_
                  exact ih (d + 1) (settleF (u, uc)).1 (settleF (u, uc)).2 (settleF (u, κu)).2 (by omega) (by omega) (J_settle hP) (by rw [← w1]; exact MI_st hMu) w2 hres
                have goF : ∀ (κu : KG) (u : SG), MI u κu → ph_ u = 0 → rt_ u ≤ 1400 → rf_ u ≤ rt_ u → (advF t tc).1 = false → s_gone (advF t tc).2.1 = u → kw_G l D cX12_step RX12 (Option.some Jvm.ClassFile.FieldType.int) "step" { frames := 2, cells := 0, slots := 0, locals := 56 } A K ad (hM u κu) 0 0 105 [some (pr_ (40, 0)), some (pi_ (nI N0)), some (pi_ (nI d)), some (pi_ (b2 false))] [] := by
                  intro κu u hMu eph ert erf ea eg
                  rw [show N0 - d = (N0 - (d + 1)) + 1 by omega, stepF, if_neg e48, if_neg (by rw [ea]; decide), eg] at hres
                  refine kw_iinc dX12_step_105 rfl (nI_i d) ?_
                  refine kw_aload_n dX12_step_108 rfl ?_
                  refine kw_callVf (As := []) (n_settle l u κu (by omega) ert erf) dX12_step_109 cl_X12_282 rfl rfl rfl rfl (Nat.le_of_ble_eq_true rfl) ⟨(Nat.le_of_ble_eq_true rfl), (Nat.le_of_ble_eq_true rfl), (Nat.le_of_ble_eq_true rfl), (Nat.le_of_ble_eq_true rfl)⟩ ?_
                  rw [lost_set u κu eph]
                  refine kw_goto (tgt := 39) dX12_step_112 (by decide) ?_
                  refine kw_iload_n dX12_step_39 rfl ?_
                  refine kw_iload_n dX12_step_40 rfl ?_
                  refine kw_icmp_ge (tgt := 115) dX12_step_41 (by decide) (fun c41 => ?_) (fun c41 => ?_)
                  · skip
                    refine kw_iload_n dX12_step_115 rfl ?_
                    refine kw_if_eq (tgt := 123) dX12_step_116 (by decide) (fun c116 => ?_) (fun c116 => ?_)
                    · skip
                      refine kw_bipush (v := (-105)) dX12_step_123 (by decide) ?_
                      exact kw_iret dX12_step_125 rfl (Nat.le_of_ble_eq_true rfl) (Nat.le_of_ble_eq_true rfl) (hK _ _ _ ⟨rfl, by rw [← hres], by rw [← hres]; exact ⟨κu, hMu, mR_0 eph _ _, rfl⟩⟩)
                    · skip
                      exact absurd rfl c116
                  · skip
                    refine kw_aload_n dX12_step_44 rfl ?_
                    refine kw_get dX12_step_45 fl_X12_131 rfl rfl ?_
                    refine kw_if_eq (tgt := 115) dX12_step_48 (by decide) (fun c48 => ?_) (fun c48 => ?_)
                    · skip
                      refine kw_iload_n dX12_step_115 rfl ?_
                      refine kw_if_eq (tgt := 123) dX12_step_116 (by decide) (fun c116 => ?_) (fun c116 => ?_)
                      · skip
                        refine kw_bipush (v := (-105)) dX12_step_123 (by decide) ?_
                        exact kw_iret dX12_step_125 rfl (Nat.le_of_ble_eq_true rfl) (Nat.le_of_ble_eq_true rfl) (hK _ _ _ ⟨rfl, by rw [← hres], by rw [← hres]; exact ⟨κu, hMu, mR_0 eph _ _, rfl⟩⟩)
                      · skip
                        exact absurd rfl c116
                    · skip
                      exact absurd (by rw [eph]; rfl) c48
                refine kw_iload_n dX12_step_51 rfl ?_
                refine kw_if_eq (tgt := 115) dX12_step_52 (by decide) (fun c52 => ?_) (fun c52 => ?_)
                · skip
                  exact absurd c52 (by decide)
                · skip
                  refine kw_aload_n dX12_step_55 rfl ?_
                  refine kw_get dX12_step_56 fl_X12_131 rfl rfl ?_
                  refine kw_iconst (v := 1) dX12_step_59 (by decide) ?_
                  refine kw_icmp_ne (tgt := 70) dX12_step_60 (by decide) (fun c60 => ?_) (fun c60 => ?_)
                  · skip
                    have p1 : ¬ ph_ t = 1 := fun q => c60 (by rw [q]; rfl)
                    refine kw_aload_n dX12_step_70 rfl ?_
                    refine kw_get dX12_step_71 fl_X12_131 rfl rfl ?_
                    refine kw_iconst (v := 2) dX12_step_74 (by decide) ?_
                    refine kw_icmp_ne (tgt := 85) dX12_step_75 (by decide) (fun c75 => ?_) (fun c75 => ?_)
                    · skip
                      have p2 : ¬ ph_ t = 2 := fun q => c75 (by rw [q]; rfl)
                      refine kw_aload_n dX12_step_85 rfl ?_
                      refine kw_get dX12_step_86 fl_X12_131 rfl rfl ?_
                      refine kw_iconst (v := 3) dX12_step_89 (by decide) ?_
                      refine kw_icmp_ne (tgt := 100) dX12_step_90 (by decide) (fun c90 => ?_) (fun c90 => ?_)
                      · skip
                        have p3 : ¬ ph_ t = 3 := fun q => c90 (by rw [q]; rfl)
                        have p4 : ph_ t = 4 := by omega
                        obtain ⟨x1, _⟩ := b2_.2.2 p4
                        obtain ⟨q0, y1, y2, y3⟩ := hS.2.2.2 p4
                        have ecl : cl_ (nx_ tc) = m := by rw [x1]; exact nI_clamp (by omega)
                        obtain ⟨J1, J2⟩ := J_packd hPt p4 y1 y2 y3
                        refine kw_aload_n dX12_step_100 rfl ?_
                        refine kw_callV (As := []) (n_packStep l n t tc κ hPt.1 b3 m (by omega) (by rw [hRt.1 (by omega)]; exact x1)) dX12_step_101 cl_X12_310 rfl rfl rfl rfl (Nat.le_of_ble_eq_true rfl) ⟨(Nat.le_of_ble_eq_true rfl), (Nat.le_of_ble_eq_true rfl), (Nat.le_of_ble_eq_true rfl), (Nat.le_of_ble_eq_true rfl)⟩ (fun r2 h2 hp2 => ?_)
                        obtain ⟨rfl, κ9, q1, q2, q3, rfl⟩ := hp2
                        by_cases hB : (pkNF t tc m).1 = true
                        · rw [if_pos hB, hB]
                          refine kw_istore_n dX12_step_104 (Nat.le_of_ble_eq_true rfl) ?_
                          refine goT _ _ (pkNF t tc m).2.2 (m + 1) (J1 hB) (MI_k (MI_pkNF hMt tc m) q3) ⟨fun _ => ?_, fun _ => ?_⟩ (by unfold advF advF0; rw [if_neg p1, if_neg p2, if_neg p3, ecl, hB])
                          · rw [q1]; exact (pkNF_nx t tc m).1.symm
                          · rw [q2, hRt.2 p4]; exact (pkNF_nx t tc m).2.symm
                        have hBf : (pkNF t tc m).1 = false := by cases e : (pkNF t tc m).1 with | false => rfl | true => exact absurd e hB
                        rw [if_neg hB, hBf]
                        refine kw_istore_n dX12_step_104 (Nat.le_of_ble_eq_true rfl) ?_
                        exact goF _ _ (MI_gone (MI_k (MI_pkNF hMt tc m) q3)) rfl (by show rt_ (pkNF t tc m).2.1 ≤ 1400; rw [rt_, pkNF_1 t tc m 12 (by decide) (by decide)]; show rt_ t ≤ 1400; omega) (by show rf_ (pkNF t tc m).2.1 ≤ rt_ (pkNF t tc m).2.1; rw [rt_, rf_, pkNF_1 t tc m 12 (by decide) (by decide), pkNF_1 t tc m 11 (by decide) (by decide)]; exact hrf9) (by unfold advF advF0; rw [if_neg p1, if_neg p2, if_neg p3, ecl]; exact hBf) (by unfold advF advF0; rw [if_neg p1, if_neg p2, if_neg p3, ecl, st_gone])
                      · skip
                        have p3 : ph_ t = 3 := nI_eq' (b := 3) (by omega) (by decide) c90
                        obtain ⟨x1, x2⟩ := b2_.2.1 p3
                        have hend := (a11 (Or.inr (Or.inr p3))).1
                        have hlt3 := hS.2.2.1 p3
                        obtain ⟨m9, hm9⟩ : ∃ m9, m = m9 + 1 := ⟨m - 1, by omega⟩
                        subst hm9
                        obtain ⟨m, hm8⟩ : ∃ m, m = m9 := ⟨_, rfl⟩
                        subst hm8
                        rw [nI_pred] at x1
                        have ecl : cl_ (nx_ tc) = m := by rw [x1]; exact nI_clamp (by omega)
                        obtain ⟨J1, J2⟩ := J_choose hPt p3
                        have cE := chooseM_e t m
                        have nh240 : th_ t m = true → nh_ t < 240 := by
                          intro ht9
                          have h1 : nh_ t + thereN t = nb_ t + nfr_ t + 2 * ns_ t := a6.2.1
                          have h2 : nfr_ t + cntN (th_ t) (nb_ t) = nb_ t := a6.2.2.1
                          have h3 := cntN_clr (p := th_ t) ht9 (show m < nb_ t by omega)
                          have h5 := a3.1
                          omega
                        refine kw_aload_n dX12_step_93 rfl ?_
                        refine kw_callVf (As := []) (n_choose l t κ hb m (by omega) (by rw [hRt.1 (by omega)]; exact x1) (wt31 m) nh240) dX12_step_94 cl_X12_307 rfl rfl rfl rfl (Nat.le_of_ble_eq_true rfl) ⟨(Nat.le_of_ble_eq_true rfl), (Nat.le_of_ble_eq_true rfl), (Nat.le_of_ble_eq_true rfl), (Nat.le_of_ble_eq_true rfl)⟩ ?_
                        refine kw_goto (tgt := 104) dX12_step_97 (by decide) ?_
                        by_cases hB : (chooseM t m).1 = true
                        · have hBF : (chooseF t m).1 = true := cE.1.symm.trans hB
                          rw [hB, cE.2.1 hBF]
                          refine kw_istore_n dX12_step_104 (Nat.le_of_ble_eq_true rfl) ?_
                          exact goT _ _ (kX (chooseK t tc m) 0 (nI m - 1)) m (J1 hBF) (MI_k (MI_choose hMt m) rfl) ⟨fun _ => rfl, fun q => absurd ((chooseF_1 t m 10 (by decide) (by decide)).symm.trans q) (by rw [show t.1 10 = ph_ t from rfl, p3]; decide)⟩ (by unfold advF advF0; rw [if_neg p1, if_neg p2, if_pos p3, ecl, hBF])
                        have hBf : (chooseM t m).1 = false := by cases e : (chooseM t m).1 with | false => rfl | true => exact absurd e hB
                        have hBF : (chooseF t m).1 = false := cE.1.symm.trans hBf
                        rw [hBf, (cE.2.2 hBF).1]
                        refine kw_istore_n dX12_step_104 (Nat.le_of_ble_eq_true rfl) ?_
                        exact goF _ _ (MI_lost (MI_k hMt rfl)) rfl (by show rt_ t ≤ 1400; omega) (by show rf_ t ≤ rt_ t; omega) (by unfold advF advF0; rw [if_neg p1, if_neg p2, if_pos p3, ecl]; exact hBF) (by unfold advF advF0; rw [if_neg p1, if_neg p2, if_pos p3, ecl, st_gone]; show s_gone (chooseF t m).2 = _; rw [(cE.2.2 hBF).2]; rfl)
                    · skip
                      have p2 : ph_ t = 2 := nI_eq' (b := 2) (by omega) (by decide) c75
                      obtain ⟨x1, x2⟩ := b2_.1 p2
                      have hend := (a11 (Or.inr (Or.inl p2))).1
                      have hlt2 := hS.2.1 p2
                      have ecl : cl_ (nx_ tc) = m := by rw [x1]; exact nI_clamp (by omega)
                      obtain ⟨J1, J2⟩ := J_clear hPt p2 hlt2
                      have cE := clearM_e t m
                      refine kw_aload_n dX12_step_78 rfl ?_
                      refine kw_callVf (As := []) (n_clear l t κ hb m (by omega) (by rw [hRt.1 (by omega)]; exact x1) (wt31 m)) dX12_step_79 cl_X12_304 rfl rfl rfl rfl (Nat.le_of_ble_eq_true rfl) ⟨(Nat.le_of_ble_eq_true rfl), (Nat.le_of_ble_eq_true rfl), (Nat.le_of_ble_eq_true rfl), (Nat.le_of_ble_eq_true rfl)⟩ ?_
                      refine kw_goto (tgt := 104) dX12_step_82 (by decide) ?_
                      by_cases hB : (clearM t m).1 = true
                      · have hBF : (clearF t m).1 = true := cE.1.symm.trans hB
                        rw [hB, cE.2.1 hBF]
                        refine kw_istore_n dX12_step_104 (Nat.le_of_ble_eq_true rfl) ?_
                        exact goT _ _ (kX tc 0 (nI (m + 1))) (m + 1) (J1 hBF) (MI_k (MI_clear hMt m) rfl) ⟨fun _ => rfl, fun q => absurd ((congrFun (clearF_1 t m) 10).symm.trans q) (by rw [show t.1 10 = ph_ t from rfl, p2]; decide)⟩ (by unfold advF advF0; rw [if_neg p1, if_pos p2, ecl, hBF])
                      have hBf : (clearM t m).1 = false := by cases e : (clearM t m).1 with | false => rfl | true => exact absurd e hB
                      have hBF : (clearF t m).1 = false := cE.1.symm.trans hBf
                      rw [hBf, (cE.2.2 hBF).1]
                      refine kw_istore_n dX12_step_104 (Nat.le_of_ble_eq_true rfl) ?_
                      exact goF _ _ (MI_lost (MI_k hMt rfl)) rfl (by show rt_ t ≤ 1400; omega) (by show rf_ t ≤ rt_ t; omega) (by unfold advF advF0; rw [if_neg p1, if_pos p2, ecl]; exact hBF) (by unfold advF advF0; rw [if_neg p1, if_pos p2, ecl, st_gone]; show s_gone (clearF t m).2 = _; rw [(cE.2.2 hBF).2]; rfl)
                  · skip
                    have p1 : ph_ t = 1 := nI_eq' (b := 1) (by omega) (by decide) c60
                    have hlt1 := hS.1 p1
                    refine kw_aload_n dX12_step_63 rfl ?_
                    refine kw_callVf (As := []) (n_mark l t κ hMt hb a2 (by omega) (a9.2.2.1 _ hlt1) (by omega)) dX12_step_64 cl_X12_301 rfl rfl rfl rfl (Nat.le_of_ble_eq_true rfl) ⟨(Nat.le_of_ble_eq_true rfl), (Nat.le_of_ble_eq_true rfl), (Nat.le_of_ble_eq_true rfl), (Nat.le_of_ble_eq_true rfl)⟩ ?_
                    refine kw_goto (tgt := 105) dX12_step_67 (by decide) ?_
                    exact goT _ _ tc m (J_mark hPt p1 hlt1) (MI_mark hMt) ⟨fun q => absurd q (by rw [show ph_ (s_mark1 t) = ph_ t from mark1_1 t 10 (by decide) (by decide), p1]; decide), fun q => absurd q (by rw [show ph_ (s_mark1 t) = ph_ t from mark1_1 t 10 (by decide) (by decide), p1]; decide)⟩ (by unfold advF advF0; rw [if_pos p1])
        refine kw_iconst (v := 0) dX12_step_35 (by decide) ?_
        refine kw_istore_n dX12_step_36 (Nat.le_of_ble_eq_true rfl) ?_
        refine kw_iconst (v := 1) dX12_step_37 (by decide) ?_
        refine kw_top (v' := pi_ (b2 true)) rfl ?_
        refine kw_istore_n dX12_step_38 (Nat.le_of_ble_eq_true rfl) ?_
        exact loop (N0 + 1) 0 s kc k (by omega) (by omega) hJ hMI hR (by rw [Nat.sub_zero, hRES])
      · skip
        have e29 : ph_ s = 0 := nI_eq' (b := 0) (by omega) (by decide) c29
        refine kw_bipush (v := (-103)) dX12_step_32 (by decide) ?_
        exact kw_iret dX12_step_34 rfl (Nat.le_of_ble_eq_true rfl) (Nat.le_of_ble_eq_true rfl) (hK _ _ _ ⟨rfl, by rw [if_pos e29], by rw [if_pos e29]; exact ⟨k, hMI, hR, rfl⟩⟩)
    · skip
      refine kw_bipush (v := (-102)) dX12_step_22 (by decide) ?_
      exact kw_iret dX12_step_24 rfl (Nat.le_of_ble_eq_true rfl) (Nat.le_of_ble_eq_true rfl) (hK _ _ _ ⟨rfl, by rw [c_step, if_neg hd, if_pos (inB_f (b2_0.mp c19))], by rw [c_step, if_neg hd, if_pos (inB_f (b2_0.mp c19))]; exact ⟨k, hMI, hR, rfl⟩⟩)
  · skip
    have hd := b2_n0.mp c4
    refine kw_bipush (v := (-106)) dX12_step_7 (by decide) ?_
    exact kw_iret dX12_step_9 rfl (Nat.le_of_ble_eq_true rfl) (Nat.le_of_ble_eq_true rfl) (hK _ _ _ ⟨rfl, by rw [c_step, if_pos hd], by rw [c_step, if_pos hd]; exact ⟨k, hMI, hR, rfl⟩⟩)
