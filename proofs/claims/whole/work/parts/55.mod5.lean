/-! THE MODEL'S METHODS, 5: save, commit -/
theorem w1_fit (t : SG) (z : Nat) : fitB (s_w1 t) z = fitB t z := by
  unfold s_w1
  split <;> rfl
set_option maxHeartbeats 4000000 in
set_option maxRecDepth 100000 in
theorem M_save (l : Launch) (s : SG) (k : KG) (hMI : MI s k) (hb : nb_ s ≤ 80) (hkd : kidsOk s) (hw : ∀ i, i < nb_ s → wt_ s i < 2 ^ 31) (hph : ph_ s ≤ 4) (hr : rt_ s < 944) (hp : np_ s ≤ 40) (hcap : cap_ s ≤ 1000) (ha : ∀ i, i < np_ s → al_ s i ≤ 1000) (hnh : nb_ s < 80 → nh_ s < 240) (hu : ∀ i, i < 4 → um_ s i ≤ 8) (hkm : ∀ i, i < 4 → km_ s i ≤ 4) (x : Int32) (key : Int64) (w : Int32) : kw_P l yX12_save cX12_save 7 (Option.some Jvm.ClassFile.FieldType.int) { frames := 3, cells := 0, slots := 0, locals := 72 } [pr_ (40, 0), pi_ x, pl_ key, pi_ w] (hM s k) (fun r h' => r = some (pi_ (a_save s x key w).1) ∧ mW (a_save s x key w).2 k h') := by
  refine kw_M_of RX12 "save" [some (pr_ (40, 0)), some (pi_ x), some (pl_ key), none, some (pi_ w), none, none] (by decide) rfl rfl rfl (Nat.le_of_ble_eq_true rfl) ?_
  intro D ad A
  refine kw_Kgen (fun K hK => ?_)
  refine kw_aload_n dX12_save_0 rfl ?_
  refine kw_get dX12_save_1 fl_X12_127 rfl rfl ?_
  refine kw_if_eq (tgt := 10) dX12_save_4 (by decide) (fun c4 => ?_) (fun c4 => ?_)
  · skip
    have hd : ¬ dn_ s = true := by rw [b2_0.mp c4]; decide
    refine kw_aload_n dX12_save_10 rfl ?_
    refine kw_iload_n dX12_save_11 rfl ?_
    refine kw_callVf (As := [pi_ x]) (n_isSaver l s k x) dX12_save_12 cl_X12_165 rfl rfl rfl rfl (Nat.le_of_ble_eq_true rfl) ⟨(Nat.le_of_ble_eq_true rfl), (Nat.le_of_ble_eq_true rfl), (Nat.le_of_ble_eq_true rfl), (Nat.le_of_ble_eq_true rfl)⟩ ?_
    refine kw_if_ne (tgt := 21) dX12_save_15 (by decide) (fun c15 => ?_) (fun c15 => ?_)
    · skip
      have e15 := b2_n0.mp c15
      obtain ⟨j, hj, e16⟩ := anyN_iff.mp e15
      rw [Bool.and_eq_true] at e16
      have ex := of_decide_eq_true e16.1
      subst ex
      have ecl : cl_ (nI j) = j := nI_clamp (by omega)
      rw [a_save, if_neg hd, if_pos e15, ecl] at hK
      obtain ⟨y, hy, -⟩ := s_rn_e s j
      have r1 : (s_rn s j).1 = s.1 := by rw [hy]
      have r5 : (s_rn s j).2.2.2.2.1 = s.2.2.2.2.1 := by rw [hy]
      have r6 : (s_rn s j).2.2.2.2.2.1 = s.2.2.2.2.2.1 := by rw [hy]
      have r8 : (s_rn s j).2.2.2.2.2.2.2 = s.2.2.2.2.2.2.2 := by rw [hy]
      have hM2 := MI_rn hMI j
      obtain ⟨t, ht⟩ : ∃ t, t = s_rn s j := ⟨_, rfl⟩
      rw [← ht] at r1 r5 r6 r8 hM2 hK
      have eb : nb_ t = nb_ s := congrFun r1 1
      have eum : um_ t = um_ s := congrFun r5 14
      have ekm : km_ t = km_ s := congrFun r5 16
      have eh : ∀ z, holdsB t z = holdsB s z := fun z => by unfold holdsB; rw [nb_, r1, th_, gs_, r6]
      have eu : ∀ z, usesB t j z = usesB s j z := fun z => by unfold usesB; rw [eum, us_, ff_, r8]
      have ewt : wt_ t = wt_ s := congrFun r5 5
      have ekd : kidsOk t := fun i hi => by rw [cm_, fs_, r5, ch_, ff_, r8]; exact hkd i (by omega)
      have ephh : ph_ t = ph_ s := congrFun r1 10
      have ertt : rt_ t = rt_ s := congrFun r1 12
      rw [← ewt, ← eb] at hw
      rw [← eum] at hu hK
      rw [← ephh] at hph
      rw [← ertt] at hr
      obtain ⟨y2, hy2, hy3, -⟩ := s_rn_e s j
      have ecap : cap_ t = cap_ s := congrFun r1 0
      have enp : np_ t = np_ s := congrFun r1 4
      have ecut : cut_ t = cut_ s := by rw [ht, hy2]
      have efit : ∀ z, fitB t z = fitB s z := fun z => by rw [ht, hy2]; rfl
      have eal : al_ t = al_ s := congrFun r5 6
      have enh : nh_ t = nh_ s := congrFun r1 8
      have efd : ∀ z, findS t j key z = findS s j key z := by
        intro z
        rw [ht, hy2]
        show findF (fun i => th_ s i && (decide (y2 0 i = key) && (decide (nI (sz_ s i) = nI z) && (decide (nI (cm_ s i) = nI (km_ s j)) && !anyN (fun q => !decide (nI (ch_ s i q) = nI (ks_ s j q))) (km_ s j))))) (nb_ s) 0 = _
        rw [hy3]
        rfl
      have hcm2 : ∀ i, i < nb_ t → cm_ t i ≤ 4 := fun i hi => (ekd i hi).1
      rw [← enp] at hp
      rw [← ecap] at hcap
      rw [← eal, ← enp] at ha
      rw [← eb, ← enh] at hnh
      rw [← ekm] at hkm
      refine kw_aload_n dX12_save_21 rfl ?_
      refine kw_iload_n dX12_save_22 rfl ?_
      refine kw_callVf (As := [pi_ (nI j)]) (n_meet l s k j hj) dX12_save_23 cl_X12_168 rfl rfl rfl rfl (Nat.le_of_ble_eq_true rfl) ⟨(Nat.le_of_ble_eq_true rfl), (Nat.le_of_ble_eq_true rfl), (Nat.le_of_ble_eq_true rfl), (Nat.le_of_ble_eq_true rfl)⟩ ?_
      rw [← ht]
      refine kw_istore dX12_save_26 (Nat.le_of_ble_eq_true rfl) ?_
      refine kw_iload dX12_save_28 rfl ?_
      refine kw_i2l dX12_save_30 ?_
      refine kw_lconst (v := 1) dX12_save_31 (by decide) ?_
      refine kw_top (v' := pl_ ((1 : Int32).toInt64)) (by decide) ?_
      refine kw_aload_n dX12_save_32 rfl ?_
      refine kw_get dX12_save_33 fl_X12_124 rfl rfl ?_
      refine kw_i2l dX12_save_36 ?_
      refine kw_callSf (As := [pl_ w.toInt64, pl_ (1 : Int32).toInt64, pl_ (nI (cap_ t)).toInt64]) (n_inI l _ w 1 (nI (cap_ t))) dX12_save_37 cl_X12_144 rfl rfl (Nat.le_of_ble_eq_true rfl) ⟨(Nat.le_of_ble_eq_true rfl), (Nat.le_of_ble_eq_true rfl), (Nat.le_of_ble_eq_true rfl), (Nat.le_of_ble_eq_true rfl)⟩ ?_
      refine kw_if_ne (tgt := 46) dX12_save_40 (by decide) (fun c40 => ?_) (fun c40 => ?_)
      · skip
        obtain ⟨e40, e41⟩ := inB_t (b2_n0.mp c40)
        obtain ⟨z, hz31, rfl⟩ := nI_of (x := w) (fun q => Int32.not_lt.mpr e40 (Int32.lt_trans q (by decide)))
        have hz1 : 1 ≤ z := nI_le' (a := 1) (by decide) hz31 e40
        have hzc : z ≤ cap_ t := nI_le' hz31 (by omega) e41
        rw [if_neg (fun q => q.elim (fun y => Int32.not_lt.mpr e40 y) (fun y => Int32.not_lt.mpr (by rw [← ecap]; exact e41) y)), show cl_ (nI z) = z from nI_clamp hz31] at hK
        refine kw_iload dX12_save_46 rfl ?_
        refine kw_if_ne (tgt := 54) dX12_save_48 (by decide) (fun c48 => ?_) (fun c48 => ?_)
        · skip
          have e48 : dead_ s j = false := not_b2n c48
          rw [if_neg (by rw [e48]; decide), ← efd, ← eb, ← enp, ← efit, ← ecut] at hK
          refine kw_aload_n dX12_save_54 rfl ?_
          refine kw_iload_n dX12_save_55 rfl ?_
          refine kw_lload_n dX12_save_56 rfl ?_
          refine kw_iload dX12_save_57 rfl ?_
          refine kw_callVf (As := [pi_ (nI j), pl_ key, pi_ (nI z)]) (n_find l t k (by omega) hM2 hcm2 j hj (hkm j hj) key z) dX12_save_59 cl_X12_181 rfl rfl rfl rfl (Nat.le_of_ble_eq_true rfl) ⟨(Nat.le_of_ble_eq_true rfl), (Nat.le_of_ble_eq_true rfl), (Nat.le_of_ble_eq_true rfl), (Nat.le_of_ble_eq_true rfl)⟩ ?_
          refine kw_istore dX12_save_62 (Nat.le_of_ble_eq_true rfl) ?_
          refine kw_iload dX12_save_64 rfl ?_
          refine kw_if_lt (tgt := 116) dX12_save_66 (by decide) (fun c66 => ?_) (fun c66 => ?_)
          · skip
            have ef : findS t j key z = -1 := by
              rcases findF_cases (fun i => th_ t i && likeB t i j key z) (nb_ t) 0 with q | ⟨b, q1, q2, q3, q4⟩
              · exact q.1
              · have q5 : findS t j key z = nI b := q4
                rw [q5] at c66
                exact absurd c66 (nI_pos (by omega))
            rw [if_pos ef] at hK
            refine kw_aload_n dX12_save_116 rfl ?_
            refine kw_get dX12_save_117 fl_X12_88 rfl rfl ?_
            refine kw_iload_n dX12_save_120 rfl ?_
            refine kw_ialdN dX12_save_121 rfl hj (by decide) ?_
            refine kw_bipush (v := 8) dX12_save_122 (by decide) ?_
            refine kw_icmp_eq (tgt := 154) dX12_save_124 (by decide) (fun c124 => ?_) (fun c124 => ?_)
            · skip
              have e124 : um_ t j = 8 := nI_eq' (b := 8) (by have := hu j hj; omega) (by decide) c124
              refine kw_bipush (v := (-104)) dX12_save_154 (by decide) ?_
              exact kw_iret dX12_save_156 rfl (Nat.le_of_ble_eq_true rfl) (Nat.le_of_ble_eq_true rfl) (hK _ _ _ ⟨rfl, by rw [if_neg (fun y => by have := y.1; omega)], by rw [if_neg (fun y => by have := y.1; omega)]; exact ⟨k, mEq.rf k, hM2, rfl⟩⟩)
            · skip
              have e124 : um_ t j < 8 := Nat.lt_of_le_of_ne (hu j hj) (fun q => c124 (by rw [q]; rfl))
              refine kw_aload_n dX12_save_127 rfl ?_
              refine kw_get dX12_save_128 fl_X12_156 rfl rfl ?_
              refine kw_bipush (v := 80) dX12_save_131 (by decide) ?_
              refine kw_icmp_eq (tgt := 154) dX12_save_133 (by decide) (fun c133 => ?_) (fun c133 => ?_)
              · skip
                have e133 : nb_ t = 80 := nI_eq' (b := 80) (by omega) (by decide) c133
                refine kw_bipush (v := (-104)) dX12_save_154 (by decide) ?_
                exact kw_iret dX12_save_156 rfl (Nat.le_of_ble_eq_true rfl) (Nat.le_of_ble_eq_true rfl) (hK _ _ _ ⟨rfl, by rw [if_neg (fun y => by have := y.2.1; omega)], by rw [if_neg (fun y => by have := y.2.1; omega)]; exact ⟨k, mEq.rf k, hM2, rfl⟩⟩)
              · skip
                have e133 : nb_ t < 80 := Nat.lt_of_le_of_ne (by omega) (fun q => c133 (by rw [q]; rfl))
                refine kw_aload_n dX12_save_136 rfl ?_
                refine kw_iload dX12_save_137 rfl ?_
                refine kw_callVf (As := [pi_ (nI z)]) (n_fits l t k hp hcap ha z (by omega)) dX12_save_139 cl_X12_188 rfl rfl rfl rfl (Nat.le_of_ble_eq_true rfl) ⟨(Nat.le_of_ble_eq_true rfl), (Nat.le_of_ble_eq_true rfl), (Nat.le_of_ble_eq_true rfl), (Nat.le_of_ble_eq_true rfl)⟩ ?_
                refine kw_if_ne (tgt := 157) dX12_save_142 (by decide) (fun c142 => ?_) (fun c142 => ?_)
                · skip
                  have hfr : fitB t z = true ∨ np_ t < 40 := Or.inl (b2_n0.mp c142)
                  rw [if_pos ⟨e124, e133, hfr⟩] at hK
                  by_cases hcut : cut_ t = 0
                  · rw [if_pos hcut] at hK
                    refine kw_aload_n dX12_save_157 rfl ?_
                    refine kw_callVf (As := []) (n_write0 l t k hcut) dX12_save_158 cl_X12_191 rfl rfl rfl rfl (Nat.le_of_ble_eq_true rfl) ⟨(Nat.le_of_ble_eq_true rfl), (Nat.le_of_ble_eq_true rfl), (Nat.le_of_ble_eq_true rfl), (Nat.le_of_ble_eq_true rfl)⟩ ?_
                    refine kw_if_ne (tgt := 167) dX12_save_161 (by decide) (fun c161 => ?_) (fun c161 => ?_)
                    · skip
                      exact absurd rfl c161
                    · skip
                      refine kw_bipush (v := (-105)) dX12_save_164 (by decide) ?_
                      exact kw_iret dX12_save_166 rfl (Nat.le_of_ble_eq_true rfl) (Nat.le_of_ble_eq_true rfl) (hK _ _ _ ⟨rfl, rfl, k, mEq.rf k, MI_lost hM2, rfl⟩)
                  rw [if_neg hcut] at hK
                  refine kw_aload_n dX12_save_157 rfl ?_
                  refine kw_callVf (As := []) (n_write1 l t k hcut) dX12_save_158 cl_X12_191 rfl rfl rfl rfl (Nat.le_of_ble_eq_true rfl) ⟨(Nat.le_of_ble_eq_true rfl), (Nat.le_of_ble_eq_true rfl), (Nat.le_of_ble_eq_true rfl), (Nat.le_of_ble_eq_true rfl)⟩ ?_
                  refine kw_if_ne (tgt := 167) dX12_save_161 (by decide) (fun c161 => ?_) (fun c161 => ?_)
                  · skip
                    refine kw_aload_n dX12_save_167 rfl ?_
                    refine kw_iload_n dX12_save_168 rfl ?_
                    refine kw_lload_n dX12_save_169 rfl ?_
                    refine kw_iload dX12_save_170 rfl ?_
                    refine kw_callV (As := [pi_ (nI j), pl_ key, pi_ (nI z)]) (n_made l (s_w1 t) k (MI_w1 hM2) (by rw [nb_, s_w1_1]; exact e133) (by rw [np_, s_w1_1]; exact hp) (by rw [cap_, s_w1_1]; exact hcap) (by rw [np_, s_w1_1, al_, fs_, s_w1_f]; exact ha) (by rw [nb_, s_w1_1, cm_, fs_, s_w1_f]; exact hcm2) (by rw [nh_, s_w1_1]; exact hnh e133) j hj (by rw [um_, fs_, s_w1_f]; exact hu) (by rw [um_, fs_, s_w1_f]; exact e124) (by rw [km_, fs_, s_w1_f]; exact hkm j hj) key z (by omega) (by rw [w1_fit, np_, s_w1_1]; exact hfr)) dX12_save_172 cl_X12_195 rfl rfl rfl rfl (Nat.le_of_ble_eq_true rfl) ⟨(Nat.le_of_ble_eq_true rfl), (Nat.le_of_ble_eq_true rfl), (Nat.le_of_ble_eq_true rfl), (Nat.le_of_ble_eq_true rfl)⟩ (fun r2 h2 hp2 => ?_)
                    obtain ⟨rfl, m1⟩ := hp2
                    refine kw_top (v' := pi_ (nI (nb_ t))) (by rw [nb_, s_w1_1]) ?_
                    exact kw_iret dX12_save_175 rfl (Nat.le_of_ble_eq_true rfl) (Nat.le_of_ble_eq_true rfl) (hK _ _ _ ⟨rfl, rfl, m1⟩)
                  · skip
                    exact absurd c161 (by decide)
                · skip
                  have e142 := b2_0.mp c142
                  refine kw_aload_n dX12_save_145 rfl ?_
                  refine kw_get dX12_save_146 fl_X12_178 rfl rfl ?_
                  refine kw_bipush (v := 40) dX12_save_149 (by decide) ?_
                  refine kw_icmp_ne (tgt := 157) dX12_save_151 (by decide) (fun c151 => ?_) (fun c151 => ?_)
                  · skip
                    have hfr : fitB t z = true ∨ np_ t < 40 := Or.inr (Nat.lt_of_le_of_ne hp (fun q => c151 (by rw [q]; rfl)))
                    rw [if_pos ⟨e124, e133, hfr⟩] at hK
                    by_cases hcut : cut_ t = 0
                    · rw [if_pos hcut] at hK
                      refine kw_aload_n dX12_save_157 rfl ?_
                      refine kw_callVf (As := []) (n_write0 l t k hcut) dX12_save_158 cl_X12_191 rfl rfl rfl rfl (Nat.le_of_ble_eq_true rfl) ⟨(Nat.le_of_ble_eq_true rfl), (Nat.le_of_ble_eq_true rfl), (Nat.le_of_ble_eq_true rfl), (Nat.le_of_ble_eq_true rfl)⟩ ?_
                      refine kw_if_ne (tgt := 167) dX12_save_161 (by decide) (fun c161 => ?_) (fun c161 => ?_)
                      · skip
                        exact absurd rfl c161
                      · skip
                        refine kw_bipush (v := (-105)) dX12_save_164 (by decide) ?_
                        exact kw_iret dX12_save_166 rfl (Nat.le_of_ble_eq_true rfl) (Nat.le_of_ble_eq_true rfl) (hK _ _ _ ⟨rfl, rfl, k, mEq.rf k, MI_lost hM2, rfl⟩)
                    rw [if_neg hcut] at hK
                    refine kw_aload_n dX12_save_157 rfl ?_
                    refine kw_callVf (As := []) (n_write1 l t k hcut) dX12_save_158 cl_X12_191 rfl rfl rfl rfl (Nat.le_of_ble_eq_true rfl) ⟨(Nat.le_of_ble_eq_true rfl), (Nat.le_of_ble_eq_true rfl), (Nat.le_of_ble_eq_true rfl), (Nat.le_of_ble_eq_true rfl)⟩ ?_
                    refine kw_if_ne (tgt := 167) dX12_save_161 (by decide) (fun c161 => ?_) (fun c161 => ?_)
                    · skip
                      refine kw_aload_n dX12_save_167 rfl ?_
                      refine kw_iload_n dX12_save_168 rfl ?_
                      refine kw_lload_n dX12_save_169 rfl ?_
                      refine kw_iload dX12_save_170 rfl ?_
                      refine kw_callV (As := [pi_ (nI j), pl_ key, pi_ (nI z)]) (n_made l (s_w1 t) k (MI_w1 hM2) (by rw [nb_, s_w1_1]; exact e133) (by rw [np_, s_w1_1]; exact hp) (by rw [cap_, s_w1_1]; exact hcap) (by rw [np_, s_w1_1, al_, fs_, s_w1_f]; exact ha) (by rw [nb_, s_w1_1, cm_, fs_, s_w1_f]; exact hcm2) (by rw [nh_, s_w1_1]; exact hnh e133) j hj (by rw [um_, fs_, s_w1_f]; exact hu) (by rw [um_, fs_, s_w1_f]; exact e124) (by rw [km_, fs_, s_w1_f]; exact hkm j hj) key z (by omega) (by rw [w1_fit, np_, s_w1_1]; exact hfr)) dX12_save_172 cl_X12_195 rfl rfl rfl rfl (Nat.le_of_ble_eq_true rfl) ⟨(Nat.le_of_ble_eq_true rfl), (Nat.le_of_ble_eq_true rfl), (Nat.le_of_ble_eq_true rfl), (Nat.le_of_ble_eq_true rfl)⟩ (fun r2 h2 hp2 => ?_)
                      obtain ⟨rfl, m1⟩ := hp2
                      refine kw_top (v' := pi_ (nI (nb_ t))) (by rw [nb_, s_w1_1]) ?_
                      exact kw_iret dX12_save_175 rfl (Nat.le_of_ble_eq_true rfl) (Nat.le_of_ble_eq_true rfl) (hK _ _ _ ⟨rfl, rfl, m1⟩)
                    · skip
                      exact absurd c161 (by decide)
                  · skip
                    have e151 : np_ t = 40 := nI_eq' (b := 40) (by omega) (by decide) c151
                    refine kw_bipush (v := (-104)) dX12_save_154 (by decide) ?_
                    exact kw_iret dX12_save_156 rfl (Nat.le_of_ble_eq_true rfl) (Nat.le_of_ble_eq_true rfl) (hK _ _ _ ⟨rfl, by rw [if_neg (fun y => y.2.2.elim (fun y => by rw [e142] at y; cases y) (fun y => by omega))], by rw [if_neg (fun y => y.2.2.elim (fun y => by rw [e142] at y; cases y) (fun y => by omega))]; exact ⟨k, mEq.rf k, hM2, rfl⟩⟩)
          · skip
            obtain ⟨b, hbn, ef⟩ : ∃ b, b < nb_ t ∧ findS t j key z = nI b := by
              rcases findF_cases (fun i => th_ t i && likeB t i j key z) (nb_ t) 0 with q | ⟨b, q1, q2, q3, q4⟩
              · have q5 : findS t j key z = -1 := q.1
                rw [q5] at c66
                exact absurd (by decide) c66
              · exact ⟨b, by omega, q4⟩
            rw [ef, if_neg (nI_m1 (by omega)), show cl_ (nI b) = b from nI_clamp (by omega), ← eu] at hK
            rw [ef]
            refine kw_aload_n dX12_save_69 rfl ?_
            refine kw_iload_n dX12_save_70 rfl ?_
            refine kw_iload dX12_save_71 rfl ?_
            refine kw_callVf (As := [pi_ (nI j), pi_ (nI b)]) (n_uses l t k j hj (hu j hj) (hM2.2.2.1 j hj) (nI b)) dX12_save_73 cl_X12_174 rfl rfl rfl rfl (Nat.le_of_ble_eq_true rfl) ⟨(Nat.le_of_ble_eq_true rfl), (Nat.le_of_ble_eq_true rfl), (Nat.le_of_ble_eq_true rfl), (Nat.le_of_ble_eq_true rfl)⟩ ?_
            refine kw_if_ne (tgt := 93) dX12_save_76 (by decide) (fun c76 => ?_) (fun c76 => ?_)
            · skip
              have e51 := b2_n0.mp c76
              have hcx : um_ t j < 8 ∨ usesB t j (nI b) = true := Or.inr e51
              rw [if_pos hcx] at hK
              refine kw_aload_n dX12_save_93 rfl ?_
              refine kw_iload_n dX12_save_94 rfl ?_
              refine kw_iload dX12_save_95 rfl ?_
              refine kw_callV (As := [pi_ (nI j), pi_ (nI b)]) (n_taken l t k (by omega) ekd hM2 hw (by omega) (by omega) j b hj hu hcx hbn) dX12_save_97 cl_X12_185 rfl rfl rfl rfl (Nat.le_of_ble_eq_true rfl) ⟨(Nat.le_of_ble_eq_true rfl), (Nat.le_of_ble_eq_true rfl), (Nat.le_of_ble_eq_true rfl), (Nat.le_of_ble_eq_true rfl)⟩ (fun r2 h2 hp2 => ?_)
              obtain ⟨rfl, κ, m1, m2, rfl, m3⟩ := hp2
              refine kw_if_ne (tgt := 106) dX12_save_100 (by decide) (fun c100 => ?_) (fun c100 => ?_)
              · skip
                have e74 := b2_n0.mp c100
                rw [if_pos e74] at hK
                refine kw_aload_n dX12_save_106 rfl ?_
                refine kw_get dX12_save_107 fl_X12_94 rfl rfl ?_
                refine kw_iload_n dX12_save_110 rfl ?_
                refine kw_iconst (v := 0) dX12_save_111 (by decide) ?_
                refine kw_top (v' := pi_ (nI 0)) rfl ?_
                refine kw_iastN dX12_save_112 rfl hj (by decide) ?_
                refine kw_heq (uma_23 _ κ j 0) ?_
                refine kw_iload dX12_save_113 rfl ?_
                exact kw_iret dX12_save_115 rfl (Nat.le_of_ble_eq_true rfl) (Nat.le_of_ble_eq_true rfl) (hK _ _ _ ⟨rfl, rfl, κ, m1, MI_km0 m2 j, rfl⟩)
              · skip
                have e74 := b2_0.mp c100
                rw [if_neg (by rw [e74]; decide)] at hK
                refine kw_bipush (v := (-105)) dX12_save_103 (by decide) ?_
                exact kw_iret dX12_save_105 rfl (Nat.le_of_ble_eq_true rfl) (Nat.le_of_ble_eq_true rfl) (hK _ _ _ ⟨rfl, rfl, κ, m1, m2, rfl⟩)
            · skip
              have e51 := b2_0.mp c76
              refine kw_aload_n dX12_save_79 rfl ?_
              refine kw_get dX12_save_80 fl_X12_88 rfl rfl ?_
              refine kw_iload_n dX12_save_83 rfl ?_
              refine kw_ialdN dX12_save_84 rfl hj (by decide) ?_
              refine kw_bipush (v := 8) dX12_save_85 (by decide) ?_
              refine kw_icmp_ne (tgt := 93) dX12_save_87 (by decide) (fun c87 => ?_) (fun c87 => ?_)
              · skip
                have hcx : um_ t j < 8 ∨ usesB t j (nI b) = true := Or.inl (Nat.lt_of_le_of_ne (hu j hj) (fun q => c87 (by rw [q]; rfl)))
                rw [if_pos hcx] at hK
                refine kw_aload_n dX12_save_93 rfl ?_
                refine kw_iload_n dX12_save_94 rfl ?_
                refine kw_iload dX12_save_95 rfl ?_
                refine kw_callV (As := [pi_ (nI j), pi_ (nI b)]) (n_taken l t k (by omega) ekd hM2 hw (by omega) (by omega) j b hj hu hcx hbn) dX12_save_97 cl_X12_185 rfl rfl rfl rfl (Nat.le_of_ble_eq_true rfl) ⟨(Nat.le_of_ble_eq_true rfl), (Nat.le_of_ble_eq_true rfl), (Nat.le_of_ble_eq_true rfl), (Nat.le_of_ble_eq_true rfl)⟩ (fun r2 h2 hp2 => ?_)
                obtain ⟨rfl, κ, m1, m2, rfl, m3⟩ := hp2
                refine kw_if_ne (tgt := 106) dX12_save_100 (by decide) (fun c100 => ?_) (fun c100 => ?_)
                · skip
                  have e74 := b2_n0.mp c100
                  rw [if_pos e74] at hK
                  refine kw_aload_n dX12_save_106 rfl ?_
                  refine kw_get dX12_save_107 fl_X12_94 rfl rfl ?_
                  refine kw_iload_n dX12_save_110 rfl ?_
                  refine kw_iconst (v := 0) dX12_save_111 (by decide) ?_
                  refine kw_top (v' := pi_ (nI 0)) rfl ?_
                  refine kw_iastN dX12_save_112 rfl hj (by decide) ?_
                  refine kw_heq (uma_23 _ κ j 0) ?_
                  refine kw_iload dX12_save_113 rfl ?_
                  exact kw_iret dX12_save_115 rfl (Nat.le_of_ble_eq_true rfl) (Nat.le_of_ble_eq_true rfl) (hK _ _ _ ⟨rfl, rfl, κ, m1, MI_km0 m2 j, rfl⟩)
                · skip
                  have e74 := b2_0.mp c100
                  rw [if_neg (by rw [e74]; decide)] at hK
                  refine kw_bipush (v := (-105)) dX12_save_103 (by decide) ?_
                  exact kw_iret dX12_save_105 rfl (Nat.le_of_ble_eq_true rfl) (Nat.le_of_ble_eq_true rfl) (hK _ _ _ ⟨rfl, rfl, κ, m1, m2, rfl⟩)
              · skip
                have e62 : um_ t j = 8 := nI_eq' (b := 8) (by have := hu j hj; omega) (by decide) c87
                refine kw_bipush (v := (-104)) dX12_save_90 (by decide) ?_
                exact kw_iret dX12_save_92 rfl (Nat.le_of_ble_eq_true rfl) (Nat.le_of_ble_eq_true rfl) (hK _ _ _ ⟨rfl, by rw [if_neg (fun y => y.elim (fun y => by omega) (fun y => by rw [e51] at y; cases y))], by rw [if_neg (fun y => y.elim (fun y => by omega) (fun y => by rw [e51] at y; cases y))]; exact ⟨k, mEq.rf k, hM2, rfl⟩⟩)
        · skip
          have e48 : dead_ s j = true := not_b2 c48
          refine kw_bipush (v := (-103)) dX12_save_51 (by decide) ?_
          exact kw_iret dX12_save_53 rfl (Nat.le_of_ble_eq_true rfl) (Nat.le_of_ble_eq_true rfl) (hK _ _ _ ⟨rfl, by rw [if_pos e48], by rw [if_pos e48]; exact ⟨k, mEq.rf k, hM2, rfl⟩⟩)
      · skip
        refine kw_bipush (v := (-102)) dX12_save_43 (by decide) ?_
        exact kw_iret dX12_save_45 rfl (Nat.le_of_ble_eq_true rfl) (Nat.le_of_ble_eq_true rfl) (hK _ _ _ ⟨rfl, by rw [if_pos (by rw [← ecap]; exact inB_f (b2_0.mp c40))], by rw [if_pos (by rw [← ecap]; exact inB_f (b2_0.mp c40))]; exact ⟨k, mEq.rf k, hM2, rfl⟩⟩)
    · skip
      have e15 : ¬ svOk s x = true := by rw [b2_0.mp c15]; decide
      refine kw_bipush (v := (-101)) dX12_save_18 (by decide) ?_
      exact kw_iret dX12_save_20 rfl (Nat.le_of_ble_eq_true rfl) (Nat.le_of_ble_eq_true rfl) (hK _ _ _ ⟨rfl, by rw [a_save, if_neg hd, if_neg e15], by rw [a_save, if_neg hd, if_neg e15]; exact ⟨k, mEq.rf k, hMI, rfl⟩⟩)
  · skip
    have hd := b2_n0.mp c4
    refine kw_bipush (v := (-106)) dX12_save_7 (by decide) ?_
    exact kw_iret dX12_save_9 rfl (Nat.le_of_ble_eq_true rfl) (Nat.le_of_ble_eq_true rfl) (hK _ _ _ ⟨rfl, by rw [a_save, if_pos hd], by rw [a_save, if_pos hd]; exact ⟨k, mEq.rf k, hMI, rfl⟩⟩)
theorem com_eq (t : SG) (now : Int64) (j g : Nat) : sGb (s_ev (sFF (sN (sF (sF (sY (sGb t 3 (va_up (kp_ t) (ns_ t) true)) 1 (va_up (tm_ t) (ns_ t) now)) 7 (va_up (tg_ t) (ns_ t) g)) 8 (va_up (rm_ t) (ns_ t) (um_ t j))) 7 (ns_ t + 1)) 1 (va_up (ro_ t) (ns_ t) (us_ t j))) 2 (ns_ t)) 4 (va_up (sv_ t) j false) = (fun u => sGb u 4 (va_up (sv_ u) j false)) (s_snp (s_ev t 2 (ns_ t)) now g (um_ t j) (us_ t j)) := by
  unfold s_snp s_ev
  refine sg_ext ?_ rfl rfl rfl ?_ ?_ rfl rfl
  · funext i
    dsimp only [fs_, sF, sGb, sY, sN, sFF, va_up]
    repeat' split
    all_goals first | rfl | omega
  · funext i
    dsimp only [fs_, sF, sGb, sY, sN, sFF, va_up]
    repeat' split
    all_goals first | rfl | omega
  · funext i
    dsimp only [gs_, sF, sGb, sY, sN, sFF, va_up]
    repeat' split
    all_goals first | rfl | omega
theorem MI_com {s : SG} {k : KG} (h : MI s k) {t : SG} (C : Nat → Nat) (hns : ns_ t = ns_ s + 1) (hnb : nb_ t = nb_ s) (hcm : cm_ t = cm_ s) (hch : ch_ t = ch_ s) (hum : um_ t = um_ s) (hus : us_ t = us_ s) (hkm : km_ t = km_ s) (hks : ks_ t = ks_ s) {n : Nat} {f : Nat → Nat} (hrm : rm_ t = va_up (rm_ s) (ns_ s) n) (hro : ro_ t = va_up (ro_ s) (ns_ s) f) (hr8 : ∀ j, j < ns_ s → rm_ s j ≤ 8) (h1 : ∀ q, q < 8 * ns_ s → C q = kn_ k 4 q) (h2 : ∀ i, i < n → C (8 * ns_ s + i) = f i) : MI t (kN k 4 C) := by
  refine ⟨?_, fun b hb i hi => ?_, ?_, ?_⟩
  · rw [hnb, hcm, hch]; exact h.1
  · rw [hns] at hb
    rw [hrm] at hi
    rw [hro]
    show C (8 * b + i) = _
    simp only [va_up] at hi ⊢
    by_cases e : b = ns_ s
    · rw [if_pos e] at hi ⊢; rw [e]; exact h2 i hi
    · rw [if_neg e] at hi ⊢
      have := hr8 b (by omega)
      rw [h1 _ (by omega)]; exact h.2.1 b (by omega) i hi
  · rw [hum, hus]; exact h.2.2.1
  · rw [hkm, hks]; exact h.2.2.2
set_option maxHeartbeats 4000000 in
set_option maxRecDepth 100000 in
theorem M_commit (l : Launch) (s : SG) (k : KG) (hMI : MI s k) (hns : ns_ s ≤ 40) (hrm : ∀ j, j < ns_ s → rm_ s j ≤ 8) (h10 : thereN s ≤ 10) (hnh : ns_ s < 40 → nh_ s < 240) (hu : ∀ i, i < 4 → um_ s i ≤ 8) (x g : Int32) : kw_P l yX12_commit cX12_commit 5 (Option.some Jvm.ClassFile.FieldType.int) { frames := 2, cells := 0, slots := 0, locals := 46 } [pr_ (40, 0), pi_ x, pi_ g] (hM s k) (fun r h' => r = some (pi_ (a_commit s x g).1) ∧ mW (a_commit s x g).2 k h') := by
  refine kw_M_of RX12 "commit" [some (pr_ (40, 0)), some (pi_ x), some (pi_ g), none, none] (by decide) rfl rfl rfl (Nat.le_of_ble_eq_true rfl) ?_
  intro D ad A
  refine kw_Kgen (fun K hK => ?_)
  refine kw_aload_n dX12_commit_0 rfl ?_
  refine kw_get dX12_commit_1 fl_X12_127 rfl rfl ?_
  refine kw_if_eq (tgt := 10) dX12_commit_4 (by decide) (fun c4 => ?_) (fun c4 => ?_)
  · skip
    have hd : ¬ dn_ s = true := by rw [b2_0.mp c4]; decide
    refine kw_aload_n dX12_commit_10 rfl ?_
    refine kw_iload_n dX12_commit_11 rfl ?_
    refine kw_callVf (As := [pi_ x]) (n_isSaver l s k x) dX12_commit_12 cl_X12_165 rfl rfl rfl rfl (Nat.le_of_ble_eq_true rfl) ⟨(Nat.le_of_ble_eq_true rfl), (Nat.le_of_ble_eq_true rfl), (Nat.le_of_ble_eq_true rfl), (Nat.le_of_ble_eq_true rfl)⟩ ?_
    refine kw_if_ne (tgt := 21) dX12_commit_15 (by decide) (fun c15 => ?_) (fun c15 => ?_)
    · skip
      have e15 := b2_n0.mp c15
      obtain ⟨j, hj, e16⟩ := anyN_iff.mp e15
      rw [Bool.and_eq_true] at e16
      have ex := of_decide_eq_true e16.1
      subst ex
      have ecl : cl_ (nI j) = j := nI_clamp (by omega)
      rw [a_commit, if_neg hd, if_pos e15, ecl] at hK
      refine kw_iload_n dX12_commit_21 rfl ?_
      refine kw_i2l dX12_commit_22 ?_
      refine kw_lconst (v := 0) dX12_commit_23 (by decide) ?_
      refine kw_top (v' := pl_ ((0 : Int32).toInt64)) (by decide) ?_
      refine kw_ldc2 dX12_commit_24 kt_1100 ?_
      refine kw_top (v' := pl_ ((3 : Int32).toInt64)) (by decide) ?_
      refine kw_callSf (As := [pl_ g.toInt64, pl_ (0 : Int32).toInt64, pl_ (3 : Int32).toInt64]) (n_inI l _ g 0 3) dX12_commit_27 cl_X12_144 rfl rfl (Nat.le_of_ble_eq_true rfl) ⟨(Nat.le_of_ble_eq_true rfl), (Nat.le_of_ble_eq_true rfl), (Nat.le_of_ble_eq_true rfl), (Nat.le_of_ble_eq_true rfl)⟩ ?_
      refine kw_if_ne (tgt := 36) dX12_commit_30 (by decide) (fun c30 => ?_) (fun c30 => ?_)
      · skip
        obtain ⟨e30, e31⟩ := inB_t (b2_n0.mp c30)
        obtain ⟨z, hz31, rfl⟩ := nI_of (x := g) (Int32.not_lt.mpr e30)
        rw [if_neg (fun q => q.elim (fun y => Int32.not_lt.mpr e30 y) (fun y => Int32.not_lt.mpr e31 y)), show cl_ (nI z) = z from nI_clamp hz31] at hK
        refine kw_aload_n dX12_commit_36 rfl ?_
        refine kw_iload_n dX12_commit_37 rfl ?_
        refine kw_callVf (As := [pi_ (nI j)]) (n_isDead l s k j hj) dX12_commit_38 cl_X12_159 rfl rfl rfl rfl (Nat.le_of_ble_eq_true rfl) ⟨(Nat.le_of_ble_eq_true rfl), (Nat.le_of_ble_eq_true rfl), (Nat.le_of_ble_eq_true rfl), (Nat.le_of_ble_eq_true rfl)⟩ ?_
        refine kw_if_ne (tgt := 53) dX12_commit_41 (by decide) (fun c41 => ?_) (fun c41 => ?_)
        · skip
          refine kw_bipush (v := (-103)) dX12_commit_53 (by decide) ?_
          exact kw_iret dX12_commit_55 rfl (Nat.le_of_ble_eq_true rfl) (Nat.le_of_ble_eq_true rfl) (hK _ _ _ ⟨rfl, by rw [if_pos (Or.inl (b2_n0.mp c41))], by rw [if_pos (Or.inl (b2_n0.mp c41))]; exact ⟨k, mEq.rf k, hMI, rfl⟩⟩)
        · skip
          have e41 := b2_0.mp c41
          refine kw_aload_n dX12_commit_44 rfl ?_
          refine kw_get dX12_commit_45 fl_X12_88 rfl rfl ?_
          refine kw_iload_n dX12_commit_48 rfl ?_
          refine kw_ialdN dX12_commit_49 rfl hj (by decide) ?_
          refine kw_if_ne (tgt := 56) dX12_commit_50 (by decide) (fun c50 => ?_) (fun c50 => ?_)
          · skip
            have e50 : ¬ um_ s j = 0 := fun q => c50 (by rw [q]; rfl)
            rw [if_neg (fun q => q.elim (fun y => by rw [e41] at y; cases y) e50)] at hK
            refine kw_aload_n dX12_commit_56 rfl ?_
            refine kw_get dX12_commit_57 fl_X12_218 rfl rfl ?_
            refine kw_bipush (v := 40) dX12_commit_60 (by decide) ?_
            refine kw_icmp_eq (tgt := 74) dX12_commit_62 (by decide) (fun c62 => ?_) (fun c62 => ?_)
            · skip
              have e62 : ns_ s = 40 := nI_eq' (b := 40) (by omega) (by decide) c62
              refine kw_bipush (v := (-104)) dX12_commit_74 (by decide) ?_
              exact kw_iret dX12_commit_76 rfl (Nat.le_of_ble_eq_true rfl) (Nat.le_of_ble_eq_true rfl) (hK _ _ _ ⟨rfl, by rw [if_pos (Or.inl (by omega))], by rw [if_pos (Or.inl (by omega))]; exact ⟨k, mEq.rf k, hMI, rfl⟩⟩)
            · skip
              have e62 : ns_ s < 40 := Nat.lt_of_le_of_ne hns (fun q => c62 (by rw [q]; rfl))
              refine kw_aload_n dX12_commit_65 rfl ?_
              refine kw_callVf (As := []) (n_snThere l s k hns) dX12_commit_66 cl_X12_221 rfl rfl rfl rfl (Nat.le_of_ble_eq_true rfl) ⟨(Nat.le_of_ble_eq_true rfl), (Nat.le_of_ble_eq_true rfl), (Nat.le_of_ble_eq_true rfl), (Nat.le_of_ble_eq_true rfl)⟩ ?_
              refine kw_bipush (v := 10) dX12_commit_69 (by decide) ?_
              refine kw_icmp_ne (tgt := 77) dX12_commit_71 (by decide) (fun c71 => ?_) (fun c71 => ?_)
              · skip
                have e71 : thereN s < 10 := Nat.lt_of_le_of_ne h10 (fun q => c71 (by rw [show cntN (fun j => kp_ s j) (ns_ s) = thereN s from rfl, q]; rfl))
                rw [if_neg (fun q => q.elim (fun y => by omega) (fun y => by omega))] at hK
                by_cases hcut : cut_ s = 0
                · rw [if_pos hcut] at hK
                  refine kw_aload_n dX12_commit_77 rfl ?_
                  refine kw_callVf (As := []) (n_write0 l s k hcut) dX12_commit_78 cl_X12_191 rfl rfl rfl rfl (Nat.le_of_ble_eq_true rfl) ⟨(Nat.le_of_ble_eq_true rfl), (Nat.le_of_ble_eq_true rfl), (Nat.le_of_ble_eq_true rfl), (Nat.le_of_ble_eq_true rfl)⟩ ?_
                  refine kw_if_ne (tgt := 87) dX12_commit_81 (by decide) (fun c81 => ?_) (fun c81 => ?_)
                  · skip
                    exact absurd rfl c81
                  · skip
                    refine kw_bipush (v := (-105)) dX12_commit_84 (by decide) ?_
                    exact kw_iret dX12_commit_86 rfl (Nat.le_of_ble_eq_true rfl) (Nat.le_of_ble_eq_true rfl) (hK _ _ _ ⟨rfl, rfl, k, mEq.rf k, MI_lost hMI, rfl⟩)
                rw [if_neg hcut] at hK
                obtain ⟨t, ht⟩ : ∃ t, t = s_w1 s := ⟨_, rfl⟩
                have hMt := MI_w1 hMI
                obtain ⟨X, eX⟩ : ∃ X, s_w1 s = (s.1, X, s.2.2) := by
                  unfold s_w1
                  split <;> exact ⟨_, rfl⟩
                have t1 : t.1 = s.1 := by rw [ht, eX]
                have t2 : t.2.2 = s.2.2 := by rw [ht, eX]
                rw [← ht] at hMt
                have ens : ns_ t = ns_ s := congrFun t1 7
                have eum : um_ t = um_ s := by rw [um_, fs_, t2]
                have eus : us_ t = us_ s := by rw [us_, ff_, t2]
                have enh : nh_ t = nh_ s := congrFun t1 8
                have erm : rm_ t = rm_ s := by rw [rm_, fs_, t2]
                have enow : now_ t = now_ s := by rw [now_, t2]
                have ecom : s_com s j z = (fun u => sGb u 4 (va_up (sv_ u) j false)) (s_snp (s_ev t 2 (ns_ t)) (now_ t) z (um_ t j) (us_ t j)) := by rw [ens, eum, eus, enow, ht]; rfl
                rw [ecom, ← ens] at hK
                have hut : um_ t j ≤ 8 := by rw [eum]; exact hu j hj
                have hns2 : ns_ t < 40 := by omega
                have hnh2 := hnh e62
                have loop : ∀ (n_ : Nat) (i : Nat) (C : Nat → Nat), um_ t j - i < n_ → i ≤ um_ t j → (∀ q, q < 8 * ns_ t → C q = kn_ k 4 q) → (∀ q, q < i → C (8 * ns_ t + q) = us_ t j q) → kw_G l D cX12_commit RX12 (Option.some Jvm.ClassFile.FieldType.int) "commit" { frames := 2, cells := 0, slots := 0, locals := 46 } A K ad (hM (sF (sF (sY (sGb t 3 (va_up (kp_ t) (ns_ t) true)) 1 (va_up (tm_ t) (ns_ t) (now_ t))) 7 (va_up (tg_ t) (ns_ t) z)) 8 (va_up (rm_ t) (ns_ t) (um_ t j))) (kN k 4 C)) 0 0 131 [some (pr_ (40, 0)), some (pi_ (nI j)), some (pi_ (nI z)), some (pi_ (nI (ns_ t))), some (pi_ (nI i))] [] := by
                  intro n_
                  induction n_ with
                  | zero =>
                    intro i C hm_
                    exact absurd hm_ (Nat.not_lt_zero _)
                  | succ n_ ih =>
                    intro i C hm_ hi h1 h2
                    refine kw_iload dX12_commit_131 rfl ?_
                    refine kw_aload_n dX12_commit_133 rfl ?_
                    refine kw_get dX12_commit_134 fl_X12_88 rfl rfl ?_
                    refine kw_iload_n dX12_commit_137 rfl ?_
                    refine kw_ialdN dX12_commit_138 rfl hj (by decide) ?_
                    refine kw_icmp_ge (tgt := 172) dX12_commit_139 (by decide) (fun c139 => ?_) (fun c139 => ?_)
                    · skip
                      have e : i = um_ t j := Nat.le_antisymm hi (nI_le' (by omega) (by omega) c139)
                      subst e
                      refine kw_aload_n dX12_commit_172 rfl ?_
                      refine kw_dup dX12_commit_173 rfl ?_
                      refine kw_get dX12_commit_174 fl_X12_218 rfl rfl ?_
                      refine kw_iconst (v := 1) dX12_commit_177 (by decide) ?_
                      refine kw_iadd dX12_commit_178 ?_
                      refine kw_top (v' := pi_ (nI (ns_ t + 1))) (by rw [← nI_1]) ?_
                      refine kw_put dX12_commit_179 fl_X12_218 rfl (kw_ok_i _) (Nat.le_of_ble_eq_true rfl) ?_
                      refine kw_heq (um_ns (sF (sF (sY (sGb t 3 (va_up (kp_ t) (ns_ t) true)) 1 (va_up (tm_ t) (ns_ t) (now_ t))) 7 (va_up (tg_ t) (ns_ t) z)) 8 (va_up (rm_ t) (ns_ t) (um_ t j))) (kN k 4 C) (ns_ t + 1)) ?_
                      refine kw_heq (h' := hM (sFF (sN (sF (sF (sY (sGb t 3 (va_up (kp_ t) (ns_ t) true)) 1 (va_up (tm_ t) (ns_ t) (now_ t))) 7 (va_up (tg_ t) (ns_ t) z)) 8 (va_up (rm_ t) (ns_ t) (um_ t j))) 7 (ns_ t + 1)) 1 (va_up (ro_ t) (ns_ t) (us_ t j))) (kN k 4 C)) rfl ?_
                      refine kw_aload_n dX12_commit_182 rfl ?_
                      refine kw_iconst (v := (nI 2)) dX12_commit_183 (by decide) ?_
                      refine kw_iload_n dX12_commit_184 rfl ?_
                      refine kw_callVf (As := [pi_ (nI 2), pi_ (nI (ns_ t))]) (n_tell l (sFF (sN (sF (sF (sY (sGb t 3 (va_up (kp_ t) (ns_ t) true)) 1 (va_up (tm_ t) (ns_ t) (now_ t))) 7 (va_up (tg_ t) (ns_ t) z)) 8 (va_up (rm_ t) (ns_ t) (um_ t j))) 7 (ns_ t + 1)) 1 (va_up (ro_ t) (ns_ t) (us_ t j))) (kN k 4 C) (by show nh_ t < 240; omega) 2 (ns_ t)) dX12_commit_185 cl_X12_198 rfl rfl rfl rfl (Nat.le_of_ble_eq_true rfl) ⟨(Nat.le_of_ble_eq_true rfl), (Nat.le_of_ble_eq_true rfl), (Nat.le_of_ble_eq_true rfl), (Nat.le_of_ble_eq_true rfl)⟩ ?_
                      refine kw_aload_n dX12_commit_188 rfl ?_
                      refine kw_get dX12_commit_189 fl_X12_79 rfl rfl ?_
                      refine kw_iload_n dX12_commit_192 rfl ?_
                      refine kw_iconst (v := 0) dX12_commit_193 (by decide) ?_
                      refine kw_top (v' := pi_ (b2 false)) rfl ?_
                      refine kw_zastN dX12_commit_194 rfl hj (by decide) ?_
                      refine kw_heq (uma_18 _ _ j false) ?_
                      refine kw_heq (congrArg (fun q => hM q (kN k 4 C)) (com_eq t (now_ t) j z)) ?_
                      refine kw_iload_n dX12_commit_195 rfl ?_
                      exact kw_iret dX12_commit_196 rfl (Nat.le_of_ble_eq_true rfl) (Nat.le_of_ble_eq_true rfl) (hK _ _ _ ⟨rfl, rfl, kN k 4 C, ⟨rfl, rfl⟩, MI_com hMt C rfl rfl rfl rfl rfl rfl rfl rfl rfl rfl (by rw [ens, erm]; exact hrm) h1 h2, rfl⟩)
                    · skip
                      have hlt : i < um_ t j := nI_nle' (by omega) (by omega) c139
                      refine kw_aload_n dX12_commit_142 rfl ?_
                      refine kw_get dX12_commit_143 fl_X12_67 rfl rfl ?_
                      refine kw_bipush (v := (nI 8)) dX12_commit_146 (by decide) ?_
                      refine kw_iload_n dX12_commit_148 rfl ?_
                      refine kw_imul dX12_commit_149 ?_
                      refine kw_top (v' := pi_ (nI (8 * ns_ t))) (by rw [nI_mul]) ?_
                      refine kw_iload dX12_commit_150 rfl ?_
                      refine kw_iadd dX12_commit_152 ?_
                      refine kw_top (v' := pi_ (nI (8 * ns_ t + i))) (by rw [nI_add]) ?_
                      refine kw_aload_n dX12_commit_153 rfl ?_
                      refine kw_get dX12_commit_154 fl_X12_91 rfl rfl ?_
                      refine kw_bipush (v := (nI 8)) dX12_commit_157 (by decide) ?_
                      refine kw_iload_n dX12_commit_159 rfl ?_
                      refine kw_imul dX12_commit_160 ?_
                      refine kw_top (v' := pi_ (nI (8 * j))) (by rw [nI_mul]) ?_
                      refine kw_iload dX12_commit_161 rfl ?_
                      refine kw_iadd dX12_commit_163 ?_
                      refine kw_top (v' := pi_ (nI (8 * j + i))) (by rw [nI_add]) ?_
                      refine kw_ialdN dX12_commit_164 rfl (by omega) (by decide) ?_
                      refine kw_top (v' := pi_ (nI (us_ t j i))) (by rw [← hMt.2.2.1 j hj i hlt]; rfl) ?_
                      refine kw_iastN dX12_commit_165 rfl (by omega) (by decide) ?_
                      refine kw_heq (h' := hM (sF (sF (sY (sGb t 3 (va_up (kp_ t) (ns_ t) true)) 1 (va_up (tm_ t) (ns_ t) (now_ t))) 7 (va_up (tg_ t) (ns_ t) z)) 8 (va_up (rm_ t) (ns_ t) (um_ t j))) (kN k 4 (va_up C (8 * ns_ t + i) (us_ t j i)))) ((uma_14 (sF (sF (sY (sGb t 3 (va_up (kp_ t) (ns_ t) true)) 1 (va_up (tm_ t) (ns_ t) (now_ t))) 7 (va_up (tg_ t) (ns_ t) z)) 8 (va_up (rm_ t) (ns_ t) (um_ t j))) (kN k 4 C) (8 * ns_ t + i) (us_ t j i)).trans (by rw [kN2]; rfl)) ?_
                      refine kw_iinc dX12_commit_166 rfl (nI_i i) ?_
                      refine kw_goto (tgt := 131) dX12_commit_169 (by decide) ?_
                      refine ih (i + 1) _ (by omega) (by omega) (fun q hq => ?_) (fun q hq => ?_)
                      · simp only [va_up]; rw [if_neg (by omega)]; exact h1 q hq
                      · simp only [va_up]
                        by_cases e : q = i
                        · rw [if_pos (by omega), e]
                        · rw [if_neg (by omega)]; exact h2 q (by omega)
                refine kw_aload_n dX12_commit_77 rfl ?_
                refine kw_callVf (As := []) (n_write1 l s k hcut) dX12_commit_78 cl_X12_191 rfl rfl rfl rfl (Nat.le_of_ble_eq_true rfl) ⟨(Nat.le_of_ble_eq_true rfl), (Nat.le_of_ble_eq_true rfl), (Nat.le_of_ble_eq_true rfl), (Nat.le_of_ble_eq_true rfl)⟩ ?_
                rw [← ht]
                refine kw_if_ne (tgt := 87) dX12_commit_81 (by decide) (fun c81 => ?_) (fun c81 => ?_)
                · skip
                  refine kw_aload_n dX12_commit_87 rfl ?_
                  refine kw_get dX12_commit_88 fl_X12_218 rfl rfl ?_
                  refine kw_istore_n dX12_commit_91 (Nat.le_of_ble_eq_true rfl) ?_
                  refine kw_aload_n dX12_commit_92 rfl ?_
                  refine kw_get dX12_commit_93 fl_X12_55 rfl rfl ?_
                  refine kw_iload_n dX12_commit_96 rfl ?_
                  refine kw_iconst (v := 1) dX12_commit_97 (by decide) ?_
                  refine kw_top (v' := pi_ (b2 true)) rfl ?_
                  refine kw_zastN dX12_commit_98 rfl (by omega) (by decide) ?_
                  refine kw_heq (uma_10 t k (ns_ t) true) ?_
                  refine kw_aload_n dX12_commit_99 rfl ?_
                  refine kw_get dX12_commit_100 fl_X12_58 rfl rfl ?_
                  refine kw_iload_n dX12_commit_103 rfl ?_
                  refine kw_aload_n dX12_commit_104 rfl ?_
                  refine kw_get dX12_commit_105 fl_X12_9 rfl rfl ?_
                  refine kw_lastN dX12_commit_108 rfl (by omega) (by decide) ?_
                  refine kw_heq (uma_11 _ k (ns_ t) (now_ t)) ?_
                  refine kw_aload_n dX12_commit_109 rfl ?_
                  refine kw_get dX12_commit_110 fl_X12_61 rfl rfl ?_
                  refine kw_iload_n dX12_commit_113 rfl ?_
                  refine kw_iload_n dX12_commit_114 rfl ?_
                  refine kw_iastN dX12_commit_115 rfl (by omega) (by decide) ?_
                  refine kw_heq (uma_12 _ k (ns_ t) z) ?_
                  refine kw_aload_n dX12_commit_116 rfl ?_
                  refine kw_get dX12_commit_117 fl_X12_64 rfl rfl ?_
                  refine kw_iload_n dX12_commit_120 rfl ?_
                  refine kw_aload_n dX12_commit_121 rfl ?_
                  refine kw_get dX12_commit_122 fl_X12_88 rfl rfl ?_
                  refine kw_iload_n dX12_commit_125 rfl ?_
                  refine kw_ialdN dX12_commit_126 rfl hj (by decide) ?_
                  refine kw_iastN dX12_commit_127 rfl (by omega) (by decide) ?_
                  refine kw_heq (uma_13 _ k (ns_ t) (um_ t j)) ?_
                  refine kw_iconst (v := 0) dX12_commit_128 (by decide) ?_
                  refine kw_istore dX12_commit_129 (Nat.le_of_ble_eq_true rfl) ?_
                  refine kw_heq (h' := hM (sF (sF (sY (sGb t 3 (va_up (kp_ t) (ns_ t) true)) 1 (va_up (tm_ t) (ns_ t) (now_ t))) 7 (va_up (tg_ t) (ns_ t) z)) 8 (va_up (rm_ t) (ns_ t) (um_ t j))) (kN k 4 (kn_ k 4))) (by rw [kN_id]; rfl) ?_
                  exact loop (um_ t j + 1) 0 _ (by omega) (by omega) (fun _ _ => rfl) (fun q hq => absurd hq (Nat.not_lt_zero _))
                · skip
                  exact absurd c81 (by decide)
              · skip
                have e71 : thereN s = 10 := nI_eq' (b := 10) (by omega) (by decide) c71
                refine kw_bipush (v := (-104)) dX12_commit_74 (by decide) ?_
                exact kw_iret dX12_commit_76 rfl (Nat.le_of_ble_eq_true rfl) (Nat.le_of_ble_eq_true rfl) (hK _ _ _ ⟨rfl, by rw [if_pos (Or.inr (by omega))], by rw [if_pos (Or.inr (by omega))]; exact ⟨k, mEq.rf k, hMI, rfl⟩⟩)
          · skip
            have e50 : um_ s j = 0 := nI_eq' (b := 0) (by have := hu j hj; omega) (by decide) c50
            refine kw_bipush (v := (-103)) dX12_commit_53 (by decide) ?_
            exact kw_iret dX12_commit_55 rfl (Nat.le_of_ble_eq_true rfl) (Nat.le_of_ble_eq_true rfl) (hK _ _ _ ⟨rfl, by rw [if_pos (Or.inr e50)], by rw [if_pos (Or.inr e50)]; exact ⟨k, mEq.rf k, hMI, rfl⟩⟩)
      · skip
        refine kw_bipush (v := (-102)) dX12_commit_33 (by decide) ?_
        exact kw_iret dX12_commit_35 rfl (Nat.le_of_ble_eq_true rfl) (Nat.le_of_ble_eq_true rfl) (hK _ _ _ ⟨rfl, by rw [if_pos (inB_f (b2_0.mp c30))], by rw [if_pos (inB_f (b2_0.mp c30))]; exact ⟨k, mEq.rf k, hMI, rfl⟩⟩)
    · skip
      have e15 : ¬ svOk s x = true := by rw [b2_0.mp c15]; decide
      refine kw_bipush (v := (-101)) dX12_commit_18 (by decide) ?_
      exact kw_iret dX12_commit_20 rfl (Nat.le_of_ble_eq_true rfl) (Nat.le_of_ble_eq_true rfl) (hK _ _ _ ⟨rfl, by rw [a_commit, if_neg hd, if_neg e15], by rw [a_commit, if_neg hd, if_neg e15]; exact ⟨k, mEq.rf k, hMI, rfl⟩⟩)
  · skip
    have hd := b2_n0.mp c4
    refine kw_bipush (v := (-106)) dX12_commit_7 (by decide) ?_
    exact kw_iret dX12_commit_9 rfl (Nat.le_of_ble_eq_true rfl) (Nat.le_of_ble_eq_true rfl) (hK _ _ _ ⟨rfl, by rw [a_commit, if_pos hd], by rw [a_commit, if_pos hd]; exact ⟨k, mEq.rf k, hMI, rfl⟩⟩)
