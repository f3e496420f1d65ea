/-! THE CLASS'S CALLS, 3: savers -/
/-- a saver that is named and alive begins its lease anew -/
def s_rn (s : SG) (j : Nat) : SG := if dead_ s j then s else s_renew s j (now_ s)
def a_child (s : SG) (x b : Int32) : Int32 × SG := if dn_ s = true then (-106, s) else if svOk s x = true then (if holdsB s b = true then (if dead_ s (cl_ x) = true ∨ usesB s (cl_ x) b = false then (-103, s_rn s (cl_ x)) else if km_ s (cl_ x) < 4 then (nI (km_ s (cl_ x) + 1), s_kid (s_rn s (cl_ x)) (cl_ x) (cl_ b)) else (-104, s_rn s (cl_ x))) else (-101, s_rn s (cl_ x))) else (-101, s)
theorem s_rn_e (s : SG) (j : Nat) : ∃ y, s_rn s j = (s.1, s.2.1, s.2.2.1, s.2.2.2.1, s.2.2.2.2.1, s.2.2.2.2.2.1, y, s.2.2.2.2.2.2.2) ∧ y 0 = ky_ s ∧ y 1 = tm_ s := by
  unfold s_rn
  split
  · exact ⟨_, rfl, rfl, rfl⟩
  · exact ⟨_, rfl, rfl, rfl⟩
theorem un_rn (s : SG) (j : Nat) (hle : 1 ≤ le_ s j) (hle2 : le_ s j ≤ 1000000) (hnow : -10000000000 ≤ (now_ s).toInt ∧ (now_ s).toInt ≤ 1000000000000) : dead_ (s_rn s j) j = dead_ s j := by
  unfold s_rn
  cases h : dead_ s j with
  | true => exact h
  | false =>
    show decide (va_up (un_ s) j (now_ s + (nI (le_ s j)).toInt64) j < now_ s) = false
    have e1 : (nI (le_ s j)).toInt64.toInt = (le_ s j : Int) := by rw [nI_l (by omega), lN_toInt (by omega)]
    refine decide_eq_false ?_
    simp only [va_up, if_true]
    rw [Int64.lt_iff_toInt_lt, Int64.toInt_add, e1]
    have : ((now_ s).toInt + (le_ s j : Int)).bmod (2 ^ 64) = (now_ s).toInt + (le_ s j : Int) := by
      apply Int.bmod_eq_of_le
      · omega
      · omega
    rw [this]
    omega
/-- times and leases are as they may be -/
def tmOk (s : SG) : Prop := (-10000000000 ≤ (now_ s).toInt ∧ (now_ s).toInt ≤ 1000000000000) ∧ ∀ j, j < 4 → sv_ s j = true → 1 ≤ le_ s j ∧ le_ s j ≤ 1000000
set_option maxHeartbeats 4000000 in
set_option maxRecDepth 100000 in
theorem P_child (l : Launch) (s : SG) (k : KG) (hb : nb_ s ≤ 80) (ht : tmOk s) (hu : ∀ i, i < 4 → um_ s i ≤ 8 ∧ km_ s i ≤ 4) (hub : ∀ i, i < 4 → ∀ q, q < um_ s i → us_ s i q < 2 ^ 31) (x b : Int32) : kw_F l yX11_child cX11_child 4 (Option.some Jvm.ClassFile.FieldType.int) { frames := 2, cells := 0, slots := 0, locals := 44 } [pr_ (0, 0), pi_ x, pi_ b] (hC s k) (some (pi_ (a_child s x b).1)) (hC (a_child s x b).2 k) := by
  refine kw_M_of RX11 "child" [some (pr_ (0, 0)), some (pi_ x), some (pi_ b), none] (by decide) rfl rfl rfl (Nat.le_of_ble_eq_true rfl) ?_
  intro D ad A
  refine kw_Kgen (fun K hK => ?_)
  refine kw_aload_n dX11_child_0 rfl ?_
  refine kw_get dX11_child_1 fl_X11_10 rfl rfl ?_
  refine kw_get dX11_child_4 fl_X11_80 rfl rfl ?_
  refine kw_if_eq (tgt := 13) dX11_child_7 (by decide) (fun c7 => ?_) (fun c7 => ?_)
  · skip
    have hd : ¬ dn_ s = true := by rw [b2_0.mp c7]; decide
    rw [a_child, if_neg hd] at hK
    rcases ix_cases (p := sv_ s) (n := 4) (by decide) x with ⟨h1, h2⟩ | ⟨j, hj, rfl, h3, h4, h5⟩
    · rw [if_neg (by rw [svOk, h1]; decide)] at hK
      refine kw_aload_n dX11_child_13 rfl ?_
      refine kw_iload_n dX11_child_14 rfl ?_
      refine kw_callVf (As := [pi_ x]) (o_rn0 l s k x h2) dX11_child_15 cl_X11_94 rfl rfl rfl rfl (Nat.le_of_ble_eq_true rfl) ⟨(Nat.le_of_ble_eq_true rfl), (Nat.le_of_ble_eq_true rfl), (Nat.le_of_ble_eq_true rfl), (Nat.le_of_ble_eq_true rfl)⟩ ?_
      refine kw_astore_n dX11_child_18 (Nat.le_of_ble_eq_true rfl) ?_
      refine kw_aload_n dX11_child_19 rfl ?_
      refine kw_ifnull (tgt := 34) dX11_child_20 (by decide) (fun c20 => ?_) (fun c20 => ?_)
      · skip
        refine kw_bipush (v := (-101)) dX11_child_34 (by decide) ?_
        exact kw_iret dX11_child_36 rfl (Nat.le_of_ble_eq_true rfl) (Nat.le_of_ble_eq_true rfl) (hK _ _ _ ⟨rfl, rfl, rfl⟩)
      · skip
        exact absurd rfl c20
    · rw [if_pos (by rw [svOk, h4]), h5] at hK
      obtain ⟨hu1, hu2⟩ := hu j hj
      have hdd := un_rn s j (ht.2 j hj h3).1 (ht.2 j hj h3).2 ht.1
      obtain ⟨yy, hy, -⟩ := s_rn_e s j
      have eh : holdsB (s_rn s j) b = holdsB s b := by rw [hy]; rfl
      have eu : usesB (s_rn s j) j b = usesB s j b := by rw [hy]; rfl
      have ek : km_ (s_rn s j) j = km_ s j := by rw [hy]
      have eb : nb_ (s_rn s j) = nb_ s := by rw [hy]
      have em : um_ (s_rn s j) j = um_ s j := by rw [hy]
      have en : now_ (s_rn s j) = now_ s := by rw [hy]
      refine kw_aload_n dX11_child_13 rfl ?_
      refine kw_iload_n dX11_child_14 rfl ?_
      refine kw_callVf (As := [pi_ (nI j)]) (o_rn1 l s k j hj h3) dX11_child_15 cl_X11_94 rfl rfl rfl rfl (Nat.le_of_ble_eq_true rfl) ⟨(Nat.le_of_ble_eq_true rfl), (Nat.le_of_ble_eq_true rfl), (Nat.le_of_ble_eq_true rfl), (Nat.le_of_ble_eq_true rfl)⟩ ?_
      rw [show (if dead_ s j then s else s_renew s j (now_ s)) = s_rn s j from rfl]
      rw [← eh, ← eu, ← hdd, ← ek] at hK
      rw [← em] at hu1
      rw [← ek] at hu2
      rw [← eb] at hb
      have hub : ∀ q, q < um_ (s_rn s j) j → us_ (s_rn s j) j q < 2 ^ 31 := by rw [hy]; exact hub j hj
      generalize s_rn s j = s at hu1 hu2 hb hub hK ⊢
      refine kw_astore_n dX11_child_18 (Nat.le_of_ble_eq_true rfl) ?_
      refine kw_aload_n dX11_child_19 rfl ?_
      refine kw_ifnull (tgt := 34) dX11_child_20 (by decide) (fun c20 => ?_) (fun c20 => ?_)
      · skip
        exact absurd c20 (fun z => by cases z)
      · skip
        refine kw_aload_n dX11_child_23 rfl ?_
        refine kw_get dX11_child_24 fl_X11_30 rfl rfl ?_
        refine kw_iload_n dX11_child_27 rfl ?_
        refine kw_callVf (As := [pi_ b]) (t_holds l s k hb b) dX11_child_28 cl_X11_98 rfl rfl rfl rfl (Nat.le_of_ble_eq_true rfl) ⟨(Nat.le_of_ble_eq_true rfl), (Nat.le_of_ble_eq_true rfl), (Nat.le_of_ble_eq_true rfl), (Nat.le_of_ble_eq_true rfl)⟩ ?_
        refine kw_if_ne (tgt := 37) dX11_child_31 (by decide) (fun c31 => ?_) (fun c31 => ?_)
        · skip
          rw [if_pos (b2_n0.mp c31)] at hK
          refine kw_aload_n dX11_child_37 rfl ?_
          refine kw_aload_n dX11_child_38 rfl ?_
          refine kw_get dX11_child_39 fl_X11_76 rfl rfl ?_
          refine kw_callVf (As := [pl_ (now_ s)]) (v_isDead l s k j hj) dX11_child_42 cl_X11_102 (hC_sa hj) rfl rfl rfl (Nat.le_of_ble_eq_true rfl) ⟨(Nat.le_of_ble_eq_true rfl), (Nat.le_of_ble_eq_true rfl), (Nat.le_of_ble_eq_true rfl), (Nat.le_of_ble_eq_true rfl)⟩ ?_
          refine kw_if_ne (tgt := 56) dX11_child_45 (by decide) (fun c45 => ?_) (fun c45 => ?_)
          · skip
            refine kw_bipush (v := (-103)) dX11_child_56 (by decide) ?_
            exact kw_iret dX11_child_58 rfl (Nat.le_of_ble_eq_true rfl) (Nat.le_of_ble_eq_true rfl) (hK _ _ _ ⟨rfl, by rw [if_pos (Or.inl (b2_n0.mp c45))], by rw [if_pos (Or.inl (b2_n0.mp c45))]⟩)
          · skip
            have e45 := b2_0.mp c45
            refine kw_aload_n dX11_child_48 rfl ?_
            refine kw_iload_n dX11_child_49 rfl ?_
            refine kw_callVf (As := [pi_ b]) (v_uses l s k j hj hu1 b) dX11_child_50 cl_X11_106 (hC_sa hj) rfl rfl rfl (Nat.le_of_ble_eq_true rfl) ⟨(Nat.le_of_ble_eq_true rfl), (Nat.le_of_ble_eq_true rfl), (Nat.le_of_ble_eq_true rfl), (Nat.le_of_ble_eq_true rfl)⟩ ?_
            refine kw_if_ne (tgt := 59) dX11_child_53 (by decide) (fun c53 => ?_) (fun c53 => ?_)
            · skip
              have e53 := b2_n0.mp c53
              rw [if_neg (fun q => q.elim (fun z => by rw [e45] at z; cases z) (fun z => by rw [e53] at z; cases z))] at hK
              obtain ⟨y, hy1, hy2⟩ := anyN_iff.mp e53
              obtain rfl := of_decide_eq_true hy2
              rcases Nat.lt_or_ge (km_ s j) 4 with h4k | h4k
              · rw [if_pos h4k] at hK
                refine kw_aload_n dX11_child_59 rfl ?_
                refine kw_iload_n dX11_child_60 rfl ?_
                refine kw_callVf (As := [pi_ (nI (us_ s j y))]) (v_kid1 l s k j hj h4k (us_ s j y)) dX11_child_61 cl_X11_109 (hC_sa hj) rfl rfl rfl (Nat.le_of_ble_eq_true rfl) ⟨(Nat.le_of_ble_eq_true rfl), (Nat.le_of_ble_eq_true rfl), (Nat.le_of_ble_eq_true rfl), (Nat.le_of_ble_eq_true rfl)⟩ ?_
                refine kw_if_eq (tgt := 74) dX11_child_64 (by decide) (fun c64 => ?_) (fun c64 => ?_)
                · skip
                  exact absurd c64 (by decide)
                · skip
                  refine kw_aload_n dX11_child_67 rfl ?_
                  refine kw_get dX11_child_68 fl_X11_112 (hC_sa hj) rfl ?_
                  refine kw_goto (tgt := 76) dX11_child_71 (by decide) ?_
                  exact kw_iret dX11_child_76 rfl (Nat.le_of_ble_eq_true rfl) (Nat.le_of_ble_eq_true rfl) (hK _ _ _ ⟨rfl, congrArg (fun z => some (pi_ (nI z))) (by show va_up (km_ s) j (km_ s j + 1) j = _; simp [va_up]), by rw [show cl_ (nI (us_ s j y)) = us_ s j y from nI_clamp (hub y hy1)]⟩)
              rw [if_neg (Nat.not_lt.mpr h4k)] at hK
              have hkm4 : km_ s j = 4 := by omega
              refine kw_aload_n dX11_child_59 rfl ?_
              refine kw_iload_n dX11_child_60 rfl ?_
              refine kw_callVf (As := [pi_ (nI (us_ s j y))]) (v_kid0 l s k j hj hkm4 _) dX11_child_61 cl_X11_109 (hC_sa hj) rfl rfl rfl (Nat.le_of_ble_eq_true rfl) ⟨(Nat.le_of_ble_eq_true rfl), (Nat.le_of_ble_eq_true rfl), (Nat.le_of_ble_eq_true rfl), (Nat.le_of_ble_eq_true rfl)⟩ ?_
              refine kw_if_eq (tgt := 74) dX11_child_64 (by decide) (fun c64 => ?_) (fun c64 => ?_)
              · skip
                refine kw_bipush (v := (-104)) dX11_child_74 (by decide) ?_
                exact kw_iret dX11_child_76 rfl (Nat.le_of_ble_eq_true rfl) (Nat.le_of_ble_eq_true rfl) (hK _ _ _ ⟨rfl, rfl, rfl⟩)
              · skip
                exact absurd rfl c64
            · skip
              refine kw_bipush (v := (-103)) dX11_child_56 (by decide) ?_
              exact kw_iret dX11_child_58 rfl (Nat.le_of_ble_eq_true rfl) (Nat.le_of_ble_eq_true rfl) (hK _ _ _ ⟨rfl, by rw [if_pos (Or.inr (b2_0.mp c53))], by rw [if_pos (Or.inr (b2_0.mp c53))]⟩)
        · skip
          refine kw_bipush (v := (-101)) dX11_child_34 (by decide) ?_
          exact kw_iret dX11_child_36 rfl (Nat.le_of_ble_eq_true rfl) (Nat.le_of_ble_eq_true rfl) (hK _ _ _ ⟨rfl, by rw [if_neg (by rw [b2_0.mp c31]; decide)], by rw [if_neg (by rw [b2_0.mp c31]; decide)]⟩)
  · skip
    refine kw_bipush (v := (-106)) dX11_child_10 (by decide) ?_
    exact kw_iret dX11_child_12 rfl (Nat.le_of_ble_eq_true rfl) (Nat.le_of_ble_eq_true rfl) (hK _ _ _ ⟨rfl, by rw [a_child, if_pos (b2_n0.mp c7)], by rw [a_child, if_pos (b2_n0.mp c7)]⟩)
