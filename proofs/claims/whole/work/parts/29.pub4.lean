/-! THE CLASS'S CALLS, 4: take, save, commit -/
theorem revL_pres {P : SG → Prop} (h1 : ∀ s j, P s → P (s_rev1 s j)) (h0 : ∀ s, P s → P (s_w0 s)) (r : Nat → Bool) : ∀ (n j : Nat) (s : SG) (c : Nat), P s → P (revL r n j s c).2.1
  | 0, _, s, c, h => h
  | n + 1, j, s, c, h => by
    rw [revL]
    split
    · split
      · exact h0 s h
      · exact revL_pres h1 h0 r n (j + 1) _ _ (h1 s j h)
    · exact revL_pres h1 h0 r n (j + 1) s c h
theorem revL_c (r : Nat → Bool) : ∀ (n j : Nat) (s : SG) (c : Nat), (revL r n j s c).2.2 ≤ c + n
  | 0, _, s, c => Nat.le_refl _
  | n + 1, j, s, c => by
    rw [revL]
    split
    · split
      · show c ≤ _; omega
      · have := revL_c r n (j + 1) (s_rev1 s j) (c + 1); omega
    · have := revL_c r n (j + 1) s c; omega
theorem s_rev1_1 (s : SG) (j i : Nat) (hi : i ≠ 3) : (s_rev1 s j).1 i = s.1 i := by
  show va_up (s_await s j 0).1 3 _ i = _
  simp only [va_up, if_neg hi]
  rw [s_await_1]
theorem s_w1_f (s : SG) : (s_w1 s).2.2.2.2.1 = s.2.2.2.2.1 := by rw [s_w1_2]
theorem s_rev1_f (s : SG) (j i : Nat) (hi : i ≠ 5) : fs_ (s_rev1 s j) i = fs_ s i := by
  show va_up (s_w1 s).2.2.2.2.1 5 _ i = _
  simp only [va_up, if_neg hi]
  rw [s_w1_f]
theorem revL_1 (r : Nat → Bool) (n j : Nat) (s : SG) (c i : Nat) (hi : i ≠ 3) : (revL r n j s c).2.1.1 i = s.1 i :=
  revL_pres (P := fun t => t.1 i = s.1 i) (fun t j h => (s_rev1_1 t j i hi).trans h) (fun t h => h) r n j s c rfl
theorem revL_f (r : Nat → Bool) (n j : Nat) (s : SG) (c i : Nat) (hi : i ≠ 5) : fs_ (revL r n j s c).2.1 i = fs_ s i :=
  revL_pres (P := fun t => fs_ t i = fs_ s i) (fun t j h => (s_rev1_f t j i hi).trans h) (fun t h => h) r n j s c rfl
def rS0 (s : SG) (k : KG) (b : Nat) : Nat → Bool := rfrom s b (rnone (nb_ s) (rch_ k))
def rvS (s : SG) (k : KG) (b : Nat) : Bool × SG × Nat := revL (rS0 s k b) (nb_ s) 0 s 0
def c_take (s : SG) (k : KG) (j b : Nat) : Int32 × SG := if (rvS s k b).1 = true then (nI (rvS s k b).2.2, s_use (s_spare (rvS s k b).2.1 (kB k 0 (rS0 s k b)) b) j b) else (-105, s_gone (rvS s k b).2.1)
theorem s_spare_um (s : SG) (k : KG) (b : Nat) : um_ (s_spare s k b) = um_ s := by
  unfold s_spare
  split
  · rfl
  · split <;> rfl
theorem nI_m105 {c : Nat} (hc : c < 2 ^ 31) : ¬ nI c = -105 := fun q => by
  have := nI_toInt hc
  rw [q] at this
  have e : (-105 : Int32).toInt = -105 := by decide
  omega
set_option maxHeartbeats 4000000 in
set_option maxRecDepth 100000 in
theorem o_take (l : Launch) (s : SG) (k : KG) (hb : nb_ s ≤ 80) (hkd : kidsOk s) (hw : ∀ i, i < nb_ s → wt_ s i < 2 ^ 31) (hph : ph_ s ≤ 4) (hr : rt_ s < 944) (j b : Nat) (hj : j < 4) (hu : um_ s j ≤ 8) (hbb : b < nb_ s) : kw_F l yX11_takeFor cX11_takeFor 4 (Option.some Jvm.ClassFile.FieldType.int) { frames := 3, cells := 0, slots := 0, locals := 65 } [pr_ (0, 0), pr_ (12, j), pi_ (nI b)] (hC s k) (some (pi_ (c_take s k j b).1)) (hC (c_take s k j b).2 (kB k 0 (rS0 s k b))) := by
  refine kw_M_of RX11 "takeFor" [some (pr_ (0, 0)), some (pr_ (12, j)), some (pi_ (nI b)), none] (by decide) rfl rfl rfl (Nat.le_of_ble_eq_true rfl) ?_
  intro D ad A
  refine kw_Kgen (fun K hK => ?_)
  obtain ⟨v, hv⟩ : ∃ v, v = rvS s k b := ⟨_, rfl⟩
  unfold c_take at hK
  rw [← hv] at hK
  have v1 : ∀ i, i ≠ 3 → v.2.1.1 i = s.1 i := fun i hi => by rw [hv]; exact revL_1 _ _ _ _ _ i hi
  have vf : ∀ i, i ≠ 5 → fs_ v.2.1 i = fs_ s i := fun i hi => by rw [hv]; exact revL_f _ _ _ _ _ i hi
  have vc : v.2.2 ≤ 80 := by rw [hv]; have := revL_c (rS0 s k b) (nb_ s) 0 s 0; unfold rvS; omega
  have q1 : nb_ v.2.1 = nb_ s := v1 1 (by decide)
  have q2 : ph_ v.2.1 = ph_ s := v1 10 (by decide)
  have q3 : rt_ v.2.1 = rt_ s := v1 12 (by decide)
  have q4 : um_ v.2.1 = um_ s := vf 14 (by decide)
  refine kw_aload_n dX11_takeFor_0 rfl ?_
  refine kw_get dX11_takeFor_1 fl_X11_30 rfl rfl ?_
  refine kw_callVf (As := []) (t_none l s k hb) dX11_takeFor_4 cl_X11_165 rfl rfl rfl rfl (Nat.le_of_ble_eq_true rfl) ⟨(Nat.le_of_ble_eq_true rfl), (Nat.le_of_ble_eq_true rfl), (Nat.le_of_ble_eq_true rfl), (Nat.le_of_ble_eq_true rfl)⟩ ?_
  refine kw_aload_n dX11_takeFor_7 rfl ?_
  refine kw_get dX11_takeFor_8 fl_X11_30 rfl rfl ?_
  refine kw_iload_n dX11_takeFor_11 rfl ?_
  refine kw_callVf (As := [pi_ (nI b)]) (t_start l s k hb b hbb _) dX11_takeFor_12 cl_X11_168 rfl rfl rfl rfl (Nat.le_of_ble_eq_true rfl) ⟨(Nat.le_of_ble_eq_true rfl), (Nat.le_of_ble_eq_true rfl), (Nat.le_of_ble_eq_true rfl), (Nat.le_of_ble_eq_true rfl)⟩ ?_
  refine kw_aload_n dX11_takeFor_15 rfl ?_
  refine kw_get dX11_takeFor_16 fl_X11_30 rfl rfl ?_
  refine kw_callVf (As := []) (t_on l s k hb hkd _) dX11_takeFor_19 cl_X11_171 rfl rfl rfl rfl (Nat.le_of_ble_eq_true rfl) ⟨(Nat.le_of_ble_eq_true rfl), (Nat.le_of_ble_eq_true rfl), (Nat.le_of_ble_eq_true rfl), (Nat.le_of_ble_eq_true rfl)⟩ ?_
  rw [rdown_from s hbb (fun q hq => by unfold rnone; rw [if_pos hq]), show rfrom s b (rnone (nb_ s) (rch_ k)) = rS0 s k b from rfl]
  refine kw_aload_n dX11_takeFor_22 rfl ?_
  refine kw_get dX11_takeFor_23 fl_X11_30 rfl rfl ?_
  refine kw_callVf (As := []) (t_revive l s (kB k 0 (rS0 s k b)) hb hw v (by rw [hv]; rfl)) dX11_takeFor_26 cl_X11_174 rfl rfl rfl rfl (Nat.le_of_ble_eq_true rfl) ⟨(Nat.le_of_ble_eq_true rfl), (Nat.le_of_ble_eq_true rfl), (Nat.le_of_ble_eq_true rfl), (Nat.le_of_ble_eq_true rfl)⟩ ?_
  refine kw_istore_n dX11_takeFor_29 (Nat.le_of_ble_eq_true rfl) ?_
  refine kw_iload_n dX11_takeFor_30 rfl ?_
  refine kw_bipush (v := (-105)) dX11_takeFor_31 (by decide) ?_
  refine kw_icmp_ne (tgt := 41) dX11_takeFor_33 (by decide) (fun c33 => ?_) (fun c33 => ?_)
  · skip
    have e33 : v.1 = true := by cases hvv : v.1 with | true => rfl | false => rw [hvv, if_neg (by decide)] at c33; exact absurd rfl c33
    rw [if_pos e33] at hK
    refine kw_aload_n dX11_takeFor_41 rfl ?_
    refine kw_get dX11_takeFor_42 fl_X11_39 rfl rfl ?_
    refine kw_iload_n dX11_takeFor_45 rfl ?_
    refine kw_callVf (As := [pi_ (nI b)]) (w_spare l v.2.1 (kB k 0 (rS0 s k b)) (by omega) (by omega) (by omega) b (by omega)) dX11_takeFor_46 cl_X11_177 rfl rfl rfl rfl (Nat.le_of_ble_eq_true rfl) ⟨(Nat.le_of_ble_eq_true rfl), (Nat.le_of_ble_eq_true rfl), (Nat.le_of_ble_eq_true rfl), (Nat.le_of_ble_eq_true rfl)⟩ ?_
    refine kw_aload_n dX11_takeFor_49 rfl ?_
    refine kw_iload_n dX11_takeFor_50 rfl ?_
    refine kw_callVf (As := [pi_ (nI b)]) (v_use l _ (kB k 0 (rS0 s k b)) j hj (by rw [s_spare_um, q4]; exact hu) b) dX11_takeFor_51 cl_X11_155 (hC_sa hj) rfl rfl rfl (Nat.le_of_ble_eq_true rfl) ⟨(Nat.le_of_ble_eq_true rfl), (Nat.le_of_ble_eq_true rfl), (Nat.le_of_ble_eq_true rfl), (Nat.le_of_ble_eq_true rfl)⟩ ?_
    refine kw_iload_n dX11_takeFor_54 rfl ?_
    exact kw_iret dX11_takeFor_55 rfl (Nat.le_of_ble_eq_true rfl) (Nat.le_of_ble_eq_true rfl) (hK _ _ _ ⟨rfl, by rw [e33]; rfl, rfl⟩)
  · skip
    have e33 : v.1 = false := by cases hvv : v.1 with | false => rfl | true => rw [hvv, if_pos rfl] at c33; exact absurd c33 (nI_m105 (by omega))
    rw [if_neg (by rw [e33]; decide)] at hK
    refine kw_aload_n dX11_takeFor_36 rfl ?_
    refine kw_callVf (As := []) (o_lose l v.2.1 (kB k 0 (rS0 s k b))) dX11_takeFor_37 cl_X11_151 rfl rfl rfl rfl (Nat.le_of_ble_eq_true rfl) ⟨(Nat.le_of_ble_eq_true rfl), (Nat.le_of_ble_eq_true rfl), (Nat.le_of_ble_eq_true rfl), (Nat.le_of_ble_eq_true rfl)⟩ ?_
    exact kw_iret dX11_takeFor_40 rfl (Nat.le_of_ble_eq_true rfl) (Nat.le_of_ble_eq_true rfl) (hK _ _ _ ⟨rfl, rfl, rfl⟩)
def a_take0 (s : SG) (k : KG) (x b : Int32) : Int32 × SG := if dn_ s = true then (-106, s) else if svOk s x = true then (if holdsB s b = true then (if dead_ s (cl_ x) = true then (-103, s_rn s (cl_ x)) else if um_ s (cl_ x) < 8 ∨ usesB s (cl_ x) b = true then c_take (s_rn s (cl_ x)) k (cl_ x) (cl_ b) else (-104, s_rn s (cl_ x))) else (-101, s_rn s (cl_ x))) else (-101, s)
set_option maxHeartbeats 4000000 in
set_option maxRecDepth 100000 in
theorem P_take (l : Launch) (s : SG) (k : KG) (hb : nb_ s ≤ 80) (hkd : kidsOk s) (hw : ∀ i, i < nb_ s → wt_ s i < 2 ^ 31) (hph : ph_ s ≤ 4) (hr : rt_ s < 944) (ht : tmOk s) (hu : ∀ i, i < 4 → um_ s i ≤ 8) (x b : Int32) : kw_P l yX11_take cX11_take 4 (Option.some Jvm.ClassFile.FieldType.int) { frames := 4, cells := 0, slots := 0, locals := 88 } [pr_ (0, 0), pi_ x, pi_ b] (hC s k) (fun r h' => r = some (pi_ (a_take0 s k x b).1) ∧ ∃ q, h' = hC (a_take0 s k x b).2 (kB k 0 q)) := by
  refine kw_M_of RX11 "take" [some (pr_ (0, 0)), some (pi_ x), some (pi_ b), none] (by decide) rfl rfl rfl (Nat.le_of_ble_eq_true rfl) ?_
  intro D ad A
  refine kw_Kgen (fun K hK => ?_)
  refine kw_aload_n dX11_take_0 rfl ?_
  refine kw_get dX11_take_1 fl_X11_10 rfl rfl ?_
  refine kw_get dX11_take_4 fl_X11_80 rfl rfl ?_
  refine kw_if_eq (tgt := 13) dX11_take_7 (by decide) (fun c7 => ?_) (fun c7 => ?_)
  · skip
    have hd : ¬ dn_ s = true := by rw [b2_0.mp c7]; decide
    rw [a_take0, if_neg hd] at hK
    rcases ix_cases (p := sv_ s) (n := 4) (by decide) x with ⟨h1, h2⟩ | ⟨j, hj, rfl, h3, h4, h5⟩
    · rw [if_neg (by rw [svOk, h1]; decide)] at hK
      refine kw_aload_n dX11_take_13 rfl ?_
      refine kw_iload_n dX11_take_14 rfl ?_
      refine kw_callVf (As := [pi_ x]) (o_rn0 l s k x h2) dX11_take_15 cl_X11_94 rfl rfl rfl rfl (Nat.le_of_ble_eq_true rfl) ⟨(Nat.le_of_ble_eq_true rfl), (Nat.le_of_ble_eq_true rfl), (Nat.le_of_ble_eq_true rfl), (Nat.le_of_ble_eq_true rfl)⟩ ?_
      refine kw_astore_n dX11_take_18 (Nat.le_of_ble_eq_true rfl) ?_
      refine kw_aload_n dX11_take_19 rfl ?_
      refine kw_ifnull (tgt := 34) dX11_take_20 (by decide) (fun c20 => ?_) (fun c20 => ?_)
      · skip
        refine kw_bipush (v := (-101)) dX11_take_34 (by decide) ?_
        exact kw_iret dX11_take_36 rfl (Nat.le_of_ble_eq_true rfl) (Nat.le_of_ble_eq_true rfl) (hK _ _ _ ⟨rfl, rfl, kb_ k 0, by rw [kB_id]⟩)
      · skip
        exact absurd rfl c20
    · rw [if_pos (by rw [svOk, h4]), h5] at hK
      have hu1 := hu j hj
      have hdd := un_rn s j (ht.2 j hj h3).1 (ht.2 j hj h3).2 ht.1
      obtain ⟨yy, hy, -⟩ := s_rn_e s j
      have eh : holdsB (s_rn s j) b = holdsB s b := by rw [hy]; rfl
      have eu : usesB (s_rn s j) j b = usesB s j b := by rw [hy]; rfl
      have em : um_ (s_rn s j) j = um_ s j := by rw [hy]
      refine kw_aload_n dX11_take_13 rfl ?_
      refine kw_iload_n dX11_take_14 rfl ?_
      refine kw_callVf (As := [pi_ (nI j)]) (o_rn1 l s k j hj h3) dX11_take_15 cl_X11_94 rfl rfl rfl rfl (Nat.le_of_ble_eq_true rfl) ⟨(Nat.le_of_ble_eq_true rfl), (Nat.le_of_ble_eq_true rfl), (Nat.le_of_ble_eq_true rfl), (Nat.le_of_ble_eq_true rfl)⟩ ?_
      rw [show (if dead_ s j then s else s_renew s j (now_ s)) = s_rn s j from rfl]
      rw [← eh, ← eu, ← hdd, ← em] at hK
      rw [← em] at hu1
      have hb : nb_ (s_rn s j) ≤ 80 := by rw [hy]; exact hb
      have hkd : kidsOk (s_rn s j) := by rw [hy]; exact hkd
      have hw : ∀ i, i < nb_ (s_rn s j) → wt_ (s_rn s j) i < 2 ^ 31 := by rw [hy]; exact hw
      have hph : ph_ (s_rn s j) ≤ 4 := by rw [hy]; exact hph
      have hr : rt_ (s_rn s j) < 944 := by rw [hy]; exact hr
      generalize s_rn s j = s at hu1 hb hkd hw hph hr hK ⊢
      refine kw_astore_n dX11_take_18 (Nat.le_of_ble_eq_true rfl) ?_
      refine kw_aload_n dX11_take_19 rfl ?_
      refine kw_ifnull (tgt := 34) dX11_take_20 (by decide) (fun c20 => ?_) (fun c20 => ?_)
      · skip
        exact absurd c20 (fun z => by cases z)
      · skip
        refine kw_aload_n dX11_take_23 rfl ?_
        refine kw_get dX11_take_24 fl_X11_30 rfl rfl ?_
        refine kw_iload_n dX11_take_27 rfl ?_
        refine kw_callVf (As := [pi_ b]) (t_holds l s k hb b) dX11_take_28 cl_X11_98 rfl rfl rfl rfl (Nat.le_of_ble_eq_true rfl) ⟨(Nat.le_of_ble_eq_true rfl), (Nat.le_of_ble_eq_true rfl), (Nat.le_of_ble_eq_true rfl), (Nat.le_of_ble_eq_true rfl)⟩ ?_
        refine kw_if_ne (tgt := 37) dX11_take_31 (by decide) (fun c31 => ?_) (fun c31 => ?_)
        · skip
          rw [if_pos (b2_n0.mp c31)] at hK
          rcases ix_cases (p := th_ s) (n := nb_ s) (by omega) b with ⟨g1, -⟩ | ⟨y, hy1, rfl, g3, g4, g5⟩
          · rw [holdsB, g1] at c31; exact absurd rfl c31
          rw [g5] at hK
          refine kw_aload_n dX11_take_37 rfl ?_
          refine kw_aload_n dX11_take_38 rfl ?_
          refine kw_get dX11_take_39 fl_X11_76 rfl rfl ?_
          refine kw_callVf (As := [pl_ (now_ s)]) (v_isDead l s k j hj) dX11_take_42 cl_X11_102 (hC_sa hj) rfl rfl rfl (Nat.le_of_ble_eq_true rfl) ⟨(Nat.le_of_ble_eq_true rfl), (Nat.le_of_ble_eq_true rfl), (Nat.le_of_ble_eq_true rfl), (Nat.le_of_ble_eq_true rfl)⟩ ?_
          refine kw_if_eq (tgt := 51) dX11_take_45 (by decide) (fun c45 => ?_) (fun c45 => ?_)
          · skip
            rw [if_neg (by rw [b2_0.mp c45]; decide)] at hK
            refine kw_aload_n dX11_take_51 rfl ?_
            refine kw_iload_n dX11_take_52 rfl ?_
            refine kw_callVf (As := [pi_ (nI y)]) (v_canUse l s k j hj hu1 (nI y)) dX11_take_53 cl_X11_159 (hC_sa hj) rfl rfl rfl (Nat.le_of_ble_eq_true rfl) ⟨(Nat.le_of_ble_eq_true rfl), (Nat.le_of_ble_eq_true rfl), (Nat.le_of_ble_eq_true rfl), (Nat.le_of_ble_eq_true rfl)⟩ ?_
            refine kw_if_eq (tgt := 68) dX11_take_56 (by decide) (fun c56 => ?_) (fun c56 => ?_)
            · skip
              have e56 : ¬ (um_ s j < 8 ∨ usesB s j (nI y) = true) := fun q => by have := b2_0.mp c56; rw [Bool.or_eq_false_iff] at this; exact q.elim (fun z => absurd (decide_eq_true z) (by rw [this.1]; decide)) (fun z => by rw [this.2] at z; cases z)
              rw [if_neg e56] at hK
              refine kw_bipush (v := (-104)) dX11_take_68 (by decide) ?_
              exact kw_iret dX11_take_70 rfl (Nat.le_of_ble_eq_true rfl) (Nat.le_of_ble_eq_true rfl) (hK _ _ _ ⟨rfl, rfl, kb_ k 0, by rw [kB_id]⟩)
            · skip
              have e56 : um_ s j < 8 ∨ usesB s j (nI y) = true := by have := b2_n0.mp c56; rw [Bool.or_eq_true] at this; exact this.elim (fun z => Or.inl (of_decide_eq_true z)) Or.inr
              rw [if_pos e56] at hK
              refine kw_aload_n dX11_take_59 rfl ?_
              refine kw_aload_n dX11_take_60 rfl ?_
              refine kw_iload_n dX11_take_61 rfl ?_
              refine kw_callVf (As := [pr_ (12, j), pi_ (nI y)]) (o_take l s k hb hkd hw hph hr j y hj hu1 hy1) dX11_take_62 cl_X11_162 rfl rfl rfl rfl (Nat.le_of_ble_eq_true rfl) ⟨(Nat.le_of_ble_eq_true rfl), (Nat.le_of_ble_eq_true rfl), (Nat.le_of_ble_eq_true rfl), (Nat.le_of_ble_eq_true rfl)⟩ ?_
              refine kw_goto (tgt := 70) dX11_take_65 (by decide) ?_
              exact kw_iret dX11_take_70 rfl (Nat.le_of_ble_eq_true rfl) (Nat.le_of_ble_eq_true rfl) (hK _ _ _ ⟨rfl, rfl, _, rfl⟩)
          · skip
            refine kw_bipush (v := (-103)) dX11_take_48 (by decide) ?_
            exact kw_iret dX11_take_50 rfl (Nat.le_of_ble_eq_true rfl) (Nat.le_of_ble_eq_true rfl) (hK _ _ _ ⟨rfl, by rw [if_pos (b2_n0.mp c45)], kb_ k 0, by rw [if_pos (b2_n0.mp c45), kB_id]⟩)
        · skip
          refine kw_bipush (v := (-101)) dX11_take_34 (by decide) ?_
          exact kw_iret dX11_take_36 rfl (Nat.le_of_ble_eq_true rfl) (Nat.le_of_ble_eq_true rfl) (hK _ _ _ ⟨rfl, by rw [if_neg (by rw [b2_0.mp c31]; decide)], kb_ k 0, by rw [if_neg (by rw [b2_0.mp c31]; decide), kB_id]⟩)
  · skip
    refine kw_bipush (v := (-106)) dX11_take_10 (by decide) ?_
    exact kw_iret dX11_take_12 rfl (Nat.le_of_ble_eq_true rfl) (Nat.le_of_ble_eq_true rfl) (hK _ _ _ ⟨rfl, by rw [a_take0, if_pos (b2_n0.mp c7)], kb_ k 0, by rw [a_take0, if_pos (b2_n0.mp c7), kB_id]⟩)
