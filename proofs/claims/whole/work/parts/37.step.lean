/-! PACKING ANEW, A STEP, STEPS -/
def wrL : Nat → SG → Bool × SG
  | 0, s => (true, s)
  | n + 1, s => if cut_ s = 0 then (false, s_w0 s) else wrL n (s_w1 s)
theorem wrL_1 : ∀ (n : Nat) (s : SG), (wrL n s).2.1 = s.1
  | 0, s => rfl
  | n + 1, s => by
    rw [wrL]
    split
    · rfl
    · rw [wrL_1 n, s_w1_1]
theorem wrL_t : ∀ (n : Nat) (s : SG), (wrL n s).1 = true → (wrL n s).2.2.2 = s.2.2
  | 0, s, _ => rfl
  | n + 1, s, h => by
    rw [wrL] at h ⊢
    split
    · rename_i q; rw [if_pos q] at h; cases h
    · rename_i q; rw [if_neg q] at h; rw [wrL_t n _ h, s_w1_2]
/-- the same but for what is written anew before it is read -/
def kEq (κ K : KG) : Prop := κ.1 0 = K.1 0 ∧ κ.1 1 = K.1 1 ∧ κ.2.2 = K.2.2
theorem kEq.rf (k : KG) : kEq k k := ⟨rfl, rfl, rfl⟩
theorem kEq.tr {a b c : KG} (h : kEq a b) (g : kEq b c) : kEq a c := ⟨h.1.trans g.1, h.2.1.trans g.2.1, h.2.2.trans g.2.2⟩
theorem kEq.kn {a b : KG} (h : kEq a b) (i : Nat) (v w : Nat → Nat) (e : v = w) : kEq (kN a i v) (kN b i w) := ⟨h.1, h.2.1, by show (a.2.2.1, va_up a.2.2.2 i v) = (b.2.2.1, va_up b.2.2.2 i w); rw [h.2.2, e]⟩
theorem kEq.ac {a b : KG} (h : kEq a b) : ac_ a = ac_ b := by show a.2.2.2 1 = _; rw [h.2.2]
theorem kEq.ho {a b : KG} (h : kEq a b) : ho_ a = ho_ b := by show a.2.2.2 0 = _; rw [h.2.2]
theorem kEq.nx {a b : KG} (h : kEq a b) (v : Int32) : kEq (kX a 0 v) (kX b 0 v) := ⟨rfl, h.2.1, h.2.2⟩
theorem kEq.pe {a b : KG} (h : kEq a b) (v : Int32) : kEq (kX a 1 v) (kX b 1 v) := ⟨h.1, rfl, h.2.2⟩
theorem kLay_eq {a b : KG} (h : kEq a b) (t : SG) (x p o : Nat) : kEq (kLay t a x p o) (kLay t b x p o) := by
  unfold kLay
  split
  · exact h.kn 1 _ _ (by rw [h.ac])
  · exact ((h.kn 0 _ _ (by rw [h.ho])).kn 1 _ _ (by rw [h.ac])).kn 1 _ _ (by show va_up (va_up (ac_ a) _ _) _ _ = va_up (va_up (ac_ b) _ _) _ _; rw [h.ac])
theorem kS_eq {a b : KG} (h : kEq a b) (f : Nat → Nat) (pl : Nat → Nat × Nat) (t : SG) : ∀ i, kEq (kS f pl t a i) (kS f pl t b i)
  | 0 => h
  | i + 1 => kLay_eq (kS_eq h f pl t i) _ _ _ _
theorem k_left_eq {a b : KG} (h : kEq a b) (p : Nat) : kEq (k_left a p) (k_left b p) := (h.kn 1 _ _ (by rw [h.ac])).kn 0 _ _ (by rw [h.ho])
theorem fullS_eq {a b : KG} (h : kEq a b) (s : SG) (x : Int32) : fullS s a x = fullS s b x := by unfold fullS; rw [h.ac]
abbrev pkx0 (s : SG) (k : KG) (p : Nat) : Nat × Nat := (np_ s - 1, fullS s k (nI p))
abbrev pkTo (s : SG) (k : KG) (p : Nat) : Nat := (plT s (mvO s p) (pkx0 s k p) (lieN s (nI p))).1
def pkS (s : SG) (k : KG) (p : Nat) (t : SG) : SG := s_left (aS (mvO s p) (plP s (mvO s p) (pkx0 s k p)) t (lieN s (nI p))) p
def pkK (s : SG) (k : KG) (p : Nat) (t : SG) : KG := k_left (kS (mvO s p) (plP s (mvO s p) (pkx0 s k p)) t k (lieN s (nI p))) p
def pkF (s : SG) (k : KG) (p : Nat) : Bool × SG × KG := if pkTo s k p < 40 then (if (wrL (lieN s (nI p) + 1) s).1 = true then (true, pkS s k p (wrL (lieN s (nI p) + 1) s).2, pkK s k p (wrL (lieN s (nI p) + 1) s).2) else (false, (wrL (lieN s (nI p) + 1) s).2, k)) else (true, s, k)
def pkOk (s : SG) (k : KG) (p : Nat) : Prop := ns_ s ≤ 40 ∧ np_ s ≤ 40 ∧ cap_ s ≤ 1000 ∧ p < np_ s ∧ disOk s p ∧ (∀ j, j < nb_ s → pp_ s j < 2 ^ 31 ∧ sz_ s j ≤ cap_ s) ∧ fullS s k (nI p) ≤ cap_ s
theorem plT_step (s : SG) (f : Nat → Nat) (x0 : Nat × Nat) (i : Nat) : ((plP s f x0 i).1 < (plT s f x0 i).1 + 1 ∧ (plT s f x0 (i + 1)).1 + 1 = (plT s f x0 i).1 + 1) ∨ ((plP s f x0 i).1 = (plT s f x0 i).1 + 1 ∧ (plT s f x0 (i + 1)).1 + 1 = (plT s f x0 i).1 + 1 + 1) := by
  rw [plT]
  show ((plA s f (plT s f x0 i) i).1 < _ ∧ (plA s f (plT s f x0 i) i).1 + 1 = _) ∨ ((plA s f (plT s f x0 i) i).1 = _ ∧ (plA s f (plT s f x0 i) i).1 + 1 = _)
  unfold plA
  split
  · exact Or.inl ⟨Nat.lt_succ_self _, rfl⟩
  · exact Or.inr ⟨rfl, rfl⟩
theorem plT_mono (s : SG) (f : Nat → Nat) (x0 : Nat × Nat) (i : Nat) : ∀ d, (plT s f x0 i).1 ≤ (plT s f x0 (i + d)).1
  | 0 => Nat.le_refl _
  | d + 1 => by have h1 := plT_mono s f x0 i d; have h2 := plT_step s f x0 (i + d); show _ ≤ (plT s f x0 (i + d + 1)).1; omega
theorem aS_np (s : SG) (f : Nat → Nat) (x0 : Nat × Nat) (t : SG) (h : np_ t = x0.1 + 1) : ∀ i, np_ (aS f (plP s f x0) t i) = (plT s f x0 i).1 + 1
  | 0 => h
  | i + 1 => by
    have ih := aS_np s f x0 t h i
    have h2 := plT_step s f x0 i
    show np_ (aLay _ _ _ _) = _
    rw [aLay_np, ih]
    split <;> omega
set_option maxHeartbeats 4000000 in
set_option maxRecDepth 100000 in
theorem d_anew (l : Launch) (C : Nat) (s : SG) (k : KG) (hb : nb_ s ≤ 80) (p : Nat) (hok : pkOk s k p) (hC9 : np_ (pkF s k p).2.1 = np_ s + C) : kw_Q l yX4_packAnew cX4_packAnew 3 (Option.some Jvm.ClassFile.FieldType.boolean) { frames := 4, cells := C, slots := 3 * C, locals := 85 } [pr_ (9, 0), pi_ (nI p)] (hC s k) (fun r h' => r = some (pi_ (b2 (pkF s k p).1)) ∧ ∃ k', kEq k' (pkF s k p).2.2 ∧ h' = hC (pkF s k p).2.1 k') := by
  refine kw_M_of RX4 "packAnew" [some (pr_ (9, 0)), some (pi_ (nI p)), none] (by decide) rfl rfl rfl (Nat.le_of_ble_eq_true rfl) ?_
  intro D ad A
  refine kw_Kgen (fun K hK => ?_)
  obtain ⟨hns, hp4, hcap, hp, hd, hj, hfu⟩ := hok
  have hmv := mvO_plan hd
  unfold pkF at hK hC9
  obtain ⟨n, hn⟩ : ∃ n, n = lieN s (nI p) := ⟨_, rfl⟩
  have hn80 : n ≤ 80 := by rw [hn]; exact Nat.le_trans (cntN_le _) hb
  obtain ⟨x0, hx0⟩ : ∃ x0, x0 = pkx0 s k p := ⟨_, rfl⟩
  obtain ⟨f, hf⟩ : ∃ f, f = mvO s p := ⟨_, rfl⟩
  unfold pkTo pkS pkK at hK hC9
  rw [← hn, ← hx0, ← hf] at hK hC9
  rw [← hn, ← hf] at hmv
  have hx1 : x0.1 + 1 = np_ s := by rw [hx0]; show np_ s - 1 + 1 = np_ s; omega
  refine kw_aload_n dX4_packAnew_0 rfl ?_
  refine kw_iload_n dX4_packAnew_1 rfl ?_
  refine kw_callV (As := [pi_ (nI p)]) (d_collect l s k hb (fun j h => (hj j h).1) p hd) dX4_packAnew_2 cl_X4_47 rfl rfl rfl rfl (Nat.le_of_ble_eq_true rfl) ⟨(Nat.le_of_ble_eq_true rfl), (Nat.le_of_ble_eq_true rfl), (Nat.zero_le _), (Nat.zero_le _)⟩ (fun r2 h2 hp2 => ?_)
  obtain ⟨rfl, a, ha, rfl⟩ := hp2
  rw [← hn, ← hf] at ha
  rw [← hn]
  refine kw_aload_n dX4_packAnew_5 rfl ?_
  refine kw_iload_n dX4_packAnew_6 rfl ?_
  refine kw_callV (As := [pi_ (nI p)]) (d_plan l s (kMvd k a (nI n)) hb hp4 hcap p n hp hn80 f rfl (fun q hq => ⟨ha q hq, (hmv.1 q hq).1, (hj _ (hmv.1 q hq).1).2⟩) hfu x0 hx0) dX4_packAnew_7 cl_X4_51 rfl rfl rfl rfl (Nat.le_of_ble_eq_true rfl) ⟨(Nat.le_of_ble_eq_true rfl), (Nat.le_of_ble_eq_true rfl), (Nat.zero_le _), (Nat.zero_le _)⟩ (fun r2 h2 hp2 => ?_)
  obtain ⟨rfl, A1, B1, hAB, rfl⟩ := hp2
  obtain ⟨K2, hK2⟩ : ∃ K2, K2 = kA (kA (kMvd k a (nI n)) 1 A1) 2 B1 := ⟨_, rfl⟩
  have hke : kEq K2 k := by rw [hK2]; exact ⟨rfl, rfl, rfl⟩
  have hK0 : ka_ K2 0 = a := by rw [hK2]; rfl
  have hK1 : ka_ K2 1 = A1 := by rw [hK2]; rfl
  have hK3 : ka_ K2 2 = B1 := by rw [hK2]; rfl
  have hKm : ml_ K2 = nI n := by rw [hK2]; rfl
  rw [← hK2]
  refine kw_if_ne (tgt := 15) dX4_packAnew_10 (by decide) (fun c10 => ?_) (fun c10 => ?_)
  · skip
    have e10 := of_decide_eq_true (b2_n0.mp c10)
    rw [if_pos e10] at hK hC9
    obtain ⟨W, hW⟩ : ∃ W, W = wrL (n + 1) s := ⟨_, rfl⟩
    rw [← hW] at hK hC9
    refine kw_iconst (v := 0) dX4_packAnew_15 (by decide) ?_
    refine kw_istore_n dX4_packAnew_16 (Nat.le_of_ble_eq_true rfl) ?_
    have loop : ∀ (n_ : Nat) (i : Nat) (t : SG), n + 1 - i < n_ → i ≤ n + 1 → wrL (n + 1 - i) t = W → t.1 = s.1 → t.2.2 = s.2.2 → kw_G l D cX4_packAnew RX4 (Option.some Jvm.ClassFile.FieldType.boolean) "packAnew" { frames := 4, cells := C, slots := 3 * C, locals := 85 } A K ad (hC t K2) 0 0 17 [some (pr_ (9, 0)), some (pi_ (nI p)), some (pi_ (nI i))] [] := by
      intro n_
      induction n_ with
      | zero =>
        intro i t hm_
        exact absurd hm_ (Nat.not_lt_zero _)
      | succ n_ ih =>
        intro i t hm_ hi hw ht1 ht2
        refine kw_iload_n dX4_packAnew_17 rfl ?_
        refine kw_aload_n dX4_packAnew_18 rfl ?_
        refine kw_get dX4_packAnew_19 fl_X4_55 rfl rfl ?_
        refine kw_top (v' := pi_ (nI n)) (congrArg pi_ hKm) ?_
        refine kw_icmp_gt (tgt := 43) dX4_packAnew_22 (by decide) (fun c22 => ?_) (fun c22 => ?_)
        · skip
          have e22 := nI_lt' (a := n) (b := i) (by omega) (by omega) c22
          have hwt : W = (true, t) := by rw [← hw, show n + 1 - i = 0 by omega]; rfl
          rw [hwt, if_pos rfl] at hK hC9
          have etn : np_ t = np_ s := by rw [np_, ht1]
          have etb : nb_ t = nb_ s := by rw [nb_, ht1]
          have ets : ns_ t = ns_ s := by rw [ns_, ht1]
          have hnn := aS_np s f x0 t (etn.trans hx1.symm) n
          have hC9 : np_ (aS f (plP s f x0) t n) = np_ s + C := hC9
          refine kw_aload_n dX4_packAnew_43 rfl ?_
          refine kw_iload_n dX4_packAnew_44 rfl ?_
          refine kw_callVq (As := [pi_ (nI p)]) (d_carry l C t K2 (by omega) (by omega) p n (by omega) hn80 f (plP s f x0) (fun i => (plT s f x0 i).1 + 1) (by show x0.1 + 1 = _; omega) (fun i _ => plT_step s f x0 i) (fun i hi => ⟨by have := plT_mono s f x0 0 i; rw [Nat.zero_add] at this; show _ ≤ (plT s f x0 i).1 + 1; have : (plT s f x0 0).1 = x0.1 := rfl; omega, by have := plT_mono s f x0 i (n - i); rw [show i + (n - i) = n by omega] at this; exact Nat.succ_le_succ this⟩) (by show (plT s f x0 n).1 + 1 ≤ 40; omega) (by show (plT s f x0 n).1 + 1 = _; omega) hKm (fun q hq => ⟨by rw [hK0]; exact ha q hq, by rw [hK1]; exact (hAB q hq).1, by rw [hK3]; exact (hAB q hq).2, by have := (hmv.1 q hq).1; omega⟩)) dX4_packAnew_45 cl_X4_64 rfl rfl rfl rfl (Nat.le_of_ble_eq_true rfl) ⟨(Nat.le_of_ble_eq_true rfl), (Nat.le_of_ble_eq_true rfl), (by show 0 + C ≤ C; omega), (by show 0 + 3 * C ≤ 3 * C; omega)⟩ (by simp [kw_all, kw_alo, kw_alv, kw_set1, kw_keep]; exact nm_some (show hC _ _ (9, 0) = some _ from rfl)) (by simp [kw_all, kw_nmo, kw_nmv, kw_set1, kw_set2, kw_keep, kw_alo, kw_alv]) (fun r2 ad2 h2 he2 hp2 => ?_)
          obtain ⟨rfl, rfl⟩ := hp2
          refine kw_iconst (v := 1) dX4_packAnew_48 (by decide) ?_
          exact kw_zret dX4_packAnew_49 rfl (by decide) (by first | (show 0 + C ≤ C; omega) | (show 0 + 3 * C ≤ 3 * C; omega)) (by first | (show 0 + C ≤ C; omega) | (show 0 + 3 * C ≤ 3 * C; omega)) (hK _ _ _ ⟨fun q hq => he2 q (hC_al2 (by rw [etb]) (by omega) (by rw [ets]) q hq), rfl, _, k_left_eq (kS_eq hke f (plP s f x0) t n) p, rfl⟩)
        · skip
          have e22 := nI_nlt' (a := n) (b := i) (by omega) (by omega) c22
          obtain ⟨d, hd9⟩ : ∃ d, n + 1 - i = d + 1 := ⟨n - i, by omega⟩
          rw [hd9, wrL] at hw
          refine kw_aload_n dX4_packAnew_25 rfl ?_
          refine kw_get dX4_packAnew_26 fl_X4_25 rfl rfl ?_
          by_cases hcut : cut_ t = 0
          · skip
            rw [if_pos hcut] at hw
            rw [← hw, if_neg (fun q => by cases q)] at hK
            refine kw_callVf (As := []) (j_write0 l t K2 hcut) dX4_packAnew_29 cl_X4_58 rfl rfl rfl rfl (Nat.le_of_ble_eq_true rfl) ⟨(Nat.le_of_ble_eq_true rfl), (Nat.le_of_ble_eq_true rfl), (Nat.zero_le _), (Nat.zero_le _)⟩ ?_
            refine kw_if_ne (tgt := 37) dX4_packAnew_32 (by decide) (fun c32 => ?_) (fun c32 => ?_)
            · skip
              exact absurd rfl c32
            · skip
              refine kw_iconst (v := 0) dX4_packAnew_35 (by decide) ?_
              exact kw_zret dX4_packAnew_36 rfl (by decide) (Nat.zero_le _) (Nat.zero_le _) (hK _ _ _ ⟨fun _ _ => rfl, rfl, K2, hke, rfl⟩)
          rw [if_neg hcut] at hw
          refine kw_callVf (As := []) (j_write1 l t K2 hcut) dX4_packAnew_29 cl_X4_58 rfl rfl rfl rfl (Nat.le_of_ble_eq_true rfl) ⟨(Nat.le_of_ble_eq_true rfl), (Nat.le_of_ble_eq_true rfl), (Nat.zero_le _), (Nat.zero_le _)⟩ ?_
          refine kw_if_ne (tgt := 37) dX4_packAnew_32 (by decide) (fun c32 => ?_) (fun c32 => ?_)
          · skip
            refine kw_iinc dX4_packAnew_37 rfl (nI_i i) ?_
            refine kw_goto (tgt := 17) dX4_packAnew_40 (by decide) ?_
            exact ih (i + 1) (s_w1 t) (by omega) (by omega) (by rw [show n + 1 - (i + 1) = d by omega]; exact hw) (by rw [s_w1_1, ht1]) (by rw [s_w1_2, ht2])
          · skip
            exact absurd c32 (by decide)
    exact loop (n + 2) 0 s (by omega) (by omega) hW.symm rfl rfl
  · skip
    have e10 := of_decide_eq_false (b2_0.mp c10)
    rw [if_neg e10] at hK
    refine kw_iconst (v := 1) dX4_packAnew_13 (by decide) ?_
    exact kw_zret dX4_packAnew_14 rfl (by decide) (Nat.zero_le _) (Nat.zero_le _) (hK _ _ _ ⟨fun _ _ => rfl, rfl, K2, hke, rfl⟩)
