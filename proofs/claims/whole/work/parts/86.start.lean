/-! THE LAW FROM ITS BEGINNING -/
theorem mts_1 {w : Cond} {i : Nat} (hi : tables_1_1[i]? = some w) : w ∈ lw_tbl := List.mem_append_right _ (have h := List.mem_of_getElem? hi; List.mem_append_left _ h)
theorem mts_2 {w : Cond} {i : Nat} (hi : tables_1_2[i]? = some w) : w ∈ lw_tbl := List.mem_append_right _ (have h := List.mem_of_getElem? hi; List.mem_append_right _ (List.mem_append_left _ h))
theorem mts_3 {w : Cond} {i : Nat} (hi : tables_1_3[i]? = some w) : w ∈ lw_tbl := List.mem_append_right _ (have h := List.mem_of_getElem? hi; List.mem_append_right _ (List.mem_append_right _ (List.mem_append_left _ h)))
theorem mts_4 {w : Cond} {i : Nat} (hi : tables_1_4[i]? = some w) : w ∈ lw_tbl := List.mem_append_right _ (have h := List.mem_of_getElem? hi; List.mem_append_right _ (List.mem_append_right _ (List.mem_append_right _ (List.mem_append_left _ h))))
theorem mts_5 {w : Cond} {i : Nat} (hi : tables_1_5[i]? = some w) : w ∈ lw_tbl := List.mem_append_right _ (have h := List.mem_of_getElem? hi; List.mem_append_right _ (List.mem_append_right _ (List.mem_append_right _ (List.mem_append_right _ (List.mem_append_left _ h)))))
theorem mts_6 {w : Cond} {i : Nat} (hi : tables_1_6[i]? = some w) : w ∈ lw_tbl := List.mem_append_right _ (have h := List.mem_of_getElem? hi; List.mem_append_right _ (List.mem_append_right _ (List.mem_append_right _ (List.mem_append_right _ (List.mem_append_right _ (h))))))
theorem kw_N_of {args : Array Value} {s : State} (hts : ∀ w ∈ lw_tbl, w.before args s = true) : kw_N s :=
  ⟨List.forall_mem_cons.mpr ⟨va_Nw.of rfl (hts _ (mts_1 (i := 27) rfl)), List.forall_mem_cons.mpr ⟨va_Nw.of rfl (hts _ (mts_1 (i := 196) rfl)), List.forall_mem_cons.mpr ⟨va_Nw.of rfl (hts _ (mts_1 (i := 212) rfl)), List.forall_mem_cons.mpr ⟨va_Nw.of rfl (hts _ (mts_2 (i := 8) rfl)), List.forall_mem_cons.mpr ⟨va_Nw.of rfl (hts _ (mts_2 (i := 205) rfl)), fun _ h => absurd h List.not_mem_nil⟩⟩⟩⟩⟩, List.forall_mem_cons.mpr ⟨va_AO.of (hts _ (mts_1 (i := 71) rfl)), List.forall_mem_cons.mpr ⟨va_AO.of (hts _ (mts_1 (i := 73) rfl)), List.forall_mem_cons.mpr ⟨va_AO.of (hts _ (mts_1 (i := 210) rfl)), List.forall_mem_cons.mpr ⟨va_AO.of (hts _ (mts_2 (i := 4) rfl)), List.forall_mem_cons.mpr ⟨va_AO.of (hts _ (mts_2 (i := 6) rfl)), fun _ h => absurd h List.not_mem_nil⟩⟩⟩⟩⟩, va_Nw.of rfl (hts _ (mts_2 (i := 136) rfl))⟩
theorem law_D {args : Array Value} {s : State} (hts : ∀ w ∈ kw_tbl, w.before args s = true) : ∃ D : va_G, va_K D vwCl [] s := by
  obtain ⟨c0, i0, h0⟩ := u_known hts kc_X0.2.1 (hts _ kt_394)
  obtain ⟨c1, i1, h1⟩ := u_known hts kc_X2.2.1 (hts _ kt_26)
  obtain ⟨c2, i2, h2⟩ := u_known hts kc_X3.2.1 (hts _ kt_247)
  obtain ⟨c3, i3, h3⟩ := u_known hts kc_X4.2.1 (hts _ kt_129)
  obtain ⟨c4, i4, h4⟩ := u_known hts kc_X5.2.1 (hts _ kt_444)
  obtain ⟨c5, i5, h5⟩ := u_known hts kc_X6.2.1 (hts _ kt_195)
  obtain ⟨c6, i6, h6⟩ := u_known hts kc_X7.2.1 (hts _ kt_211)
  obtain ⟨c7, i7, h7⟩ := u_known hts kc_X8.2.1 (hts _ kt_537)
  obtain ⟨c8, i8, h8⟩ := u_known hts kc_X9.2.1 (hts _ kt_59)
  obtain ⟨c9, i9, h9⟩ := u_known hts kc_X10.2.1 (hts _ kt_123)
  obtain ⟨c10, i10, h10⟩ := u_known hts kc_X11.2.1 (hts _ kt_18)
  obtain ⟨c11, i11, h11⟩ := u_known hts kc_X12.2.1 (hts _ kt_883)
  refine ⟨(fun c => match c with | 0 => c0 | 1 => c1 | 2 => c2 | 3 => c3 | 4 => c4 | 5 => c5 | 6 => c6 | 7 => c7 | 8 => c8 | 9 => c9 | 10 => c10 | _ => c11, fun c => match c with | 0 => i0 | 1 => i1 | 2 => i2 | 3 => i3 | 4 => i4 | 5 => i5 | 6 => i6 | 7 => i7 | 8 => i8 | 9 => i9 | 10 => i10 | _ => i11), ?_, ?_⟩
  · intro c q hq
    match c, hq with
    | 0, hq => cases hq; exact h0
    | 1, hq => cases hq; exact h1
    | 2, hq => cases hq; exact h2
    | 3, hq => cases hq; exact h3
    | 4, hq => cases hq; exact h4
    | 5, hq => cases hq; exact h5
    | 6, hq => cases hq; exact h6
    | 7, hq => cases hq; exact h7
    | 8, hq => cases hq; exact h8
    | 9, hq => cases hq; exact h9
    | 10, hq => cases hq; exact h10
    | 11, hq => cases hq; exact h11
    | c + 12, hq => cases hq
  · intro k q hk
    cases hk
theorem w_0 (c : PC) : kw_up (fun _ => none) (0, 0) c = lw [((0, 0), c)] := lw_set [] (0, 0) c
theorem w_m (s : SG) (k : KG) (fs : List PV) : kw_up (hC s k) (40, 0) (.inr (11, fs)) = kw_un (mwd fs 0) (hC s k) := by
  funext q
  obtain ⟨x, y⟩ := q
  unfold kw_up kw_un mwd
  by_cases e : x = 40
  · subst e
    by_cases e2 : y = 0
    · subst e2; rfl
    · rw [if_neg (fun z => e2 (congrArg Prod.snd z)), if_pos rfl, if_neg e2]
  · rw [if_neg (fun z => e (congrArg Prod.fst z)), if_neg e]
    by_cases e2 : x = 41
    · rw [if_pos e2, if_neg (Nat.not_lt_zero _)]
    · rw [if_neg e2]
theorem mwd_key {fs : List PV} {q : KK} (h : mwd fs 0 q ≠ none) : q = (40, 0) := by
  obtain ⟨x, y⟩ := q
  unfold mwd at h
  by_cases e : x = 40
  · subst e
    by_cases e2 : y = 0
    · subst e2; rfl
    · rw [if_pos rfl, if_neg e2] at h; exact absurd rfl h
  · rw [if_neg e] at h
    by_cases e2 : x = 41
    · rw [if_pos e2, if_neg (Nat.not_lt_zero _)] at h; exact absurd rfl h
    · rw [if_neg e2] at h; exact absurd rfl h
theorem dj_m0 (s : SG) (k : KG) (fs : List PV) : kw_dj (mwd fs 0) (hC s k) := by
  intro q h
  rw [mwd_key h]
  rfl
theorem LR_0 {x : Nat} (h1 : 20 ≤ x) (h2 : x ≤ 1000) : LR 0 (s_0 x) k_0 k_0 :=
  ⟨JI_0 h1 h2, ⟨fun b hb => absurd hb (Nat.not_lt_zero _), fun j hj => absurd hj (Nat.not_lt_zero _), fun j _ i hi => absurd hi (Nat.not_lt_zero _), fun j _ i hi => absurd hi (Nat.not_lt_zero _)⟩, mR_0 rfl _ _⟩
set_option maxHeartbeats 4000000 in
theorem init_m (l : Launch) (c : Int32) (x : Nat) (hx : x = capF c) (s : SG) (k : KG) (hns : ns_ s ≤ 40) (hnb : nb_ s ≤ 80) (hnp : np_ s ≤ 40) : kw_Q l yX12_init cX12_init 2 (Option.none : Option Jvm.ClassFile.FieldType) { frames := 1, cells := 33, slots := 3836, locals := 20 } [pr_ (40, 0), pi_ c] (kw_un (mwd [pi_ 0, pl_ 0, pi_ 0, pi_ 0, pi_ 0, pi_ 0, pn_, pn_, pn_, pn_, pn_, pn_, pn_, pn_, pi_ 0, pi_ 0, pi_ 0, pn_, pn_, pi_ 0, pi_ 0, pi_ 0, pn_, pn_, pn_, pn_, pn_, pi_ 0, pn_, pn_, pn_, pn_, pn_, pn_, pn_, pn_, pn_, pn_, pn_, pi_ 0, pi_ 0, pn_, pn_, pi_ 0, pi_ 0, pi_ 0, pi_ 0, pi_ 0, pi_ 0, pn_, pn_, pn_, pn_, pn_] 0) (hC s k)) (fun r h' => r = none ∧ h' = kw_un (hC s k) (hM (s_0 x) k_0)) := by
  refine kw_Q.imp (kw_Q.fr (i_model l c x hx) (dj_m0 _ _ _) (fun q d hq k2 h2 => hC_nm h2 hns hnb hnp q d hq) ?_) ?_
  · rintro r h' ⟨rfl, rfl⟩
    exact ⟨kw_dj.sym (dj_CM _ _ _ _), fun q c hq k2 h2 => hM_nm (dj_none (kw_dj.sym (dj_CM _ _ _ _)) h2) q c hq, fun k2 _ => trivial⟩
  · rintro r h' ⟨h2, ⟨rfl, rfl⟩, rfl⟩
    exact ⟨rfl, (kw_un_comm (dj_CM _ _ _ _)).symm⟩
set_option maxHeartbeats 4000000 in
theorem law_0 {l : Launch} {D : va_G} {nm : String} {A : Nat → Prop} {Xp : State → Prop} {ad : KK → Nat} {b L : Nat} {xs : Nat → Int32} (hX : ∀ s, Xp s → va_X b L xs s s.heap ∧ b < s.heap.size ∧ ¬ A b) (hXA : ∀ s, Xp s → ∀ q, A q → s.heap.size ≤ q) (hL : L ≤ 2561) (hb : ad (50, 0) = b) : lG l D nm A Xp ad (fun _ => none) 0 0 0 [some (pr_ (50, 0)), none, none, none] [] := by
  obtain ⟨x, hx⟩ : ∃ x, x = capF (scr0 L xs) := ⟨_, rfl⟩
  have hx1 := capF_b (scr0 L xs)
  rw [← hx] at hx1
  have a5 : ∀ h : PH, kx_h h (50, 0) ≠ none := fun h => by rw [kx_h, kw_up_s]; exact Option.some_ne_none _
  refine kx_new (0, 0) (fs := [pn_, pn_, pn_, pn_, pn_, pn_, pn_, pn_, pi_ 0, pl_ 0]) dL_law_0 kc_X11 kt_17 kt_18 kt_1 (fun _ j hj => match j, hj with | 0, _ => rfl | 1, _ => rfl | 2, _ => rfl | 3, _ => rfl | 4, _ => rfl | 5, _ => rfl | 6, _ => rfl | 7, _ => rfl | 8, _ => rfl | 9, _ => rfl | k + 10, h9 => absurd h9 (by omega)) rfl (fun q c h => by cases h) ⟨(by decide : ((50, 0) : KK) ≠ (0, 0)), trivial, trivial, trivial, trivial⟩ trivial (Nat.le_of_ble_eq_true rfl) (Nat.le_of_ble_eq_true rfl) (fun a1 => ?_)
  have hb1 : kw_ad ad (0, 0) a1 (50, 0) = b := (kw_ad_n _ _ (by decide)).trans hb
  refine kx_dup dL_law_3 rfl ?_
  refine kx_aload_n dL_law_4 rfl ?_
  refine kx_iconst (v := 0) dL_law_5 rfl ?_
  refine kx_heq (w_0 _) ?_
  refine kx_cell hX (by omega) hb1 dL_law_6 (Nat.le_of_ble_eq_true rfl) (Nat.le_of_ble_eq_true rfl) (Nat.le_of_ble_eq_true rfl) rfl ?_ ⟨a5 _, trivial, trivial, trivial, trivial⟩ ⟨?_, ?_, trivial⟩ (fun ad2 hb2 => ?_)
  · intro q c hq
    unfold lw at hq
    cases e : kbq (0, 0) q with
    | false => rw [e] at hq; cases hq
    | true =>
      rw [e] at hq
      cases hq
      intro v hv
      simp only [List.mem_cons, List.not_mem_nil, or_false] at hv
      rcases hv with rfl | rfl | rfl | rfl | rfl | rfl | rfl | rfl | rfl | rfl <;> exact trivial
  · show kx_h _ (0, 0) ≠ none
    rw [kx_h, kw_up_n _ _ (by decide)]; exact nm_some rfl
  · show kx_h _ (0, 0) ≠ none
    rw [kx_h, kw_up_n _ _ (by decide)]; exact nm_some rfl
  refine kx_callIq (b := b) (key := (0, 0)) (rest := [pr_ (0, 0)]) (i_class l (scr0 L xs) x hx) dL_law_9 cl_L_15 rfl rfl (Nat.le_of_ble_eq_true rfl) ⟨Nat.le_of_ble_eq_true rfl, Nat.le_of_ble_eq_true rfl, Nat.le_of_ble_eq_true rfl, Nat.le_of_ble_eq_true rfl⟩ hb2 rfl ?_ ⟨a5 _, trivial, trivial, trivial, trivial⟩ ⟨?_, trivial⟩ (fun r ad3 h3 hb3 p3 => ?_)
  · rintro r h' ⟨rfl, rfl⟩
    exact ⟨rfl, hC_nm (key := (50, 0)) rfl (Nat.zero_le _) (Nat.zero_le _) (Nat.zero_le _), trivial⟩
  · show kx_h _ (0, 0) ≠ none
    rw [kx_h, kw_up_n _ _ (by decide)]; exact nm_some rfl
  obtain ⟨rfl, rfl⟩ := p3
  refine kx_astore_n (x := some (0, 0)) dL_law_12 (Nat.le_of_ble_eq_true rfl) ?_
  refine kx_lvle (lv' := [some (pr_ (50, 0)), some (pr_ (0, 0)), none, none]) ⟨rfl, rfl, trivial⟩ ?_
  refine kx_new (40, 0) (fs := [pi_ 0, pl_ 0, pi_ 0, pi_ 0, pi_ 0, pi_ 0, pn_, pn_, pn_, pn_, pn_, pn_, pn_, pn_, pi_ 0, pi_ 0, pi_ 0, pn_, pn_, pi_ 0, pi_ 0, pi_ 0, pn_, pn_, pn_, pn_, pn_, pi_ 0, pn_, pn_, pn_, pn_, pn_, pn_, pn_, pn_, pn_, pn_, pn_, pi_ 0, pi_ 0, pn_, pn_, pi_ 0, pi_ 0, pi_ 0, pi_ 0, pi_ 0, pi_ 0, pn_, pn_, pn_, pn_, pn_]) dL_law_13 kc_X12 kt_882 kt_883 kt_10 (fun _ j hj => match j, hj with | 0, _ => rfl | 1, _ => rfl | 2, _ => rfl | 3, _ => rfl | 4, _ => rfl | 5, _ => rfl | 6, _ => rfl | 7, _ => rfl | 8, _ => rfl | 9, _ => rfl | 10, _ => rfl | 11, _ => rfl | 12, _ => rfl | 13, _ => rfl | 14, _ => rfl | 15, _ => rfl | 16, _ => rfl | 17, _ => rfl | 18, _ => rfl | 19, _ => rfl | 20, _ => rfl | 21, _ => rfl | 22, _ => rfl | 23, _ => rfl | 24, _ => rfl | 25, _ => rfl | 26, _ => rfl | 27, _ => rfl | 28, _ => rfl | 29, _ => rfl | 30, _ => rfl | 31, _ => rfl | 32, _ => rfl | 33, _ => rfl | 34, _ => rfl | 35, _ => rfl | 36, _ => rfl | 37, _ => rfl | 38, _ => rfl | 39, _ => rfl | 40, _ => rfl | 41, _ => rfl | 42, _ => rfl | 43, _ => rfl | 44, _ => rfl | 45, _ => rfl | 46, _ => rfl | 47, _ => rfl | 48, _ => rfl | 49, _ => rfl | 50, _ => rfl | 51, _ => rfl | 52, _ => rfl | 53, _ => rfl | k + 54, h9 => absurd h9 (by omega)) rfl (hC_nm (key := (40, 0)) rfl (Nat.zero_le _) (Nat.zero_le _) (Nat.zero_le _)) ⟨(by decide : ((50, 0) : KK) ≠ (40, 0)), (by decide : ((0, 0) : KK) ≠ (40, 0)), trivial, trivial, trivial⟩ trivial (Nat.le_of_ble_eq_true rfl) (Nat.le_of_ble_eq_true rfl) (fun a4 => ?_)
  have hb4 : kw_ad ad3 (40, 0) a4 (50, 0) = b := (kw_ad_n _ _ (by decide)).trans hb3
  refine kx_dup dL_law_16 rfl ?_
  refine kx_aload_n dL_law_17 rfl ?_
  refine kx_iconst (v := 0) dL_law_18 rfl ?_
  refine kx_heq (w_m _ _ _) ?_
  have a0 : kx_h (kw_un (mwd [pi_ 0, pl_ 0, pi_ 0, pi_ 0, pi_ 0, pi_ 0, pn_, pn_, pn_, pn_, pn_, pn_, pn_, pn_, pi_ 0, pi_ 0, pi_ 0, pn_, pn_, pi_ 0, pi_ 0, pi_ 0, pn_, pn_, pn_, pn_, pn_, pi_ 0, pn_, pn_, pn_, pn_, pn_, pn_, pn_, pn_, pn_, pn_, pn_, pi_ 0, pi_ 0, pn_, pn_, pi_ 0, pi_ 0, pi_ 0, pi_ 0, pi_ 0, pi_ 0, pn_, pn_, pn_, pn_, pn_] 0) (hC (s_0 x) k_0)) (0, 0) ≠ none := by
    rw [kx_h, kw_up_n _ _ (by decide)]; exact nm_some (c := c_root (s_0 x)) rfl
  have a40 : kx_h (kw_un (mwd [pi_ 0, pl_ 0, pi_ 0, pi_ 0, pi_ 0, pi_ 0, pn_, pn_, pn_, pn_, pn_, pn_, pn_, pn_, pi_ 0, pi_ 0, pi_ 0, pn_, pn_, pi_ 0, pi_ 0, pi_ 0, pn_, pn_, pn_, pn_, pn_, pi_ 0, pn_, pn_, pn_, pn_, pn_, pn_, pn_, pn_, pn_, pn_, pn_, pi_ 0, pi_ 0, pn_, pn_, pi_ 0, pi_ 0, pi_ 0, pi_ 0, pi_ 0, pi_ 0, pn_, pn_, pn_, pn_, pn_] 0) (hC (s_0 x) k_0)) (40, 0) ≠ none := by
    rw [kx_h, kw_up_n _ _ (by decide)]; exact nm_some rfl
  refine kx_cell hX (by omega) hb4 dL_law_19 (Nat.le_of_ble_eq_true rfl) (Nat.le_of_ble_eq_true rfl) (Nat.le_of_ble_eq_true rfl) rfl ?_ ⟨a5 _, a0, trivial, trivial, trivial⟩ ⟨a40, a40, trivial⟩ (fun ad5 hb5 => ?_)
  · intro q c hq
    unfold kw_un at hq
    cases e : mwd [pi_ 0, pl_ 0, pi_ 0, pi_ 0, pi_ 0, pi_ 0, pn_, pn_, pn_, pn_, pn_, pn_, pn_, pn_, pi_ 0, pi_ 0, pi_ 0, pn_, pn_, pi_ 0, pi_ 0, pi_ 0, pn_, pn_, pn_, pn_, pn_, pi_ 0, pn_, pn_, pn_, pn_, pn_, pn_, pn_, pn_, pn_, pn_, pn_, pi_ 0, pi_ 0, pn_, pn_, pi_ 0, pi_ 0, pi_ 0, pi_ 0, pi_ 0, pi_ 0, pn_, pn_, pn_, pn_, pn_] 0 q with
    | none => rw [e] at hq; exact hC_nm (key := (50, 0)) rfl (Nat.zero_le _) (Nat.zero_le _) (Nat.zero_le _) q c hq
    | some d =>
      rw [e] at hq
      have eq := mwd_key (nm_some e)
      rw [eq] at e
      cases e
      cases hq
      intro v hv
      simp only [List.mem_cons, List.not_mem_nil, or_false, or_self] at hv
      rcases hv with rfl | rfl | rfl | rfl | rfl | rfl | rfl | rfl | rfl | rfl | rfl | rfl | rfl | rfl | rfl | rfl | rfl | rfl | rfl | rfl | rfl | rfl | rfl | rfl | rfl | rfl | rfl | rfl | rfl | rfl | rfl | rfl | rfl | rfl | rfl | rfl | rfl | rfl | rfl | rfl | rfl | rfl | rfl | rfl | rfl | rfl | rfl | rfl | rfl | rfl | rfl | rfl | rfl | rfl <;> exact trivial
  refine kx_callIq (b := b) (key := (40, 0)) (rest := [pr_ (40, 0)]) (init_m l (scr0 L xs) x hx (s_0 x) k_0 (Nat.zero_le _) (Nat.zero_le _) (Nat.zero_le _)) dL_law_22 cl_L_20 rfl rfl (Nat.le_of_ble_eq_true rfl) ⟨Nat.le_of_ble_eq_true rfl, Nat.le_of_ble_eq_true rfl, Nat.le_of_ble_eq_true rfl, Nat.le_of_ble_eq_true rfl⟩ hb5 rfl ?_ ⟨a5 _, a0, trivial, trivial, trivial⟩ ⟨a40, trivial⟩ (fun r ad6 h6 hb6 p6 => ?_)
  · rintro r h' ⟨rfl, rfl⟩
    exact ⟨rfl, un_nm (Nat.zero_le _) (Nat.zero_le _) (Nat.zero_le _), trivial⟩
  obtain ⟨rfl, rfl⟩ := p6
  refine kx_astore_n (x := some (40, 0)) dL_law_25 (Nat.le_of_ble_eq_true rfl) ?_
  refine kx_iconst (v := nI 1) dL_law_26 rfl ?_
  refine kx_istore_n dL_law_27 (Nat.le_of_ble_eq_true rfl) ?_
  refine kx_wid (c2 := 100 + 40 * 0) (s2 := 20000 + 120 * 0) (Nat.le_of_ble_eq_true rfl) (Nat.le_of_ble_eq_true rfl) ?_
  refine kx_lvle (lv' := lvS 0) ⟨rfl, rfl, rfl, rfl, trivial⟩ ?_
  exact law_loop hX hXA hL (L + 1) 0 ad6 _ _ _ (by omega) (Nat.zero_le _) hb6 (LR_0 hx1.1 hx1.2)
theorem whole_start {p : Program} {e : Env} {s : State} {m : MethodId} {below : List Frame} {meth : Method} {c : Code} (l : Launch) {b L : Nat} {xs : Nat → Int32} (hL : L ≤ 2561) (C0 : lw_At p s m meth c b L xs) : W p l e room_1 s m #[Value.ref b] below meth c s.heap [] 0 0 (lw_Z below #[Value.ref b] s) (entryFrame m ([Value.ref b] : List Value).toArray 4) := by
  obtain ⟨c1, c2, c3, c4, c5, hts, hX, hbs, c9, c10⟩ := C0
  have hts2 : ∀ w ∈ kw_tbl, w.before #[Value.ref b] s = true := fun w hw => hts w (List.mem_filter.mp hw).1
  obtain ⟨D, hD⟩ := law_D hts2
  have hl := lv_entry [Value.ref b] (n := 4) (Nat.le_of_ble_eq_true rfl)
  rw [lg_entry_eq]
  refine law_0 (l := l) (D := D) (nm := meth.name) (A := fun q => s.heap.size ≤ q) (Xp := fun s' => s' = s) (ad := fun _ => b) (b := b) (L := L) (xs := xs) ?_ ?_ hL rfl p e s m #[Value.ref b] below meth c s.heap [] _ ⟨c1, c2, c4, c5, hts2, c3, c9, rfl, kw_N_of hts⟩ ⟨hD, fun k c h => (by cases h), fun k k' h => absurd rfl h⟩ (fun k h => absurd rfl h) va_S.rf (fun q hq => hq) ⟨hl.1, hl.2.1, fun i v hi => ?_⟩ rfl
  · rintro s' rfl
    exact ⟨hX, hbs, Nat.not_le.mpr hbs⟩
  · rintro s' rfl q hq
    exact hq
  · match i, hi with
    | 0, hi =>
      cases hi
      exact hl.2.2 _ (show ((0 : Nat), Value.ref b) ∈ lv_args 0 [Value.ref b] from List.mem_cons_self)
    | 1, hi => cases hi
    | 2, hi => cases hi
    | 3, hi => cases hi
    | n + 4, hi => cases hi
