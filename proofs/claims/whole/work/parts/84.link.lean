/-! EVERY CALL, AS THE LAW MAKES IT -/
def cP (n : Nat) (K0 : KG) (v : PV) (S s : SG) (κ : KG) : Option PV → PH → Prop := fun r h' => r = some v ∧ ∃ k', h' = kw_un (hC S k') (hM s κ) ∧ JI (n + 1) S k' ∧ nx_ k' = nx_ K0 ∧ pe_ k' = pe_ K0
def mP (K0 : KG) (v : PV) (S t : SG) (k : KG) : Option PV → PH → Prop := fun r h' => r = some v ∧ ∃ κ', h' = kw_un (hC t k) (hM S κ') ∧ MI S κ' ∧ mR S κ' K0
def pvI (v : PV) : Prop := (∃ x, v = pi_ x) ∨ ∃ x, v = pl_ x
theorem pvI.i (x : Int32) : pvI (pi_ x) := Or.inl ⟨x, rfl⟩
theorem pvI.l (x : Int64) : pvI (pl_ x) := Or.inr ⟨x, rfl⟩
theorem pvI.nm {v : PV} (h : pvI v) (q : KK) : kw_all (kw_nmv q) [v] := by
  rcases h with ⟨x, rfl⟩ | ⟨x, rfl⟩ <;> exact ⟨trivial, trivial⟩
theorem dj_none {a b : PH} (h : kw_dj a b) {q : KK} (hq : b q ≠ none) : a q = none := by
  cases e : a q with
  | none => rfl
  | some c => exact absurd (h q (by rw [e]; exact Option.some_ne_none c)) hq
theorem frC {l : Launch} {y : MethodName} {cc : ByteArray} {nL : Nat} {ret : Option FieldType} {R : Room} {As : List PV} {n : Nat} {s S : SG} {k κ K0 : KG} {v : PV} {P : Option PV → PH → Prop} (hQ : kw_Q l y cc nL ret R As (hC s k) P) (hv : pvI v) (hP : ∀ r h', P r h' → r = some v ∧ ∃ k', h' = hC S k' ∧ JI (n + 1) S k' ∧ nx_ k' = nx_ K0 ∧ pe_ k' = pe_ K0) : kw_Q l y cc nL ret R As (kw_un (hC s k) (hM s κ)) (cP n K0 v S s κ) := by
  refine kw_Q.imp (kw_Q.fr (kw_Q.imp hQ hP) (dj_CM _ _ _ _) (fun q c hq k2 h2 => hM_nm h2 q c hq) ?_) ?_
  · rintro r h' ⟨rfl, k', rfl, hJ, _⟩
    refine ⟨dj_CM _ _ _ _, fun q c hq k2 h2 => hC_nm (dj_none (dj_CM _ _ _ _) h2) hJ.A.1.2.2.1.1 hJ.A.1.1.1 hJ.A.1.1.2.1 q c hq, fun k2 _ => hv.nm k2⟩
  · rintro r h' ⟨h2, ⟨rfl, k', rfl, hJ, e1, e2⟩, rfl⟩
    exact ⟨rfl, k', rfl, hJ, e1, e2⟩
theorem frM {l : Launch} {y : MethodName} {cc : ByteArray} {nL : Nat} {ret : Option FieldType} {R : Room} {As : List PV} {n : Nat} {s S t : SG} {κ k K0 : KG} {v : PV} {P : Option PV → PH → Prop} (hT : JI n t k) (hQ : kw_Q l y cc nL ret R As (hM s κ) P) (hv : pvI v) (hP : ∀ r h', P r h' → r = some v ∧ ∃ κ', h' = hM S κ' ∧ MI S κ' ∧ mR S κ' K0) : kw_Q l y cc nL ret R As (kw_un (hC t k) (hM s κ)) (mP K0 v S t k) := by
  rw [kw_un_comm (dj_CM t s k κ)]
  refine kw_Q.imp (kw_Q.fr (kw_Q.imp hQ hP) (kw_dj.sym (dj_CM _ _ _ _)) (fun q c hq k2 h2 => hC_nm h2 hT.A.1.2.2.1.1 hT.A.1.1.1 hT.A.1.1.2.1 q c hq) ?_) ?_
  · rintro r h' ⟨rfl, k', rfl, _⟩
    refine ⟨kw_dj.sym (dj_CM _ _ _ _), fun q c hq k2 h2 => hM_nm (dj_none (kw_dj.sym (dj_CM _ _ _ _)) h2) q c hq, fun k2 _ => hv.nm k2⟩
  · rintro r h' ⟨h2, ⟨rfl, k', rfl, e1, e2⟩, rfl⟩
    exact ⟨rfl, k', (kw_un_comm (dj_CM _ _ _ _)).symm, e1, e2⟩
theorem mR.of {s t : SG} {κ κ' k : KG} (h : mR s κ k) (p : phOk s t) (e : mEq κ' κ) : mR t κ' k := by
  rcases p with p | p
  · unfold mR
    rw [p, e.1, e.2]
    exact h
  · exact mR_0 p _ _
theorem ck_save_x (s : SG) (k : KG) (x : Int32) (key : Int64) (w : Int32) : (ck_save s k x key w).1 = k.1 := by
  unfold ck_save ck_new k_add
  repeat' split
  all_goals rfl
theorem MI_at {s : SG} {κ : KG} (h : MI s κ) (t : Int64) : MI (a_at s t).2 κ := by
  unfold a_at
  repeat' split
  all_goals exact h
theorem MI_cut {s : SG} {κ : KG} (h : MI s κ) (x : Int32) : MI (a_cut s x).2 κ := by
  unfold a_cut
  repeat' split
  all_goals exact h
theorem MI_rule {s : SG} {κ : KG} (h : MI s κ) (x n : Int32) : MI (a_rule s x n).2 κ := by
  unfold a_rule
  repeat' split
  all_goals exact h
theorem MI_share {s : SG} {κ : KG} (h : MI s κ) (x : Int32) : MI (a_share s x).2 κ := by
  unfold a_share
  repeat' split
  all_goals exact h
theorem MI_open {s : SG} {κ : KG} (h : MI s κ) : MI (a_open s).2 κ := by
  unfold a_open
  repeat' split
  all_goals exact h
theorem MI_follow {s : SG} {κ : KG} (h : MI s κ) (x n : Int32) : MI (a_follow s x n).2 κ := by
  unfold a_follow
  repeat' split
  all_goals exact h
theorem ph_swS (s : SG) : ph_ (swS s) = 1 := by
  unfold swS
  have h0 : ph_ (s_prep (s_w1 s)) = 1 := rfl
  have hl : ∀ (t : SG) (b : Nat), ph_ t = 1 → ph_ (s_line t b) = 1 := fun t b h => h
  have h1 : ∀ m, ph_ (rowSn (s_prep (s_w1 s)) m) = 1 := by
    intro m
    induction m with
    | zero => exact h0
    | succ m ih =>
      rw [rowSn]
      split
      · exact s_lines_pres (P := fun t => ph_ t = 1) hl _ _ _ ih
      · exact ih
  have h2 : ∀ m, ph_ (rowSv (rowSn (s_prep (s_w1 s)) (ns_ s)) m) = 1 := by
    intro m
    induction m with
    | zero => exact h1 _
    | succ m ih =>
      rw [rowSv]
      unfold svOne
      split
      · split
        · exact ih
        · exact s_lines_pres (P := fun t => ph_ t = 1) hl _ _ _ ih
      · exact ih
  exact h2 4
theorem R_sweep {s : SG} {κ k : KG} (h : mR s κ k) : (c_sweep s κ).1 = (c_sweep s k).1 ∧ (c_sweep s κ).2.1 = (c_sweep s k).2.1 ∧ mR (c_sweep s k).2.1 (c_sweep s κ).2.2 (c_sweep s k).2.2 := by
  unfold c_sweep
  by_cases h1 : dn_ s = true
  · rw [if_pos h1, if_pos h1]; exact ⟨rfl, rfl, h⟩
  · rw [if_neg h1, if_neg h1]
    by_cases h2 : ph_ s = 0
    · rw [if_pos h2, if_pos h2]
      by_cases h3 : cut_ s = 0
      · rw [if_pos h3, if_pos h3]
        exact ⟨rfl, rfl, mR_0 rfl _ _⟩
      · rw [if_neg h3, if_neg h3]
        have hw : mR (swS s) κ k := ⟨fun q => by rw [ph_swS] at q; omega, fun q => by rw [ph_swS] at q; omega⟩
        obtain ⟨e1, e2⟩ := R_st hw
        exact ⟨by show nI (nsw_ (settleF (swS s, κ)).1) = nI (nsw_ (settleF (swS s, k)).1); rw [e1], e1, e2⟩
    · rw [if_neg h2, if_neg h2]; exact ⟨rfl, rfl, h⟩
set_option maxHeartbeats 4000000 in
theorem C_at (l : Launch) {N : Nat} {s : SG} {k : KG} (κ : KG) (hJ : JI N s k) (hn : N ≤ 511) (t : Int64) : kw_Q l yX11_at cX11_at 3 (Option.some Jvm.ClassFile.FieldType.int) { frames := 0, cells := 0, slots := 0, locals := 0 } [pr_ (0, 0), pl_ t] (kw_un (hC s k) (hM s κ)) (cP N k (pi_ (a_at s t).1) ((a_at s t).2) s κ) := by
  obtain ⟨⟨a1, a2, a3, a4, a5, a6, a7, a8, a9, a10, a11, a12⟩, hK, hMr⟩ := hJ.A
  exact frC (kw_P.toQ (P_at l s k  t)) (pvI.i _) (fun r h2 h => ⟨h.1, k, h.2, JI.mono (JI_at hJ t), rfl, rfl⟩)
set_option maxHeartbeats 4000000 in
theorem D_at (l : Launch) {N : Nat} {s t0 : SG} {k κ k1 : KG} (hL : JI N s k ∧ MI s κ ∧ mR s κ k) (hT : JI (N + 1) t0 k1) (hn : N ≤ 511) (t : Int64) : kw_Q l yX12_at cX12_at 3 (Option.some Jvm.ClassFile.FieldType.int) { frames := 1, cells := 0, slots := 0, locals := 25 } [pr_ (40, 0), pl_ t] (kw_un (hC t0 k1) (hM s κ)) (mP k (pi_ (a_at s t).1) ((a_at s t).2) t0 k1) := by
  have hJ := hL.1
  obtain ⟨⟨a1, a2, a3, a4, a5, a6, a7, a8, a9, a10, a11, a12⟩, hK, hMr⟩ := hJ.A
  exact frM hT (kw_P.toQ (M_at l s κ  t)) (pvI.i _) (fun r h2 h => ⟨h.1, κ, h.2, MI_at hL.2.1 t, hL.2.2.of (ph_at s t) (mEq.rf κ)⟩)
set_option maxHeartbeats 4000000 in
theorem C_cut (l : Launch) {N : Nat} {s : SG} {k : KG} (κ : KG) (hJ : JI N s k) (hn : N ≤ 511) (x : Int32) : kw_Q l yX11_cut cX11_cut 2 (Option.some Jvm.ClassFile.FieldType.int) { frames := 0, cells := 0, slots := 0, locals := 0 } [pr_ (0, 0), pi_ x] (kw_un (hC s k) (hM s κ)) (cP N k (pi_ (a_cut s x).1) ((a_cut s x).2) s κ) := by
  obtain ⟨⟨a1, a2, a3, a4, a5, a6, a7, a8, a9, a10, a11, a12⟩, hK, hMr⟩ := hJ.A
  exact frC (kw_P.toQ (P_cut l s k  x)) (pvI.i _) (fun r h2 h => ⟨h.1, k, h.2, JI.mono (JI_cut hJ x), rfl, rfl⟩)
set_option maxHeartbeats 4000000 in
theorem D_cut (l : Launch) {N : Nat} {s t0 : SG} {k κ k1 : KG} (hL : JI N s k ∧ MI s κ ∧ mR s κ k) (hT : JI (N + 1) t0 k1) (hn : N ≤ 511) (x : Int32) : kw_Q l yX12_cut cX12_cut 2 (Option.some Jvm.ClassFile.FieldType.int) { frames := 1, cells := 0, slots := 0, locals := 25 } [pr_ (40, 0), pi_ x] (kw_un (hC t0 k1) (hM s κ)) (mP k (pi_ (a_cut s x).1) ((a_cut s x).2) t0 k1) := by
  have hJ := hL.1
  obtain ⟨⟨a1, a2, a3, a4, a5, a6, a7, a8, a9, a10, a11, a12⟩, hK, hMr⟩ := hJ.A
  exact frM hT (kw_P.toQ (M_cut l s κ  x)) (pvI.i _) (fun r h2 h => ⟨h.1, κ, h.2, MI_cut hL.2.1 x, hL.2.2.of (ph_cut s x) (mEq.rf κ)⟩)
set_option maxHeartbeats 4000000 in
theorem C_begin (l : Launch) {N : Nat} {s : SG} {k : KG} (κ : KG) (hJ : JI N s k) (hn : N ≤ 511) (x : Int32) : kw_Q l yX11_begin cX11_begin 3 (Option.some Jvm.ClassFile.FieldType.int) { frames := 2, cells := 0, slots := 0, locals := 45 } [pr_ (0, 0), pi_ x] (kw_un (hC s k) (hM s κ)) (cP N k (pi_ (a_begin s x).1) ((a_begin s x).2) s κ) := by
  obtain ⟨⟨a1, a2, a3, a4, a5, a6, a7, a8, a9, a10, a11, a12⟩, hK, hMr⟩ := hJ.A
  exact frC (kw_P.toQ (P_begin l s k  x)) (pvI.i _) (fun r h2 h => ⟨h.1, k, h.2, JI.mono (JI_begin hJ x), rfl, rfl⟩)
set_option maxHeartbeats 4000000 in
theorem D_begin (l : Launch) {N : Nat} {s t0 : SG} {k κ k1 : KG} (hL : JI N s k ∧ MI s κ ∧ mR s κ k) (hT : JI (N + 1) t0 k1) (hn : N ≤ 511) (x : Int32) : kw_Q l yX12_begin cX12_begin 3 (Option.some Jvm.ClassFile.FieldType.int) { frames := 1, cells := 0, slots := 0, locals := 25 } [pr_ (40, 0), pi_ x] (kw_un (hC t0 k1) (hM s κ)) (mP k (pi_ (a_begin s x).1) ((a_begin s x).2) t0 k1) := by
  have hJ := hL.1
  obtain ⟨⟨a1, a2, a3, a4, a5, a6, a7, a8, a9, a10, a11, a12⟩, hK, hMr⟩ := hJ.A
  exact frM hT (kw_P.toQ (M_begin l s κ hL.2.1 x)) (pvI.i _) (fun r h2 h => by obtain ⟨h1, q, e, h3, h4⟩ := h; exact ⟨h1, q, h4, h3, hL.2.2.of (ph_begin s x) e⟩)
set_option maxHeartbeats 4000000 in
theorem C_give (l : Launch) {N : Nat} {s : SG} {k : KG} (κ : KG) (hJ : JI N s k) (hn : N ≤ 511) (x : Int32) : kw_Q l yX11_give cX11_give 3 (Option.some Jvm.ClassFile.FieldType.int) { frames := 1, cells := 0, slots := 0, locals := 22 } [pr_ (0, 0), pi_ x] (kw_un (hC s k) (hM s κ)) (cP N k (pi_ (a_give s x).1) ((a_give s x).2) s κ) := by
  obtain ⟨⟨a1, a2, a3, a4, a5, a6, a7, a8, a9, a10, a11, a12⟩, hK, hMr⟩ := hJ.A
  exact frC (kw_P.toQ (P_give l s k  x)) (pvI.i _) (fun r h2 h => ⟨h.1, k, h.2, JI.mono (JI_give hJ x), rfl, rfl⟩)
set_option maxHeartbeats 4000000 in
theorem D_give (l : Launch) {N : Nat} {s t0 : SG} {k κ k1 : KG} (hL : JI N s k ∧ MI s κ ∧ mR s κ k) (hT : JI (N + 1) t0 k1) (hn : N ≤ 511) (x : Int32) : kw_Q l yX12_give cX12_give 2 (Option.some Jvm.ClassFile.FieldType.int) { frames := 2, cells := 0, slots := 0, locals := 46 } [pr_ (40, 0), pi_ x] (kw_un (hC t0 k1) (hM s κ)) (mP k (pi_ (a_give s x).1) ((a_give s x).2) t0 k1) := by
  have hJ := hL.1
  obtain ⟨⟨a1, a2, a3, a4, a5, a6, a7, a8, a9, a10, a11, a12⟩, hK, hMr⟩ := hJ.A
  exact frM hT (kw_P.toQ (M_give l s κ hL.2.1 x)) (pvI.i _) (fun r h2 h => by obtain ⟨h1, q, e, h3, h4⟩ := h; exact ⟨h1, q, h4, h3, hL.2.2.of (ph_give s x) e⟩)
set_option maxHeartbeats 4000000 in
theorem C_child (l : Launch) {N : Nat} {s : SG} {k : KG} (κ : KG) (hJ : JI N s k) (hn : N ≤ 511) (x b : Int32) : kw_Q l yX11_child cX11_child 4 (Option.some Jvm.ClassFile.FieldType.int) { frames := 2, cells := 0, slots := 0, locals := 44 } [pr_ (0, 0), pi_ x, pi_ b] (kw_un (hC s k) (hM s κ)) (cP N k (pi_ (a_child s x b).1) ((a_child s x b).2) s κ) := by
  obtain ⟨⟨a1, a2, a3, a4, a5, a6, a7, a8, a9, a10, a11, a12⟩, hK, hMr⟩ := hJ.A
  exact frC (kw_P.toQ (P_child l s k a1.1 a5.1 (fun i hi => ⟨(a4 i hi).1, (a4 i hi).2.1⟩) (fun i hi q hq => by have := (a4 i hi).2.2.1 q hq; have := a1.1; omega) x b)) (pvI.i _) (fun r h2 h => ⟨h.1, k, h.2, JI.mono (JI_child hJ x b), rfl, rfl⟩)
set_option maxHeartbeats 4000000 in
theorem D_child (l : Launch) {N : Nat} {s t0 : SG} {k κ k1 : KG} (hL : JI N s k ∧ MI s κ ∧ mR s κ k) (hT : JI (N + 1) t0 k1) (hn : N ≤ 511) (x b : Int32) : kw_Q l yX12_child cX12_child 4 (Option.some Jvm.ClassFile.FieldType.int) { frames := 2, cells := 0, slots := 0, locals := 46 } [pr_ (40, 0), pi_ x, pi_ b] (kw_un (hC t0 k1) (hM s κ)) (mP k (pi_ (a_child s x b).1) ((a_child s x b).2) t0 k1) := by
  have hJ := hL.1
  obtain ⟨⟨a1, a2, a3, a4, a5, a6, a7, a8, a9, a10, a11, a12⟩, hK, hMr⟩ := hJ.A
  exact frM hT (kw_P.toQ (M_child l s κ hL.2.1 a1.1 (fun i hi => (a4 i hi).1) (fun i hi => (a4 i hi).2.1) x b)) (pvI.i _) (fun r h2 h => by obtain ⟨h1, q, e, h3, h4⟩ := h; exact ⟨h1, q, h4, h3, hL.2.2.of (ph_child s x b) e⟩)
set_option maxHeartbeats 4000000 in
theorem C_drop (l : Launch) {N : Nat} {s : SG} {k : KG} (κ : KG) (hJ : JI N s k) (hn : N ≤ 511) (x : Int32) : kw_Q l yX11_drop cX11_drop 2 (Option.some Jvm.ClassFile.FieldType.int) { frames := 3, cells := 0, slots := 0, locals := 63 } [pr_ (0, 0), pi_ x] (kw_un (hC s k) (hM s κ)) (cP N k (pi_ (a_drop s x).1) ((a_drop s x).2) s κ) := by
  obtain ⟨⟨a1, a2, a3, a4, a5, a6, a7, a8, a9, a10, a11, a12⟩, hK, hMr⟩ := hJ.A
  exact frC (kw_P.toQ (P_drop l s k a3.1 (J_nhd hJ) x)) (pvI.i _) (fun r h2 h => ⟨h.1, k, h.2, JI.mono (JI_drop hJ x), rfl, rfl⟩)
set_option maxHeartbeats 4000000 in
theorem D_drop (l : Launch) {N : Nat} {s t0 : SG} {k κ k1 : KG} (hL : JI N s k ∧ MI s κ ∧ mR s κ k) (hT : JI (N + 1) t0 k1) (hn : N ≤ 511) (x : Int32) : kw_Q l yX12_drop cX12_drop 2 (Option.some Jvm.ClassFile.FieldType.int) { frames := 2, cells := 0, slots := 0, locals := 46 } [pr_ (40, 0), pi_ x] (kw_un (hC t0 k1) (hM s κ)) (mP k (pi_ (a_drop s x).1) ((a_drop s x).2) t0 k1) := by
  have hJ := hL.1
  obtain ⟨⟨a1, a2, a3, a4, a5, a6, a7, a8, a9, a10, a11, a12⟩, hK, hMr⟩ := hJ.A
  exact frM hT (kw_P.toQ (M_drop l s κ hL.2.1 a3.1 (J_nhk hJ) x)) (pvI.i _) (fun r h2 h => by obtain ⟨h1, q, e, h3, h4⟩ := h; exact ⟨h1, q, h4, h3, hL.2.2.of (ph_drop s x) e⟩)
set_option maxHeartbeats 4000000 in
theorem C_rule (l : Launch) {N : Nat} {s : SG} {k : KG} (κ : KG) (hJ : JI N s k) (hn : N ≤ 511) (x n : Int32) : kw_Q l yX11_rule cX11_rule 4 (Option.some Jvm.ClassFile.FieldType.int) { frames := 1, cells := 0, slots := 0, locals := 20 } [pr_ (0, 0), pi_ x, pi_ n] (kw_un (hC s k) (hM s κ)) (cP N k (pi_ (a_rule s x n).1) ((a_rule s x n).2) s κ) := by
  obtain ⟨⟨a1, a2, a3, a4, a5, a6, a7, a8, a9, a10, a11, a12⟩, hK, hMr⟩ := hJ.A
  exact frC (kw_P.toQ (P_rule l s k  x n)) (pvI.i _) (fun r h2 h => ⟨h.1, k, h.2, JI.mono (JI_rule hJ x n), rfl, rfl⟩)
set_option maxHeartbeats 4000000 in
theorem D_rule (l : Launch) {N : Nat} {s t0 : SG} {k κ k1 : KG} (hL : JI N s k ∧ MI s κ ∧ mR s κ k) (hT : JI (N + 1) t0 k1) (hn : N ≤ 511) (x n : Int32) : kw_Q l yX12_rule cX12_rule 4 (Option.some Jvm.ClassFile.FieldType.int) { frames := 1, cells := 0, slots := 0, locals := 25 } [pr_ (40, 0), pi_ x, pi_ n] (kw_un (hC t0 k1) (hM s κ)) (mP k (pi_ (a_rule s x n).1) ((a_rule s x n).2) t0 k1) := by
  have hJ := hL.1
  obtain ⟨⟨a1, a2, a3, a4, a5, a6, a7, a8, a9, a10, a11, a12⟩, hK, hMr⟩ := hJ.A
  exact frM hT (kw_P.toQ (M_rule l s κ  x n)) (pvI.i _) (fun r h2 h => ⟨h.1, κ, h.2, MI_rule hL.2.1 x n, hL.2.2.of (ph_rule s x n) (mEq.rf κ)⟩)
set_option maxHeartbeats 4000000 in
theorem C_share (l : Launch) {N : Nat} {s : SG} {k : KG} (κ : KG) (hJ : JI N s k) (hn : N ≤ 511) (x : Int32) : kw_Q l yX11_share cX11_share 3 (Option.some Jvm.ClassFile.FieldType.int) { frames := 0, cells := 0, slots := 0, locals := 0 } [pr_ (0, 0), pi_ x] (kw_un (hC s k) (hM s κ)) (cP N k (pi_ (a_share s x).1) ((a_share s x).2) s κ) := by
  obtain ⟨⟨a1, a2, a3, a4, a5, a6, a7, a8, a9, a10, a11, a12⟩, hK, hMr⟩ := hJ.A
  exact frC (kw_P.toQ (P_share l s k  x)) (pvI.i _) (fun r h2 h => ⟨h.1, k, h.2, JI.mono (JI_share hJ x), rfl, rfl⟩)
set_option maxHeartbeats 4000000 in
theorem D_share (l : Launch) {N : Nat} {s t0 : SG} {k κ k1 : KG} (hL : JI N s k ∧ MI s κ ∧ mR s κ k) (hT : JI (N + 1) t0 k1) (hn : N ≤ 511) (x : Int32) : kw_Q l yX12_share cX12_share 3 (Option.some Jvm.ClassFile.FieldType.int) { frames := 1, cells := 0, slots := 0, locals := 25 } [pr_ (40, 0), pi_ x] (kw_un (hC t0 k1) (hM s κ)) (mP k (pi_ (a_share s x).1) ((a_share s x).2) t0 k1) := by
  have hJ := hL.1
  obtain ⟨⟨a1, a2, a3, a4, a5, a6, a7, a8, a9, a10, a11, a12⟩, hK, hMr⟩ := hJ.A
  exact frM hT (kw_P.toQ (M_share l s κ  x)) (pvI.i _) (fun r h2 h => ⟨h.1, κ, h.2, MI_share hL.2.1 x, hL.2.2.of (ph_share s x) (mEq.rf κ)⟩)
set_option maxHeartbeats 4000000 in
theorem C_take (l : Launch) {N : Nat} {s : SG} {k : KG} (κ : KG) (hJ : JI N s k) (hn : N ≤ 511) (x b : Int32) : kw_Q l yX11_take cX11_take 4 (Option.some Jvm.ClassFile.FieldType.int) { frames := 4, cells := 0, slots := 0, locals := 88 } [pr_ (0, 0), pi_ x, pi_ b] (kw_un (hC s k) (hM s κ)) (cP N k (pi_ (a_take s x b).1) ((a_take s x b).2) s κ) := by
  obtain ⟨⟨a1, a2, a3, a4, a5, a6, a7, a8, a9, a10, a11, a12⟩, hK, hMr⟩ := hJ.A
  exact frC (kw_P.toQ (P_take l s k a1.1 a2 (J_wt hJ hn) a1.2.2.2.2.2 (J_rt hJ hn) a5.1 (fun i hi => (a4 i hi).1) x b)) (pvI.i _) (fun r h2 h => by rw [take0_e a1.1] at h; obtain ⟨h1, q, h3⟩ := h; exact ⟨h1, kB k 0 q, h3, JI_b0 (JI_take hJ x b) q, rfl, rfl⟩)
set_option maxHeartbeats 4000000 in
theorem D_take (l : Launch) {N : Nat} {s t0 : SG} {k κ k1 : KG} (hL : JI N s k ∧ MI s κ ∧ mR s κ k) (hT : JI (N + 1) t0 k1) (hn : N ≤ 511) (x b : Int32) : kw_Q l yX12_take cX12_take 4 (Option.some Jvm.ClassFile.FieldType.int) { frames := 3, cells := 0, slots := 0, locals := 69 } [pr_ (40, 0), pi_ x, pi_ b] (kw_un (hC t0 k1) (hM s κ)) (mP k (pi_ (a_take s x b).1) ((a_take s x b).2) t0 k1) := by
  have hJ := hL.1
  obtain ⟨⟨a1, a2, a3, a4, a5, a6, a7, a8, a9, a10, a11, a12⟩, hK, hMr⟩ := hJ.A
  exact frM hT (kw_P.toQ (M_take l s κ hL.2.1 a1.1 a2 (J_wt hJ hn) a1.2.2.2.2.2 (J_rt hJ hn) (fun i hi => (a4 i hi).1) x b)) (pvI.i _) (fun r h2 h => by obtain ⟨h1, q, e, h3, h4⟩ := h; exact ⟨h1, q, h4, h3, hL.2.2.of (ph_take s x b) e⟩)
set_option maxHeartbeats 4000000 in
theorem C_save (l : Launch) {N : Nat} {s : SG} {k : KG} (κ : KG) (hJ : JI N s k) (hn : N ≤ 511) (x : Int32) (key : Int64) (w : Int32) : kw_Q l yX11_save cX11_save 7 (Option.some Jvm.ClassFile.FieldType.int) { frames := 5, cells := 3, slots := 19, locals := 115 } [pr_ (0, 0), pi_ x, pl_ key, pi_ w] (kw_un (hC s k) (hM s κ)) (cP N k (pi_ (a_save s x key w).1) ((a_save s x key w).2) s κ) := by
  obtain ⟨⟨a1, a2, a3, a4, a5, a6, a7, a8, a9, a10, a11, a12⟩, hK, hMr⟩ := hJ.A
  exact frC (P_save l s k a1.1 a2 (J_wt hJ hn) a1.2.2.2.2.2 (J_rt hJ hn) a1.2.1 a3.1 (J_nh hJ).2.1 a1.2.2.2.1 (Nat.le_trans (full_le a12 hK (-1)) a1.2.2.2.1) a5.1 (fun i hi => ⟨(a4 i hi).1, (a4 i hi).2.1⟩) x key w) (pvI.i _) (fun r h2 h => by
    obtain ⟨h1, q, h3⟩ := h
    obtain ⟨e1, u, e2⟩ := save0_e hJ x key w
    have e3 := ck_save_x s k x key w
    exact ⟨by rw [h1, e1], kB (ck_save s k x key w) 0 q, by rw [h3, e2]; rfl, JI_b0 (JI_save hJ x key w) q, by show (ck_save s k x key w).1 0 = _; rw [e3], by show (ck_save s k x key w).1 1 = _; rw [e3]⟩)
set_option maxHeartbeats 4000000 in
theorem D_save (l : Launch) {N : Nat} {s t0 : SG} {k κ k1 : KG} (hL : JI N s k ∧ MI s κ ∧ mR s κ k) (hT : JI (N + 1) t0 k1) (hn : N ≤ 511) (x : Int32) (key : Int64) (w : Int32) : kw_Q l yX12_save cX12_save 7 (Option.some Jvm.ClassFile.FieldType.int) { frames := 3, cells := 0, slots := 0, locals := 72 } [pr_ (40, 0), pi_ x, pl_ key, pi_ w] (kw_un (hC t0 k1) (hM s κ)) (mP k (pi_ (a_save s x key w).1) ((a_save s x key w).2) t0 k1) := by
  have hJ := hL.1
  obtain ⟨⟨a1, a2, a3, a4, a5, a6, a7, a8, a9, a10, a11, a12⟩, hK, hMr⟩ := hJ.A
  exact frM hT (kw_P.toQ (M_save l s κ hL.2.1 a1.1 a2 (J_wt hJ hn) a1.2.2.2.2.2 (J_rt hJ hn) a1.2.1 a1.2.2.2.1 (fun i hi => Nat.le_trans (a12.2.2.2 i hi).1 a1.2.2.2.1) (J_nh hJ).2.1 (fun i hi => (a4 i hi).1) (fun i hi => (a4 i hi).2.1) x key w)) (pvI.i _) (fun r h2 h => by obtain ⟨h1, q, e, h3, h4⟩ := h; exact ⟨h1, q, h4, h3, hL.2.2.of (ph_save s x key w) e⟩)
set_option maxHeartbeats 4000000 in
theorem C_commit (l : Launch) {N : Nat} {s : SG} {k : KG} (κ : KG) (hJ : JI N s k) (hn : N ≤ 511) (x g : Int32) : kw_Q l yX11_commit cX11_commit 5 (Option.some Jvm.ClassFile.FieldType.int) { frames := 2, cells := 2, slots := 12, locals := 62 } [pr_ (0, 0), pi_ x, pi_ g] (kw_un (hC s k) (hM s κ)) (cP N k (pi_ (a_commit s x g).1) ((a_commit s x g).2) s κ) := by
  obtain ⟨⟨a1, a2, a3, a4, a5, a6, a7, a8, a9, a10, a11, a12⟩, hK, hMr⟩ := hJ.A
  exact frC (P_commit l s k a1.1 a1.2.1 a3.1 (J_nh hJ).2.2 (fun i hi => (a4 i hi).1) x g) (pvI.i _) (fun r h2 h => ⟨h.1, k, h.2, JI.mono (JI_commit hJ x g), rfl, rfl⟩)
set_option maxHeartbeats 4000000 in
theorem D_commit (l : Launch) {N : Nat} {s t0 : SG} {k κ k1 : KG} (hL : JI N s k ∧ MI s κ ∧ mR s κ k) (hT : JI (N + 1) t0 k1) (hn : N ≤ 511) (x g : Int32) : kw_Q l yX12_commit cX12_commit 5 (Option.some Jvm.ClassFile.FieldType.int) { frames := 2, cells := 0, slots := 0, locals := 46 } [pr_ (40, 0), pi_ x, pi_ g] (kw_un (hC t0 k1) (hM s κ)) (mP k (pi_ (a_commit s x g).1) ((a_commit s x g).2) t0 k1) := by
  have hJ := hL.1
  obtain ⟨⟨a1, a2, a3, a4, a5, a6, a7, a8, a9, a10, a11, a12⟩, hK, hMr⟩ := hJ.A
  exact frM hT (kw_P.toQ (M_commit l s κ hL.2.1 a3.1 (fun j hj => (a3.2 j hj).1) a6.2.2.2.1 (J_nh hJ).2.2 (fun i hi => (a4 i hi).1) x g)) (pvI.i _) (fun r h2 h => by obtain ⟨h1, q, e, h3, h4⟩ := h; exact ⟨h1, q, h4, h3, hL.2.2.of (ph_commit s x g) e⟩)
set_option maxHeartbeats 4000000 in
theorem C_count (l : Launch) {N : Nat} {s : SG} {k : KG} (κ : KG) (hJ : JI N s k) (hn : N ≤ 511) (x : Int32) : kw_Q l yX11_count cX11_count 2 (Option.some Jvm.ClassFile.FieldType.int) { frames := 1, cells := 0, slots := 0, locals := 22 } [pr_ (0, 0), pi_ x] (kw_un (hC s k) (hM s κ)) (cP N k (pi_ (a_count s x)) (s) s κ) := by
  obtain ⟨⟨a1, a2, a3, a4, a5, a6, a7, a8, a9, a10, a11, a12⟩, hK, hMr⟩ := hJ.A
  exact frC (kw_P.toQ (P_count l s k a1.1 a3.1 (J_wt hJ hn) a6.2.2.1 a7 x)) (pvI.i _) (fun r h2 h => ⟨h.1, k, h.2, hJ.mono, rfl, rfl⟩)
set_option maxHeartbeats 4000000 in
theorem D_count (l : Launch) {N : Nat} {s t0 : SG} {k κ k1 : KG} (hL : JI N s k ∧ MI s κ ∧ mR s κ k) (hT : JI (N + 1) t0 k1) (hn : N ≤ 511) (x : Int32) : kw_Q l yX12_count cX12_count 2 (Option.some Jvm.ClassFile.FieldType.int) { frames := 1, cells := 0, slots := 0, locals := 23 } [pr_ (40, 0), pi_ x] (kw_un (hC t0 k1) (hM s κ)) (mP k (pi_ (a_count s x)) (s) t0 k1) := by
  have hJ := hL.1
  obtain ⟨⟨a1, a2, a3, a4, a5, a6, a7, a8, a9, a10, a11, a12⟩, hK, hMr⟩ := hJ.A
  exact frM hT (kw_P.toQ (M_count l s κ a1.1 a3.1 a1.2.1 (J_wt hJ hn) (J_wt0 hJ) x)) (pvI.i _) (fun r h2 h => ⟨h.1, κ, h.2, hL.2.1, hL.2.2⟩)
set_option maxHeartbeats 4000000 in
theorem C_open (l : Launch) {N : Nat} {s : SG} {k : KG} (κ : KG) (hJ : JI N s k) (hn : N ≤ 511) : kw_Q l yX11_open cX11_open 1 (Option.some Jvm.ClassFile.FieldType.int) { frames := 1, cells := 0, slots := 0, locals := 22 } [pr_ (0, 0)] (kw_un (hC s k) (hM s κ)) (cP N k (pi_ (a_open s).1) ((a_open s).2) s κ) := by
  obtain ⟨⟨a1, a2, a3, a4, a5, a6, a7, a8, a9, a10, a11, a12⟩, hK, hMr⟩ := hJ.A
  exact frC (kw_P.toQ (P_open l s k a1.1 (J_wt hJ hn) )) (pvI.i _) (fun r h2 h => ⟨h.1, k, h.2, JI.mono (JI_open hJ), rfl, rfl⟩)
set_option maxHeartbeats 4000000 in
theorem D_open (l : Launch) {N : Nat} {s t0 : SG} {k κ k1 : KG} (hL : JI N s k ∧ MI s κ ∧ mR s κ k) (hT : JI (N + 1) t0 k1) (hn : N ≤ 511) : kw_Q l yX12_open cX12_open 1 (Option.some Jvm.ClassFile.FieldType.int) { frames := 2, cells := 0, slots := 0, locals := 44 } [pr_ (40, 0)] (kw_un (hC t0 k1) (hM s κ)) (mP k (pi_ (a_open s).1) ((a_open s).2) t0 k1) := by
  have hJ := hL.1
  obtain ⟨⟨a1, a2, a3, a4, a5, a6, a7, a8, a9, a10, a11, a12⟩, hK, hMr⟩ := hJ.A
  exact frM hT (kw_P.toQ (M_open l s κ a1.1 a3.1 a1.2.1 (J_wt hJ hn) (J_wt0 hJ) )) (pvI.i _) (fun r h2 h => ⟨h.1, κ, h.2, MI_open hL.2.1, hL.2.2.of (ph_open s) (mEq.rf κ)⟩)
set_option maxHeartbeats 4000000 in
theorem C_block (l : Launch) {N : Nat} {s : SG} {k : KG} (κ : KG) (hJ : JI N s k) (hn : N ≤ 511) (x w : Int32) : kw_Q l yX11_block cX11_block 4 (Option.some Jvm.ClassFile.FieldType.int) { frames := 2, cells := 0, slots := 0, locals := 45 } [pr_ (0, 0), pi_ x, pi_ w] (kw_un (hC s k) (hM s κ)) (cP N k (pi_ (a_block s x w)) (s) s κ) := by
  obtain ⟨⟨a1, a2, a3, a4, a5, a6, a7, a8, a9, a10, a11, a12⟩, hK, hMr⟩ := hJ.A
  exact frC (kw_P.toQ (P_block l s k a1.1 a1.2.2.2.2.2 (fun i hi => (a4 i hi).1) (fun j hj => (a2 j hj).1) x w)) (pvI.i _) (fun r h2 h => ⟨h.1, k, h.2, hJ.mono, rfl, rfl⟩)
set_option maxHeartbeats 4000000 in
theorem D_block (l : Launch) {N : Nat} {s t0 : SG} {k κ k1 : KG} (hL : JI N s k ∧ MI s κ ∧ mR s κ k) (hT : JI (N + 1) t0 k1) (hn : N ≤ 511) (x w : Int32) : kw_Q l yX12_block cX12_block 3 (Option.some Jvm.ClassFile.FieldType.int) { frames := 2, cells := 0, slots := 0, locals := 47 } [pr_ (40, 0), pi_ x, pi_ w] (kw_un (hC t0 k1) (hM s κ)) (mP k (pi_ (a_block s x w)) (s) t0 k1) := by
  have hJ := hL.1
  obtain ⟨⟨a1, a2, a3, a4, a5, a6, a7, a8, a9, a10, a11, a12⟩, hK, hMr⟩ := hJ.A
  exact frM hT (kw_P.toQ (M_block l s κ hL.2.1 a1.1 a1.2.2.2.2.2 (fun i hi => (a4 i hi).1) (fun j hj => (a2 j hj).1) (J_wt0 hJ) x w)) (pvI.i _) (fun r h2 h => ⟨h.1, κ, h.2, hL.2.1, hL.2.2⟩)
set_option maxHeartbeats 4000000 in
theorem C_key (l : Launch) {N : Nat} {s : SG} {k : KG} (κ : KG) (hJ : JI N s k) (hn : N ≤ 511) (x : Int32) : kw_Q l yX11_key cX11_key 2 (Option.some Jvm.ClassFile.FieldType.long) { frames := 0, cells := 0, slots := 0, locals := 0 } [pr_ (0, 0), pi_ x] (kw_un (hC s k) (hM s κ)) (cP N k (pl_ (a_key s x)) (s) s κ) := by
  obtain ⟨⟨a1, a2, a3, a4, a5, a6, a7, a8, a9, a10, a11, a12⟩, hK, hMr⟩ := hJ.A
  exact frC (kw_P.toQ (P_key l s k a1.1 x)) (pvI.l _) (fun r h2 h => ⟨h.1, k, h.2, hJ.mono, rfl, rfl⟩)
set_option maxHeartbeats 4000000 in
theorem D_key (l : Launch) {N : Nat} {s t0 : SG} {k κ k1 : KG} (hL : JI N s k ∧ MI s κ ∧ mR s κ k) (hT : JI (N + 1) t0 k1) (hn : N ≤ 511) (x : Int32) : kw_Q l yX12_key cX12_key 2 (Option.some Jvm.ClassFile.FieldType.long) { frames := 1, cells := 0, slots := 0, locals := 25 } [pr_ (40, 0), pi_ x] (kw_un (hC t0 k1) (hM s κ)) (mP k (pl_ (a_key s x)) (s) t0 k1) := by
  have hJ := hL.1
  obtain ⟨⟨a1, a2, a3, a4, a5, a6, a7, a8, a9, a10, a11, a12⟩, hK, hMr⟩ := hJ.A
  exact frM hT (kw_P.toQ (M_key l s κ a1.1 x)) (pvI.l _) (fun r h2 h => ⟨h.1, κ, h.2, hL.2.1, hL.2.2⟩)
set_option maxHeartbeats 4000000 in
theorem C_pack (l : Launch) {N : Nat} {s : SG} {k : KG} (κ : KG) (hJ : JI N s k) (hn : N ≤ 511) (x w : Int32) : kw_Q l yX11_pack cX11_pack 4 (Option.some Jvm.ClassFile.FieldType.int) { frames := 2, cells := 0, slots := 0, locals := 45 } [pr_ (0, 0), pi_ x, pi_ w] (kw_un (hC s k) (hM s κ)) (cP N k (pi_ (a_pack s x w)) (s) s κ) := by
  obtain ⟨⟨a1, a2, a3, a4, a5, a6, a7, a8, a9, a10, a11, a12⟩, hK, hMr⟩ := hJ.A
  exact frC (kw_P.toQ (P_pack l s k a1.1 a1.2.1 (fun j hj => (hK j hj).1) (fun j hj => (hK j hj).2) x w)) (pvI.i _) (fun r h2 h => ⟨h.1, k, h.2, hJ.mono, rfl, rfl⟩)
set_option maxHeartbeats 4000000 in
theorem D_pack (l : Launch) {N : Nat} {s t0 : SG} {k κ k1 : KG} (hL : JI N s k ∧ MI s κ ∧ mR s κ k) (hT : JI (N + 1) t0 k1) (hn : N ≤ 511) (x w : Int32) : kw_Q l yX12_pack cX12_pack 3 (Option.some Jvm.ClassFile.FieldType.int) { frames := 1, cells := 0, slots := 0, locals := 25 } [pr_ (40, 0), pi_ x, pi_ w] (kw_un (hC t0 k1) (hM s κ)) (mP k (pi_ (a_pack s x w)) (s) t0 k1) := by
  have hJ := hL.1
  obtain ⟨⟨a1, a2, a3, a4, a5, a6, a7, a8, a9, a10, a11, a12⟩, hK, hMr⟩ := hJ.A
  exact frM hT (kw_P.toQ (M_pack l s κ a1.1 a1.2.1 (fun p hp => (a12.2.2.2 p hp).2) x w)) (pvI.i _) (fun r h2 h => ⟨h.1, κ, h.2, hL.2.1, hL.2.2⟩)
set_option maxHeartbeats 4000000 in
theorem C_snapshot (l : Launch) {N : Nat} {s : SG} {k : KG} (κ : KG) (hJ : JI N s k) (hn : N ≤ 511) (x w : Int32) : kw_Q l yX11_snapshot cX11_snapshot 4 (Option.some Jvm.ClassFile.FieldType.int) { frames := 1, cells := 0, slots := 0, locals := 21 } [pr_ (0, 0), pi_ x, pi_ w] (kw_un (hC s k) (hM s κ)) (cP N k (pi_ (a_snapshot s x w)) (s) s κ) := by
  obtain ⟨⟨a1, a2, a3, a4, a5, a6, a7, a8, a9, a10, a11, a12⟩, hK, hMr⟩ := hJ.A
  exact frC (kw_P.toQ (P_snapshot l s k a3.1 (fun j hj => (a3.2 j hj).1) x w)) (pvI.i _) (fun r h2 h => ⟨h.1, k, h.2, hJ.mono, rfl, rfl⟩)
set_option maxHeartbeats 4000000 in
theorem D_snapshot (l : Launch) {N : Nat} {s t0 : SG} {k κ k1 : KG} (hL : JI N s k ∧ MI s κ ∧ mR s κ k) (hT : JI (N + 1) t0 k1) (hn : N ≤ 511) (x w : Int32) : kw_Q l yX12_snapshot cX12_snapshot 3 (Option.some Jvm.ClassFile.FieldType.int) { frames := 2, cells := 0, slots := 0, locals := 46 } [pr_ (40, 0), pi_ x, pi_ w] (kw_un (hC t0 k1) (hM s κ)) (mP k (pi_ (a_snapshot s x w)) (s) t0 k1) := by
  have hJ := hL.1
  obtain ⟨⟨a1, a2, a3, a4, a5, a6, a7, a8, a9, a10, a11, a12⟩, hK, hMr⟩ := hJ.A
  exact frM hT (kw_P.toQ (M_snapshot l s κ hL.2.1 a3.1 (fun j hj => (a3.2 j hj).1) x w)) (pvI.i _) (fun r h2 h => ⟨h.1, κ, h.2, hL.2.1, hL.2.2⟩)
set_option maxHeartbeats 4000000 in
theorem C_time (l : Launch) {N : Nat} {s : SG} {k : KG} (κ : KG) (hJ : JI N s k) (hn : N ≤ 511) (x : Int32) : kw_Q l yX11_time cX11_time 2 (Option.some Jvm.ClassFile.FieldType.long) { frames := 1, cells := 0, slots := 0, locals := 21 } [pr_ (0, 0), pi_ x] (kw_un (hC s k) (hM s κ)) (cP N k (pl_ (a_time s x)) (s) s κ) := by
  obtain ⟨⟨a1, a2, a3, a4, a5, a6, a7, a8, a9, a10, a11, a12⟩, hK, hMr⟩ := hJ.A
  exact frC (kw_P.toQ (P_time l s k a3.1 x)) (pvI.l _) (fun r h2 h => ⟨h.1, k, h.2, hJ.mono, rfl, rfl⟩)
set_option maxHeartbeats 4000000 in
theorem D_time (l : Launch) {N : Nat} {s t0 : SG} {k κ k1 : KG} (hL : JI N s k ∧ MI s κ ∧ mR s κ k) (hT : JI (N + 1) t0 k1) (hn : N ≤ 511) (x : Int32) : kw_Q l yX12_time cX12_time 2 (Option.some Jvm.ClassFile.FieldType.long) { frames := 2, cells := 0, slots := 0, locals := 46 } [pr_ (40, 0), pi_ x] (kw_un (hC t0 k1) (hM s κ)) (mP k (pl_ (a_time s x)) (s) t0 k1) := by
  have hJ := hL.1
  obtain ⟨⟨a1, a2, a3, a4, a5, a6, a7, a8, a9, a10, a11, a12⟩, hK, hMr⟩ := hJ.A
  exact frM hT (kw_P.toQ (M_time l s κ a3.1 x)) (pvI.l _) (fun r h2 h => ⟨h.1, κ, h.2, hL.2.1, hL.2.2⟩)
set_option maxHeartbeats 4000000 in
theorem C_saver (l : Launch) {N : Nat} {s : SG} {k : KG} (κ : KG) (hJ : JI N s k) (hn : N ≤ 511) (x w : Int32) : kw_Q l yX11_saver cX11_saver 4 (Option.some Jvm.ClassFile.FieldType.int) { frames := 1, cells := 0, slots := 0, locals := 22 } [pr_ (0, 0), pi_ x, pi_ w] (kw_un (hC s k) (hM s κ)) (cP N k (pi_ (a_saver s x w)) (s) s κ) := by
  obtain ⟨⟨a1, a2, a3, a4, a5, a6, a7, a8, a9, a10, a11, a12⟩, hK, hMr⟩ := hJ.A
  exact frC (kw_P.toQ (P_saver l s k (fun i hi => (a4 i hi).1) x w)) (pvI.i _) (fun r h2 h => ⟨h.1, k, h.2, hJ.mono, rfl, rfl⟩)
set_option maxHeartbeats 4000000 in
theorem D_saver (l : Launch) {N : Nat} {s t0 : SG} {k κ k1 : KG} (hL : JI N s k ∧ MI s κ ∧ mR s κ k) (hT : JI (N + 1) t0 k1) (hn : N ≤ 511) (x w : Int32) : kw_Q l yX12_saver cX12_saver 3 (Option.some Jvm.ClassFile.FieldType.int) { frames := 2, cells := 0, slots := 0, locals := 46 } [pr_ (40, 0), pi_ x, pi_ w] (kw_un (hC t0 k1) (hM s κ)) (mP k (pi_ (a_saver s x w)) (s) t0 k1) := by
  have hJ := hL.1
  obtain ⟨⟨a1, a2, a3, a4, a5, a6, a7, a8, a9, a10, a11, a12⟩, hK, hMr⟩ := hJ.A
  exact frM hT (kw_P.toQ (M_saver l s κ hL.2.1 (fun i hi => (a4 i hi).1) x w)) (pvI.i _) (fun r h2 h => ⟨h.1, κ, h.2, hL.2.1, hL.2.2⟩)
set_option maxHeartbeats 4000000 in
theorem C_swept (l : Launch) {N : Nat} {s : SG} {k : KG} (κ : KG) (hJ : JI N s k) (hn : N ≤ 511) (w : Int32) : kw_Q l yX11_swept cX11_swept 3 (Option.some Jvm.ClassFile.FieldType.int) { frames := 0, cells := 0, slots := 0, locals := 0 } [pr_ (0, 0), pi_ w] (kw_un (hC s k) (hM s κ)) (cP N k (pi_ (a_swept (sN s 14 (cl_ (nx_ k))) w)) (s) s κ) := by
  obtain ⟨⟨a1, a2, a3, a4, a5, a6, a7, a8, a9, a10, a11, a12⟩, hK, hMr⟩ := hJ.A
  exact frC (kw_P.toQ ((show kw_F l yX11_swept cX11_swept 3 (Option.some Jvm.ClassFile.FieldType.int) { frames := 0, cells := 0, slots := 0, locals := 0 } [pr_ (0, 0), pi_ w] (hC s k) (some (pi_ (a_swept (sN s 14 (cl_ (nx_ k))) w))) (hC s k) from P_swept l (sN s 14 (cl_ (nx_ k))) k a1.2.2.2.2.2 a9.1 a9.2.2.2 (fun q => J_nx (s := s) hJ q) w))) (pvI.i _) (fun r h2 h => ⟨h.1, k, h.2, hJ.mono, rfl, rfl⟩)
set_option maxHeartbeats 4000000 in
theorem D_swept (l : Launch) {N : Nat} {s t0 : SG} {k κ k1 : KG} (hL : JI N s k ∧ MI s κ ∧ mR s κ k) (hT : JI (N + 1) t0 k1) (hn : N ≤ 511) (w : Int32) : kw_Q l yX12_swept cX12_swept 2 (Option.some Jvm.ClassFile.FieldType.int) { frames := 1, cells := 0, slots := 0, locals := 25 } [pr_ (40, 0), pi_ w] (kw_un (hC t0 k1) (hM s κ)) (mP k (pi_ (a_swept (sN s 14 (cl_ (nx_ k))) w)) (s) t0 k1) := by
  have hJ := hL.1
  obtain ⟨⟨a1, a2, a3, a4, a5, a6, a7, a8, a9, a10, a11, a12⟩, hK, hMr⟩ := hJ.A
  exact frM hT (kw_P.toQ ((show kw_F l yX12_swept cX12_swept 2 (Option.some Jvm.ClassFile.FieldType.int) { frames := 1, cells := 0, slots := 0, locals := 25 } [pr_ (40, 0), pi_ w] (hM s κ) (some (pi_ (a_swept (sN s 14 (cl_ (nx_ k))) w))) (hM s κ) from M_swept l (sN s 14 (cl_ (nx_ k))) κ a1.2.2.2.2.2 a9.1 (fun q => (hL.2.2.1 q).trans (J_nx (s := s) hJ q)) w))) (pvI.i _) (fun r h2 h => ⟨h.1, κ, h.2, hL.2.1, hL.2.2⟩)
set_option maxHeartbeats 4000000 in
theorem C_sweep (l : Launch) {N : Nat} {s : SG} {k : KG} (κ : KG) (hJ : JI N s k) (hn : N ≤ 511) : kw_Q l yX11_sweep cX11_sweep 2 (Option.some Jvm.ClassFile.FieldType.int) { frames := 3, cells := 0, slots := 0, locals := 65 } [pr_ (0, 0)] (kw_un (hC s k) (hM s κ)) (cP N (c_sweep s k).2.2 (pi_ (c_sweep s k).1) ((c_sweep s k).2.1) s κ) := by
  obtain ⟨⟨a1, a2, a3, a4, a5, a6, a7, a8, a9, a10, a11, a12⟩, hK, hMr⟩ := hJ.A
  exact frC (kw_P.toQ (P_sweep l s k a1.1 a1.2.2.2.2.2 a3.1 a6.2.2.2.1 (fun j hj => (a3.2 j hj).1) (fun i hi => (a4 i hi).1) )) (pvI.i _) (fun r h2 h => ⟨h.1, _, h.2, JI_sweep hJ, rfl, rfl⟩)
set_option maxHeartbeats 4000000 in
theorem D_sweep (l : Launch) {N : Nat} {s t0 : SG} {k κ k1 : KG} (hL : JI N s k ∧ MI s κ ∧ mR s κ k) (hT : JI (N + 1) t0 k1) (hn : N ≤ 511) : kw_Q l yX12_sweep cX12_sweep 3 (Option.some Jvm.ClassFile.FieldType.int) { frames := 1, cells := 0, slots := 0, locals := 21 } [pr_ (40, 0)] (kw_un (hC t0 k1) (hM s κ)) (mP (c_sweep s k).2.2 (pi_ (c_sweep s k).1) ((c_sweep s k).2.1) t0 k1) := by
  have hJ := hL.1
  obtain ⟨⟨a1, a2, a3, a4, a5, a6, a7, a8, a9, a10, a11, a12⟩, hK, hMr⟩ := hJ.A
  exact frM hT (kw_P.toQ (M_sweep l s κ hL.2.1 a1.1 a1.2.2.2.2.2 a3.1 a6.2.2.2.1 (fun j hj => (a3.2 j hj).1) (fun i hi => (a4 i hi).1) a8.2.2 )) (pvI.i _) (fun r h2 h => by obtain ⟨h1, h3, h4⟩ := h; obtain ⟨e1, e2, e3⟩ := R_sweep hL.2.2; rw [e1] at h1; rw [e2] at h3 h4; exact ⟨h1, _, h4, h3, e3⟩)
set_option maxHeartbeats 4000000 in
theorem C_step (l : Launch) {N : Nat} {s : SG} {k : KG} (κ : KG) (hJ : JI N s k) (hn : N ≤ 511) (x : Int32) : kw_Q l yX11_step cX11_step 3 (Option.some Jvm.ClassFile.FieldType.int) { frames := 7, cells := 40, slots := 120, locals := 149 } [pr_ (0, 0), pi_ x] (kw_un (hC s k) (hM s κ)) (cP N (c_step s k x).2.2 (pi_ (c_step s k x).1) ((c_step s k x).2.1) s κ) := by
  obtain ⟨⟨a1, a2, a3, a4, a5, a6, a7, a8, a9, a10, a11, a12⟩, hK, hMr⟩ := hJ.A
  exact frC (P_step l (JI N) (fun t κ h h0 => (adv_J hn h h0).1) (fun t κ h h0 => (adv_J hn h h0).2.1) (fun t κ κ2 e h => JI_kEq h e) s k hJ a1.2.2.2.2.2 a1.2.1 (fun t κ h => h.A.1.1.2.2.2.2.2) x) (pvI.i _) (fun r h2 h => by obtain ⟨h1, q, e, h3⟩ := h; exact ⟨h1, q, h3, JI_kEq (JI_step hn hJ x).mono e, e.1, e.2.1⟩)
set_option maxHeartbeats 4000000 in
theorem D_step (l : Launch) {N : Nat} {s t0 : SG} {k κ k1 : KG} (hL : JI N s k ∧ MI s κ ∧ mR s κ k) (hT : JI (N + 1) t0 k1) (hn : N ≤ 511) (x : Int32) : kw_Q l yX12_step cX12_step 4 (Option.some Jvm.ClassFile.FieldType.int) { frames := 2, cells := 0, slots := 0, locals := 56 } [pr_ (40, 0), pi_ x] (kw_un (hC t0 k1) (hM s κ)) (mP (c_step s k x).2.2 (pi_ (c_step s k x).1) ((c_step s k x).2.1) t0 k1) := by
  have hJ := hL.1
  obtain ⟨⟨a1, a2, a3, a4, a5, a6, a7, a8, a9, a10, a11, a12⟩, hK, hMr⟩ := hJ.A
  exact frM hT (kw_P.toQ (M_step l N hn s k κ hJ hL.2.1 hL.2.2 x)) (pvI.i _) (fun r h2 h => by obtain ⟨h1, q, h3, h4, h5⟩ := h; exact ⟨h1, q, h5, h3, h4⟩)
set_option maxHeartbeats 4000000 in
theorem C_follow (l : Launch) {N : Nat} {s : SG} {k : KG} (κ : KG) (hJ : JI N s k) (hn : N ≤ 511) (x n : Int32) : kw_Q l yX11_follow cX11_follow 3 (Option.some Jvm.ClassFile.FieldType.int) { frames := 2, cells := 0, slots := 0, locals := 47 } [pr_ (0, 0), pi_ x, pi_ n] (kw_un (hC s k) (hM s κ)) (cP N k (pi_ (a_follow s x n).1) ((a_follow s x n).2) s κ) := by
  obtain ⟨⟨a1, a2, a3, a4, a5, a6, a7, a8, a9, a10, a11, a12⟩, hK, hMr⟩ := hJ.A
  exact frC (kw_P.toQ (P_follow l s k a6.1 (fun m hm => (hMr m hm).1) x n)) (pvI.i _) (fun r h2 h => by
    obtain ⟨h1, h3⟩ := h
    refine ⟨h1, (if x < 0 ∨ 2 ≤ x then k else if n < 0 ∨ 500 < n then k else kRep s k (cl_ x) (cl_ n)), h3.trans ?_, ?_, ?_, ?_⟩
    · unfold a_follow; repeat' split
      all_goals rfl
    · unfold a_follow
      split
      · exact hJ.mono
      · split
        · exact hJ.mono
        · rename_i c1 c2
          exact (JI_follow hJ (i := cl_ x) (x := cl_ n) (by have := cl_b (x := x) (a := 0) (b := 1) (fun q => c1 (Or.inl q)) (fun q => c1 (Or.inr (by rw [Int32.lt_iff_toInt_lt] at q; rw [Int32.le_iff_toInt_le]; exact q))) (by decide) (by decide); omega)).mono
    · repeat' split
      all_goals rfl
    · repeat' split
      all_goals rfl)
set_option maxHeartbeats 4000000 in
theorem D_follow (l : Launch) {N : Nat} {s t0 : SG} {k κ k1 : KG} (hL : JI N s k ∧ MI s κ ∧ mR s κ k) (hT : JI (N + 1) t0 k1) (hn : N ≤ 511) (x n : Int32) : kw_Q l yX12_follow cX12_follow 3 (Option.some Jvm.ClassFile.FieldType.int) { frames := 1, cells := 0, slots := 0, locals := 25 } [pr_ (40, 0), pi_ x, pi_ n] (kw_un (hC t0 k1) (hM s κ)) (mP k (pi_ (a_follow s x n).1) ((a_follow s x n).2) t0 k1) := by
  have hJ := hL.1
  obtain ⟨⟨a1, a2, a3, a4, a5, a6, a7, a8, a9, a10, a11, a12⟩, hK, hMr⟩ := hJ.A
  exact frM hT (kw_P.toQ (M_follow l s κ a6.1.1 (fun m hm => (hMr m hm).1.2) x n)) (pvI.i _) (fun r h2 h => ⟨h.1, κ, h.2, MI_follow hL.2.1 x n, hL.2.2.of (ph_follow s x n) (mEq.rf κ)⟩)
set_option maxHeartbeats 4000000 in
theorem C_has (l : Launch) {N : Nat} {s : SG} {k : KG} (κ : KG) (hJ : JI N s k) (hn : N ≤ 511) (x b : Int32) : kw_Q l yX11_has cX11_has 3 (Option.some Jvm.ClassFile.FieldType.boolean) { frames := 0, cells := 0, slots := 0, locals := 0 } [pr_ (0, 0), pi_ x, pi_ b] (kw_un (hC s k) (hM s κ)) (cP N k (pi_ (b2 (a_has s x b))) (s) s κ) := by
  obtain ⟨⟨a1, a2, a3, a4, a5, a6, a7, a8, a9, a10, a11, a12⟩, hK, hMr⟩ := hJ.A
  exact frC (kw_P.toQ (P_has l s k (fun m hm => (hMr m hm).2.1) x b)) (pvI.i _) (fun r h2 h => ⟨h.1, k, h.2, hJ.mono, rfl, rfl⟩)
set_option maxHeartbeats 4000000 in
theorem D_has (l : Launch) {N : Nat} {s t0 : SG} {k κ k1 : KG} (hL : JI N s k ∧ MI s κ ∧ mR s κ k) (hT : JI (N + 1) t0 k1) (hn : N ≤ 511) (x b : Int32) : kw_Q l yX12_has cX12_has 3 (Option.some Jvm.ClassFile.FieldType.boolean) { frames := 1, cells := 0, slots := 0, locals := 25 } [pr_ (40, 0), pi_ x, pi_ b] (kw_un (hC t0 k1) (hM s κ)) (mP k (pi_ (b2 (a_has s x b))) (s) t0 k1) := by
  have hJ := hL.1
  obtain ⟨⟨a1, a2, a3, a4, a5, a6, a7, a8, a9, a10, a11, a12⟩, hK, hMr⟩ := hJ.A
  exact frM hT (kw_P.toQ (M_has l s κ a1.1 a6.1 (fun m hm => (hMr m hm).1.2) (fun m hm => (mir_out hJ hm).1) x b)) (pvI.i _) (fun r h2 h => ⟨h.1, κ, h.2, hL.2.1, hL.2.2⟩)
set_option maxHeartbeats 4000000 in
theorem C_mirrored (l : Launch) {N : Nat} {s : SG} {k : KG} (κ : KG) (hJ : JI N s k) (hn : N ≤ 511) (x w : Int32) : kw_Q l yX11_mirrored cX11_mirrored 4 (Option.some Jvm.ClassFile.FieldType.int) { frames := 4, cells := 0, slots := 0, locals := 88 } [pr_ (0, 0), pi_ x, pi_ w] (kw_un (hC s k) (hM s κ)) (cP N k (pi_ (a_mirrored s x w)) (s) s κ) := by
  obtain ⟨⟨a1, a2, a3, a4, a5, a6, a7, a8, a9, a10, a11, a12⟩, hK, hMr⟩ := hJ.A
  exact frC (kw_P.toQ (P_mirrored l s k a1.1 a2 a3 x w)) (pvI.i _) (fun r h2 h => by rw [mirrored_e hJ] at h; obtain ⟨h1, q, h3⟩ := h; exact ⟨h1, kB k 0 q, h3, JI_b0 hJ.mono q, rfl, rfl⟩)
set_option maxHeartbeats 4000000 in
theorem D_mirrored (l : Launch) {N : Nat} {s t0 : SG} {k κ k1 : KG} (hL : JI N s k ∧ MI s κ ∧ mR s κ k) (hT : JI (N + 1) t0 k1) (hn : N ≤ 511) (x w : Int32) : kw_Q l yX12_mirrored cX12_mirrored 5 (Option.some Jvm.ClassFile.FieldType.int) { frames := 2, cells := 0, slots := 0, locals := 50 } [pr_ (40, 0), pi_ x, pi_ w] (kw_un (hC t0 k1) (hM s κ)) (mP k (pi_ (a_mirrored s x w)) (s) t0 k1) := by
  have hJ := hL.1
  obtain ⟨⟨a1, a2, a3, a4, a5, a6, a7, a8, a9, a10, a11, a12⟩, hK, hMr⟩ := hJ.A
  exact frM hT (kw_P.toQ (M_mirrored l s κ hL.2.1 a1.1 a2 a3 a6.1 (fun m hm => (hMr m hm).1.2) x w)) (pvI.i _) (fun r h2 h => by obtain ⟨h1, q, h3⟩ := h; exact ⟨h1, kB κ 0 q, h3, hL.2.1, hL.2.2⟩)
set_option maxHeartbeats 4000000 in
theorem C_audit (l : Launch) {N : Nat} {s : SG} {k : KG} (κ : KG) (hJ : JI N s k) (hn : N ≤ 511) : kw_Q l yX11_audit cX11_audit 3 (Option.some Jvm.ClassFile.FieldType.int) { frames := 4, cells := 0, slots := 0, locals := 86 } [pr_ (0, 0)] (kw_un (hC s k) (hM s κ)) (cP N k (pi_ 0) (s) s κ) := by
  obtain ⟨⟨a1, a2, a3, a4, a5, a6, a7, a8, a9, a10, a11, a12⟩, hK, hMr⟩ := hJ.A
  exact frC (kw_P.toQ (P_audit l s k a1.1 a2 a1.2.1 a3 (J_cl hJ) (J_pl hJ) a6.1 hMr )) (pvI.i _) (fun r h2 h => by obtain ⟨h1, q, h3, e⟩ := h; exact ⟨h1, q, h3, JI_kSim hJ.mono e, by rw [nx_, e.1], by rw [pe_, e.1]⟩)
set_option maxHeartbeats 4000000 in
theorem D_audit (l : Launch) {N : Nat} {s t0 : SG} {k κ k1 : KG} (hL : JI N s k ∧ MI s κ ∧ mR s κ k) (hT : JI (N + 1) t0 k1) (hn : N ≤ 511) : kw_Q l yX12_audit cX12_audit 4 (Option.some Jvm.ClassFile.FieldType.int) { frames := 2, cells := 0, slots := 0, locals := 48 } [pr_ (40, 0)] (kw_un (hC t0 k1) (hM s κ)) (mP k (pi_ 0) (s) t0 k1) := by
  have hJ := hL.1
  obtain ⟨⟨a1, a2, a3, a4, a5, a6, a7, a8, a9, a10, a11, a12⟩, hK, hMr⟩ := hJ.A
  exact frM hT (kw_P.toQ (M_audit l s κ hL.2.1 a1.1 a2 a1.2.1 a1.2.2.2.1 a12 a3 (fun i hi => ⟨(a4 i hi).1, (a4 i hi).2.2.1⟩) ⟨fun j h1 h2 i h3 => (a10.1 j h1 h2 i h3).1, a10.2.1, fun j h1 h2 i h3 => (a10.2.2 j h1 h2 i h3).1⟩ )) (pvI.i _) (fun r h2 h => by obtain ⟨h1, q, h3⟩ := h; exact ⟨h1, kB κ 0 q, h3, hL.2.1, hL.2.2⟩)
set_option maxHeartbeats 4000000 in
theorem C_calendar (l : Launch) {N : Nat} {s : SG} {k : KG} (κ : KG) (hJ : JI N s k) (hn : N ≤ 511) (t : Int64) (w : Int32) : kw_Q l yX11_calendar cX11_calendar 6 (Option.some Jvm.ClassFile.FieldType.int) { frames := 3, cells := 0, slots := 0, locals := 75 } [pr_ (0, 0), pl_ t, pi_ w] (kw_un (hC s k) (hM s κ)) (cP N k (pi_ (a_calendar t w)) (s) s κ) := by
  obtain ⟨⟨a1, a2, a3, a4, a5, a6, a7, a8, a9, a10, a11, a12⟩, hK, hMr⟩ := hJ.A
  exact frC (kw_P.toQ (P_calendar l (hC s k) t w)) (pvI.i _) (fun r h2 h => ⟨h.1, k, h.2, hJ.mono, rfl, rfl⟩)
set_option maxHeartbeats 4000000 in
theorem D_calendar (l : Launch) {N : Nat} {s t0 : SG} {k κ k1 : KG} (hL : JI N s k ∧ MI s κ ∧ mR s κ k) (hT : JI (N + 1) t0 k1) (hn : N ≤ 511) (t : Int64) (w : Int32) : kw_Q l yX12_calendar cX12_calendar 13 (Option.some Jvm.ClassFile.FieldType.int) { frames := 1, cells := 0, slots := 0, locals := 25 } [pr_ (40, 0), pl_ t, pi_ w] (kw_un (hC t0 k1) (hM s κ)) (mP k (pi_ (a_calendar t w)) (s) t0 k1) := by
  have hJ := hL.1
  obtain ⟨⟨a1, a2, a3, a4, a5, a6, a7, a8, a9, a10, a11, a12⟩, hK, hMr⟩ := hJ.A
  exact frM hT (kw_P.toQ (M_calendar l s κ  t w)) (pvI.i _) (fun r h2 h => ⟨h.1, κ, h.2, hL.2.1, hL.2.2⟩)
set_option maxHeartbeats 4000000 in
theorem C_keeps (l : Launch) {N : Nat} {s : SG} {k : KG} (κ : KG) (hJ : JI N s k) (hn : N ≤ 511) (x : Int32) : kw_Q l yX11_keeps cX11_keeps 2 (Option.some Jvm.ClassFile.FieldType.int) { frames := 6, cells := 0, slots := 0, locals := 151 } [pr_ (0, 0), pi_ x] (kw_un (hC s k) (hM s κ)) (cP N k (pi_ (a_keeps s x)) (s) s κ) := by
  obtain ⟨⟨a1, a2, a3, a4, a5, a6, a7, a8, a9, a10, a11, a12⟩, hK, hMr⟩ := hJ.A
  exact frC (kw_P.toQ (P_keeps l s k a3.1 a5.2.1 a5.2.2 x)) (pvI.i _) (fun r h2 h => by obtain ⟨h1, q, e, h3⟩ := h; exact ⟨h1, q, h3, JI_kEq hJ.mono e, e.1, e.2.1⟩)
set_option maxHeartbeats 4000000 in
theorem D_keeps (l : Launch) {N : Nat} {s t0 : SG} {k κ k1 : KG} (hL : JI N s k ∧ MI s κ ∧ mR s κ k) (hT : JI (N + 1) t0 k1) (hn : N ≤ 511) (x : Int32) : kw_Q l yX12_keeps cX12_keeps 2 (Option.some Jvm.ClassFile.FieldType.int) { frames := 5, cells := 0, slots := 0, locals := 131 } [pr_ (40, 0), pi_ x] (kw_un (hC t0 k1) (hM s κ)) (mP k (pi_ (a_keeps s x)) (s) t0 k1) := by
  have hJ := hL.1
  obtain ⟨⟨a1, a2, a3, a4, a5, a6, a7, a8, a9, a10, a11, a12⟩, hK, hMr⟩ := hJ.A
  exact frM hT (kw_P.toQ (M_keeps l s κ a3.1 a5.2.1 a5.2.2 x)) (pvI.i _) (fun r h2 h => ⟨h.1, κ, h.2, hL.2.1, hL.2.2⟩)
set_option maxHeartbeats 4000000 in
theorem C_prune (l : Launch) {N : Nat} {s : SG} {k : KG} (κ : KG) (hJ : JI N s k) (hn : N ≤ 511) (w : Bool) : kw_Q l yX11_prune cX11_prune 5 (Option.some Jvm.ClassFile.FieldType.int) { frames := 6, cells := 0, slots := 0, locals := 151 } [pr_ (0, 0), pi_ (b2 w)] (kw_un (hC s k) (hM s κ)) (cP N k (pi_ (a_prune s w).1) ((a_prune s w).2) s κ) := by
  obtain ⟨⟨a1, a2, a3, a4, a5, a6, a7, a8, a9, a10, a11, a12⟩, hK, hMr⟩ := hJ.A
  exact frC (kw_P.toQ (P_prune l s k a3.1 a5.2.1 a5.2.2 (J_nh hJ).1 w)) (pvI.i _) (fun r h2 h => by obtain ⟨h1, q, e, h3⟩ := h; exact ⟨h1, q, h3, JI_kEq (JI_prune hJ w).mono e, e.1, e.2.1⟩)
set_option maxHeartbeats 4000000 in
theorem D_prune (l : Launch) {N : Nat} {s t0 : SG} {k κ k1 : KG} (hL : JI N s k ∧ MI s κ ∧ mR s κ k) (hT : JI (N + 1) t0 k1) (hn : N ≤ 511) (w : Bool) : kw_Q l yX12_prune cX12_prune 7 (Option.some Jvm.ClassFile.FieldType.int) { frames := 5, cells := 0, slots := 0, locals := 131 } [pr_ (40, 0), pi_ (b2 w)] (kw_un (hC t0 k1) (hM s κ)) (mP k (pi_ (a_prune s w).1) ((a_prune s w).2) t0 k1) := by
  have hJ := hL.1
  obtain ⟨⟨a1, a2, a3, a4, a5, a6, a7, a8, a9, a10, a11, a12⟩, hK, hMr⟩ := hJ.A
  exact frM hT (kw_P.toQ (M_prune l s κ hL.2.1 a3.1 a5.2.1 a5.2.2 (J_nh hJ).1 w)) (pvI.i _) (fun r h2 h => by obtain ⟨h1, q, e, h3, h4⟩ := h; exact ⟨h1, q, h4, h3, hL.2.2.of (ph_prune s w) e⟩)
