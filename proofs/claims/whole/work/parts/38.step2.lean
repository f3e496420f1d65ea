/-! A STEP, STEPS -/
def pkNF (s : SG) (k : KG) (p : Nat) : Bool × SG × KG := if dueB s k p = true then pkF s (kX k 0 (nI (p + 1))) p else (true, s, kX k 0 (nI (p + 1)))
def advF0 (s : SG) (k : KG) : Bool × SG × KG := if ph_ s = 1 then (true, s_mark1 s, k) else if ph_ s = 2 then ((clearF s (cl_ (nx_ k))).1, (clearF s (cl_ (nx_ k))).2, kX k 0 (nI (cl_ (nx_ k) + 1))) else if ph_ s = 3 then ((chooseF s (cl_ (nx_ k))).1, (chooseF s (cl_ (nx_ k))).2, kX (chooseK s k (cl_ (nx_ k))) 0 (nI (cl_ (nx_ k)) - 1)) else pkNF s k (cl_ (nx_ k))
def advF (s : SG) (k : KG) : Bool × SG × KG := ((advF0 s k).1, settleF (advF0 s k).2)
def advOk (s : SG) (k : KG) : Prop := nb_ s ≤ 80 ∧ np_ s ≤ 40 ∧ kidsOk s ∧ ph_ s ≤ 4 ∧ rt_ s ≤ 944 ∧ rf_ s ≤ 944 ∧ (ph_ s = 1 → rf_ s < 944 ∧ rw_ s (rf_ s) < nb_ s ∧ rt_ s + 4 ≤ 944) ∧ (ph_ s = 2 ∨ ph_ s = 3 → ∃ b, nx_ k = nI b ∧ b < nb_ s ∧ wt_ s b < 2 ^ 31 ∧ pk_ s b < np_ s ∧ (th_ s b = true → nh_ s < 240)) ∧ (ph_ s = 4 → ∃ b, nx_ k = nI b ∧ pkOk s k b ∧ shr_ s ≤ 100 ∧ ho_ k b ≤ 1000 ∧ ac_ k b ≤ 1000)
theorem st_1 (x : SG × KG) (i : Nat) (hi : i ≠ 10) : (settleF x).1.1 i = x.1.1 i := by
  have a1 : ∀ y, (st1 y).1.1 i = y.1.1 i := fun y => by
    unfold st1
    split
    · show va_up y.1.1 10 _ i = _; simp only [va_up, if_neg hi]
    · rfl
  have a2 : ∀ y, (st2 y).1.1 i = y.1.1 i := fun y => by
    unfold st2
    split
    · show va_up y.1.1 10 _ i = _; simp only [va_up, if_neg hi]
    · rfl
  have a3 : ∀ y, (st3 y).1.1 i = y.1.1 i := fun y => by
    unfold st3
    split
    · show va_up y.1.1 10 _ i = _; simp only [va_up, if_neg hi]
    · rfl
  have a4 : ∀ y, (st4 y).1.1 i = y.1.1 i := fun y => by
    unfold st4
    split
    · show va_up y.1.1 10 _ i = _; simp only [va_up, if_neg hi]
    · rfl
  unfold settleF
  rw [a4, a3, a2, a1]
theorem settleF_eq {s : SG} {a b : KG} (h : kEq a b) : (settleF (s, a)).1 = (settleF (s, b)).1 ∧ kEq (settleF (s, a)).2 (settleF (s, b)).2 := by
  have a1 : ∀ (s : SG) (a b : KG), kEq a b → (st1 (s, a)).1 = (st1 (s, b)).1 ∧ kEq (st1 (s, a)).2 (st1 (s, b)).2 := fun s a b h => by
    unfold st1; split
    · exact ⟨rfl, h.nx _⟩
    · exact ⟨rfl, h⟩
  have a2 : ∀ (s : SG) (a b : KG), kEq a b → (st2 (s, a)).1 = (st2 (s, b)).1 ∧ kEq (st2 (s, a)).2 (st2 (s, b)).2 := fun s a b h => by
    unfold st2
    show (if ph_ s = 2 ∧ nI (end_ s) ≤ a.1 0 then _ else _ : SG × KG).1 = _ ∧ kEq (if ph_ s = 2 ∧ nI (end_ s) ≤ a.1 0 then _ else _ : SG × KG).2 _
    rw [h.1]
    show (if ph_ s = 2 ∧ nI (end_ s) ≤ nx_ b then _ else _ : SG × KG).1 = (if ph_ s = 2 ∧ nI (end_ s) ≤ nx_ b then _ else _ : SG × KG).1 ∧ kEq (if ph_ s = 2 ∧ nI (end_ s) ≤ nx_ b then _ else _ : SG × KG).2 (if ph_ s = 2 ∧ nI (end_ s) ≤ nx_ b then _ else _ : SG × KG).2
    split
    · exact ⟨rfl, h.nx _⟩
    · exact ⟨rfl, h⟩
  have a3 : ∀ (s : SG) (a b : KG), kEq a b → (st3 (s, a)).1 = (st3 (s, b)).1 ∧ kEq (st3 (s, a)).2 (st3 (s, b)).2 := fun s a b h => by
    unfold st3
    show (if ph_ s = 3 ∧ a.1 0 < 0 then _ else _ : SG × KG).1 = _ ∧ kEq (if ph_ s = 3 ∧ a.1 0 < 0 then _ else _ : SG × KG).2 _
    rw [h.1]
    show (if ph_ s = 3 ∧ nx_ b < 0 then _ else _ : SG × KG).1 = (if ph_ s = 3 ∧ nx_ b < 0 then _ else _ : SG × KG).1 ∧ kEq (if ph_ s = 3 ∧ nx_ b < 0 then _ else _ : SG × KG).2 (if ph_ s = 3 ∧ nx_ b < 0 then _ else _ : SG × KG).2
    split
    · exact ⟨rfl, (h.nx _).pe _⟩
    · exact ⟨rfl, h⟩
  have a4 : ∀ (s : SG) (a b : KG), kEq a b → (st4 (s, a)).1 = (st4 (s, b)).1 ∧ kEq (st4 (s, a)).2 (st4 (s, b)).2 := fun s a b h => by
    unfold st4
    show (if ph_ s = 4 ∧ a.1 1 ≤ a.1 0 then _ else _ : SG × KG).1 = _ ∧ kEq (if ph_ s = 4 ∧ a.1 1 ≤ a.1 0 then _ else _ : SG × KG).2 _
    rw [h.1, h.2.1]
    show (if ph_ s = 4 ∧ pe_ b ≤ nx_ b then _ else _ : SG × KG).1 = (if ph_ s = 4 ∧ pe_ b ≤ nx_ b then _ else _ : SG × KG).1 ∧ kEq (if ph_ s = 4 ∧ pe_ b ≤ nx_ b then _ else _ : SG × KG).2 (if ph_ s = 4 ∧ pe_ b ≤ nx_ b then _ else _ : SG × KG).2
    split
    · exact ⟨rfl, h⟩
    · exact ⟨rfl, h⟩
  have pr : ∀ (f : SG × KG → SG × KG), (∀ (s : SG) (a b : KG), kEq a b → (f (s, a)).1 = (f (s, b)).1 ∧ kEq (f (s, a)).2 (f (s, b)).2) → ∀ x y : SG × KG, x.1 = y.1 → kEq x.2 y.2 → (f x).1 = (f y).1 ∧ kEq (f x).2 (f y).2 := by
    intro f hf x y h1 h2
    obtain ⟨x1, x2⟩ := x
    obtain ⟨y1, y2⟩ := y
    have h1 : x1 = y1 := h1
    subst h1
    exact hf x1 x2 y2 h2
  have q1 := a1 s a b h
  have q2 := pr st2 a2 _ _ q1.1 q1.2
  have q3 := pr st3 a3 _ _ q2.1 q2.2
  exact pr st4 a4 _ _ q3.1 q3.2
theorem mark1_1 (s : SG) (i : Nat) (h1 : i ≠ 11) (h2 : i ≠ 12) : (s_mark1 s).1 i = s.1 i := by
  unfold s_mark1
  split
  · show va_up s.1 11 _ i = _; simp only [va_up, if_neg h1]
  · rw [s_lines_1 _ _ i h2]; show va_up s.1 11 _ i = _; simp only [va_up, if_neg h1]
theorem mark1_rf (s : SG) : rf_ (s_mark1 s) = rf_ s + 1 := by
  unfold s_mark1
  split
  · rfl
  · rw [rf_, s_lines_1 _ _ 11 (by decide)]; rfl
theorem mark1_rt (s : SG) : rt_ (s_mark1 s) ≤ rt_ s + cm_ s (rw_ s (rf_ s)) := by
  unfold s_mark1
  split
  · exact Nat.le_add_right _ _
  · rw [s_lines_rt]; exact Nat.le_refl _
theorem clearF_1 (s : SG) (b : Nat) : (clearF s b).2.1 = s.1 := by
  unfold clearF
  split
  · split
    · rfl
    · exact s_await_1 s b 0
  · rfl
theorem chooseF_1 (s : SG) (b i : Nat) (h1 : i ≠ 2) (h2 : i ≠ 8) : (chooseF s b).2.1 i = s.1 i := by
  unfold chooseF
  split
  · split
    · rfl
    · split
      · show va_up (va_up (s_w1 s).1 8 _) 2 _ i = _; simp only [va_up, if_neg h1, if_neg h2]; rw [s_w1_1]
      · rw [s_await_1]
  · rfl
theorem pkF_1 (s : SG) (k : KG) (p i : Nat) (h1 : i ≠ 4) (h2 : i ≠ 5) : (pkF s k p).2.1.1 i = s.1 i := by
  unfold pkF
  split
  · split
    · unfold pkS
      show va_up (aS _ _ _ _).1 5 _ i = _
      simp only [va_up, if_neg h2]
      rw [aS_1 _ _ _ i h1, wrL_1]
    · rw [wrL_1]
  · rfl
theorem pkNF_1 (s : SG) (k : KG) (p i : Nat) (h1 : i ≠ 4) (h2 : i ≠ 5) : (pkNF s k p).2.1.1 i = s.1 i := by
  unfold pkNF
  split
  · exact pkF_1 _ _ _ _ h1 h2
  · rfl
theorem pkF_np (s : SG) (k : KG) (p : Nat) (h0 : 0 < np_ s) (h4 : np_ s ≤ 40) : np_ s ≤ np_ (pkF s k p).2.1 ∧ np_ (pkF s k p).2.1 ≤ 40 := by
  unfold pkF
  split
  · rename_i q
    split
    · have e : np_ (wrL (lieN s (nI p) + 1) s).2 = np_ s := by rw [np_, wrL_1]
      have h1 := aS_np s (mvO s p) (pkx0 s k p) (wrL (lieN s (nI p) + 1) s).2 (by rw [e]; show _ = np_ s - 1 + 1; omega) (lieN s (nI p))
      have h2 := plT_mono s (mvO s p) (pkx0 s k p) 0 (lieN s (nI p))
      rw [Nat.zero_add] at h2
      have h3 : (plT s (mvO s p) (pkx0 s k p) 0).1 = np_ s - 1 := rfl
      have q : (plT s (mvO s p) (pkx0 s k p) (lieN s (nI p))).1 < 40 := q
      show np_ s ≤ np_ (aS _ _ _ _) ∧ np_ (aS _ _ _ _) ≤ 40
      rw [h1]
      omega
    · rw [show np_ (wrL (lieN s (nI p) + 1) s).2 = np_ s by rw [np_, wrL_1]]; exact ⟨Nat.le_refl _, h4⟩
  · exact ⟨Nat.le_refl _, h4⟩
theorem pkF_eq {s : SG} {a b : KG} (h : kEq a b) (p : Nat) : (pkF s a p).1 = (pkF s b p).1 ∧ (pkF s a p).2.1 = (pkF s b p).2.1 ∧ kEq (pkF s a p).2.2 (pkF s b p).2.2 := by
  have ex : pkx0 s a p = pkx0 s b p := by unfold pkx0; rw [fullS_eq h]
  unfold pkF pkTo pkS pkK
  rw [ex]
  split
  · split
    · exact ⟨rfl, rfl, k_left_eq (kS_eq h _ _ _ _) p⟩
    · exact ⟨rfl, rfl, h⟩
  · exact ⟨rfl, rfl, h⟩
theorem advF0_eq {s : SG} {a b : KG} (h : kEq a b) : (advF0 s a).1 = (advF0 s b).1 ∧ (advF0 s a).2.1 = (advF0 s b).2.1 ∧ kEq (advF0 s a).2.2 (advF0 s b).2.2 := by
  have en : nx_ a = nx_ b := h.1
  unfold advF0
  rw [en]
  split
  · exact ⟨rfl, rfl, h⟩
  · split
    · exact ⟨rfl, rfl, h.nx _⟩
    · split
      · refine ⟨rfl, rfl, kEq.nx ?_ _⟩
        unfold chooseK
        split
        · exact h.kn 0 _ _ (by rw [h.ho])
        · exact h
      · unfold pkNF dueB
        rw [h.ho, h.ac]
        split
        · exact pkF_eq (h.nx _) _
        · exact ⟨rfl, rfl, h.nx _⟩
theorem advF_eq {s : SG} {a b : KG} (h : kEq a b) : (advF s a).1 = (advF s b).1 ∧ (advF s a).2.1 = (advF s b).2.1 ∧ kEq (advF s a).2.2 (advF s b).2.2 := by
  obtain ⟨h1, h2, h3⟩ := advF0_eq (s := s) h
  have e : settleF (advF0 s a).2 = settleF ((advF0 s b).2.1, (advF0 s a).2.2) := by rw [← h2]
  unfold advF
  refine ⟨h1, ?_, ?_⟩
  · show (settleF _).1 = _; rw [e]; exact (settleF_eq h3).1
  · show kEq (settleF _).2 _; rw [e]; exact (settleF_eq h3).2
theorem advF_1 (s : SG) (k : KG) (i : Nat) (hi : i = 1 ∨ i = 7) : (advF s k).2.1.1 i = s.1 i := by
  show (settleF _).1.1 i = _
  rw [st_1 _ i (by omega)]
  unfold advF0
  split
  · exact mark1_1 s i (by omega) (by omega)
  · split
    · show (clearF _ _).2.1 i = _; rw [clearF_1]
    · split
      · exact chooseF_1 s _ i (by omega) (by omega)
      · exact pkNF_1 s _ _ i (by omega) (by omega)
theorem advF_np {s : SG} {k : KG} (h : advOk s k) (h0 : ph_ s ≠ 0) : np_ s ≤ np_ (advF s k).2.1 ∧ np_ (advF s k).2.1 ≤ 40 := by
  obtain ⟨-, hp, -, hph, -, -, -, -, h4⟩ := h
  show _ ≤ (settleF _).1.1 4 ∧ (settleF _).1.1 4 ≤ _
  rw [st_1 _ 4 (by omega)]
  unfold advF0
  split
  · rw [mark1_1 s 4 (by omega) (by omega)]; exact ⟨Nat.le_refl _, hp⟩
  · split
    · show _ ≤ (clearF _ _).2.1 4 ∧ (clearF _ _).2.1 4 ≤ _; rw [clearF_1]; exact ⟨Nat.le_refl _, hp⟩
    · split
      · rw [chooseF_1 s _ 4 (by omega) (by omega)]; exact ⟨Nat.le_refl _, hp⟩
      · obtain ⟨b, -, hok, -⟩ := h4 (by omega)
        have := hok.2.2.2.1
        unfold pkNF
        split
        · exact pkF_np s _ _ (by omega) hp
        · exact ⟨Nat.le_refl _, hp⟩
def stepF : Nat → SG → KG → Nat → Int32 × SG × KG
  | 0, s, k, d => (nI d, s, k)
  | n + 1, s, k, d => if ph_ s = 0 then (nI d, s, k) else if (advF s k).1 = true then stepF n (advF s k).2.1 (advF s k).2.2 (d + 1) else (-105, s_gone (advF s k).2.1, (advF s k).2.2)
def c_step (s : SG) (k : KG) (x : Int32) : Int32 × SG × KG := if dn_ s = true then (-106, s, k) else if x < 1 ∨ 500 < x then (-102, s, k) else if ph_ s = 0 then (-103, s, k) else stepF (cl_ x) s k 0
set_option maxHeartbeats 4000000 in
set_option maxRecDepth 100000 in
theorem w_pack (l : Launch) (C : Nat) (s : SG) (k : KG) (hb : nb_ s ≤ 80) (p : Nat) (hnx : nx_ k = nI p) (hok : pkOk s k p) (hsh : shr_ s ≤ 100) (hho : ho_ k p ≤ 1000) (hac : ac_ k p ≤ 1000) (hC9 : np_ (pkNF s k p).2.1 = np_ s + C) : kw_Q l yX10_packNext cX10_packNext 2 (Option.some Jvm.ClassFile.FieldType.boolean) { frames := 5, cells := C, slots := 3 * C, locals := 107 } [pr_ (8, 0)] (hC s k) (fun r h' => r = some (pi_ (b2 (pkNF s k p).1)) ∧ ∃ k', kEq k' (pkNF s k p).2.2 ∧ h' = hC (pkNF s k p).2.1 k') := by
  refine kw_M_of RX10 "packNext" [some (pr_ (8, 0)), none] (by decide) rfl rfl rfl (Nat.le_of_ble_eq_true rfl) ?_
  intro D ad A
  refine kw_Kgen (fun K hK => ?_)
  unfold pkNF at hK hC9
  have hp := hok.2.2.2.1
  have hp4 := hok.2.1
  refine kw_aload_n dX10_packNext_0 rfl ?_
  refine kw_get dX10_packNext_1 fl_X10_85 rfl rfl ?_
  refine kw_top (v' := pi_ (nI p)) (by rw [hnx]) ?_
  refine kw_istore_n dX10_packNext_4 (Nat.le_of_ble_eq_true rfl) ?_
  refine kw_aload_n dX10_packNext_5 rfl ?_
  refine kw_dup dX10_packNext_6 rfl ?_
  refine kw_get dX10_packNext_7 fl_X10_85 rfl rfl ?_
  refine kw_iconst (v := 1) dX10_packNext_10 (by decide) ?_
  refine kw_iadd dX10_packNext_11 ?_
  refine kw_top (v' := pi_ (nI (p + 1))) (by rw [hnx, ← nI_1]) ?_
  refine kw_put dX10_packNext_12 fl_X10_85 rfl (kw_ok_i _) (Nat.le_of_ble_eq_true rfl) ?_
  refine kw_heq (up_wnx s k _) ?_
  refine kw_aload_n dX10_packNext_15 rfl ?_
  refine kw_get dX10_packNext_16 fl_X10_28 rfl rfl ?_
  refine kw_iload_n dX10_packNext_19 rfl ?_
  refine kw_aload_n dX10_packNext_20 rfl ?_
  refine kw_get dX10_packNext_21 fl_X10_15 rfl rfl ?_
  refine kw_callVf (As := [pi_ (nI p), pi_ (nI (shr_ s))]) (d_isDue l s (kX k 0 (nI (p + 1))) p hp hp4 hsh hho hac) dX10_packNext_24 cl_X10_115 rfl rfl rfl rfl (Nat.le_of_ble_eq_true rfl) ⟨(Nat.le_of_ble_eq_true rfl), (Nat.le_of_ble_eq_true rfl), (Nat.zero_le _), (Nat.zero_le _)⟩ ?_
  refine kw_if_eq (tgt := 41) dX10_packNext_27 (by decide) (fun c27 => ?_) (fun c27 => ?_)
  · skip
    have e27 : dueB s k p = false := b2_0.mp c27
    rw [e27, if_neg (by decide)] at hK
    refine kw_iconst (v := 1) dX10_packNext_41 (by decide) ?_
    refine kw_goto (tgt := 46) dX10_packNext_42 (by decide) ?_
    exact kw_zret dX10_packNext_46 rfl (by decide) (by first | exact Nat.zero_le _ | (show 0 + C ≤ C; omega) | (show 0 + 3 * C ≤ 3 * C; omega)) (by first | exact Nat.zero_le _ | (show 0 + C ≤ C; omega) | (show 0 + 3 * C ≤ 3 * C; omega)) (hK _ _ _ ⟨fun _ _ => rfl, rfl, (kX k 0 (nI (p + 1))), kEq.rf _, rfl⟩)
  · skip
    have e27 : dueB s k p = true := b2_n0.mp c27
    rw [e27, if_pos rfl] at hK hC9
    refine kw_aload_n dX10_packNext_30 rfl ?_
    refine kw_get dX10_packNext_31 fl_X10_28 rfl rfl ?_
    refine kw_iload_n dX10_packNext_34 rfl ?_
    refine kw_callVq (As := [pi_ (nI p)]) (d_anew l C s (kX k 0 (nI (p + 1))) hb p hok hC9) dX10_packNext_35 cl_X10_118 rfl rfl rfl rfl (Nat.le_of_ble_eq_true rfl) ⟨(Nat.le_of_ble_eq_true rfl), (Nat.le_of_ble_eq_true rfl), (by show 0 + C ≤ C; omega), (by show 0 + 3 * C ≤ 3 * C; omega)⟩ (by simp [kw_all, kw_alo, kw_alv, kw_set1, kw_keep]; exact nm_some (show hC _ _ (8, 0) = some _ from rfl)) (by simp [kw_all, kw_nmo, kw_nmv, kw_set1, kw_set2, kw_keep, kw_alo, kw_alv]) (fun r2 ad2 h2 he2 hp2 => ?_)
    obtain ⟨rfl, k9, hk9, rfl⟩ := hp2
    refine kw_if_eq (tgt := 45) dX10_packNext_38 (by decide) (fun c38 => ?_) (fun c38 => ?_)
    · skip
      have e38 := b2_0.mp c38
      refine kw_iconst (v := 0) dX10_packNext_45 (by decide) ?_
      exact kw_zret dX10_packNext_46 rfl (by decide) (by first | exact Nat.zero_le _ | (show 0 + C ≤ C; omega) | (show 0 + 3 * C ≤ 3 * C; omega)) (by first | exact Nat.zero_le _ | (show 0 + C ≤ C; omega) | (show 0 + 3 * C ≤ 3 * C; omega)) (hK _ _ _ ⟨fun q hq => he2 q (hC_al2 rfl (Nat.le_refl _) rfl q hq), by rw [e38]; rfl, k9, hk9, rfl⟩)
    · skip
      have e38 := b2_n0.mp c38
      refine kw_iconst (v := 1) dX10_packNext_41 (by decide) ?_
      refine kw_goto (tgt := 46) dX10_packNext_42 (by decide) ?_
      exact kw_zret dX10_packNext_46 rfl (by decide) (by first | exact Nat.zero_le _ | (show 0 + C ≤ C; omega) | (show 0 + 3 * C ≤ 3 * C; omega)) (by first | exact Nat.zero_le _ | (show 0 + C ≤ C; omega) | (show 0 + 3 * C ≤ 3 * C; omega)) (hK _ _ _ ⟨fun q hq => he2 q (hC_al2 rfl (Nat.le_refl _) rfl q hq), by rw [e38]; rfl, k9, hk9, rfl⟩)
set_option maxHeartbeats 4000000 in
set_option maxRecDepth 100000 in
theorem w_adv (l : Launch) (C : Nat) (s : SG) (k : KG) (hok : advOk s k) (h0 : ph_ s ≠ 0) (hC9 : np_ (advF s k).2.1 = np_ s + C) : kw_Q l yX10_advance cX10_advance 2 (Option.some Jvm.ClassFile.FieldType.boolean) { frames := 6, cells := C, slots := 3 * C, locals := 128 } [pr_ (8, 0)] (hC s k) (fun r h' => r = some (pi_ (b2 (advF s k).1)) ∧ ∃ k', kEq k' (advF s k).2.2 ∧ h' = hC (advF s k).2.1 k') := by
  refine kw_M_of RX10 "advance" [some (pr_ (8, 0)), none] (by decide) rfl rfl rfl (Nat.le_of_ble_eq_true rfl) ?_
  intro D ad A
  refine kw_Kgen (fun K hK => ?_)
  obtain ⟨hb, hp, hkd, hph, hrt, hrf, g1, g2, g4⟩ := hok
  have hC9 : (settleF (advF0 s k).2).1.1 4 = np_ s + C := hC9
  rw [st_1 _ 4 (by decide)] at hC9
  unfold advF at hK
  unfold advF0 at hK hC9
  refine kw_iconst (v := 1) dX10_advance_0 (by decide) ?_
  refine kw_istore_n dX10_advance_1 (Nat.le_of_ble_eq_true rfl) ?_
  refine kw_aload_n dX10_advance_2 rfl ?_
  refine kw_get dX10_advance_3 fl_X10_35 rfl rfl ?_
  by_cases e1 : (nI (ph_ s)) = 1
  · skip
    rw [e1]
    refine kw_tableIn (off := 30) (tgt := 36) dX10_advance_6 (by decide) (by decide) (by decide) (by decide) ?_
    have ep := nI_eq' (b := 1) (by omega) (by decide) e1
    obtain ⟨r1, r2, r3⟩ := g1 ep
    rw [if_pos ep] at hK
    have hkc := (hkd _ r2).1
    have hs1 : ph_ (s_mark1 s) ≤ 4 := by rw [ph_, mark1_1 s 10 (by decide) (by decide)]; exact hph
    have hs2 : rt_ (s_mark1 s) ≤ 944 := by have := mark1_rt s; omega
    have hs3 : rf_ (s_mark1 s) ≤ 944 := by rw [mark1_rf]; omega
    refine kw_aload_n dX10_advance_36 rfl ?_
    refine kw_callVf (As := []) (w_mark l s k hb hkd r1 r2 r3) dX10_advance_37 cl_X10_69 rfl rfl rfl rfl (Nat.le_of_ble_eq_true rfl) ⟨(Nat.le_of_ble_eq_true rfl), (Nat.le_of_ble_eq_true rfl), (Nat.zero_le _), (Nat.zero_le _)⟩ ?_
    refine kw_goto (tgt := 67) dX10_advance_40 (by decide) ?_
    refine kw_aload_n dX10_advance_67 rfl ?_
    refine kw_callVf (As := []) (w_settle l (s_mark1 s) k hs1 hs2 hs3) dX10_advance_68 cl_X10_82 rfl rfl rfl rfl (Nat.le_of_ble_eq_true rfl) ⟨(Nat.le_of_ble_eq_true rfl), (Nat.le_of_ble_eq_true rfl), (Nat.zero_le _), (Nat.zero_le _)⟩ ?_
    refine kw_iload_n dX10_advance_71 rfl ?_
    exact kw_zret dX10_advance_72 rfl (by decide) (by first | exact Nat.zero_le _ | (show 0 + C ≤ C; omega) | (show 0 + 3 * C ≤ 3 * C; omega)) (by first | exact Nat.zero_le _ | (show 0 + C ≤ C; omega) | (show 0 + 3 * C ≤ 3 * C; omega)) (hK _ _ _ ⟨fun _ _ => rfl, rfl, _, kEq.rf _, rfl⟩)
  by_cases e2 : (nI (ph_ s)) = 2
  · skip
    rw [e2]
    refine kw_tableIn (off := 37) (tgt := 43) dX10_advance_6 (by decide) (by decide) (by decide) (by decide) ?_
    have ep := nI_eq' (b := 2) (by omega) (by decide) e2
    obtain ⟨b, hnx, hbb, hwb, hpk, hnh⟩ := g2 (by omega)
    have ecl : cl_ (nx_ k) = b := by rw [hnx, cl_, nI_clamp (by omega)]
    rw [ecl] at hK
    rw [if_neg (by omega), if_pos ep] at hK
    have hs1 : ph_ (clearF s b).2 ≤ 4 := by rw [ph_, clearF_1]; exact hph
    have hs2 : rt_ (clearF s b).2 ≤ 944 := by rw [rt_, clearF_1]; exact hrt
    have hs3 : rf_ (clearF s b).2 ≤ 944 := by rw [rf_, clearF_1]; exact hrf
    refine kw_aload_n dX10_advance_43 rfl ?_
    refine kw_callVf (As := []) (w_clear l s k hb b hbb hnx hwb) dX10_advance_44 cl_X10_72 rfl rfl rfl rfl (Nat.le_of_ble_eq_true rfl) ⟨(Nat.le_of_ble_eq_true rfl), (Nat.le_of_ble_eq_true rfl), (Nat.zero_le _), (Nat.zero_le _)⟩ ?_
    refine kw_istore_n dX10_advance_47 (Nat.le_of_ble_eq_true rfl) ?_
    refine kw_goto (tgt := 67) dX10_advance_48 (by decide) ?_
    refine kw_aload_n dX10_advance_67 rfl ?_
    refine kw_callVf (As := []) (w_settle l (clearF s b).2 (kX k 0 (nI (b + 1))) hs1 hs2 hs3) dX10_advance_68 cl_X10_82 rfl rfl rfl rfl (Nat.le_of_ble_eq_true rfl) ⟨(Nat.le_of_ble_eq_true rfl), (Nat.le_of_ble_eq_true rfl), (Nat.zero_le _), (Nat.zero_le _)⟩ ?_
    refine kw_iload_n dX10_advance_71 rfl ?_
    exact kw_zret dX10_advance_72 rfl (b2_nar _) (by first | exact Nat.zero_le _ | (show 0 + C ≤ C; omega) | (show 0 + 3 * C ≤ 3 * C; omega)) (by first | exact Nat.zero_le _ | (show 0 + C ≤ C; omega) | (show 0 + 3 * C ≤ 3 * C; omega)) (hK _ _ _ ⟨fun _ _ => rfl, rfl, _, kEq.rf _, rfl⟩)
  by_cases e3 : (nI (ph_ s)) = 3
  · skip
    rw [e3]
    refine kw_tableIn (off := 45) (tgt := 51) dX10_advance_6 (by decide) (by decide) (by decide) (by decide) ?_
    have ep := nI_eq' (b := 3) (by omega) (by decide) e3
    obtain ⟨b, hnx, hbb, hwb, hpk, hnh⟩ := g2 (by omega)
    have ecl : cl_ (nx_ k) = b := by rw [hnx, cl_, nI_clamp (by omega)]
    rw [ecl] at hK
    rw [if_neg (by omega), if_neg (by omega), if_pos ep] at hK
    have hs1 : ph_ (chooseF s b).2 ≤ 4 := by rw [ph_, chooseF_1 s b 10 (by decide) (by decide)]; exact hph
    have hs2 : rt_ (chooseF s b).2 ≤ 944 := by rw [rt_, chooseF_1 s b 12 (by decide) (by decide)]; exact hrt
    have hs3 : rf_ (chooseF s b).2 ≤ 944 := by rw [rf_, chooseF_1 s b 11 (by decide) (by decide)]; exact hrf
    refine kw_aload_n dX10_advance_51 rfl ?_
    refine kw_callVf (As := []) (w_choose l s k hb hp b hnh hbb hnx hwb hpk) dX10_advance_52 cl_X10_76 rfl rfl rfl rfl (Nat.le_of_ble_eq_true rfl) ⟨(Nat.le_of_ble_eq_true rfl), (Nat.le_of_ble_eq_true rfl), (Nat.zero_le _), (Nat.zero_le _)⟩ ?_
    refine kw_istore_n dX10_advance_55 (Nat.le_of_ble_eq_true rfl) ?_
    refine kw_goto (tgt := 67) dX10_advance_56 (by decide) ?_
    refine kw_aload_n dX10_advance_67 rfl ?_
    refine kw_callVf (As := []) (w_settle l (chooseF s b).2 (kX (chooseK s k b) 0 (nI b - 1)) hs1 hs2 hs3) dX10_advance_68 cl_X10_82 rfl rfl rfl rfl (Nat.le_of_ble_eq_true rfl) ⟨(Nat.le_of_ble_eq_true rfl), (Nat.le_of_ble_eq_true rfl), (Nat.zero_le _), (Nat.zero_le _)⟩ ?_
    refine kw_iload_n dX10_advance_71 rfl ?_
    exact kw_zret dX10_advance_72 rfl (b2_nar _) (by first | exact Nat.zero_le _ | (show 0 + C ≤ C; omega) | (show 0 + 3 * C ≤ 3 * C; omega)) (by first | exact Nat.zero_le _ | (show 0 + C ≤ C; omega) | (show 0 + 3 * C ≤ 3 * C; omega)) (hK _ _ _ ⟨fun _ _ => rfl, rfl, _, kEq.rf _, rfl⟩)
  by_cases e4 : (nI (ph_ s)) = 4
  · skip
    rw [e4]
    refine kw_tableIn (off := 53) (tgt := 59) dX10_advance_6 (by decide) (by decide) (by decide) (by decide) ?_
    have ep := nI_eq' (b := 4) (by omega) (by decide) e4
    obtain ⟨b, hnx, hok, hsh, hho, hac⟩ := g4 ep
    have hbp := hok.2.2.2.1
    have ecl : cl_ (nx_ k) = b := by rw [hnx, cl_, nI_clamp (by omega)]
    rw [ecl] at hK hC9
    rw [if_neg (by omega), if_neg (by omega), if_neg (by omega)] at hK hC9
    have hs1 : ph_ (pkNF s k b).2.1 ≤ 4 := by rw [ph_, pkNF_1 s k b 10 (by decide) (by decide)]; exact hph
    have hs2 : rt_ (pkNF s k b).2.1 ≤ 944 := by rw [rt_, pkNF_1 s k b 12 (by decide) (by decide)]; exact hrt
    have hs3 : rf_ (pkNF s k b).2.1 ≤ 944 := by rw [rf_, pkNF_1 s k b 11 (by decide) (by decide)]; exact hrf
    refine kw_aload_n dX10_advance_59 rfl ?_
    refine kw_callVq (As := []) (w_pack l C s k hb b hnx hok hsh hho hac hC9) dX10_advance_60 cl_X10_79 rfl rfl rfl rfl (Nat.le_of_ble_eq_true rfl) ⟨(Nat.le_of_ble_eq_true rfl), (Nat.le_of_ble_eq_true rfl), (by show 0 + C ≤ C; omega), (by show 0 + 3 * C ≤ 3 * C; omega)⟩ (by simp [kw_all, kw_alo, kw_alv, kw_set1, kw_keep]; exact nm_some (show hC _ _ (8, 0) = some _ from rfl)) (by simp [kw_all, kw_nmo, kw_nmv, kw_set1, kw_set2, kw_keep, kw_alo, kw_alv]) (fun r2 ad2 h2 he2 hp2 => ?_)
    obtain ⟨rfl, k9, hk9, rfl⟩ := hp2
    refine kw_istore_n dX10_advance_63 (Nat.le_of_ble_eq_true rfl) ?_
    refine kw_goto (tgt := 67) dX10_advance_64 (by decide) ?_
    refine kw_aload_n dX10_advance_67 rfl ?_
    refine kw_callVf (As := []) (w_settle l (pkNF s k b).2.1 k9 hs1 hs2 hs3) dX10_advance_68 cl_X10_82 rfl rfl rfl rfl (Nat.le_of_ble_eq_true rfl) ⟨(Nat.le_of_ble_eq_true rfl), (Nat.le_of_ble_eq_true rfl), (by show 0 + C + 0 ≤ C; omega), (by show 0 + 3 * C + 0 ≤ 3 * C; omega)⟩ ?_
    have hse := settleF_eq (s := (pkNF s k b).2.1) hk9
    refine kw_iload_n dX10_advance_71 rfl ?_
    exact kw_zret dX10_advance_72 rfl (b2_nar _) (by first | (show 0 + C + 0 ≤ C; omega) | (show 0 + 3 * C + 0 ≤ 3 * C; omega)) (by first | (show 0 + C + 0 ≤ C; omega) | (show 0 + 3 * C + 0 ≤ 3 * C; omega)) (hK _ _ _ ⟨fun q hq => he2 q hq, rfl, _, hse.2, by rw [hse.1]⟩)
  have n1 : ((nI (ph_ s))).toInt ≠ 1 := fun q => e1 (Int32.toInt_inj.mp (q.trans (by decide)))
  have n2 : ((nI (ph_ s))).toInt ≠ 2 := fun q => e2 (Int32.toInt_inj.mp (q.trans (by decide)))
  have n3 : ((nI (ph_ s))).toInt ≠ 3 := fun q => e3 (Int32.toInt_inj.mp (q.trans (by decide)))
  have n4 : ((nI (ph_ s))).toInt ≠ 4 := fun q => e4 (Int32.toInt_inj.mp (q.trans (by decide)))
  refine kw_tableOut (tgt := 67) dX10_advance_6 (by omega) (by decide) ?_
  exfalso
  clear hK hC9 g1 g2 g4
  have z1 : ph_ s ≠ 1 := fun q => e1 (by rw [q]; rfl)
  have z2 : ph_ s ≠ 2 := fun q => e2 (by rw [q]; rfl)
  have z3 : ph_ s ≠ 3 := fun q => e3 (by rw [q]; rfl)
  have z4 : ph_ s ≠ 4 := fun q => e4 (by rw [q]; rfl)
  omega
set_option maxHeartbeats 4000000 in
set_option maxRecDepth 100000 in
theorem P_step (l : Launch) (I : SG → KG → Prop) (hI : ∀ t κ, I t κ → ph_ t ≠ 0 → advOk t κ) (hI2 : ∀ t κ, I t κ → ph_ t ≠ 0 → (advF t κ).1 = true → I (advF t κ).2.1 (advF t κ).2.2) (hI3 : ∀ t κ κ', kEq κ' κ → I t κ → I t κ') (s : SG) (k : KG) (hs : I s k) (hph : ph_ s ≤ 4) (hnp : np_ s ≤ 40) (hphI : ∀ t κ, I t κ → ph_ t ≤ 4) (x : Int32) : kw_Q l yX11_step cX11_step 3 (Option.some Jvm.ClassFile.FieldType.int) { frames := 7, cells := 40, slots := 120, locals := 149 } [pr_ (0, 0), pi_ x] (hC s k) (fun r h' => r = some (pi_ (c_step s k x).1) ∧ ∃ k', kEq k' (c_step s k x).2.2 ∧ h' = hC (c_step s k x).2.1 k') := by
  refine kw_M_of RX11 "step" [some (pr_ (0, 0)), some (pi_ x), none] (by decide) rfl rfl rfl (Nat.le_of_ble_eq_true rfl) ?_
  intro D ad A
  refine kw_Kgen (fun K hK => ?_)
  refine kw_aload_n dX11_step_0 rfl ?_
  refine kw_get dX11_step_1 fl_X11_10 rfl rfl ?_
  refine kw_get dX11_step_4 fl_X11_80 rfl rfl ?_
  refine kw_if_eq (tgt := 13) dX11_step_7 (by decide) (fun c7 => ?_) (fun c7 => ?_)
  · skip
    have hd : ¬ dn_ s = true := by rw [b2_0.mp c7]; decide
    refine kw_iload_n dX11_step_13 rfl ?_
    refine kw_iconst (v := 1) dX11_step_14 (by decide) ?_
    refine kw_icmp_lt (tgt := 25) dX11_step_15 (by decide) (fun c15 => ?_) (fun c15 => ?_)
    · skip
      refine kw_bipush (v := (-102)) dX11_step_25 (by decide) ?_
      exact kw_iret dX11_step_27 rfl (by first | exact Nat.le_of_ble_eq_true rfl | (show _ ≤ 40; omega) | (show _ ≤ 120; omega)) (by first | exact Nat.le_of_ble_eq_true rfl | (show _ ≤ 40; omega) | (show _ ≤ 120; omega)) (hK _ _ _ ⟨fun _ _ => rfl, by rw [c_step, if_neg hd, if_pos (Or.inl c15)], k, by rw [c_step, if_neg hd, if_pos (Or.inl c15)]; exact kEq.rf _, by rw [c_step, if_neg hd, if_pos (Or.inl c15)]⟩)
    · skip
      refine kw_iload_n dX11_step_18 rfl ?_
      refine kw_sipush (v := 500) dX11_step_19 (by decide) ?_
      refine kw_icmp_le (tgt := 28) dX11_step_22 (by decide) (fun c22 => ?_) (fun c22 => ?_)
      · skip
        have hx : ¬ (x < 1 ∨ 500 < x) := fun q => q.elim c15 (fun z => Int32.not_lt.mpr c22 z)
        refine kw_aload_n dX11_step_28 rfl ?_
        refine kw_get dX11_step_29 fl_X11_39 rfl rfl ?_
        refine kw_get dX11_step_32 fl_X11_229 rfl rfl ?_
        refine kw_if_ne (tgt := 41) dX11_step_35 (by decide) (fun c35 => ?_) (fun c35 => ?_)
        · skip
          have e35 : ph_ s ≠ 0 := fun q => c35 (by rw [q]; rfl)
          rw [c_step, if_neg hd, if_neg hx, if_neg e35] at hK
          refine kw_iconst (v := 0) dX11_step_41 (by decide) ?_
          refine kw_istore_n dX11_step_42 (Nat.le_of_ble_eq_true rfl) ?_
          obtain ⟨n, hn1, rfl⟩ : ∃ n : Nat, n < 2 ^ 31 ∧ x = nI n := nI_of (fun q => c15 (Int32.lt_trans q (by decide)))
          have hn5 : n ≤ 500 := nI_le' (b := 500) hn1 (by decide) c22
          rw [cl_, nI_clamp hn1] at hK
          obtain ⟨ad0, had0⟩ : ∃ x, x = ad := ⟨_, rfl⟩
          obtain ⟨W, hW⟩ : ∃ W, stepF n s k 0 = W := ⟨_, rfl⟩
          rw [hW] at hK
          have loop : ∀ (n_ : Nat) (i : Nat) (ad : KK → Nat) (t : SG) (κ K1 : KG), n - i < n_ → i ≤ n → stepF (n - i) t K1 i = W → kEq κ K1 → I t κ → np_ s ≤ np_ t → np_ t ≤ 40 → nb_ t = nb_ s → ns_ t = ns_ s → (∀ q, hC s k q ≠ none → ad q = ad0 q) → kw_G l D cX11_step RX11 (Option.some Jvm.ClassFile.FieldType.int) "step" { frames := 7, cells := 40, slots := 120, locals := 149 } A K ad (hC t κ) (np_ t - np_ s) (3 * (np_ t - np_ s)) 43 [some (pr_ (0, 0)), some (pi_ (nI n)), some (pi_ (nI i))] [] := by
            intro n_
            induction n_ with
            | zero =>
              intro i ad t κ K1 hm_
              exact absurd hm_ (Nat.not_lt_zero _)
            | succ n_ ih =>
              intro i ad t κ K1 hm_ hi hw hke hIt h1 h2 h3 h4 hae
              refine kw_iload_n dX11_step_43 rfl ?_
              refine kw_iload_n dX11_step_44 rfl ?_
              refine kw_icmp_ge (tgt := 81) dX11_step_45 (by decide) (fun c45 => ?_) (fun c45 => ?_)
              · skip
                have e : i = n := Nat.le_antisymm hi (nI_le' (by omega) (by omega) c45)
                have hw2 : W = (nI n, t, K1) := by rw [← hw, show n - i = 0 by omega, e]; rfl
                refine kw_iload_n dX11_step_81 rfl ?_
                exact kw_iret dX11_step_82 rfl (by first | exact Nat.le_of_ble_eq_true rfl | (show _ ≤ 40; omega) | (show _ ≤ 120; omega)) (by first | exact Nat.le_of_ble_eq_true rfl | (show _ ≤ 40; omega) | (show _ ≤ 120; omega)) (hK _ _ _ ⟨fun q hq => (hae q hq).trans (congrFun had0 q), by rw [hw2], κ, by rw [hw2]; exact hke, by rw [hw2]⟩)
              · skip
                have hlt : i < n := nI_nle' (by omega) (by omega) c45
                obtain ⟨d, hd9⟩ : ∃ d, n - i = d + 1 := ⟨n - i - 1, by omega⟩
                rw [hd9, stepF] at hw
                have hpt := hphI t κ hIt
                refine kw_aload_n dX11_step_48 rfl ?_
                refine kw_get dX11_step_49 fl_X11_39 rfl rfl ?_
                refine kw_get dX11_step_52 fl_X11_229 rfl rfl ?_
                refine kw_if_ne (tgt := 60) dX11_step_55 (by decide) (fun c55 => ?_) (fun c55 => ?_)
                · skip
                  have e55 : ph_ t ≠ 0 := fun q => c55 (by rw [q]; rfl)
                  rw [if_neg e55] at hw
                  have hok := hI t κ hIt e55
                  obtain ⟨n1, n2⟩ := advF_np hok e55
                  obtain ⟨q1, q2, q3⟩ := advF_eq (s := t) hke
                  refine kw_aload_n dX11_step_60 rfl ?_
                  refine kw_get dX11_step_61 fl_X11_39 rfl rfl ?_
                  refine kw_callVq (As := []) (w_adv l (np_ (advF t κ).2.1 - np_ t) t κ hok e55 (by omega)) dX11_step_64 cl_X11_255 rfl rfl rfl rfl (Nat.le_of_ble_eq_true rfl) ⟨(Nat.le_of_ble_eq_true rfl), (Nat.le_of_ble_eq_true rfl), (by show (np_ t - np_ s) + (np_ (advF t κ).2.1 - np_ t) ≤ 40; omega), (by show 3 * (np_ t - np_ s) + 3 * (np_ (advF t κ).2.1 - np_ t) ≤ 120; omega)⟩ (by simp [kw_all, kw_alo, kw_alv, kw_set1, kw_keep]; exact nm_some (show hC t κ (0, 0) = some _ from rfl)) (by simp [kw_all, kw_nmo, kw_nmv, kw_set1, kw_set2, kw_keep, kw_alo, kw_alv]) (fun r2 ad2 h2 he2 hp2 => ?_)
                  obtain ⟨rfl, k9, hk9, rfl⟩ := hp2
                  have f1 := advF_1 t κ 1 (Or.inl rfl)
                  have f7 := advF_1 t κ 7 (Or.inr rfl)
                  refine kw_cs (c' := np_ (advF t κ).2.1 - np_ s) (s' := 3 * (np_ (advF t κ).2.1 - np_ s)) (by show (np_ t - np_ s) + (np_ (advF t κ).2.1 - np_ t) = _; omega) (by show 3 * (np_ t - np_ s) + 3 * (np_ (advF t κ).2.1 - np_ t) = _; omega) ?_
                  refine kw_if_ne (tgt := 75) dX11_step_67 (by decide) (fun c67 => ?_) (fun c67 => ?_)
                  · skip
                    have e67 := b2_n0.mp c67
                    rw [← q1, if_pos e67] at hw
                    refine kw_iinc dX11_step_75 rfl (nI_i i) ?_
                    refine kw_goto (tgt := 43) dX11_step_78 (by decide) ?_
                    exact ih (i + 1) ad2 (advF t κ).2.1 k9 (advF t K1).2.2 (by omega) (by omega) (by rw [show n - (i + 1) = d by omega, q2]; exact hw) (hk9.tr q3) (hI3 _ _ _ hk9 (hI2 t κ hIt e55 e67)) (by omega) (by omega) (f1.trans h3) (f7.trans h4) (fun q hq => (he2 q (hC_al2 h3.symm h1 h4.symm q hq)).trans (hae q hq))
                  · skip
                    have e67 := b2_0.mp c67
                    rw [← q1, e67, if_neg (by decide)] at hw
                    refine kw_aload_n dX11_step_70 rfl ?_
                    refine kw_callVf (As := []) (o_lose l (advF t κ).2.1 k9) dX11_step_71 cl_X11_151 rfl rfl rfl rfl (Nat.le_of_ble_eq_true rfl) ⟨(Nat.le_of_ble_eq_true rfl), (Nat.le_of_ble_eq_true rfl), (by show (np_ (advF t κ).2.1 - np_ s) + 0 ≤ 40; omega), (by show 3 * (np_ (advF t κ).2.1 - np_ s) + 0 ≤ 120; omega)⟩ ?_
                    refine kw_cs (c' := np_ (advF t κ).2.1 - np_ s) (s' := 3 * (np_ (advF t κ).2.1 - np_ s)) rfl rfl ?_
                    exact kw_iret dX11_step_74 rfl (by first | exact Nat.le_of_ble_eq_true rfl | (show _ ≤ 40; omega) | (show _ ≤ 120; omega)) (by first | exact Nat.le_of_ble_eq_true rfl | (show _ ≤ 40; omega) | (show _ ≤ 120; omega)) (hK _ _ _ ⟨fun q hq => (he2 q (hC_al2 h3.symm h1 h4.symm q hq)).trans ((hae q hq).trans (congrFun had0 q)), by rw [← hw], k9, by rw [← hw]; exact hk9.tr q3, by rw [← hw, q2]⟩)
                · skip
                  have e55 : ph_ t = 0 := nI_eq' (b := 0) (by omega) (by decide) c55
                  rw [if_pos e55] at hw
                  refine kw_iload_n dX11_step_58 rfl ?_
                  exact kw_iret dX11_step_59 rfl (by first | exact Nat.le_of_ble_eq_true rfl | (show _ ≤ 40; omega) | (show _ ≤ 120; omega)) (by first | exact Nat.le_of_ble_eq_true rfl | (show _ ≤ 40; omega) | (show _ ≤ 120; omega)) (hK _ _ _ ⟨fun q hq => (hae q hq).trans (congrFun had0 q), by rw [← hw], κ, by rw [← hw]; exact hke, by rw [← hw]⟩)
          refine kw_cs (by omega) (by omega) (loop (n + 1) 0 ad s k k (by omega) (by omega) (by rw [Nat.sub_zero]; exact hW) (kEq.rf k) hs (Nat.le_refl _) hnp rfl rfl (fun q _ => (congrFun had0 q).symm))
        · skip
          have e35 : ph_ s = 0 := nI_eq' (b := 0) (by omega) (by decide) c35
          refine kw_bipush (v := (-103)) dX11_step_38 (by decide) ?_
          exact kw_iret dX11_step_40 rfl (by first | exact Nat.le_of_ble_eq_true rfl | (show _ ≤ 40; omega) | (show _ ≤ 120; omega)) (by first | exact Nat.le_of_ble_eq_true rfl | (show _ ≤ 40; omega) | (show _ ≤ 120; omega)) (hK _ _ _ ⟨fun _ _ => rfl, by rw [c_step, if_neg hd, if_neg hx, if_pos e35], k, by rw [c_step, if_neg hd, if_neg hx, if_pos e35]; exact kEq.rf _, by rw [c_step, if_neg hd, if_neg hx, if_pos e35]⟩)
      · skip
        have c22b := Int32.not_le.mp c22
        refine kw_bipush (v := (-102)) dX11_step_25 (by decide) ?_
        exact kw_iret dX11_step_27 rfl (by first | exact Nat.le_of_ble_eq_true rfl | (show _ ≤ 40; omega) | (show _ ≤ 120; omega)) (by first | exact Nat.le_of_ble_eq_true rfl | (show _ ≤ 40; omega) | (show _ ≤ 120; omega)) (hK _ _ _ ⟨fun _ _ => rfl, by rw [c_step, if_neg hd, if_pos (Or.inr c22b)], k, by rw [c_step, if_neg hd, if_pos (Or.inr c22b)]; exact kEq.rf _, by rw [c_step, if_neg hd, if_pos (Or.inr c22b)]⟩)
  · skip
    have hd := b2_n0.mp c7
    refine kw_bipush (v := (-106)) dX11_step_10 (by decide) ?_
    exact kw_iret dX11_step_12 rfl (by first | exact Nat.le_of_ble_eq_true rfl | (show _ ≤ 40; omega) | (show _ ≤ 120; omega)) (by first | exact Nat.le_of_ble_eq_true rfl | (show _ ≤ 40; omega) | (show _ ≤ 120; omega)) (hK _ _ _ ⟨fun _ _ => rfl, by rw [c_step, if_pos hd], k, by rw [c_step, if_pos hd]; exact kEq.rf _, by rw [c_step, if_pos hd]⟩)
