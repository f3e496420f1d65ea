/-! THE CLASS'S CALLS, 8: mirrored, audit -/
theorem rdown_congr (s : SG) (N : Nat) : ∀ (n : Nat) (r r' : Nat → Bool), n ≤ N → (∀ q, q < N → r q = r' q) → ∀ q, q < N → rdown s n r q = rdown s n r' q
  | 0, r, r', _, h => h
  | n + 1, r, r', hn, h => by
    rw [rdown, rdown]
    refine rdown_congr s N n _ _ (by omega) (fun q hq => ?_)
    rw [h n (by omega)]
    split
    · show (r q || _) = (r' q || _)
      rw [h q hq]
    · exact h q hq
theorem rfrom_congr (s : SG) {N b : Nat} {r r' : Nat → Bool} (hb : b < N) (h : ∀ q, q < N → r q = r' q) : ∀ q, q < N → rfrom s b r q = rfrom s b r' q :=
  rdown_congr s N (b + 1) _ _ hb (fun q hq => by
    by_cases e : q = b
    · simp [va_up, e]
    · simp only [va_up, if_neg e]; exact h q hq)
theorem rst_congr {N : Nat} {f : Nat → Nat} {r r' : Nat → Bool} (h : ∀ q, q < N → r q = r' q) : ∀ n, ∀ q, q < N → rst f r n q = rst f r' n q
  | 0 => h
  | n + 1 => fun q hq => by
    rw [rst, rst]
    simp only [va_up]
    rw [rst_congr h n q hq]
/-- what is reached stays within what holds its children -/
theorem rdown_sub (s : SG) {T : Nat → Prop} : ∀ (n : Nat) (r : Nat → Bool), n ≤ nb_ s → (∀ j, j < nb_ s → T j → ∀ i, i < cm_ s j → T (ch_ s j i)) → (∀ q, r q = true → T q) → ∀ q, rdown s n r q = true → T q
  | 0, r, _, _, h => h
  | n + 1, r, hn, hT, h => by
    rw [rdown]
    refine rdown_sub s n _ (by omega) hT (fun q hq => ?_)
    cases e : r n with
    | false => rw [e, if_neg (by decide)] at hq; exact h q hq
    | true =>
      rw [e, if_pos rfl] at hq
      have hq : (r q || anyN (fun a => decide (ch_ s n a = q)) (cm_ s n)) = true := hq
      rw [Bool.or_eq_true] at hq
      rcases hq with hq | hq
      · exact h q hq
      · obtain ⟨a, ha, h2⟩ := anyN_iff.mp hq
        rw [← of_decide_eq_true h2]
        exact hT n (by omega) (h n e) a ha
theorem rfrom_sub (s : SG) {T : Nat → Prop} {b : Nat} {r : Nat → Bool} (hb : b < nb_ s) (hT : ∀ j, j < nb_ s → T j → ∀ i, i < cm_ s j → T (ch_ s j i)) (hTb : T b) (h : ∀ q, r q = true → T q) : ∀ q, rfrom s b r q = true → T q :=
  rdown_sub s (b + 1) _ hb hT (fun q hq => by
    by_cases e : q = b
    · rw [e]; exact hTb
    · simp only [va_up, if_neg e] at hq; exact h q hq)
theorem rst_sub {T : Nat → Prop} {f : Nat → Nat} {r : Nat → Bool} (h : ∀ q, r q = true → T q) : ∀ n, (∀ j, j < n → T (f j)) → ∀ q, rst f r n q = true → T q
  | 0, _ => h
  | n + 1, hf => fun q hq => by
    rw [rst] at hq
    by_cases e : q = f n
    · rw [e]; exact hf n (by omega)
    · simp only [va_up, if_neg e] at hq; exact rst_sub h n (fun j hj => hf j (by omega)) q hq
theorem rthere_sub (s : SG) {T : Nat → Prop} {r : Nat → Bool} (h : ∀ q, r q = true → T q) (ht : ∀ q, th_ s q = true → T q) : ∀ n, ∀ q, rthere s r n q = true → T q
  | 0 => h
  | n + 1 => fun q hq => by
    rw [rthere] at hq
    cases e : th_ s n with
    | true =>
      rw [e, if_pos rfl] at hq
      by_cases e2 : q = n
      · rw [e2]; exact ht n e
      · simp only [va_up, if_neg e2] at hq; exact rthere_sub s h ht n q hq
    | false =>
      rw [e, if_neg (by decide)] at hq
      exact rthere_sub s h ht n q hq
/-- what a row's blocks reach -/
def rall (s : SG) (f : Nat → Nat) (n : Nat) : Nat → Bool := rdown s (nb_ s) (rst f (fun _ => false) n)
def kSim (k' k : KG) : Prop := k'.1 = k.1 ∧ ka_ k' = ka_ k ∧ (∀ i, i = 1 ∨ i = 2 ∨ i = 4 ∨ i = 5 → kb_ k' i = kb_ k i) ∧ kn_ k' 0 = kn_ k 0 ∧ kn_ k' 1 = kn_ k 1 ∧ ∀ m, m < 2 → dn2_ k' m = dn2_ k m
theorem kSim.rf (k : KG) : kSim k k := ⟨rfl, rfl, fun _ _ => rfl, rfl, rfl, fun _ _ => rfl⟩
theorem kSim.tr {a b c : KG} (h : kSim a b) (g : kSim b c) : kSim a c := ⟨h.1.trans g.1, h.2.1.trans g.2.1, fun i hi => (h.2.2.1 i hi).trans (g.2.2.1 i hi), h.2.2.2.1.trans g.2.2.2.1, h.2.2.2.2.1.trans g.2.2.2.2.1, fun m hm => (h.2.2.2.2.2 m hm).trans (g.2.2.2.2.2 m hm)⟩
theorem kSim.b0 (k : KG) (r : Nat → Bool) : kSim (kB k 0 r) k := ⟨rfl, rfl, fun i hi => by rcases hi with rfl | rfl | rfl | rfl <;> rfl, rfl, rfl, fun _ _ => rfl⟩
/-- whether a snapshot reaches a block that mirror i does not have -/
def brkS (s : SG) (k : KG) (i j : Nat) : Bool := decide (0 < cntN (fun q => rall s (ro_ s j) (rm_ s j) q && !kb_ k (1 + i) q) (nb_ s))
def brkN (s : SG) (k : KG) (i : Nat) : Nat := cntN (fun j => kb_ k (4 + i) j && brkS s k i j) (ns_ s)
def rootOk (s : SG) : Prop := ns_ s ≤ 40 ∧ ∀ j, j < ns_ s → rm_ s j ≤ 8 ∧ ∀ i, i < rm_ s j → ro_ s j i < nb_ s
theorem kb_b0 (k : KG) (r : Nat → Bool) {i : Nat} (hi : i ≠ 0) : kb_ (kB k 0 r) i = kb_ k i := by show va_up k.2.2.1 0 r i = _; simp only [va_up, if_neg hi]
set_option maxHeartbeats 4000000 in
set_option maxRecDepth 100000 in
theorem o_broken (l : Launch) (s : SG) (k : KG) (hb : nb_ s ≤ 80) (hkd : kidsOk s) (hro : rootOk s) (i : Nat) (hi : i < 2) : kw_P l yX11_brokenSnapshots cX11_brokenSnapshots 4 (Option.some Jvm.ClassFile.FieldType.int) { frames := 3, cells := 0, slots := 0, locals := 65 } [pr_ (0, 0), pr_ (19, i)] (hC s k) (fun r h' => r = some (pi_ (nI (brkN s k i))) ∧ ∃ q, h' = hC s (kB k 0 q)) := by
  refine kw_M_of RX11 "brokenSnapshots" [some (pr_ (0, 0)), some (pr_ (19, i)), none, none] (by decide) rfl rfl rfl (Nat.le_of_ble_eq_true rfl) ?_
  intro D ad A
  refine kw_Kgen (fun K hK => ?_)
  have loop : ∀ (n_ : Nat) (j : Nat) (r : Nat → Bool), ns_ s - j < n_ → j ≤ ns_ s → kw_G l D cX11_brokenSnapshots RX11 (Option.some Jvm.ClassFile.FieldType.int) "brokenSnapshots" { frames := 3, cells := 0, slots := 0, locals := 65 } A K ad (hC s (kB k 0 r)) 0 0 4 [some (pr_ (0, 0)), some (pr_ (19, i)), some (pi_ (nI (cntN (fun j => kb_ k (4 + i) j && brkS s k i j) j))), some (pi_ (nI j))] [] := by
    intro n_
    induction n_ with
    | zero =>
      intro j r hm_
      exact absurd hm_ (Nat.not_lt_zero _)
    | succ n_ ih =>
      intro j r hm_ hj
      refine kw_iload_n dX11_brokenSnapshots_4 rfl ?_
      refine kw_aload_n dX11_brokenSnapshots_5 rfl ?_
      refine kw_get dX11_brokenSnapshots_6 fl_X11_183 rfl rfl ?_
      refine kw_icmp_ge (tgt := 89) dX11_brokenSnapshots_9 (by decide) (fun c9 => ?_) (fun c9 => ?_)
      · skip
        have hn4 := hro.1
        have e : j = ns_ s := Nat.le_antisymm hj (nI_le' (by omega) (by omega) c9)
        refine kw_iload_n dX11_brokenSnapshots_89 rfl ?_
        exact kw_iret dX11_brokenSnapshots_90 rfl (Nat.le_of_ble_eq_true rfl) (Nat.le_of_ble_eq_true rfl) (hK _ _ _ ⟨rfl, by rw [e]; rfl, r, rfl⟩)
      · skip
        have hn4 := hro.1
        have hlt : j < ns_ s := nI_nle' (by omega) (by omega) c9
        obtain ⟨h8, hf⟩ := hro.2 j hlt
        refine kw_aload_n dX11_brokenSnapshots_12 rfl ?_
        refine kw_get dX11_brokenSnapshots_13 fl_X11_391 (hC_mi (by omega)) rfl ?_
        refine kw_iload_n dX11_brokenSnapshots_16 rfl ?_
        refine kw_zaldN dX11_brokenSnapshots_17 (hC_ms (by omega)) (by omega) (by decide) ?_
        refine kw_top (v' := pi_ (b2 (kb_ k (4 + i) j))) (by rw [kb_b0 k r (by omega)]) ?_
        refine kw_if_eq (tgt := 83) dX11_brokenSnapshots_18 (by decide) (fun c18 => ?_) (fun c18 => ?_)
        · skip
          refine kw_lveq (lv' := [some (pr_ (0, 0)), some (pr_ (19, i)), some (pi_ (nI (cntN (fun j => kb_ k (4 + i) j && brkS s k i j) (j + 1)))), some (pi_ (nI j))]) (by rw [show cntN (fun j => kb_ k (4 + i) j && brkS s k i j) (j + 1) = cntN (fun j => kb_ k (4 + i) j && brkS s k i j) j from by rw [cntN]; simp only [b2_0.mp c18]; rfl]) ?_
          refine kw_iinc dX11_brokenSnapshots_83 rfl (nI_i j) ?_
          refine kw_goto (tgt := 4) dX11_brokenSnapshots_86 (by decide) ?_
          exact ih (j + 1) _ (by omega) (by omega)
        · skip
          refine kw_aload_n dX11_brokenSnapshots_21 rfl ?_
          refine kw_get dX11_brokenSnapshots_22 fl_X11_30 rfl rfl ?_
          refine kw_callVf (As := []) (t_none l s (kB k 0 r) hb) dX11_brokenSnapshots_25 cl_X11_165 rfl rfl rfl rfl (Nat.le_of_ble_eq_true rfl) ⟨(Nat.le_of_ble_eq_true rfl), (Nat.le_of_ble_eq_true rfl), (Nat.le_of_ble_eq_true rfl), (Nat.le_of_ble_eq_true rfl)⟩ ?_
          rw [kB2]
          refine kw_aload_n dX11_brokenSnapshots_28 rfl ?_
          refine kw_get dX11_brokenSnapshots_29 fl_X11_30 rfl rfl ?_
          refine kw_aload_n dX11_brokenSnapshots_32 rfl ?_
          refine kw_get dX11_brokenSnapshots_33 fl_X11_59 rfl rfl ?_
          refine kw_iload_n dX11_brokenSnapshots_36 rfl ?_
          refine kw_aaldN dX11_brokenSnapshots_37 rfl (by omega) (by decide) (if_pos hlt) ?_
          refine kw_get dX11_brokenSnapshots_38 fl_X11_238 (hC_sn hlt) rfl ?_
          refine kw_aload_n dX11_brokenSnapshots_41 rfl ?_
          refine kw_get dX11_brokenSnapshots_42 fl_X11_59 rfl rfl ?_
          refine kw_iload_n dX11_brokenSnapshots_45 rfl ?_
          refine kw_aaldN dX11_brokenSnapshots_46 rfl (by omega) (by decide) (if_pos hlt) ?_
          refine kw_get dX11_brokenSnapshots_47 fl_X11_238 (hC_sn hlt) rfl ?_
          refine kw_alen dX11_brokenSnapshots_50 (hC_rt hlt) ?_
          refine kw_callVf (As := [pr_ (17, j), pi_ (nI (rm_ s j))]) (t_all l s k hb (17, j) (rm_ s j) (rm_ s j) (ro_ s j) (fun _ => hC_rt hlt) (by omega) (Nat.le_refl _) hf _) dX11_brokenSnapshots_51 cl_X11_397 rfl rfl rfl rfl (Nat.le_of_ble_eq_true rfl) ⟨(Nat.le_of_ble_eq_true rfl), (Nat.le_of_ble_eq_true rfl), (Nat.le_of_ble_eq_true rfl), (Nat.le_of_ble_eq_true rfl)⟩ ?_
          refine kw_aload_n dX11_brokenSnapshots_54 rfl ?_
          refine kw_get dX11_brokenSnapshots_55 fl_X11_30 rfl rfl ?_
          refine kw_callVf (As := []) (t_on l s k hb hkd _) dX11_brokenSnapshots_58 cl_X11_171 rfl rfl rfl rfl (Nat.le_of_ble_eq_true rfl) ⟨(Nat.le_of_ble_eq_true rfl), (Nat.le_of_ble_eq_true rfl), (Nat.le_of_ble_eq_true rfl), (Nat.le_of_ble_eq_true rfl)⟩ ?_
          refine kw_iload_n dX11_brokenSnapshots_61 rfl ?_
          refine kw_aload_n dX11_brokenSnapshots_62 rfl ?_
          refine kw_get dX11_brokenSnapshots_63 fl_X11_30 rfl rfl ?_
          refine kw_aload_n dX11_brokenSnapshots_66 rfl ?_
          refine kw_get dX11_brokenSnapshots_67 fl_X11_384 (hC_mi (by omega)) rfl ?_
          refine kw_callVf (As := [pr_ (20, i)]) (t_outside l s _ hb i (by omega)) dX11_brokenSnapshots_70 cl_X11_400 rfl rfl rfl rfl (Nat.le_of_ble_eq_true rfl) ⟨(Nat.le_of_ble_eq_true rfl), (Nat.le_of_ble_eq_true rfl), (Nat.le_of_ble_eq_true rfl), (Nat.le_of_ble_eq_true rfl)⟩ ?_
          refine kw_top (v' := pi_ (nI (cntN (fun q => rall s (ro_ s j) (rm_ s j) q && !kb_ k (1 + i) q) (nb_ s)))) (congrArg (fun z => pi_ (nI z)) (cntN_congr (fun q hq => by rw [kb_b0 k _ (by omega)]; show (rdown s (nb_ s) (rst (ro_ s j) (rnone (nb_ s) r) (rm_ s j)) q && _) = _; rw [rdown_congr s (nb_ s) (nb_ s) _ (rst (ro_ s j) (fun _ => false) (rm_ s j)) (Nat.le_refl _) (rst_congr (fun a ha => by simp [rnone, ha]) _) q hq]; rfl))) ?_
          refine kw_if_le (tgt := 80) dX11_brokenSnapshots_73 (by decide) (fun c73 => ?_) (fun c73 => ?_)
          · skip
            have e73 : brkS s k i j = false := decide_eq_false (fun q => absurd c73 (nI_nle q (Nat.lt_of_le_of_lt (cntN_le _) (by omega))))
            refine kw_iconst (v := 0) dX11_brokenSnapshots_80 (by decide) ?_
            refine kw_iadd dX11_brokenSnapshots_81 ?_
            refine kw_top (v' := pi_ (nI (cntN (fun j => kb_ k (4 + i) j && brkS s k i j) (j + 1)))) (cnt_f (p := fun j => kb_ k (4 + i) j && brkS s k i j) (by simp only [e73, Bool.and_false])) ?_
            refine kw_istore_n dX11_brokenSnapshots_82 (Nat.le_of_ble_eq_true rfl) ?_
            refine kw_iinc dX11_brokenSnapshots_83 rfl (nI_i j) ?_
            refine kw_goto (tgt := 4) dX11_brokenSnapshots_86 (by decide) ?_
            exact ih (j + 1) _ (by omega) (by omega)
          · skip
            have e73 : brkS s k i j = true := decide_eq_true (Nat.pos_of_ne_zero (fun q => c73 (by rw [q]; decide)))
            refine kw_iconst (v := 1) dX11_brokenSnapshots_76 (by decide) ?_
            refine kw_goto (tgt := 81) dX11_brokenSnapshots_77 (by decide) ?_
            refine kw_iadd dX11_brokenSnapshots_81 ?_
            refine kw_top (v' := pi_ (nI (cntN (fun j => kb_ k (4 + i) j && brkS s k i j) (j + 1)))) (cnt_t (p := fun j => kb_ k (4 + i) j && brkS s k i j) (by simp only [e73, b2_n0.mp c18]; rfl)) ?_
            refine kw_istore_n dX11_brokenSnapshots_82 (Nat.le_of_ble_eq_true rfl) ?_
            refine kw_iinc dX11_brokenSnapshots_83 rfl (nI_i j) ?_
            refine kw_goto (tgt := 4) dX11_brokenSnapshots_86 (by decide) ?_
            exact ih (j + 1) _ (by omega) (by omega)
  refine kw_iconst (v := 0) dX11_brokenSnapshots_0 (by decide) ?_
  refine kw_istore_n dX11_brokenSnapshots_1 (Nat.le_of_ble_eq_true rfl) ?_
  refine kw_iconst (v := 0) dX11_brokenSnapshots_2 (by decide) ?_
  refine kw_istore_n dX11_brokenSnapshots_3 (Nat.le_of_ble_eq_true rfl) ?_
  have h0 : hC s k = hC s (kB k 0 (kb_ k 0)) := by rw [kB_id]
  rw [h0]
  exact loop (ns_ s + 1) 0 _ (by omega) (by omega)
def a_mirrored0 (s : SG) (k : KG) (x w : Int32) : Int32 := if x < 0 ∨ 2 ≤ x then -101 else if w = 0 then nI (dn2_ k (cl_ x)) else if w = 1 then nI (cntN (kb_ k (1 + cl_ x)) 80) else if w = 2 then nI (cntN (kb_ k (4 + cl_ x)) 40) else if w = 3 then nI (brkN s k (cl_ x)) else -102
set_option maxHeartbeats 4000000 in
set_option maxRecDepth 100000 in
theorem P_mirrored (l : Launch) (s : SG) (k : KG) (hb : nb_ s ≤ 80) (hkd : kidsOk s) (hro : rootOk s) (x w : Int32) : kw_P l yX11_mirrored cX11_mirrored 4 (Option.some Jvm.ClassFile.FieldType.int) { frames := 4, cells := 0, slots := 0, locals := 88 } [pr_ (0, 0), pi_ x, pi_ w] (hC s k) (fun r h' => r = some (pi_ (a_mirrored0 s k x w)) ∧ ∃ q, h' = hC s (kB k 0 q)) := by
  refine kw_M_of RX11 "mirrored" [some (pr_ (0, 0)), some (pi_ x), some (pi_ w), none] (by decide) rfl rfl rfl (Nat.le_of_ble_eq_true rfl) ?_
  intro D ad A
  refine kw_Kgen (fun K hK => ?_)
  refine kw_iload_n dX11_mirrored_0 rfl ?_
  refine kw_if_lt (tgt := 9) dX11_mirrored_1 (by decide) (fun c1 => ?_) (fun c1 => ?_)
  · skip
    refine kw_bipush (v := (-101)) dX11_mirrored_9 (by decide) ?_
    exact kw_iret dX11_mirrored_11 rfl (Nat.le_of_ble_eq_true rfl) (Nat.le_of_ble_eq_true rfl) (hK _ _ _ ⟨rfl, by rw [a_mirrored0, if_pos (Or.inl c1)], kb_ k 0, by rw [kB_id]⟩)
  · skip
    refine kw_iload_n dX11_mirrored_4 rfl ?_
    refine kw_iconst (v := 2) dX11_mirrored_5 (by decide) ?_
    refine kw_icmp_lt (tgt := 12) dX11_mirrored_6 (by decide) (fun c6 => ?_) (fun c6 => ?_)
    · skip
      rw [a_mirrored0, if_neg (fun q => q.elim c1 (fun z => Int32.not_le.mpr c6 z))] at hK
      obtain ⟨i, hi1, rfl⟩ := nI_of c1
      have hi : i < 2 := nI_lt' (b := 2) hi1 (by decide) c6
      rw [cl_, nI_clamp hi1] at hK
      refine kw_aload_n dX11_mirrored_12 rfl ?_
      refine kw_get dX11_mirrored_13 fl_X11_65 rfl rfl ?_
      refine kw_iload_n dX11_mirrored_16 rfl ?_
      refine kw_aaldN dX11_mirrored_17 rfl hi (by decide) (if_pos hi) ?_
      refine kw_astore_n dX11_mirrored_18 (Nat.le_of_ble_eq_true rfl) ?_
      refine kw_iload_n dX11_mirrored_19 rfl ?_
      by_cases e0 : w = 0
      · skip
        subst e0
        refine kw_tableIn (off := 32) (tgt := 52) dX11_mirrored_20 (by decide) (by decide) (by decide) (by decide) ?_
        refine kw_aload_n dX11_mirrored_52 rfl ?_
        refine kw_get dX11_mirrored_53 fl_X11_274 (hC_mi (by omega)) rfl ?_
        exact kw_iret dX11_mirrored_56 rfl (Nat.le_of_ble_eq_true rfl) (Nat.le_of_ble_eq_true rfl) (hK _ _ _ ⟨rfl, rfl, kb_ k 0, by rw [kB_id]⟩)
      by_cases e1 : w = 1
      · skip
        subst e1
        refine kw_tableIn (off := 37) (tgt := 57) dX11_mirrored_20 (by decide) (by decide) (by decide) (by decide) ?_
        refine kw_aload_n dX11_mirrored_57 rfl ?_
        refine kw_get dX11_mirrored_58 fl_X11_384 (hC_mi (by omega)) rfl ?_
        refine kw_callSf (As := [pr_ (20, i)]) (r_held l _ (20, i) 80 (kb_ k (1 + i)) (hC_mb (by omega)) (by decide)) dX11_mirrored_61 cl_X11_387 rfl rfl (Nat.le_of_ble_eq_true rfl) ⟨(Nat.le_of_ble_eq_true rfl), (Nat.le_of_ble_eq_true rfl), (Nat.le_of_ble_eq_true rfl), (Nat.le_of_ble_eq_true rfl)⟩ ?_
        exact kw_iret dX11_mirrored_64 rfl (Nat.le_of_ble_eq_true rfl) (Nat.le_of_ble_eq_true rfl) (hK _ _ _ ⟨rfl, rfl, kb_ k 0, by rw [kB_id]⟩)
      by_cases e2 : w = 2
      · skip
        subst e2
        refine kw_tableIn (off := 45) (tgt := 65) dX11_mirrored_20 (by decide) (by decide) (by decide) (by decide) ?_
        refine kw_aload_n dX11_mirrored_65 rfl ?_
        refine kw_get dX11_mirrored_66 fl_X11_391 (hC_mi (by omega)) rfl ?_
        refine kw_callSf (As := [pr_ (21, i)]) (r_held l _ (21, i) 40 (kb_ k (4 + i)) (hC_ms (by omega)) (by decide)) dX11_mirrored_69 cl_X11_387 rfl rfl (Nat.le_of_ble_eq_true rfl) ⟨(Nat.le_of_ble_eq_true rfl), (Nat.le_of_ble_eq_true rfl), (Nat.le_of_ble_eq_true rfl), (Nat.le_of_ble_eq_true rfl)⟩ ?_
        exact kw_iret dX11_mirrored_72 rfl (Nat.le_of_ble_eq_true rfl) (Nat.le_of_ble_eq_true rfl) (hK _ _ _ ⟨rfl, rfl, kb_ k 0, by rw [kB_id]⟩)
      by_cases e3 : w = 3
      · skip
        subst e3
        refine kw_tableIn (off := 53) (tgt := 73) dX11_mirrored_20 (by decide) (by decide) (by decide) (by decide) ?_
        refine kw_aload_n dX11_mirrored_73 rfl ?_
        refine kw_aload_n dX11_mirrored_74 rfl ?_
        refine kw_callV (As := [pr_ (19, i)]) (o_broken l s k hb hkd hro i hi) dX11_mirrored_75 cl_X11_393 rfl rfl rfl rfl (Nat.le_of_ble_eq_true rfl) ⟨(Nat.le_of_ble_eq_true rfl), (Nat.le_of_ble_eq_true rfl), (Nat.le_of_ble_eq_true rfl), (Nat.le_of_ble_eq_true rfl)⟩ (fun r2 h2 hp2 => ?_)
        obtain ⟨rfl, q9, hq9⟩ := hp2
        exact kw_iret dX11_mirrored_78 rfl (Nat.le_of_ble_eq_true rfl) (Nat.le_of_ble_eq_true rfl) (hK _ _ _ ⟨rfl, rfl, q9, hq9⟩)
      have n0 : (w).toInt ≠ 0 := fun q => e0 (Int32.toInt_inj.mp (q.trans (by decide)))
      have n1 : (w).toInt ≠ 1 := fun q => e1 (Int32.toInt_inj.mp (q.trans (by decide)))
      have n2 : (w).toInt ≠ 2 := fun q => e2 (Int32.toInt_inj.mp (q.trans (by decide)))
      have n3 : (w).toInt ≠ 3 := fun q => e3 (Int32.toInt_inj.mp (q.trans (by decide)))
      refine kw_tableOut (tgt := 79) dX11_mirrored_20 (by omega) (by decide) ?_
      refine kw_bipush (v := (-102)) dX11_mirrored_79 (by decide) ?_
      exact kw_iret dX11_mirrored_81 rfl (Nat.le_of_ble_eq_true rfl) (Nat.le_of_ble_eq_true rfl) (hK _ _ _ ⟨rfl, by rw [if_neg e0, if_neg e1, if_neg e2, if_neg e3], kb_ k 0, by rw [kB_id]⟩)
    · skip
      refine kw_bipush (v := (-101)) dX11_mirrored_9 (by decide) ?_
      exact kw_iret dX11_mirrored_11 rfl (Nat.le_of_ble_eq_true rfl) (Nat.le_of_ble_eq_true rfl) (hK _ _ _ ⟨rfl, by rw [a_mirrored0, if_pos (Or.inr (Int32.not_lt.mp c6))], kb_ k 0, by rw [kB_id]⟩)
/-- what is there holds what it reaches; so do snapshots and savers -/
def clOk (s : SG) : Prop := (∀ j, j < nb_ s → th_ s j = true → ∀ i, i < cm_ s j → th_ s (ch_ s j i) = true) ∧ (∀ j, j < ns_ s → kp_ s j = true → ∀ i, i < rm_ s j → th_ s (ro_ s j i) = true) ∧ ∀ j, j < 4 → sv_ s j = true → um_ s j ≤ 8 ∧ ∀ i, i < um_ s j → us_ s j i < nb_ s ∧ th_ s (us_ s j i) = true
theorem cntN_0 {p : Nat → Bool} : ∀ {n : Nat}, (∀ q, q < n → p q = false) → cntN p n = 0
  | 0, _ => rfl
  | n + 1, h => by rw [cntN, h n (by omega), cntN_0 (fun q hq => h q (by omega))]; rfl
set_option maxHeartbeats 4000000 in
set_option maxRecDepth 100000 in
theorem o_freed (l : Launch) (s : SG) (k : KG) (hb : nb_ s ≤ 80) (hkd : kidsOk s) (hro : rootOk s) (hcl : clOk s) : kw_P l yX11_reachedButFreed cX11_reachedButFreed 2 (Option.some Jvm.ClassFile.FieldType.int) { frames := 3, cells := 0, slots := 0, locals := 65 } [pr_ (0, 0)] (hC s k) (fun r h' => r = some (pi_ 0) ∧ ∃ q, h' = hC s (kB k 0 q)) := by
  refine kw_M_of RX11 "reachedButFreed" [some (pr_ (0, 0)), none] (by decide) rfl rfl rfl (Nat.le_of_ble_eq_true rfl) ?_
  intro D ad A
  refine kw_Kgen (fun K hK => ?_)
  obtain ⟨c1, c2, c3⟩ := hcl
  have c1b : ∀ j, j < nb_ s → (j < nb_ s → th_ s j = true) → ∀ i, i < cm_ s j → (ch_ s j i < nb_ s → th_ s (ch_ s j i) = true) := fun j hj hT i hi _ => c1 j hj (hT hj) i hi
  have loop2 : ∀ (n_ : Nat) (j : Nat) (r : Nat → Bool), 4 - j < n_ → j ≤ 4 → (∀ q, r q = true → (q < nb_ s → th_ s q = true)) → kw_G l D cX11_reachedButFreed RX11 (Option.some Jvm.ClassFile.FieldType.int) "reachedButFreed" { frames := 3, cells := 0, slots := 0, locals := 65 } A K ad (hC s (kB k 0 r)) 0 0 63 [some (pr_ (0, 0)), some (pi_ (nI j))] [] := by
    intro n_
    induction n_ with
    | zero =>
      intro j r hm_
      exact absurd hm_ (Nat.not_lt_zero _)
    | succ n_ ih =>
      intro j r hm_ hj hr
      refine kw_iload_n dX11_reachedButFreed_63 rfl ?_
      refine kw_iconst (v := 4) dX11_reachedButFreed_64 (by decide) ?_
      refine kw_icmp_ge (tgt := 111) dX11_reachedButFreed_65 (by decide) (fun c65 => ?_) (fun c65 => ?_)
      · skip
        refine kw_aload_n dX11_reachedButFreed_111 rfl ?_
        refine kw_get dX11_reachedButFreed_112 fl_X11_30 rfl rfl ?_
        refine kw_callVf (As := []) (t_there l s k hb r) dX11_reachedButFreed_115 cl_X11_418 rfl rfl rfl rfl (Nat.le_of_ble_eq_true rfl) ⟨(Nat.le_of_ble_eq_true rfl), (Nat.le_of_ble_eq_true rfl), (Nat.le_of_ble_eq_true rfl), (Nat.le_of_ble_eq_true rfl)⟩ ?_
        refine kw_aload_n dX11_reachedButFreed_118 rfl ?_
        refine kw_get dX11_reachedButFreed_119 fl_X11_30 rfl rfl ?_
        refine kw_callVf (As := []) (t_on l s k hb hkd _) dX11_reachedButFreed_122 cl_X11_171 rfl rfl rfl rfl (Nat.le_of_ble_eq_true rfl) ⟨(Nat.le_of_ble_eq_true rfl), (Nat.le_of_ble_eq_true rfl), (Nat.le_of_ble_eq_true rfl), (Nat.le_of_ble_eq_true rfl)⟩ ?_
        refine kw_aload_n dX11_reachedButFreed_125 rfl ?_
        refine kw_get dX11_reachedButFreed_126 fl_X11_30 rfl rfl ?_
        refine kw_callVf (As := []) (t_butFreed l s _ hb) dX11_reachedButFreed_129 cl_X11_421 rfl rfl rfl rfl (Nat.le_of_ble_eq_true rfl) ⟨(Nat.le_of_ble_eq_true rfl), (Nat.le_of_ble_eq_true rfl), (Nat.le_of_ble_eq_true rfl), (Nat.le_of_ble_eq_true rfl)⟩ ?_
        refine kw_top (v' := pi_ 0) (congrArg (fun z => pi_ (nI z)) (cntN_0 (fun q hq => by have hs := rdown_sub s (T := fun q => q < nb_ s → th_ s q = true) (nb_ s) _ (Nat.le_refl _) c1b (rthere_sub s hr (fun q h _ => h) (nb_ s)) q; show (rdown s (nb_ s) (rthere s r (nb_ s)) q && !th_ s q) = false; cases e9 : rdown s (nb_ s) (rthere s r (nb_ s)) q with | false => rfl | true => rw [hs e9 hq]; rfl))) ?_
        exact kw_iret dX11_reachedButFreed_132 rfl (Nat.le_of_ble_eq_true rfl) (Nat.le_of_ble_eq_true rfl) (hK _ _ _ ⟨rfl, rfl, _, rfl⟩)
      · skip
        have hlt : j < 4 := nI_nle' (a := 4) (by omega) (by omega) c65
        refine kw_aload_n dX11_reachedButFreed_68 rfl ?_
        refine kw_get dX11_reachedButFreed_69 fl_X11_52 rfl rfl ?_
        refine kw_iload_n dX11_reachedButFreed_72 rfl ?_
        refine kw_aaldN dX11_reachedButFreed_73 rfl hlt (by decide) (if_pos hlt) ?_
        refine kw_get dX11_reachedButFreed_74 fl_X11_87 (hC_sa hlt) rfl ?_
        refine kw_if_eq (tgt := 105) dX11_reachedButFreed_77 (by decide) (fun c77 => ?_) (fun c77 => ?_)
        · skip
          refine kw_iinc dX11_reachedButFreed_105 rfl (nI_i j) ?_
          refine kw_goto (tgt := 63) dX11_reachedButFreed_108 (by decide) ?_
          exact ih (j + 1) r (by omega) (by omega) hr
        · skip
          obtain ⟨hu8, hf⟩ := c3 j hlt (b2_n0.mp c77)
          refine kw_aload_n dX11_reachedButFreed_80 rfl ?_
          refine kw_get dX11_reachedButFreed_81 fl_X11_30 rfl rfl ?_
          refine kw_aload_n dX11_reachedButFreed_84 rfl ?_
          refine kw_get dX11_reachedButFreed_85 fl_X11_52 rfl rfl ?_
          refine kw_iload_n dX11_reachedButFreed_88 rfl ?_
          refine kw_aaldN dX11_reachedButFreed_89 rfl hlt (by decide) (if_pos hlt) ?_
          refine kw_get dX11_reachedButFreed_90 fl_X11_193 (hC_sa hlt) rfl ?_
          refine kw_aload_n dX11_reachedButFreed_93 rfl ?_
          refine kw_get dX11_reachedButFreed_94 fl_X11_52 rfl rfl ?_
          refine kw_iload_n dX11_reachedButFreed_97 rfl ?_
          refine kw_aaldN dX11_reachedButFreed_98 rfl hlt (by decide) (if_pos hlt) ?_
          refine kw_get dX11_reachedButFreed_99 fl_X11_135 (hC_sa hlt) rfl ?_
          refine kw_callVf (As := [pr_ (13, j), pi_ (nI (um_ s j))]) (t_all l s k hb (13, j) 8 (um_ s j) (us_ s j) (fun _ => hC_us hlt) (by decide) hu8 (fun i hi => (hf i hi).1) r) dX11_reachedButFreed_102 cl_X11_397 rfl rfl rfl rfl (Nat.le_of_ble_eq_true rfl) ⟨(Nat.le_of_ble_eq_true rfl), (Nat.le_of_ble_eq_true rfl), (Nat.le_of_ble_eq_true rfl), (Nat.le_of_ble_eq_true rfl)⟩ ?_
          refine kw_iinc dX11_reachedButFreed_105 rfl (nI_i j) ?_
          refine kw_goto (tgt := 63) dX11_reachedButFreed_108 (by decide) ?_
          exact ih (j + 1) _ (by omega) (by omega) (rst_sub (T := fun q => q < nb_ s → th_ s q = true) hr _ (fun i hi _ => (hf i hi).2))
  have loop : ∀ (n_ : Nat) (j : Nat) (r : Nat → Bool), ns_ s - j < n_ → j ≤ ns_ s → (∀ q, r q = true → (q < nb_ s → th_ s q = true)) → kw_G l D cX11_reachedButFreed RX11 (Option.some Jvm.ClassFile.FieldType.int) "reachedButFreed" { frames := 3, cells := 0, slots := 0, locals := 65 } A K ad (hC s (kB k 0 r)) 0 0 9 [some (pr_ (0, 0)), some (pi_ (nI j))] [] := by
    intro n_
    induction n_ with
    | zero =>
      intro j r hm_
      exact absurd hm_ (Nat.not_lt_zero _)
    | succ n_ ih =>
      intro j r hm_ hj hr
      refine kw_iload_n dX11_reachedButFreed_9 rfl ?_
      refine kw_aload_n dX11_reachedButFreed_10 rfl ?_
      refine kw_get dX11_reachedButFreed_11 fl_X11_183 rfl rfl ?_
      refine kw_icmp_ge (tgt := 61) dX11_reachedButFreed_14 (by decide) (fun c14 => ?_) (fun c14 => ?_)
      · skip
        refine kw_iconst (v := 0) dX11_reachedButFreed_61 (by decide) ?_
        refine kw_istore_n dX11_reachedButFreed_62 (Nat.le_of_ble_eq_true rfl) ?_
        exact loop2 5 0 r (by omega) (by omega) hr
      · skip
        have hn4 := hro.1
        have hlt : j < ns_ s := nI_nle' (by omega) (by omega) c14
        obtain ⟨h8, hf⟩ := hro.2 j hlt
        refine kw_aload_n dX11_reachedButFreed_17 rfl ?_
        refine kw_get dX11_reachedButFreed_18 fl_X11_59 rfl rfl ?_
        refine kw_iload_n dX11_reachedButFreed_21 rfl ?_
        refine kw_aaldN dX11_reachedButFreed_22 rfl (by omega) (by decide) (if_pos hlt) ?_
        refine kw_get dX11_reachedButFreed_23 fl_X11_226 (hC_sn hlt) rfl ?_
        refine kw_if_ne (tgt := 55) dX11_reachedButFreed_26 (by decide) (fun c26 => ?_) (fun c26 => ?_)
        · skip
          refine kw_iinc dX11_reachedButFreed_55 rfl (nI_i j) ?_
          refine kw_goto (tgt := 9) dX11_reachedButFreed_58 (by decide) ?_
          exact ih (j + 1) r (by omega) (by omega) hr
        · skip
          have ck := c2 j hlt (not_b2 c26)
          refine kw_aload_n dX11_reachedButFreed_29 rfl ?_
          refine kw_get dX11_reachedButFreed_30 fl_X11_30 rfl rfl ?_
          refine kw_aload_n dX11_reachedButFreed_33 rfl ?_
          refine kw_get dX11_reachedButFreed_34 fl_X11_59 rfl rfl ?_
          refine kw_iload_n dX11_reachedButFreed_37 rfl ?_
          refine kw_aaldN dX11_reachedButFreed_38 rfl (by omega) (by decide) (if_pos hlt) ?_
          refine kw_get dX11_reachedButFreed_39 fl_X11_238 (hC_sn hlt) rfl ?_
          refine kw_aload_n dX11_reachedButFreed_42 rfl ?_
          refine kw_get dX11_reachedButFreed_43 fl_X11_59 rfl rfl ?_
          refine kw_iload_n dX11_reachedButFreed_46 rfl ?_
          refine kw_aaldN dX11_reachedButFreed_47 rfl (by omega) (by decide) (if_pos hlt) ?_
          refine kw_get dX11_reachedButFreed_48 fl_X11_238 (hC_sn hlt) rfl ?_
          refine kw_alen dX11_reachedButFreed_51 (hC_rt hlt) ?_
          refine kw_callVf (As := [pr_ (17, j), pi_ (nI (rm_ s j))]) (t_all l s k hb (17, j) (rm_ s j) (rm_ s j) (ro_ s j) (fun _ => hC_rt hlt) (by omega) (Nat.le_refl _) hf r) dX11_reachedButFreed_52 cl_X11_397 rfl rfl rfl rfl (Nat.le_of_ble_eq_true rfl) ⟨(Nat.le_of_ble_eq_true rfl), (Nat.le_of_ble_eq_true rfl), (Nat.le_of_ble_eq_true rfl), (Nat.le_of_ble_eq_true rfl)⟩ ?_
          refine kw_iinc dX11_reachedButFreed_55 rfl (nI_i j) ?_
          refine kw_goto (tgt := 9) dX11_reachedButFreed_58 (by decide) ?_
          exact ih (j + 1) _ (by omega) (by omega) (rst_sub (T := fun q => q < nb_ s → th_ s q = true) hr _ (fun i hi _ => ck i hi))
  refine kw_aload_n dX11_reachedButFreed_0 rfl ?_
  refine kw_get dX11_reachedButFreed_1 fl_X11_30 rfl rfl ?_
  refine kw_callVf (As := []) (t_none l s k hb) dX11_reachedButFreed_4 cl_X11_165 rfl rfl rfl rfl (Nat.le_of_ble_eq_true rfl) ⟨(Nat.le_of_ble_eq_true rfl), (Nat.le_of_ble_eq_true rfl), (Nat.le_of_ble_eq_true rfl), (Nat.le_of_ble_eq_true rfl)⟩ ?_
  refine kw_iconst (v := 0) dX11_reachedButFreed_7 (by decide) ?_
  refine kw_istore_n dX11_reachedButFreed_8 (Nat.le_of_ble_eq_true rfl) ?_
  exact loop (ns_ s + 1) 0 _ (by omega) (by omega) (fun q hq hn => by simp [rnone, hn] at hq)
