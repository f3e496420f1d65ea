/-! THE CLASS'S CALLS, 9: audit -/
theorem mone_congr (s : SG) {j : Nat} {m m' : (Nat → Bool) × (Nat → Bool)} (h1 : ∀ q, q < 80 → m.1 q = m'.1 q) (h2 : ∀ q, q < 40 → m.2 q = m'.2 q) : (∀ q, q < 80 → (mone s j m).1 q = (mone s j m').1 q) ∧ ∀ q, q < 40 → (mone s j m).2 q = (mone s j m').2 q := by
  unfold mone
  split
  · refine ⟨fun q hq => ?_, h2⟩
    show va_up _ _ _ q = va_up _ _ _ q
    simp only [va_up]
    split
    · rfl
    · exact h1 q hq
  · refine ⟨h1, fun q hq => ?_⟩
    show va_up _ _ _ q = va_up _ _ _ q
    simp only [va_up]
    split
    · rfl
    · exact h2 q hq
theorem mrep_congr (s : SG) : ∀ (n j : Nat) (m m' : (Nat → Bool) × (Nat → Bool)), (∀ q, q < 80 → m.1 q = m'.1 q) → (∀ q, q < 40 → m.2 q = m'.2 q) → (∀ q, q < 80 → (mrep s n j m).1 q = (mrep s n j m').1 q) ∧ ∀ q, q < 40 → (mrep s n j m).2 q = (mrep s n j m').2 q
  | 0, j, m, m', h1, h2 => ⟨h1, h2⟩
  | n + 1, j, m, m', h1, h2 => by
    rw [mrep, mrep]
    exact mrep_congr s n (j + 1) _ _ (mone_congr s h1 h2).1 (mone_congr s h1 h2).2
/-- the mirrors of the class are what their part of the history left -/
def mirOk (s : SG) (k : KG) : Prop := ∀ m, m < 2 → (dn2_ k m = md_ s m ∧ md_ s m ≤ nh_ s) ∧ (∀ q, q < 80 → kb_ k (1 + m) q = (mirS s m).1 q) ∧ ∀ q, q < 40 → kb_ k (4 + m) q = (mirS s m).2 q
theorem mirOk.sim {s : SG} {k k' : KG} (h : kSim k' k) (x : mirOk s k) : mirOk s k' := fun m hm => by
  obtain ⟨x1, x2, x3⟩ := x m hm
  refine ⟨⟨(h.2.2.2.2.2 m hm).trans x1.1, x1.2⟩, fun q hq => ?_, fun q hq => ?_⟩
  · rw [h.2.2.1 (1 + m) (by omega)]; exact x2 q hq
  · rw [h.2.2.1 (4 + m) (by omega)]; exact x3 q hq
def kForg (k : KG) : KG := kMM (kN k 2 (va_up (dn2_ k) 2 0)) 2 (rnone 80 (kb_ k (1 + 2))) (rnone 40 (kb_ k (4 + 2)))
theorem kForg_sim (k : KG) : kSim (kForg k) k := by
  refine ⟨rfl, rfl, fun i hi => ?_, rfl, rfl, fun m hm => ?_⟩
  · rcases hi with rfl | rfl | rfl | rfl <;> rfl
  · show va_up (dn2_ k) 2 0 m = _; simp only [va_up]; rw [if_neg (by omega)]
theorem kRep_sim (s : SG) (k : KG) (n : Nat) : kSim (kRep s k 2 n) k := by
  refine ⟨rfl, rfl, fun i hi => ?_, rfl, rfl, fun m hm => ?_⟩
  · rcases hi with rfl | rfl | rfl | rfl <;> rfl
  · show va_up (dn2_ k) 2 _ m = _; simp only [va_up]; rw [if_neg (by omega)]
theorem kRep_mir (s : SG) (k : KG) (m : Nat) (hm : m < 2) (x : mirOk s k) : (∀ q, q < 80 → kb_ (kRep s (kForg k) 2 (md_ s m)) (1 + m) q = kb_ (kRep s (kForg k) 2 (md_ s m)) 3 q) ∧ ∀ q, q < 40 → kb_ (kRep s (kForg k) 2 (md_ s m)) (4 + m) q = kb_ (kRep s (kForg k) 2 (md_ s m)) 6 q := by
  have hs := (kRep_sim s (kForg k) (md_ s m)).tr (kForg_sim k)
  obtain ⟨⟨x0, x1⟩, x2, x3⟩ := x m hm
  have e0 : dn2_ (kForg k) 2 = 0 := rfl
  have e1 : min (nh_ s) (dn2_ (kForg k) 2 + md_ s m) - dn2_ (kForg k) 2 = md_ s m := by rw [e0]; omega
  have c := mrep_congr s (md_ s m) 0 (kb_ (kForg k) 3, kb_ (kForg k) 6) (fun _ => false, fun _ => false) (fun q hq => by show rnone 80 _ q = false; simp [rnone, hq]) (fun q hq => by show rnone 40 _ q = false; simp [rnone, hq])
  refine ⟨fun q hq => ?_, fun q hq => ?_⟩
  · rw [hs.2.2.1 (1 + m) (by omega), x2 q hq, mirS, ← c.1 q hq]
    show _ = kb_ (kMM (kForg k) 2 (mrep s (min (nh_ s) (dn2_ (kForg k) 2 + md_ s m) - dn2_ (kForg k) 2) (dn2_ (kForg k) 2) (kb_ (kForg k) (1 + 2), kb_ (kForg k) (4 + 2))).1 (mrep s (min (nh_ s) (dn2_ (kForg k) 2 + md_ s m) - dn2_ (kForg k) 2) (dn2_ (kForg k) 2) (kb_ (kForg k) (1 + 2), kb_ (kForg k) (4 + 2))).2) (1 + 2) q
    rw [kMM_b _ (by decide), e1]; rfl
  · rw [hs.2.2.1 (4 + m) (by omega), x3 q hq, mirS, ← c.2 q hq]
    show _ = kb_ (kMM (kForg k) 2 (mrep s (min (nh_ s) (dn2_ (kForg k) 2 + md_ s m) - dn2_ (kForg k) 2) (dn2_ (kForg k) 2) (kb_ (kForg k) (1 + 2), kb_ (kForg k) (4 + 2))).1 (mrep s (min (nh_ s) (dn2_ (kForg k) 2 + md_ s m) - dn2_ (kForg k) 2) (dn2_ (kForg k) 2) (kb_ (kForg k) (1 + 2), kb_ (kForg k) (4 + 2))).2) (4 + 2) q
    rw [kMM_s, e1]; rfl
set_option maxHeartbeats 4000000 in
set_option maxRecDepth 100000 in
theorem P_audit (l : Launch) (s : SG) (k : KG) (hb : nb_ s ≤ 80) (hkd : kidsOk s) (hp : np_ s ≤ 40) (hro : rootOk s) (hcl : clOk s) (hpl : PlOk s k) (hh : histOk s) (hm : mirOk s k) : kw_P l yX11_audit cX11_audit 3 (Option.some Jvm.ClassFile.FieldType.int) { frames := 4, cells := 0, slots := 0, locals := 86 } [pr_ (0, 0)] (hC s k) (fun r h' => r = some (pi_ 0) ∧ ∃ k', h' = hC s k' ∧ kSim k' k) := by
  refine kw_M_of RX11 "audit" [some (pr_ (0, 0)), none, none] (by decide) rfl rfl rfl (Nat.le_of_ble_eq_true rfl) ?_
  intro D ad A
  refine kw_Kgen (fun K hK => ?_)
  have loop : ∀ (n_ : Nat) (j : Nat) (κ : KG), 2 - j < n_ → j ≤ 2 → kSim κ k → kw_G l D cX11_audit RX11 (Option.some Jvm.ClassFile.FieldType.int) "audit" { frames := 4, cells := 0, slots := 0, locals := 86 } A K ad (hC s κ) 0 0 23 [some (pr_ (0, 0)), some (pi_ 0), some (pi_ (nI j))] [] := by
    intro n_
    induction n_ with
    | zero =>
      intro j κ hm_
      exact absurd hm_ (Nat.not_lt_zero _)
    | succ n_ ih =>
      intro j κ hm_ hj hκ
      refine kw_iload_n dX11_audit_23 rfl ?_
      refine kw_iconst (v := 2) dX11_audit_24 (by decide) ?_
      refine kw_icmp_ge (tgt := 77) dX11_audit_25 (by decide) (fun c25 => ?_) (fun c25 => ?_)
      · skip
        refine kw_iload_n dX11_audit_77 rfl ?_
        exact kw_iret dX11_audit_78 rfl (Nat.le_of_ble_eq_true rfl) (Nat.le_of_ble_eq_true rfl) (hK _ _ _ ⟨rfl, rfl, κ, rfl, hκ⟩)
      · skip
        have hlt : j < 2 := nI_nle' (a := 2) (by omega) (by omega) c25
        have xm := hm.sim hκ
        have hh1 := hh.1
        obtain ⟨⟨x0, x1⟩, -, -⟩ := xm j hlt
        refine kw_aload_n dX11_audit_28 rfl ?_
        refine kw_get dX11_audit_29 fl_X11_70 rfl rfl ?_
        refine kw_callVf (As := []) (r_forget l s κ 2 (by decide)) dX11_audit_32 cl_X11_412 rfl rfl rfl rfl (Nat.le_of_ble_eq_true rfl) ⟨(Nat.le_of_ble_eq_true rfl), (Nat.le_of_ble_eq_true rfl), (Nat.le_of_ble_eq_true rfl), (Nat.le_of_ble_eq_true rfl)⟩ ?_
        refine kw_aload_n dX11_audit_35 rfl ?_
        refine kw_get dX11_audit_36 fl_X11_70 rfl rfl ?_
        refine kw_aload_n dX11_audit_39 rfl ?_
        refine kw_get dX11_audit_40 fl_X11_10 rfl rfl ?_
        refine kw_aload_n dX11_audit_43 rfl ?_
        refine kw_get dX11_audit_44 fl_X11_65 rfl rfl ?_
        refine kw_iload_n dX11_audit_47 rfl ?_
        refine kw_aaldN dX11_audit_48 rfl hlt (by decide) (if_pos hlt) ?_
        refine kw_get dX11_audit_49 fl_X11_274 (hC_mi (by omega)) rfl ?_
        refine kw_top (v' := pi_ (nI (md_ s j))) (by rw [← x0]; exact congrArg (fun z => pi_ (nI z)) ((kForg_sim κ).2.2.2.2.2 j hlt)) ?_
        refine kw_callVf (As := [pr_ (1, 0), pi_ (nI (md_ s j))]) (r_repeat l s (kForg κ) hh 2 (md_ s j) (by decide) (Nat.zero_le _) (by omega)) dX11_audit_52 cl_X11_267 rfl rfl rfl rfl (Nat.le_of_ble_eq_true rfl) ⟨(Nat.le_of_ble_eq_true rfl), (Nat.le_of_ble_eq_true rfl), (Nat.le_of_ble_eq_true rfl), (Nat.le_of_ble_eq_true rfl)⟩ ?_
        refine kw_iload_n dX11_audit_55 rfl ?_
        refine kw_aload_n dX11_audit_56 rfl ?_
        refine kw_get dX11_audit_57 fl_X11_65 rfl rfl ?_
        refine kw_iload_n dX11_audit_60 rfl ?_
        refine kw_aaldN dX11_audit_61 rfl hlt (by decide) (if_pos hlt) ?_
        refine kw_aload_n dX11_audit_62 rfl ?_
        refine kw_get dX11_audit_63 fl_X11_70 rfl rfl ?_
        refine kw_callVf (As := [pr_ (19, 2)]) (r_differ l s _ j (by omega) (kRep_mir s κ j hlt xm).1 (kRep_mir s κ j hlt xm).2) dX11_audit_66 cl_X11_415 (hC_mi (by omega)) rfl rfl rfl (Nat.le_of_ble_eq_true rfl) ⟨(Nat.le_of_ble_eq_true rfl), (Nat.le_of_ble_eq_true rfl), (Nat.le_of_ble_eq_true rfl), (Nat.le_of_ble_eq_true rfl)⟩ ?_
        refine kw_iadd dX11_audit_69 ?_
        refine kw_istore_n dX11_audit_70 (Nat.le_of_ble_eq_true rfl) ?_
        refine kw_iinc dX11_audit_71 rfl (nI_i j) ?_
        refine kw_goto (tgt := 23) dX11_audit_74 (by decide) ?_
        exact ih (j + 1) _ (by omega) (by omega) (((kRep_sim s _ _).tr (kForg_sim κ)).tr hκ)
  refine kw_aload_n dX11_audit_0 rfl ?_
  refine kw_callV (As := []) (o_freed l s k hb hkd hro hcl) dX11_audit_1 cl_X11_403 rfl rfl rfl rfl (Nat.le_of_ble_eq_true rfl) ⟨(Nat.le_of_ble_eq_true rfl), (Nat.le_of_ble_eq_true rfl), (Nat.le_of_ble_eq_true rfl), (Nat.le_of_ble_eq_true rfl)⟩ (fun r2 h2 hp2 => ?_)
  obtain ⟨rfl, q9, rfl⟩ := hp2
  refine kw_aload_n dX11_audit_4 rfl ?_
  refine kw_get dX11_audit_5 fl_X11_30 rfl rfl ?_
  refine kw_callVf (As := []) (t_misplaced l s (kB k 0 q9) hb hp hpl) dX11_audit_8 cl_X11_406 rfl rfl rfl rfl (Nat.le_of_ble_eq_true rfl) ⟨(Nat.le_of_ble_eq_true rfl), (Nat.le_of_ble_eq_true rfl), (Nat.le_of_ble_eq_true rfl), (Nat.le_of_ble_eq_true rfl)⟩ ?_
  refine kw_iadd dX11_audit_11 ?_
  refine kw_aload_n dX11_audit_12 rfl ?_
  refine kw_get dX11_audit_13 fl_X11_30 rfl rfl ?_
  refine kw_callVf (As := []) (t_uneven l s (kB k 0 q9) hb hp hpl) dX11_audit_16 cl_X11_409 rfl rfl rfl rfl (Nat.le_of_ble_eq_true rfl) ⟨(Nat.le_of_ble_eq_true rfl), (Nat.le_of_ble_eq_true rfl), (Nat.le_of_ble_eq_true rfl), (Nat.le_of_ble_eq_true rfl)⟩ ?_
  refine kw_iadd dX11_audit_19 ?_
  refine kw_istore_n dX11_audit_20 (Nat.le_of_ble_eq_true rfl) ?_
  refine kw_iconst (v := 0) dX11_audit_21 (by decide) ?_
  refine kw_istore_n dX11_audit_22 (Nat.le_of_ble_eq_true rfl) ?_
  exact loop 3 0 _ (by omega) (by omega) (kSim.b0 k q9)
