/-! MOVER, 2 -/
theorem kw_cs {l : Launch} {D : va_G} {cc : ByteArray} {own : String} {ret : Option FieldType} {nm : String} {R : Room} {A : Nat → Prop} {K : Option PV → (KK → Nat) → PH → Prop} {ad : KK → Nat} {h : PH} {cells slots c' s' pc : Nat} {lv : List (Option PV)} {st : List PV} (e : cells = c') (e2 : slots = s') (k : kw_G l D cc own ret nm R A K ad h c' s' pc lv st) : kw_G l D cc own ret nm R A K ad h cells slots pc lv st := by
  subst e; subst e2; exact k
set_option maxRecDepth 20000 in
theorem hC_al2 {s s' : SG} {k k' : KG} (h1 : nb_ s = nb_ s') (h2 : np_ s ≤ np_ s') (h3 : ns_ s = ns_ s') : ∀ q, hC s k q ≠ none → hC s' k' q ≠ none := by
  rintro ⟨a, b⟩ hq
  match a, hq with
  | 0, hq =>
    have hq : o1_ b _ ≠ none := hq
    show o1_ b _ ≠ none
    unfold o1_ at hq ⊢
    by_cases e : b = 0
    · rw [if_pos e]; exact fun z => by cases z
    · rw [if_neg e] at hq; exact absurd rfl hq
  | 1, hq =>
    have hq : o1_ b _ ≠ none := hq
    show o1_ b _ ≠ none
    unfold o1_ at hq ⊢
    by_cases e : b = 0
    · rw [if_pos e]; exact fun z => by cases z
    · rw [if_neg e] at hq; exact absurd rfl hq
  | 2, hq =>
    match b, hq with
    | 0, hq => exact fun z => by cases z
    | 1, hq => exact fun z => by cases z
    | n + 2, hq => exact absurd rfl hq
  | 3, hq =>
    have hq : o1_ b _ ≠ none := hq
    show o1_ b _ ≠ none
    unfold o1_ at hq ⊢
    by_cases e : b = 0
    · rw [if_pos e]; exact fun z => by cases z
    · rw [if_neg e] at hq; exact absurd rfl hq
  | 4, hq =>
    match b, hq with
    | 0, hq => exact fun z => by cases z
    | 1, hq => exact fun z => by cases z
    | 2, hq => exact fun z => by cases z
    | n + 3, hq => exact absurd rfl hq
  | 5, hq =>
    have hq : on_ b (nb_ s) _ ≠ none := hq
    show on_ b _ _ ≠ none
    unfold on_ at hq ⊢
    by_cases e : b < nb_ s
    · rw [h1] at e; rw [if_pos e]; exact fun z => by cases z
    · rw [if_neg e] at hq; exact absurd rfl hq
  | 6, hq =>
    have hq : on_ b (nb_ s) _ ≠ none := hq
    show on_ b _ _ ≠ none
    unfold on_ at hq ⊢
    by_cases e : b < nb_ s
    · rw [h1] at e; rw [if_pos e]; exact fun z => by cases z
    · rw [if_neg e] at hq; exact absurd rfl hq
  | 7, hq =>
    have hq : on_ b (np_ s) _ ≠ none := hq
    show on_ b _ _ ≠ none
    unfold on_ at hq ⊢
    by_cases e : b < np_ s
    · replace e := Nat.lt_of_lt_of_le e h2; rw [if_pos e]; exact fun z => by cases z
    · rw [if_neg e] at hq; exact absurd rfl hq
  | 8, hq =>
    match b, hq with
    | 0, hq => exact fun z => by cases z
    | 1, hq => exact fun z => by cases z
    | n + 2, hq => exact absurd rfl hq
  | 9, hq =>
    match b, hq with
    | 0, hq => exact fun z => by cases z
    | 1, hq => exact fun z => by cases z
    | 2, hq => exact fun z => by cases z
    | 3, hq => exact fun z => by cases z
    | n + 4, hq => exact absurd rfl hq
  | 10, hq =>
    match b, hq with
    | 0, hq => exact fun z => by cases z
    | 1, hq => exact fun z => by cases z
    | 2, hq => exact fun z => by cases z
    | n + 3, hq => exact absurd rfl hq
  | 11, hq =>
    have hq : o1_ b _ ≠ none := hq
    show o1_ b _ ≠ none
    unfold o1_ at hq ⊢
    by_cases e : b = 0
    · rw [if_pos e]; exact fun z => by cases z
    · rw [if_neg e] at hq; exact absurd rfl hq
  | 12, hq =>
    have hq : on_ b (4) _ ≠ none := hq
    show on_ b _ _ ≠ none
    unfold on_ at hq ⊢
    by_cases e : b < 4
    · rw [if_pos e]; exact fun z => by cases z
    · rw [if_neg e] at hq; exact absurd rfl hq
  | 13, hq =>
    have hq : on_ b (4) _ ≠ none := hq
    show on_ b _ _ ≠ none
    unfold on_ at hq ⊢
    by_cases e : b < 4
    · rw [if_pos e]; exact fun z => by cases z
    · rw [if_neg e] at hq; exact absurd rfl hq
  | 14, hq =>
    have hq : on_ b (4) _ ≠ none := hq
    show on_ b _ _ ≠ none
    unfold on_ at hq ⊢
    by_cases e : b < 4
    · rw [if_pos e]; exact fun z => by cases z
    · rw [if_neg e] at hq; exact absurd rfl hq
  | 15, hq =>
    have hq : o1_ b _ ≠ none := hq
    show o1_ b _ ≠ none
    unfold o1_ at hq ⊢
    by_cases e : b = 0
    · rw [if_pos e]; exact fun z => by cases z
    · rw [if_neg e] at hq; exact absurd rfl hq
  | 16, hq =>
    have hq : on_ b (ns_ s) _ ≠ none := hq
    show on_ b _ _ ≠ none
    unfold on_ at hq ⊢
    by_cases e : b < ns_ s
    · rw [h3] at e; rw [if_pos e]; exact fun z => by cases z
    · rw [if_neg e] at hq; exact absurd rfl hq
  | 17, hq =>
    have hq : on_ b (ns_ s) _ ≠ none := hq
    show on_ b _ _ ≠ none
    unfold on_ at hq ⊢
    by_cases e : b < ns_ s
    · rw [h3] at e; rw [if_pos e]; exact fun z => by cases z
    · rw [if_neg e] at hq; exact absurd rfl hq
  | 18, hq =>
    have hq : o1_ b _ ≠ none := hq
    show o1_ b _ ≠ none
    unfold o1_ at hq ⊢
    by_cases e : b = 0
    · rw [if_pos e]; exact fun z => by cases z
    · rw [if_neg e] at hq; exact absurd rfl hq
  | 19, hq =>
    have hq : on_ b (3) _ ≠ none := hq
    show on_ b _ _ ≠ none
    unfold on_ at hq ⊢
    by_cases e : b < 3
    · rw [if_pos e]; exact fun z => by cases z
    · rw [if_neg e] at hq; exact absurd rfl hq
  | 20, hq =>
    have hq : on_ b (3) _ ≠ none := hq
    show on_ b _ _ ≠ none
    unfold on_ at hq ⊢
    by_cases e : b < 3
    · rw [if_pos e]; exact fun z => by cases z
    · rw [if_neg e] at hq; exact absurd rfl hq
  | 21, hq =>
    have hq : on_ b (3) _ ≠ none := hq
    show on_ b _ _ ≠ none
    unfold on_ at hq ⊢
    by_cases e : b < 3
    · rw [if_pos e]; exact fun z => by cases z
    · rw [if_neg e] at hq; exact absurd rfl hq
  | n + 22, hq => exact absurd rfl hq
set_option maxHeartbeats 4000000 in
set_option maxRecDepth 100000 in
theorem t_lay1F (l : Launch) (s : SG) (k : KG) (hb : nb_ s ≤ 80) (hp : np_ s ≤ 40) (b p o : Nat) (hb0 : b < nb_ s) (hp1 : p < np_ s) : kw_F l yX9_lay cX9_lay 4 (Option.none : Option Jvm.ClassFile.FieldType) { frames := 2, cells := 0, slots := 0, locals := 40 } [pr_ (3, 0), pi_ (nI b), pi_ (nI p), pi_ (nI o)] (hC s k) none (hC (s_lay s b p o) (k_lay k p (o + sz_ s b))) := by
  refine kw_M_of RX9 "lay" [some (pr_ (3, 0)), some (pi_ (nI b)), some (pi_ (nI p)), some (pi_ (nI o))] (by decide) rfl rfl rfl (Nat.le_of_ble_eq_true rfl) ?_
  intro D ad A
  refine kw_Kgen (fun K hK => ?_)
  refine kw_iload_n dX9_lay_0 rfl ?_
  refine kw_aload_n dX9_lay_1 rfl ?_
  refine kw_get dX9_lay_2 fl_X9_56 rfl rfl ?_
  refine kw_icmp_ne (tgt := 31) dX9_lay_5 (by decide) (fun c5 => ?_) (fun c5 => ?_)
  · skip
    refine kw_aload_n dX9_lay_31 rfl ?_
    refine kw_get dX9_lay_32 fl_X9_11 rfl rfl ?_
    refine kw_iload_n dX9_lay_35 rfl ?_
    refine kw_aaldN dX9_lay_36 rfl (by omega) (by decide) (if_pos hb0) ?_
    refine kw_iload_n dX9_lay_37 rfl ?_
    refine kw_put dX9_lay_38 fl_X9_49 (hC_bl (by exact hb0)) (kw_ok_i _) (Nat.le_of_ble_eq_true rfl) ?_
    refine kw_heq (up_bpk _ _ b (by exact hb0) p) ?_
    refine kw_aload_n dX9_lay_41 rfl ?_
    refine kw_get dX9_lay_42 fl_X9_11 rfl rfl ?_
    refine kw_iload_n dX9_lay_45 rfl ?_
    refine kw_aaldN dX9_lay_46 rfl (by omega) (by decide) (if_pos hb0) ?_
    refine kw_iload_n dX9_lay_47 rfl ?_
    refine kw_put dX9_lay_48 fl_X9_82 (hC_bl (by exact hb0)) (kw_ok_i _) (Nat.le_of_ble_eq_true rfl) ?_
    refine kw_heq (up_bpp _ _ b (by exact hb0) o) ?_
    refine kw_aload_n dX9_lay_51 rfl ?_
    refine kw_get dX9_lay_52 fl_X9_19 rfl rfl ?_
    refine kw_iload_n dX9_lay_55 rfl ?_
    refine kw_aaldN dX9_lay_56 rfl (by omega) (by decide) (if_pos (by exact hp1)) ?_
    refine kw_iload_n dX9_lay_57 rfl ?_
    refine kw_aload_n dX9_lay_58 rfl ?_
    refine kw_get dX9_lay_59 fl_X9_11 rfl rfl ?_
    refine kw_iload_n dX9_lay_62 rfl ?_
    refine kw_aaldN dX9_lay_63 rfl (by omega) (by decide) (if_pos hb0) ?_
    refine kw_get dX9_lay_64 fl_X9_85 (hC_bl (by exact hb0)) rfl ?_
    refine kw_iadd dX9_lay_67 ?_
    refine kw_top (v' := pi_ (nI (o + sz_ s b))) (by rw [← nI_add]; rfl) ?_
    refine kw_put dX9_lay_68 fl_X9_62 (hC_pa (by exact hp1)) (kw_ok_i _) (Nat.le_of_ble_eq_true rfl) ?_
    refine kw_heq (up_pal _ _ p (by exact hp1) _) ?_
    exact kw_vret dX9_lay_71 rfl (Nat.le_of_ble_eq_true rfl) (Nat.le_of_ble_eq_true rfl) (hK _ _ _ ⟨rfl, rfl, rfl⟩)
  · skip
    exact absurd c5 (fun q => absurd (nI_eq' (by omega) (by omega) q) (by omega))
def sA (t : SG) (p v : Nat) : SG := sF t 6 (va_up (al_ t) p v)
theorem hC_sA (t : SG) (κ : KG) (p v : Nat) : hC (sA t p v) κ = hC t κ := rfl
def aLay (t : SG) (b p o : Nat) : SG := if p < np_ t then sA (s_lay t b p o) p (o + sz_ t b) else sA (s_lay (s_np t) b p o) p (o + sz_ t b)
def kLay (t : SG) (κ : KG) (b p o : Nat) : KG := if p < np_ t then k_lay κ p (o + sz_ t b) else k_lay (k_np t κ) p (o + sz_ t b)
theorem aLay_1 (t : SG) (b p o j : Nat) (hj : j ≠ 4) : (aLay t b p o).1 j = t.1 j := by
  unfold aLay
  split
  · rfl
  · show va_up t.1 4 _ j = _; simp only [va_up, if_neg hj]
theorem aLay_np (t : SG) (b p o : Nat) : np_ (aLay t b p o) = if p < np_ t then np_ t else np_ t + 1 := by
  unfold aLay
  split <;> rfl
theorem aLay_f (t : SG) (b p o j : Nat) (h3 : j ≠ 3) (h4 : j ≠ 4) (h6 : j ≠ 6) : fs_ (aLay t b p o) j = fs_ t j := by
  unfold aLay
  split
  · show va_up (va_up (va_up (fs_ t) 3 _) 4 _) 6 _ j = _; simp only [va_up, if_neg h3, if_neg h4, if_neg h6]
  · show va_up (va_up (va_up (fs_ t) 3 _) 4 _) 6 _ j = _; simp only [va_up, if_neg h3, if_neg h4, if_neg h6]
def aS (f : Nat → Nat) (pl : Nat → Nat × Nat) (t0 : SG) : Nat → SG
  | 0 => t0
  | i + 1 => aLay (aS f pl t0 i) (f i) (pl i).1 (pl i).2
def kS (f : Nat → Nat) (pl : Nat → Nat × Nat) (t0 : SG) (κ0 : KG) : Nat → KG
  | 0 => κ0
  | i + 1 => kLay (aS f pl t0 i) (kS f pl t0 κ0 i) (f i) (pl i).1 (pl i).2
theorem aS_1 (f : Nat → Nat) (pl : Nat → Nat × Nat) (t0 : SG) (j : Nat) (hj : j ≠ 4) : ∀ i, (aS f pl t0 i).1 j = t0.1 j
  | 0 => rfl
  | i + 1 => (aLay_1 _ _ _ _ j hj).trans (aS_1 f pl t0 j hj i)
theorem aS_f (f : Nat → Nat) (pl : Nat → Nat × Nat) (t0 : SG) (j : Nat) (h3 : j ≠ 3) (h4 : j ≠ 4) (h6 : j ≠ 6) : ∀ i, fs_ (aS f pl t0 i) j = fs_ t0 j
  | 0 => rfl
  | i + 1 => (aLay_f _ _ _ _ j h3 h4 h6).trans (aS_f f pl t0 j h3 h4 h6 i)
theorem kLay_1 (t : SG) (κ : KG) (b p o : Nat) : (kLay t κ b p o).1 = κ.1 ∧ (kLay t κ b p o).2.1 = κ.2.1 := by
  unfold kLay; split <;> exact ⟨rfl, rfl⟩
theorem kS_1 (f : Nat → Nat) (pl : Nat → Nat × Nat) (t0 : SG) (κ0 : KG) : ∀ i, (kS f pl t0 κ0 i).1 = κ0.1 ∧ (kS f pl t0 κ0 i).2.1 = κ0.2.1
  | 0 => ⟨rfl, rfl⟩
  | i + 1 => ⟨(kLay_1 _ _ _ _ _).1.trans (kS_1 f pl t0 κ0 i).1, (kLay_1 _ _ _ _ _).2.trans (kS_1 f pl t0 κ0 i).2⟩
/-- what a pack that is left becomes -/
def s_left (t : SG) (p : Nat) : SG := sN (sGb t 2 (va_up (gn_ t) p true)) 5 (nan_ t + 1)
def k_left (κ : KG) (p : Nat) : KG := kN (kN κ 1 (va_up (ac_ κ) p 0)) 0 (va_up (ho_ κ) p 0)
set_option maxHeartbeats 4000000 in
set_option maxRecDepth 100000 in
theorem d_plan (l : Launch) (s : SG) (k : KG) (hb : nb_ s ≤ 80) (hp4 : np_ s ≤ 40) (hcap : cap_ s ≤ 1000) (p n : Nat) (hp : p < np_ s) (hn : n ≤ 80) (f : Nat → Nat) (hml : ml_ k = nI n) (hf : ∀ q, q < n → ka_ k 0 q = nI (f q) ∧ f q < nb_ s ∧ sz_ s (f q) ≤ cap_ s) (hfu : fullS s k (nI p) ≤ cap_ s) (x0 : Nat × Nat) (hx0 : x0 = (np_ s - 1, fullS s k (nI p))) : kw_P l yX4_plan cX4_plan 6 (Option.some Jvm.ClassFile.FieldType.boolean) { frames := 1, cells := 0, slots := 0, locals := 23 } [pr_ (9, 0), pi_ (nI p)] (hC s k) (fun r h' => r = some (pi_ (b2 (decide ((plT s f x0 n).1 < 40)))) ∧ ∃ a b, (∀ q, q < n → a q = nI (plP s f x0 q).1 ∧ b q = nI (plP s f x0 q).2) ∧ h' = hC s (kA (kA k 1 a) 2 b)) := by
  refine kw_M_of RX4 "plan" [some (pr_ (9, 0)), some (pi_ (nI p)), none, none, none, none] (by decide) rfl rfl rfl (Nat.le_of_ble_eq_true rfl) ?_
  intro D ad A
  refine kw_Kgen (fun K hK => ?_)
  have h10 : x0.1 ≤ 39 := by rw [hx0]; show np_ s - 1 ≤ 39; omega
  have hx2 : x0.2 ≤ cap_ s := by rw [hx0]; exact hfu
  have loop : ∀ (n_ : Nat) (i : Nat) (a b : Nat → Int32), n - i < n_ → i ≤ n → (∀ q, q < i → a q = nI (plP s f x0 q).1 ∧ b q = nI (plP s f x0 q).2) → kw_G l D cX4_plan RX4 (Option.some Jvm.ClassFile.FieldType.boolean) "plan" { frames := 1, cells := 0, slots := 0, locals := 23 } A K ad (hC s (kA (kA k 1 a) 2 b)) 0 0 22 [some (pr_ (9, 0)), some (pi_ (nI p)), some (pi_ (nI (plT s f x0 i).1)), some (pi_ (nI (plT s f x0 i).2)), some (pi_ (nI i)), none] [] := by
    intro n_
    induction n_ with
    | zero =>
      intro i a b hm_
      exact absurd hm_ (Nat.not_lt_zero _)
    | succ n_ ih =>
      intro i a b hm_ hi hab
      refine kw_iload dX4_plan_22 rfl ?_
      refine kw_aload_n dX4_plan_24 rfl ?_
      refine kw_get dX4_plan_25 fl_X4_55 rfl rfl ?_
      refine kw_top (v' := pi_ (nI n)) (congrArg pi_ hml) ?_
      refine kw_icmp_ge (tgt := 97) dX4_plan_28 (by decide) (fun c28 => ?_) (fun c28 => ?_)
      · skip
        have e : i = n := Nat.le_antisymm hi (nI_le' (by omega) (by omega) c28)
        subst e
        have htl := plT_le s f x0 i
        refine kw_iload_n dX4_plan_97 rfl ?_
        refine kw_bipush (v := 40) dX4_plan_98 (by decide) ?_
        refine kw_icmp_ge (tgt := 107) dX4_plan_100 (by decide) (fun c100 => ?_) (fun c100 => ?_)
        · skip
          refine kw_iconst (v := 0) dX4_plan_107 (by decide) ?_
          exact kw_zret dX4_plan_108 rfl (by decide) (Nat.le_of_ble_eq_true rfl) (Nat.le_of_ble_eq_true rfl) (hK _ _ _ ⟨rfl, by rw [decide_eq_false (fun q => absurd (nI_le' (a := 40) (by omega) (by omega) c100) (by omega))]; rfl, a, b, hab, rfl⟩)
        · skip
          refine kw_iconst (v := 1) dX4_plan_103 (by decide) ?_
          refine kw_goto (tgt := 108) dX4_plan_104 (by decide) ?_
          exact kw_zret dX4_plan_108 rfl (by decide) (Nat.le_of_ble_eq_true rfl) (Nat.le_of_ble_eq_true rfl) (hK _ _ _ ⟨rfl, by rw [decide_eq_true (nI_nle' (a := 40) (by omega) (by omega) c100)]; rfl, a, b, hab, rfl⟩)
      · skip
        have hlt : i < n := nI_nle' (by omega) (by omega) c28
        obtain ⟨hfa, hfb, hfz⟩ := hf i hlt
        have hx2i := plT_fit s f x0 hx2 i (fun q hq => (hf q (by omega)).2.2)
        refine kw_aload_n dX4_plan_31 rfl ?_
        refine kw_get dX4_plan_32 fl_X4_21 rfl rfl ?_
        refine kw_get dX4_plan_35 fl_X4_77 rfl rfl ?_
        refine kw_aload_n dX4_plan_38 rfl ?_
        refine kw_get dX4_plan_39 fl_X4_9 rfl rfl ?_
        refine kw_iload dX4_plan_42 rfl ?_
        refine kw_ialdN dX4_plan_44 rfl (by omega) (by decide) ?_
        refine kw_top (v' := pi_ (nI (f i))) (congrArg pi_ hfa) ?_
        refine kw_aaldN dX4_plan_45 rfl (by omega) (by decide) (if_pos hfb) ?_
        refine kw_get dX4_plan_46 fl_X4_93 (hC_bl hfb) rfl ?_
        refine kw_istore dX4_plan_49 (Nat.le_of_ble_eq_true rfl) ?_
        refine kw_iload_n dX4_plan_51 rfl ?_
        refine kw_iload dX4_plan_52 rfl ?_
        refine kw_iadd dX4_plan_54 ?_
        refine kw_top (v' := pi_ (nI ((plT s f x0 i).2 + sz_ s (f i)))) (by rw [nI_add]) ?_
        refine kw_aload_n dX4_plan_55 rfl ?_
        refine kw_get dX4_plan_56 fl_X4_21 rfl rfl ?_
        refine kw_get dX4_plan_59 fl_X4_96 rfl rfl ?_
        refine kw_icmp_le (tgt := 70) dX4_plan_62 (by decide) (fun c62 => ?_) (fun c62 => ?_)
        · skip
          have eP : plP s f x0 i = plT s f x0 i := if_pos (nI_le' (b := cap_ s) (by omega) (by omega) c62)
          refine kw_lveq (lv' := [some (pr_ (9, 0)), some (pi_ (nI p)), some (pi_ (nI (plP s f x0 i).1)), some (pi_ (nI (plP s f x0 i).2)), some (pi_ (nI i)), some (pi_ (nI (sz_ s (f i))))]) (by rw [eP]; rfl) ?_
          refine kw_aload_n dX4_plan_70 rfl ?_
          refine kw_get dX4_plan_71 fl_X4_15 rfl rfl ?_
          refine kw_iload dX4_plan_74 rfl ?_
          refine kw_iload_n dX4_plan_76 rfl ?_
          refine kw_iastR dX4_plan_77 rfl (by omega) (by decide) ?_
          refine kw_heq (up_M12 s k a b i (nI (plP s f x0 i).1)) ?_
          refine kw_aload_n dX4_plan_78 rfl ?_
          refine kw_get dX4_plan_79 fl_X4_18 rfl rfl ?_
          refine kw_iload dX4_plan_82 rfl ?_
          refine kw_iload_n dX4_plan_84 rfl ?_
          refine kw_iastR dX4_plan_85 rfl (by omega) (by decide) ?_
          refine kw_heq (up_M13 s k (va_up a i (nI (plP s f x0 i).1)) b i (nI (plP s f x0 i).2)) ?_
          refine kw_iload_n dX4_plan_86 rfl ?_
          refine kw_iload dX4_plan_87 rfl ?_
          refine kw_iadd dX4_plan_89 ?_
          refine kw_top (v' := pi_ (nI ((plP s f x0 i).2 + sz_ s (f i)))) (by rw [nI_add]) ?_
          refine kw_istore_n dX4_plan_90 (Nat.le_of_ble_eq_true rfl) ?_
          refine kw_iinc dX4_plan_91 rfl (nI_i i) ?_
          refine kw_goto (tgt := 22) dX4_plan_94 (by decide) ?_
          refine kw_lvle (lv' := [some (pr_ (9, 0)), some (pi_ (nI p)), some (pi_ (nI (plT s f x0 (i + 1)).1)), some (pi_ (nI (plT s f x0 (i + 1)).2)), some (pi_ (nI (i + 1))), none]) (kw_le_s (kw_le_s (kw_le_s (kw_le_s (kw_le_s (kw_le_n kw_le_0)))))) ?_
          refine ih (i + 1) _ _ (by omega) (by omega) (fun q hq => ?_)
          simp only [va_up]
          by_cases e : q = i
          · rw [if_pos e, if_pos e, e]; exact ⟨rfl, rfl⟩
          · rw [if_neg e, if_neg e]; exact hab q (by omega)
        · skip
          have eP : plP s f x0 i = ((plT s f x0 i).1 + 1, 0) := if_neg (Nat.not_le.mpr (nI_nle' (b := cap_ s) (by omega) (by omega) c62))
          refine kw_iinc dX4_plan_65 rfl (nI_i _) ?_
          refine kw_iconst (v := 0) dX4_plan_68 (by decide) ?_
          refine kw_istore_n dX4_plan_69 (Nat.le_of_ble_eq_true rfl) ?_
          refine kw_lveq (lv' := [some (pr_ (9, 0)), some (pi_ (nI p)), some (pi_ (nI (plP s f x0 i).1)), some (pi_ (nI (plP s f x0 i).2)), some (pi_ (nI i)), some (pi_ (nI (sz_ s (f i))))]) (by rw [eP]; rfl) ?_
          refine kw_aload_n dX4_plan_70 rfl ?_
          refine kw_get dX4_plan_71 fl_X4_15 rfl rfl ?_
          refine kw_iload dX4_plan_74 rfl ?_
          refine kw_iload_n dX4_plan_76 rfl ?_
          refine kw_iastR dX4_plan_77 rfl (by omega) (by decide) ?_
          refine kw_heq (up_M12 s k a b i (nI (plP s f x0 i).1)) ?_
          refine kw_aload_n dX4_plan_78 rfl ?_
          refine kw_get dX4_plan_79 fl_X4_18 rfl rfl ?_
          refine kw_iload dX4_plan_82 rfl ?_
          refine kw_iload_n dX4_plan_84 rfl ?_
          refine kw_iastR dX4_plan_85 rfl (by omega) (by decide) ?_
          refine kw_heq (up_M13 s k (va_up a i (nI (plP s f x0 i).1)) b i (nI (plP s f x0 i).2)) ?_
          refine kw_iload_n dX4_plan_86 rfl ?_
          refine kw_iload dX4_plan_87 rfl ?_
          refine kw_iadd dX4_plan_89 ?_
          refine kw_top (v' := pi_ (nI ((plP s f x0 i).2 + sz_ s (f i)))) (by rw [nI_add]) ?_
          refine kw_istore_n dX4_plan_90 (Nat.le_of_ble_eq_true rfl) ?_
          refine kw_iinc dX4_plan_91 rfl (nI_i i) ?_
          refine kw_goto (tgt := 22) dX4_plan_94 (by decide) ?_
          refine kw_lvle (lv' := [some (pr_ (9, 0)), some (pi_ (nI p)), some (pi_ (nI (plT s f x0 (i + 1)).1)), some (pi_ (nI (plT s f x0 (i + 1)).2)), some (pi_ (nI (i + 1))), none]) (kw_le_s (kw_le_s (kw_le_s (kw_le_s (kw_le_s (kw_le_n kw_le_0)))))) ?_
          refine ih (i + 1) _ _ (by omega) (by omega) (fun q hq => ?_)
          simp only [va_up]
          by_cases e : q = i
          · rw [if_pos e, if_pos e, e]; exact ⟨rfl, rfl⟩
          · rw [if_neg e, if_neg e]; exact hab q (by omega)
  refine kw_aload_n dX4_plan_0 rfl ?_
  refine kw_get dX4_plan_1 fl_X4_21 rfl rfl ?_
  refine kw_get dX4_plan_4 fl_X4_86 rfl rfl ?_
  refine kw_iconst (v := 1) dX4_plan_7 (by decide) ?_
  refine kw_isub dX4_plan_8 ?_
  refine kw_top (v' := pi_ (nI x0.1)) (by rw [hx0]; obtain ⟨m1, hm1⟩ : ∃ m1, np_ s = m1 + 1 := ⟨np_ s - 1, by omega⟩; show pi_ (nI (np_ s) - 1) = pi_ (nI (np_ s - 1)); rw [hm1, nI_pred]; rfl) ?_
  refine kw_istore_n dX4_plan_9 (Nat.le_of_ble_eq_true rfl) ?_
  refine kw_aload_n dX4_plan_10 rfl ?_
  refine kw_get dX4_plan_11 fl_X4_21 rfl rfl ?_
  refine kw_iload_n dX4_plan_14 rfl ?_
  refine kw_callVf (As := [pi_ (nI p)]) (t_full l s k hp4 (nI p)) dX4_plan_15 cl_X4_89 rfl rfl rfl rfl (Nat.le_of_ble_eq_true rfl) ⟨(Nat.le_of_ble_eq_true rfl), (Nat.le_of_ble_eq_true rfl), (Nat.le_of_ble_eq_true rfl), (Nat.le_of_ble_eq_true rfl)⟩ ?_
  refine kw_top (v' := pi_ (nI x0.2)) (by rw [hx0]) ?_
  refine kw_istore_n dX4_plan_18 (Nat.le_of_ble_eq_true rfl) ?_
  refine kw_iconst (v := 0) dX4_plan_19 (by decide) ?_
  refine kw_istore dX4_plan_20 (Nat.le_of_ble_eq_true rfl) ?_
  have h0 : hC s k = hC s (kA (kA k 1 (ka_ k 1)) 2 (ka_ k 2)) := by rw [kA_id k 1, kA_id k 2]
  rw [h0]
  exact loop (n + 1) 0 _ _ (by omega) (by omega) (fun q hq => absurd hq (Nat.not_lt_zero _))
set_option maxHeartbeats 4000000 in
set_option maxRecDepth 100000 in
theorem d_carry (l : Launch) (C : Nat) (s : SG) (k : KG) (hb : nb_ s ≤ 80) (hns : ns_ s ≤ 40) (p n : Nat) (hp : p < np_ s) (hn : n ≤ 80) (f : Nat → Nat) (pl : Nat → Nat × Nat) (N : Nat → Nat) (hN0 : N 0 = np_ s) (hN : ∀ i, i < n → ((pl i).1 < N i ∧ N (i + 1) = N i) ∨ ((pl i).1 = N i ∧ N (i + 1) = N i + 1)) (hNm : ∀ i, i ≤ n → np_ s ≤ N i ∧ N i ≤ N n) (hN40 : N n ≤ 40) (hNC : N n = np_ s + C) (hml : ml_ k = nI n) (hf : ∀ q, q < n → ka_ k 0 q = nI (f q) ∧ ka_ k 1 q = nI (pl q).1 ∧ ka_ k 2 q = nI (pl q).2 ∧ f q < nb_ s) : kw_Q l yX4_carryOut cX4_carryOut 3 (Option.none : Option Jvm.ClassFile.FieldType) { frames := 3, cells := C, slots := 3 * C, locals := 63 } [pr_ (9, 0), pi_ (nI p)] (hC s k) (fun r h' => r = none ∧ h' = hC (s_left (aS f pl s n) p) (k_left (kS f pl s k n) p)) := by
  refine kw_M_of RX4 "carryOut" [some (pr_ (9, 0)), some (pi_ (nI p)), none] (by decide) rfl rfl rfl (Nat.le_of_ble_eq_true rfl) ?_
  intro D ad A
  refine kw_Kgen (fun K hK => ?_)
  obtain ⟨ad0, had0⟩ : ∃ x, x = ad := ⟨_, rfl⟩
  have loop : ∀ (n_ : Nat) (i : Nat) (ad : KK → Nat) (t : SG) (κ : KG), n - i < n_ → i ≤ n → aS f pl s i = t → kS f pl s k i = κ → np_ t = N i → (∀ q, hC s k q ≠ none → ad q = ad0 q) → kw_G l D cX4_carryOut RX4 (Option.none : Option Jvm.ClassFile.FieldType) "carryOut" { frames := 3, cells := C, slots := 3 * C, locals := 63 } A K ad (hC t κ) (np_ t - np_ s) (3 * (np_ t - np_ s)) 2 [some (pr_ (9, 0)), some (pi_ (nI p)), some (pi_ (nI i))] [] := by
    intro n_
    induction n_ with
    | zero =>
      intro i ad t κ hm_
      exact absurd hm_ (Nat.not_lt_zero _)
    | succ n_ ih =>
      intro i ad t κ hm_ hi ht hκ hnp hae
      have k1 : κ.1 = k.1 := by rw [← hκ]; exact (kS_1 f pl s k i).1
      have k2 : κ.2.1 = k.2.1 := by rw [← hκ]; exact (kS_1 f pl s k i).2
      have enb : nb_ t = nb_ s := by rw [← ht]; exact aS_1 f pl s 1 (by decide) i
      have ens : ns_ t = ns_ s := by rw [← ht]; exact aS_1 f pl s 7 (by decide) i
      have hNi := hNm i hi
      refine kw_iload_n dX4_carryOut_2 rfl ?_
      refine kw_aload_n dX4_carryOut_3 rfl ?_
      refine kw_get dX4_carryOut_4 fl_X4_55 rfl rfl ?_
      refine kw_top (v' := pi_ (nI n)) (by show pi_ (ml_ κ) = _; rw [ml_, k1]; exact congrArg pi_ hml) ?_
      refine kw_icmp_ge (tgt := 41) dX4_carryOut_7 (by decide) (fun c7 => ?_) (fun c7 => ?_)
      · skip
        have e : i = n := Nat.le_antisymm hi (nI_le' (by omega) (by omega) c7)
        subst e
        have hpt : p < np_ t := by omega
        refine kw_aload_n dX4_carryOut_41 rfl ?_
        refine kw_get dX4_carryOut_42 fl_X4_21 rfl rfl ?_
        refine kw_get dX4_carryOut_45 fl_X4_29 rfl rfl ?_
        refine kw_iload_n dX4_carryOut_48 rfl ?_
        refine kw_aaldN dX4_carryOut_49 rfl (by omega) (by decide) (if_pos hpt) ?_
        refine kw_astore_n dX4_carryOut_50 (Nat.le_of_ble_eq_true rfl) ?_
        refine kw_aload_n dX4_carryOut_51 rfl ?_
        refine kw_iconst (v := 1) dX4_carryOut_52 (by decide) ?_
        refine kw_put dX4_carryOut_53 fl_X4_34 (hC_pa (by exact hpt)) (kw_ok_z (Or.inr rfl)) (Nat.le_of_ble_eq_true rfl) ?_
        refine kw_heq (up_pgn t κ p hpt true) ?_
        refine kw_aload_n dX4_carryOut_56 rfl ?_
        refine kw_iconst (v := 0) dX4_carryOut_57 (by decide) ?_
        refine kw_put dX4_carryOut_58 fl_X4_44 (hC_pa (by exact hpt)) (kw_ok_i _) (Nat.le_of_ble_eq_true rfl) ?_
        refine kw_heq (up_pal (sGb t 2 (va_up (gn_ t) p true)) κ p (by exact hpt) 0) ?_
        refine kw_aload_n dX4_carryOut_61 rfl ?_
        refine kw_iconst (v := 0) dX4_carryOut_62 (by decide) ?_
        refine kw_put dX4_carryOut_63 fl_X4_40 (hC_pa (by exact hpt)) (kw_ok_i _) (Nat.le_of_ble_eq_true rfl) ?_
        refine kw_heq (up_pho (sGb t 2 (va_up (gn_ t) p true)) (kN κ 1 (va_up (ac_ κ) p 0)) p (by exact hpt) 0) ?_
        refine kw_aload_n dX4_carryOut_66 rfl ?_
        refine kw_get dX4_carryOut_67 fl_X4_21 rfl rfl ?_
        refine kw_dup dX4_carryOut_70 rfl ?_
        refine kw_get dX4_carryOut_71 fl_X4_103 rfl rfl ?_
        refine kw_iconst (v := 1) dX4_carryOut_74 (by decide) ?_
        refine kw_iadd dX4_carryOut_75 ?_
        refine kw_top (v' := pi_ (nI (nan_ t + 1))) (by rw [← nI_1]) ?_
        refine kw_put dX4_carryOut_76 fl_X4_103 rfl (kw_ok_i _) (Nat.le_of_ble_eq_true rfl) ?_
        refine kw_heq (up_nan _ _ (nan_ t + 1)) ?_
        exact kw_vret dX4_carryOut_79 rfl (by first | exact Nat.le_of_ble_eq_true rfl | (show _ ≤ C; omega) | (show _ ≤ 3 * C; omega)) (by first | exact Nat.le_of_ble_eq_true rfl | (show _ ≤ C; omega) | (show _ ≤ 3 * C; omega)) (hK _ _ _ ⟨fun q hq => (hae q hq).trans (congrFun had0 q), rfl, by rw [ht, hκ]; rfl⟩)
      · skip
        have hlt : i < n := nI_nle' (by omega) (by omega) c7
        obtain ⟨f1, f2, f3, f4⟩ := hf i hlt
        have f4t : f i < nb_ t := by omega
        refine kw_aload_n dX4_carryOut_10 rfl ?_
        refine kw_get dX4_carryOut_11 fl_X4_21 rfl rfl ?_
        refine kw_aload_n dX4_carryOut_14 rfl ?_
        refine kw_get dX4_carryOut_15 fl_X4_9 rfl rfl ?_
        refine kw_iload_n dX4_carryOut_18 rfl ?_
        refine kw_ialdN dX4_carryOut_19 rfl (by omega) (by decide) ?_
        refine kw_top (v' := pi_ (nI (f i))) (by rw [← f1, ka_, k2]) ?_
        refine kw_aload_n dX4_carryOut_20 rfl ?_
        refine kw_get dX4_carryOut_21 fl_X4_15 rfl rfl ?_
        refine kw_iload_n dX4_carryOut_24 rfl ?_
        refine kw_ialdN dX4_carryOut_25 rfl (by omega) (by decide) ?_
        refine kw_top (v' := pi_ (nI (pl i).1)) (by rw [← f2, ka_, k2]) ?_
        refine kw_aload_n dX4_carryOut_26 rfl ?_
        refine kw_get dX4_carryOut_27 fl_X4_18 rfl rfl ?_
        refine kw_iload_n dX4_carryOut_30 rfl ?_
        refine kw_ialdN dX4_carryOut_31 rfl (by omega) (by decide) ?_
        refine kw_top (v' := pi_ (nI (pl i).2)) (by rw [← f3, ka_, k2]) ?_
        by_cases e32 : (pl i).1 < np_ t
        · skip
          refine kw_callVf (As := [pi_ (nI (f i)), pi_ (nI (pl i).1), pi_ (nI (pl i).2)]) (t_lay1F l t κ (by omega) (by omega) (f i) (pl i).1 (pl i).2 f4t e32) dX4_carryOut_32 cl_X4_99 rfl rfl rfl rfl (Nat.le_of_ble_eq_true rfl) ⟨(Nat.le_of_ble_eq_true rfl), (Nat.le_of_ble_eq_true rfl), (by show _ + 0 ≤ C; omega), (by show _ + 0 ≤ 3 * C; omega)⟩ ?_
          have ea : aLay t (f i) (pl i).1 (pl i).2 = sA (s_lay t (f i) (pl i).1 (pl i).2) (pl i).1 ((pl i).2 + sz_ t (f i)) := if_pos e32
          have ek : kLay t κ (f i) (pl i).1 (pl i).2 = k_lay κ (pl i).1 ((pl i).2 + sz_ t (f i)) := if_pos e32
          have en : np_ (aLay t (f i) (pl i).1 (pl i).2) = np_ t := by rw [aLay_np, if_pos e32]
          have hNn := hN i hlt
          refine kw_iinc dX4_carryOut_35 rfl (nI_i i) ?_
          refine kw_goto (tgt := 2) dX4_carryOut_38 (by decide) ?_
          refine kw_heq (h' := hC (aLay t (f i) (pl i).1 (pl i).2) (kLay t κ (f i) (pl i).1 (pl i).2)) (by rw [ea, ek, hC_sA]) ?_
          refine kw_cs (by rw [en]; rfl) (by rw [en]; rfl) (ih (i + 1) ad _ _ (by omega) (by omega) (by rw [aS, ht]) (by rw [kS, ht, hκ]) (by rw [en]; omega) hae)
        have hNn := hN i hlt
        have hNn2 := (hNm (i + 1) (by omega)).2
        have ep : (pl i).1 = np_ t := by omega
        refine kw_top2 (v' := pi_ (nI (np_ t))) (by rw [ep]) ?_
        refine kw_callVq (As := [pi_ (nI (f i)), pi_ (nI (np_ t)), pi_ (nI (pl i).2)]) (t_lay0 l t κ (by omega) (by omega) (by omega) (f i) (pl i).2 f4t) dX4_carryOut_32 cl_X4_99 rfl rfl rfl rfl (Nat.le_of_ble_eq_true rfl) ⟨(Nat.le_of_ble_eq_true rfl), (Nat.le_of_ble_eq_true rfl), (by show _ + 1 ≤ C; omega), (by show _ + 3 ≤ 3 * C; omega)⟩ (by simp [kw_all, kw_alo, kw_alv, kw_set1, kw_keep]; exact nm_some (show hC t κ (9, 0) = some _ from rfl)) (by simp [kw_all, kw_nmo, kw_nmv, kw_set1, kw_set2, kw_keep, kw_alo, kw_alv]) (fun r2 ad2 h2 he2 hp2 => ?_)
        obtain ⟨rfl, rfl⟩ := hp2
        have ea : aLay t (f i) (pl i).1 (pl i).2 = sA (s_lay (s_np t) (f i) (np_ t) (pl i).2) (np_ t) ((pl i).2 + sz_ t (f i)) := (if_neg e32).trans (by rw [ep])
        have ek : kLay t κ (f i) (pl i).1 (pl i).2 = k_lay (k_np t κ) (np_ t) ((pl i).2 + sz_ t (f i)) := (if_neg e32).trans (by rw [ep])
        have en : np_ (aLay t (f i) (pl i).1 (pl i).2) = np_ t + 1 := by rw [aLay_np, if_neg e32]
        refine kw_iinc dX4_carryOut_35 rfl (nI_i i) ?_
        refine kw_goto (tgt := 2) dX4_carryOut_38 (by decide) ?_
        refine kw_heq (h' := hC (aLay t (f i) (pl i).1 (pl i).2) (kLay t κ (f i) (pl i).1 (pl i).2)) (by rw [ea, ek, hC_sA]) ?_
        refine kw_cs (by rw [en]; show _ + 1 = _; omega) (by rw [en]; show _ + 3 = _; omega) (ih (i + 1) ad2 _ _ (by omega) (by omega) (by rw [aS, ht]) (by rw [kS, ht, hκ]) (by rw [en]; omega) (fun q hq => (he2 q (hC_al2 enb.symm (by omega) ens.symm q hq)).trans (hae q hq)))
  refine kw_iconst (v := 0) dX4_carryOut_0 (by decide) ?_
  refine kw_istore_n dX4_carryOut_1 (Nat.le_of_ble_eq_true rfl) ?_
  refine kw_cs (by omega) (by omega) (loop (n + 1) 0 ad s k (by omega) (by omega) rfl rfl hN0.symm (fun q _ => (congrFun had0 q).symm))
