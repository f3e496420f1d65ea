/-! MATH, MIRROR -/
theorem kw_M_ofF {l : Launch} {y : MethodName} {cc : ByteArray} {nL : Nat} {ret : Option FieldType} {R : Room} {As : List PV} {h : PH} {K : (KK → Nat) → Option PV → (KK → Nat) → PH → Prop} (own nm : String) (lv : List (Option PV)) (hy : plainFor y = true) (ho : y.cls = own) (hn : y.name = nm)
    (hlv : kw_ent As ++ List.replicate (nL - (kw_ent As).length) none = lv) (hle : (kw_ent As).length ≤ nL)
    (k : ∀ (D : va_G) (ad : KK → Nat) (A : Nat → Prop), kw_G l D cc own ret nm R A (K ad) ad h 0 0 0 lv []) : kw_M l y cc nL ret R As h K := by
  intro D ad sz
  refine va_MetF (cc := cc) (maxL := nL) (ret := ret) hy rfl ?_
  intro p e s m args below meth c s₁ B hml hv
  obtain ⟨rfl, hsz, hH, hN⟩ := hv
  subst hsz
  have hts := atoms_spec (ws := .code y cc nL ret :: kw_tbl) B.pre
  have hlen : lv.length = nL := by rw [← hlv]; simp; omega
  have hle' : (lg_sl (As.map (kw_v ad))).length ≤ nL := by rw [kw_ent_len]; exact hle
  have hl := lv_entry (As.map (kw_v ad)) (n := nL) hle'
  rw [lg_entry_eq]
  refine k D ad (kw_A ad h s.heap.size) p e s m _ below meth c s.heap [] _ ⟨B.exec, B.bytes, hml.trans hlen.symm, by rw [← ho]; exact findClass_of_methodNamed B.named, fun w hw => hts w (List.mem_cons_of_mem _ hw), B.returns, B.notSynchronized, by rw [← hn]; exact (name_of_methodNamed B.named B.method).1, hN⟩ hH (fun k hk => Or.inl ⟨k, hk, rfl⟩) va_S.rf (fun q hq => Or.inr hq) ⟨hl.1.trans hlen.symm, hl.2.1, fun i v hi => ?_⟩
  have hi2 : (kw_ent As)[i]? = some (some v) := by
    rw [← hlv] at hi
    by_cases hlt : i < (kw_ent As).length
    · rw [List.getElem?_append_left hlt] at hi
      exact hi
    · rw [List.getElem?_append_right (by omega)] at hi
      have := List.eq_of_mem_replicate (List.mem_of_getElem? hi)
      cases this
  have := kw_ent_args ad As 0 i v hi2
  rw [Nat.zero_add] at this
  exact hl.2.2 _ this
theorem nI_min {a b : Nat} (ha : a < 2 ^ 31) (hb : b < 2 ^ 31) : (if nI b < nI a then nI b else nI a) = nI (min a b) := by
  by_cases q : b < a
  · rw [if_pos (nI_lt q ha), Nat.min_eq_right (by omega)]
  · rw [if_neg (nI_nlt (by omega) hb), Nat.min_eq_left (by omega)]
def kMM (k : KG) (i : Nat) (b q : Nat → Bool) : KG := kB (kB k (1 + i) b) (4 + i) q
theorem va_up_comm {α : Type} (f : Nat → α) {i j : Nat} (h : i ≠ j) (a b : α) : va_up (va_up f i a) j b = va_up (va_up f j b) i a := by
  funext x
  by_cases h1 : x = i
  · have : ¬ x = j := fun e => h (h1.symm.trans e)
    simp [va_up, h1, h]
  · by_cases h2 : x = j
    · have h3 : ¬ j = i := fun e => h e.symm
      simp [va_up, h2, h3]
    · simp [va_up, h1, h2]
theorem kMM_b (k : KG) {i : Nat} (hi : i < 3) (b q : Nat → Bool) : kb_ (kMM k i b q) (1 + i) = b := by
  show va_up (va_up k.2.2.1 (1 + i) b) (4 + i) q (1 + i) = b
  have : ¬ 1 + i = 4 + i := by omega
  simp [va_up, this]
theorem kMM_s (k : KG) (i : Nat) (b q : Nat → Bool) : kb_ (kMM k i b q) (4 + i) = q := by
  show va_up (va_up k.2.2.1 (1 + i) b) (4 + i) q (4 + i) = q
  simp [va_up]
theorem kMM_id (k : KG) (i : Nat) : kMM k i (kb_ k (1 + i)) (kb_ k (4 + i)) = k := by
  unfold kMM
  rw [kB_id, kB_id]
theorem kMM_sb (k : KG) {i : Nat} (hi : i < 3) (b q b' : Nat → Bool) : kB (kMM k i b q) (1 + i) b' = kMM k i b' q := by
  show (k.1, k.2.1, va_up (va_up (va_up k.2.2.1 (1 + i) b) (4 + i) q) (1 + i) b', k.2.2.2) = (k.1, k.2.1, va_up (va_up k.2.2.1 (1 + i) b') (4 + i) q, k.2.2.2)
  rw [va_up_comm _ (show 1 + i ≠ 4 + i by omega), va_up2, va_up_comm _ (show 4 + i ≠ 1 + i by omega)]
theorem kMM_ss (k : KG) (i : Nat) (b q q' : Nat → Bool) : kB (kMM k i b q) (4 + i) q' = kMM k i b q' := kB2 _ _ _ _
theorem hC_mbM {s : SG} {k : KG} {i : Nat} {b q : Nat → Bool} (hi : i < 3) : hC s (kMM k i b q) (20, i) = some (rb_ 80 b) := by rw [hC_mb hi, kMM_b k hi]
theorem hC_msM {s : SG} {k : KG} {i : Nat} {b q : Nat → Bool} (hi : i < 3) : hC s (kMM k i b q) (21, i) = some (rb_ 40 q) := by rw [hC_ms hi, kMM_s]
theorem up_mb (s : SG) (k : KG) (i : Nat) (hi : i < 3) (b q : Nat → Bool) (j : Nat) (v : Bool) : kw_up (hC s (kMM k i b q)) (20, i) (rb_ 80 (va_up b j v)) = hC s (kMM k i (va_up b j v) q) := by
  have := up_rmb s (kMM k i b q) i hi j v
  rw [kMM_b k hi, kMM_sb k hi] at this
  exact this
theorem up_ms (s : SG) (k : KG) (i : Nat) (hi : i < 3) (b q : Nat → Bool) (j : Nat) (v : Bool) : kw_up (hC s (kMM k i b q)) (21, i) (rb_ 40 (va_up q j v)) = hC s (kMM k i b (va_up q j v)) := by
  have := up_rms s (kMM k i b q) i hi j v
  rw [kMM_s, kMM_ss] at this
  exact this
/-- one row of the history done by a mirror; n of them from j on -/
def mone (s : SG) (j : Nat) (m : (Nat → Bool) × (Nat → Bool)) : (Nat → Bool) × (Nat → Bool) := if hk_ s j = 0 ∨ hk_ s j = 1 then (va_up m.1 (hw_ s j) (decide (hk_ s j = 0)), m.2) else (m.1, va_up m.2 (hw_ s j) (decide (hk_ s j = 2)))
def mrep (s : SG) : Nat → Nat → (Nat → Bool) × (Nat → Bool) → (Nat → Bool) × (Nat → Bool)
  | 0, _, m => m
  | n + 1, j, m => mrep s n (j + 1) (mone s j m)
def histOk (s : SG) : Prop := nh_ s ≤ 240 ∧ ∀ j, j < nh_ s → hk_ s j ≤ 3 ∧ (hk_ s j ≤ 1 → hw_ s j < 80) ∧ (2 ≤ hk_ s j → hw_ s j < 40)
/-- mirror i does up to n more -/
def kRep (s : SG) (k : KG) (i n : Nat) : KG := (fun m => kN (kMM k i m.1 m.2) 2 (va_up (dn2_ k) i (min (nh_ s) (dn2_ k i + n)))) (mrep s (min (nh_ s) (dn2_ k i + n) - dn2_ k i) (dn2_ k i) (kb_ k (1 + i), kb_ k (4 + i)))
set_option maxHeartbeats 4000000 in
set_option maxRecDepth 100000 in
theorem m_min (l : Launch) (h : PH) (x y : Int32) : kw_F l yJ9_min_7cf53 cJ9_min_7cf53 2 (Option.some Jvm.ClassFile.FieldType.int) { frames := 0, cells := 0, slots := 0, locals := 0 } [pi_ x, pi_ y] h (some (pi_ (if y < x then y else x))) h := by
  refine kw_M_ofF RJ9 "min" [some (pi_ x), some (pi_ y)] (by decide +kernel) rfl rfl rfl (Nat.le_of_ble_eq_true rfl) ?_
  intro D ad A
  refine kw_Kgen (fun K hK => ?_)
  refine kw_iload_n dJ9_min_7cf53_0 rfl ?_
  refine kw_iload_n dJ9_min_7cf53_1 rfl ?_
  refine kw_icmp_gt (tgt := 9) dJ9_min_7cf53_2 (by decide) (fun c2 => ?_) (fun c2 => ?_)
  · skip
    refine kw_iload_n dJ9_min_7cf53_9 rfl ?_
    exact kw_iret dJ9_min_7cf53_10 rfl (Nat.le_of_ble_eq_true rfl) (Nat.le_of_ble_eq_true rfl) (hK _ _ _ ⟨rfl, by rw [if_pos c2], rfl⟩)
  · skip
    refine kw_iload_n dJ9_min_7cf53_5 rfl ?_
    refine kw_goto (tgt := 10) dJ9_min_7cf53_6 (by decide) ?_
    exact kw_iret dJ9_min_7cf53_10 rfl (Nat.le_of_ble_eq_true rfl) (Nat.le_of_ble_eq_true rfl) (hK _ _ _ ⟨rfl, by rw [if_neg c2], rfl⟩)
set_option maxHeartbeats 4000000 in
set_option maxRecDepth 100000 in
theorem m_max (l : Launch) (h : PH) (x y : Int32) : kw_F l yJ9_max_7cf53 cJ9_max_7cf53 2 (Option.some Jvm.ClassFile.FieldType.int) { frames := 0, cells := 0, slots := 0, locals := 0 } [pi_ x, pi_ y] h (some (pi_ (if x < y then y else x))) h := by
  refine kw_M_ofF RJ9 "max" [some (pi_ x), some (pi_ y)] (by decide +kernel) rfl rfl rfl (Nat.le_of_ble_eq_true rfl) ?_
  intro D ad A
  refine kw_Kgen (fun K hK => ?_)
  refine kw_iload_n dJ9_max_7cf53_0 rfl ?_
  refine kw_iload_n dJ9_max_7cf53_1 rfl ?_
  refine kw_icmp_lt (tgt := 9) dJ9_max_7cf53_2 (by decide) (fun c2 => ?_) (fun c2 => ?_)
  · skip
    refine kw_iload_n dJ9_max_7cf53_9 rfl ?_
    exact kw_iret dJ9_max_7cf53_10 rfl (Nat.le_of_ble_eq_true rfl) (Nat.le_of_ble_eq_true rfl) (hK _ _ _ ⟨rfl, by rw [if_pos c2], rfl⟩)
  · skip
    refine kw_iload_n dJ9_max_7cf53_5 rfl ?_
    refine kw_goto (tgt := 10) dJ9_max_7cf53_6 (by decide) ?_
    exact kw_iret dJ9_max_7cf53_10 rfl (Nat.le_of_ble_eq_true rfl) (Nat.le_of_ble_eq_true rfl) (hK _ _ _ ⟨rfl, by rw [if_neg c2], rfl⟩)
set_option maxHeartbeats 4000000 in
set_option maxRecDepth 100000 in
theorem r_repeat (l : Launch) (s : SG) (k : KG) (hh : histOk s) (i n : Nat) (hi : i < 3) (hd : dn2_ k i ≤ nh_ s) (hn : n ≤ 500) : kw_F l yX3_repeat cX3_repeat 7 (Option.none : Option Jvm.ClassFile.FieldType) { frames := 1, cells := 0, slots := 0, locals := 21 } [pr_ (19, i), pr_ (1, 0), pi_ (nI n)] (hC s k) none (hC s (kRep s k i n)) := by
  refine kw_M_of RX3 "repeat" [some (pr_ (19, i)), some (pr_ (1, 0)), some (pi_ (nI n)), none, none, none, none] (by decide) rfl rfl rfl (Nat.le_of_ble_eq_true rfl) ?_
  intro D ad A
  refine kw_Kgen (fun K hK => ?_)
  obtain ⟨hh1, hh2⟩ := hh
  obtain ⟨u, hu⟩ : ∃ u, u = min (nh_ s) (dn2_ k i + n) := ⟨_, rfl⟩
  have hu1 : u ≤ nh_ s := by rw [hu]; exact Nat.min_le_left _ _
  have hu2 : dn2_ k i ≤ u := by rw [hu]; omega
  unfold kRep at hK
  rw [← hu] at hK
  have loop : ∀ (n_ : Nat) (j : Nat) (m : (Nat → Bool) × (Nat → Bool)), u - j < n_ → j ≤ u → mrep s (u - j) j m = mrep s (u - dn2_ k i) (dn2_ k i) (kb_ k (1 + i), kb_ k (4 + i)) → kw_G l D cX3_repeat RX3 (Option.none : Option Jvm.ClassFile.FieldType) "repeat" { frames := 1, cells := 0, slots := 0, locals := 21 } A K ad (hC s (kMM k i m.1 m.2)) 0 0 20 [some (pr_ (19, i)), some (pr_ (1, 0)), some (pi_ (nI n)), some (pi_ (nI u)), some (pi_ (nI j)), none, none] [] := by
    intro n_
    induction n_ with
    | zero =>
      intro j m hm_
      exact absurd hm_ (Nat.not_lt_zero _)
    | succ n_ ih =>
      intro j m hm_ hj hm
      refine kw_iload dX3_repeat_20 rfl ?_
      refine kw_iload_n dX3_repeat_22 rfl ?_
      refine kw_icmp_ge (tgt := 91) dX3_repeat_23 (by decide) (fun c23 => ?_) (fun c23 => ?_)
      · skip
        have e : j = u := Nat.le_antisymm hj (nI_le' (by omega) (by omega) c23)
        rw [e, Nat.sub_self] at hm
        rw [← hm] at hK
        refine kw_aload_n dX3_repeat_91 rfl ?_
        refine kw_iload_n dX3_repeat_92 rfl ?_
        refine kw_put dX3_repeat_93 fl_X3_24 (hC_mi hi) (kw_ok_i _) (Nat.le_of_ble_eq_true rfl) ?_
        refine kw_heq (up_mdn s _ i hi u) ?_
        exact kw_vret dX3_repeat_96 rfl (Nat.le_of_ble_eq_true rfl) (Nat.le_of_ble_eq_true rfl) (hK _ _ _ ⟨rfl, rfl, rfl⟩)
      · skip
        have hlt : j < u := nI_nle' (by omega) (by omega) c23
        have e1 : u - j = (u - (j + 1)) + 1 := by omega
        rw [e1, mrep] at hm
        obtain ⟨a1, a2, a3⟩ := hh2 j (by omega)
        refine kw_aload_n dX3_repeat_26 rfl ?_
        refine kw_get dX3_repeat_27 fl_X3_33 rfl rfl ?_
        refine kw_iload dX3_repeat_30 rfl ?_
        refine kw_ialdN dX3_repeat_32 rfl (by omega) (by decide) ?_
        refine kw_istore dX3_repeat_33 (Nat.le_of_ble_eq_true rfl) ?_
        refine kw_iload dX3_repeat_35 rfl ?_
        refine kw_if_eq (tgt := 46) dX3_repeat_37 (by decide) (fun c37 => ?_) (fun c37 => ?_)
        · skip
          have e0 : hk_ s j = 0 := nI_eq' (b := 0) (by omega) (by decide) c37
          refine kw_aload_n dX3_repeat_46 rfl ?_
          refine kw_get dX3_repeat_47 fl_X3_9 (hC_mi hi) rfl ?_
          refine kw_goto (tgt := 57) dX3_repeat_50 (by decide) ?_
          refine kw_astore dX3_repeat_57 (Nat.le_of_ble_eq_true rfl) ?_
          refine kw_aload dX3_repeat_59 rfl ?_
          refine kw_aload_n dX3_repeat_61 rfl ?_
          refine kw_get dX3_repeat_62 fl_X3_37 rfl rfl ?_
          refine kw_iload dX3_repeat_65 rfl ?_
          refine kw_ialdN dX3_repeat_67 rfl (by omega) (by decide) ?_
          refine kw_iload dX3_repeat_68 rfl ?_
          refine kw_if_eq (tgt := 79) dX3_repeat_70 (by decide) (fun c70 => ?_) (fun c70 => ?_)
          · skip
            refine kw_iconst (v := 1) dX3_repeat_79 (by decide) ?_
            refine kw_goto (tgt := 84) dX3_repeat_80 (by decide) ?_
            refine kw_top (v' := pi_ (b2 true)) rfl ?_
            refine kw_zastN dX3_repeat_84 (hC_mbM hi) (a2 (by omega)) (by decide) ?_
            refine kw_heq (up_mb s k i hi m.1 m.2 _ _) ?_
            refine kw_iinc dX3_repeat_85 rfl (nI_i j) ?_
            refine kw_goto (tgt := 20) dX3_repeat_88 (by decide) ?_
            refine kw_lvle (lv' := [some (pr_ (19, i)), some (pr_ (1, 0)), some (pi_ (nI n)), some (pi_ (nI u)), some (pi_ (nI (j + 1))), none, none]) (kw_le_s (kw_le_s (kw_le_s (kw_le_s (kw_le_s (kw_le_n (kw_le_n kw_le_0))))))) ?_
            exact ih (j + 1) (va_up m.1 (hw_ s j) true, m.2) (by omega) (by omega) (by rw [← hm, mone, if_pos (Or.inl e0), e0]; rfl)
          · skip
            exact absurd c37 c70
        · skip
          have e0 : hk_ s j ≠ 0 := fun q => c37 (by rw [q]; rfl)
          refine kw_iload dX3_repeat_40 rfl ?_
          refine kw_iconst (v := 1) dX3_repeat_42 (by decide) ?_
          refine kw_icmp_ne (tgt := 53) dX3_repeat_43 (by decide) (fun c43 => ?_) (fun c43 => ?_)
          · skip
            have e1 : hk_ s j ≠ 1 := fun q => c43 (by rw [q]; rfl)
            have a4 := a3 (by omega)
            refine kw_aload_n dX3_repeat_53 rfl ?_
            refine kw_get dX3_repeat_54 fl_X3_15 (hC_mi hi) rfl ?_
            refine kw_astore dX3_repeat_57 (Nat.le_of_ble_eq_true rfl) ?_
            refine kw_aload dX3_repeat_59 rfl ?_
            refine kw_aload_n dX3_repeat_61 rfl ?_
            refine kw_get dX3_repeat_62 fl_X3_37 rfl rfl ?_
            refine kw_iload dX3_repeat_65 rfl ?_
            refine kw_ialdN dX3_repeat_67 rfl (by omega) (by decide) ?_
            refine kw_iload dX3_repeat_68 rfl ?_
            refine kw_if_eq (tgt := 79) dX3_repeat_70 (by decide) (fun c70 => ?_) (fun c70 => ?_)
            · skip
              exact absurd c70 c37
            · skip
              refine kw_iload dX3_repeat_73 rfl ?_
              refine kw_iconst (v := 2) dX3_repeat_75 (by decide) ?_
              refine kw_icmp_ne (tgt := 83) dX3_repeat_76 (by decide) (fun c76 => ?_) (fun c76 => ?_)
              · skip
                have e2 : hk_ s j ≠ 2 := fun q => c76 (by rw [q]; rfl)
                refine kw_iconst (v := 0) dX3_repeat_83 (by decide) ?_
                refine kw_top (v' := pi_ (b2 false)) rfl ?_
                refine kw_zastN dX3_repeat_84 (hC_msM hi) a4 (by decide) ?_
                refine kw_heq (up_ms s k i hi m.1 m.2 _ _) ?_
                refine kw_iinc dX3_repeat_85 rfl (nI_i j) ?_
                refine kw_goto (tgt := 20) dX3_repeat_88 (by decide) ?_
                refine kw_lvle (lv' := [some (pr_ (19, i)), some (pr_ (1, 0)), some (pi_ (nI n)), some (pi_ (nI u)), some (pi_ (nI (j + 1))), none, none]) (kw_le_s (kw_le_s (kw_le_s (kw_le_s (kw_le_s (kw_le_n (kw_le_n kw_le_0))))))) ?_
                exact ih (j + 1) (m.1, va_up m.2 (hw_ s j) false) (by omega) (by omega) (by rw [← hm, mone, if_neg (by omega), decide_eq_false e2])
              · skip
                have e2 : hk_ s j = 2 := nI_eq' (b := 2) (by omega) (by decide) c76
                refine kw_iconst (v := 1) dX3_repeat_79 (by decide) ?_
                refine kw_goto (tgt := 84) dX3_repeat_80 (by decide) ?_
                refine kw_top (v' := pi_ (b2 true)) rfl ?_
                refine kw_zastN dX3_repeat_84 (hC_msM hi) a4 (by decide) ?_
                refine kw_heq (up_ms s k i hi m.1 m.2 _ _) ?_
                refine kw_iinc dX3_repeat_85 rfl (nI_i j) ?_
                refine kw_goto (tgt := 20) dX3_repeat_88 (by decide) ?_
                refine kw_lvle (lv' := [some (pr_ (19, i)), some (pr_ (1, 0)), some (pi_ (nI n)), some (pi_ (nI u)), some (pi_ (nI (j + 1))), none, none]) (kw_le_s (kw_le_s (kw_le_s (kw_le_s (kw_le_s (kw_le_n (kw_le_n kw_le_0))))))) ?_
                exact ih (j + 1) (m.1, va_up m.2 (hw_ s j) true) (by omega) (by omega) (by rw [← hm, mone, if_neg (by omega), e2]; rfl)
          · skip
            have e1 : hk_ s j = 1 := nI_eq' (b := 1) (by omega) (by decide) c43
            refine kw_aload_n dX3_repeat_46 rfl ?_
            refine kw_get dX3_repeat_47 fl_X3_9 (hC_mi hi) rfl ?_
            refine kw_goto (tgt := 57) dX3_repeat_50 (by decide) ?_
            refine kw_astore dX3_repeat_57 (Nat.le_of_ble_eq_true rfl) ?_
            refine kw_aload dX3_repeat_59 rfl ?_
            refine kw_aload_n dX3_repeat_61 rfl ?_
            refine kw_get dX3_repeat_62 fl_X3_37 rfl rfl ?_
            refine kw_iload dX3_repeat_65 rfl ?_
            refine kw_ialdN dX3_repeat_67 rfl (by omega) (by decide) ?_
            refine kw_iload dX3_repeat_68 rfl ?_
            refine kw_if_eq (tgt := 79) dX3_repeat_70 (by decide) (fun c70 => ?_) (fun c70 => ?_)
            · skip
              exact absurd c70 c37
            · skip
              refine kw_iload dX3_repeat_73 rfl ?_
              refine kw_iconst (v := 2) dX3_repeat_75 (by decide) ?_
              refine kw_icmp_ne (tgt := 83) dX3_repeat_76 (by decide) (fun c76 => ?_) (fun c76 => ?_)
              · skip
                refine kw_iconst (v := 0) dX3_repeat_83 (by decide) ?_
                refine kw_top (v' := pi_ (b2 false)) rfl ?_
                refine kw_zastN dX3_repeat_84 (hC_mbM hi) (a2 (by omega)) (by decide) ?_
                refine kw_heq (up_mb s k i hi m.1 m.2 _ _) ?_
                refine kw_iinc dX3_repeat_85 rfl (nI_i j) ?_
                refine kw_goto (tgt := 20) dX3_repeat_88 (by decide) ?_
                refine kw_lvle (lv' := [some (pr_ (19, i)), some (pr_ (1, 0)), some (pi_ (nI n)), some (pi_ (nI u)), some (pi_ (nI (j + 1))), none, none]) (kw_le_s (kw_le_s (kw_le_s (kw_le_s (kw_le_s (kw_le_n (kw_le_n kw_le_0))))))) ?_
                exact ih (j + 1) (va_up m.1 (hw_ s j) false, m.2) (by omega) (by omega) (by rw [← hm, mone, if_pos (Or.inr e1), e1]; rfl)
              · skip
                exact absurd c76 (by rw [e1]; decide)
  refine kw_aload_n dX3_repeat_0 rfl ?_
  refine kw_get dX3_repeat_1 fl_X3_18 rfl rfl ?_
  refine kw_aload_n dX3_repeat_4 rfl ?_
  refine kw_get dX3_repeat_5 fl_X3_24 (hC_mi hi) rfl ?_
  refine kw_iload_n dX3_repeat_8 rfl ?_
  refine kw_iadd dX3_repeat_9 ?_
  refine kw_top (v' := pi_ (nI (dn2_ k i + n))) (by rw [nI_add]) ?_
  refine kw_callSf (As := [pi_ (nI (nh_ s)), pi_ (nI (dn2_ k i + n))]) (m_min l (hC s k) _ _) dX3_repeat_10 cl_X3_27 rfl rfl (Nat.le_of_ble_eq_true rfl) ⟨(Nat.le_of_ble_eq_true rfl), (Nat.le_of_ble_eq_true rfl), (Nat.le_of_ble_eq_true rfl), (Nat.le_of_ble_eq_true rfl)⟩ ?_
  refine kw_top (v' := pi_ (nI u)) (congrArg pi_ (by rw [hu]; exact nI_min (by omega) (by omega))) ?_
  refine kw_istore_n dX3_repeat_13 (Nat.le_of_ble_eq_true rfl) ?_
  refine kw_aload_n dX3_repeat_14 rfl ?_
  refine kw_get dX3_repeat_15 fl_X3_24 (hC_mi hi) rfl ?_
  refine kw_istore dX3_repeat_18 (Nat.le_of_ble_eq_true rfl) ?_
  refine kw_lveq (lv' := [some (pr_ (19, i)), some (pr_ (1, 0)), some (pi_ (nI n)), some (pi_ (nI u)), some (pi_ (nI (dn2_ k i))), none, none]) rfl ?_
  have h0 : hC s k = hC s (kMM k i (kb_ k (1 + i), kb_ k (4 + i)).1 (kb_ k (1 + i), kb_ k (4 + i)).2) := by rw [kMM_id]
  rw [h0]
  exact loop (u - dn2_ k i + 1) (dn2_ k i) (kb_ k (1 + i), kb_ k (4 + i)) (by omega) hu2 rfl
set_option maxHeartbeats 4000000 in
set_option maxRecDepth 100000 in
theorem r_held (l : Launch) (h : PH) (q0 : KK) (N : Nat) (g : Nat → Bool) (hq : h q0 = some (rb_ N g)) (hN : N < 2 ^ 31) : kw_F l yX3_held cX3_held 3 (Option.some Jvm.ClassFile.FieldType.int) { frames := 0, cells := 0, slots := 0, locals := 0 } [pr_ q0] h (some (pi_ (nI (cntN g N)))) h := by
  refine kw_M_of RX3 "held" [some (pr_ q0), none, none] (by decide) rfl rfl rfl (Nat.le_of_ble_eq_true rfl) ?_
  intro D ad A
  refine kw_Kgen (fun K hK => ?_)
  have loop : ∀ (n_ : Nat) (j : Nat), N - j < n_ → j ≤ N → kw_G l D cX3_held RX3 (Option.some Jvm.ClassFile.FieldType.int) "held" { frames := 0, cells := 0, slots := 0, locals := 0 } A K ad h 0 0 4 [some (pr_ q0), some (pi_ (nI (cntN g j))), some (pi_ (nI j))] [] := by
    intro n_
    induction n_ with
    | zero =>
      intro j hm_
      exact absurd hm_ (Nat.not_lt_zero _)
    | succ n_ ih =>
      intro j hm_ hj
      refine kw_iload_n dX3_held_4 rfl ?_
      refine kw_aload_n dX3_held_5 rfl ?_
      refine kw_alen dX3_held_6 hq ?_
      refine kw_icmp_ge (tgt := 30) dX3_held_7 (by decide) (fun c7 => ?_) (fun c7 => ?_)
      · skip
        have e : j = N := Nat.le_antisymm hj (nI_le' (a := N) (by omega) (by omega) c7)
        refine kw_iload_n dX3_held_30 rfl ?_
        exact kw_iret dX3_held_31 rfl (Nat.le_of_ble_eq_true rfl) (Nat.le_of_ble_eq_true rfl) (hK _ _ _ ⟨rfl, by rw [e], rfl⟩)
      · skip
        have hlt : j < N := nI_nle' (a := N) (by omega) (by omega) c7
        refine kw_iload_n dX3_held_10 rfl ?_
        refine kw_aload_n dX3_held_11 rfl ?_
        refine kw_iload_n dX3_held_12 rfl ?_
        refine kw_zaldN dX3_held_13 hq hlt hN ?_
        refine kw_if_eq (tgt := 21) dX3_held_14 (by decide) (fun c14 => ?_) (fun c14 => ?_)
        · skip
          refine kw_iconst (v := 0) dX3_held_21 (by decide) ?_
          refine kw_iadd dX3_held_22 ?_
          refine kw_top (v' := pi_ (nI (cntN (g) (j + 1)))) (cnt_f (p := g) (b2_0.mp c14)) ?_
          refine kw_istore_n dX3_held_23 (Nat.le_of_ble_eq_true rfl) ?_
          refine kw_iinc dX3_held_24 rfl (nI_i j) ?_
          refine kw_goto (tgt := 4) dX3_held_27 (by decide) ?_
          exact ih (j + 1) (by omega) (by omega)
        · skip
          refine kw_iconst (v := 1) dX3_held_17 (by decide) ?_
          refine kw_goto (tgt := 22) dX3_held_18 (by decide) ?_
          refine kw_iadd dX3_held_22 ?_
          refine kw_top (v' := pi_ (nI (cntN (g) (j + 1)))) (cnt_t (p := g) (b2_n0.mp c14)) ?_
          refine kw_istore_n dX3_held_23 (Nat.le_of_ble_eq_true rfl) ?_
          refine kw_iinc dX3_held_24 rfl (nI_i j) ?_
          refine kw_goto (tgt := 4) dX3_held_27 (by decide) ?_
          exact ih (j + 1) (by omega) (by omega)
  refine kw_iconst (v := 0) dX3_held_0 (by decide) ?_
  refine kw_istore_n dX3_held_1 (Nat.le_of_ble_eq_true rfl) ?_
  refine kw_iconst (v := 0) dX3_held_2 (by decide) ?_
  refine kw_istore_n dX3_held_3 (Nat.le_of_ble_eq_true rfl) ?_
  exact loop (N + 1) 0 (by omega) (by omega)
set_option maxHeartbeats 4000000 in
set_option maxRecDepth 100000 in
theorem r_forget (l : Launch) (s : SG) (k : KG) (i : Nat) (hi : i < 3) : kw_F l yX3_forget cX3_forget 2 (Option.none : Option Jvm.ClassFile.FieldType) { frames := 0, cells := 0, slots := 0, locals := 0 } [pr_ (19, i)] (hC s k) none (hC s (kMM (kN k 2 (va_up (dn2_ k) i 0)) i (rnone 80 (kb_ k (1 + i))) (rnone 40 (kb_ k (4 + i))))) := by
  refine kw_M_of RX3 "forget" [some (pr_ (19, i)), none] (by decide) rfl rfl rfl (Nat.le_of_ble_eq_true rfl) ?_
  intro D ad A
  refine kw_Kgen (fun K hK => ?_)
  obtain ⟨k1, hk1⟩ : ∃ k1, k1 = kN k 2 (va_up (dn2_ k) i 0) := ⟨_, rfl⟩
  rw [← hk1] at hK
  have loop2 : ∀ (n_ : Nat) (j : Nat), 40 - j < n_ → j ≤ 40 → kw_G l D cX3_forget RX3 (Option.none : Option Jvm.ClassFile.FieldType) "forget" { frames := 0, cells := 0, slots := 0, locals := 0 } A K ad (hC s (kMM k1 i (rnone 80 (kb_ k (1 + i))) (rnone j (kb_ k (4 + i))))) 0 0 28 [some (pr_ (19, i)), some (pi_ (nI j))] [] := by
    intro n_
    induction n_ with
    | zero =>
      intro j hm_
      exact absurd hm_ (Nat.not_lt_zero _)
    | succ n_ ih =>
      intro j hm_ hj
      refine kw_iload_n dX3_forget_28 rfl ?_
      refine kw_bipush (v := 40) dX3_forget_29 (by decide) ?_
      refine kw_icmp_ge (tgt := 47) dX3_forget_31 (by decide) (fun c31 => ?_) (fun c31 => ?_)
      · skip
        have e : j = 40 := Nat.le_antisymm hj (nI_le' (a := 40) (by omega) (by omega) c31)
        exact kw_vret dX3_forget_47 rfl (Nat.le_of_ble_eq_true rfl) (Nat.le_of_ble_eq_true rfl) (hK _ _ _ ⟨rfl, rfl, by rw [e]⟩)
      · skip
        have hlt : j < 40 := nI_nle' (a := 40) (by omega) (by omega) c31
        refine kw_aload_n dX3_forget_34 rfl ?_
        refine kw_get dX3_forget_35 fl_X3_15 (hC_mi hi) rfl ?_
        refine kw_iload_n dX3_forget_38 rfl ?_
        refine kw_iconst (v := 0) dX3_forget_39 (by decide) ?_
        refine kw_top (v' := pi_ (b2 false)) rfl ?_
        refine kw_zastN dX3_forget_40 (hC_msM hi) hlt (by decide) ?_
        refine kw_heq (up_ms s k1 i hi _ _ _ _) ?_
        rw [rnone_s]
        refine kw_iinc dX3_forget_41 rfl (nI_i j) ?_
        refine kw_goto (tgt := 28) dX3_forget_44 (by decide) ?_
        exact ih (j + 1) (by omega) (by omega)
  have loop : ∀ (n_ : Nat) (j : Nat), 80 - j < n_ → j ≤ 80 → kw_G l D cX3_forget RX3 (Option.none : Option Jvm.ClassFile.FieldType) "forget" { frames := 0, cells := 0, slots := 0, locals := 0 } A K ad (hC s (kMM k1 i (rnone j (kb_ k (1 + i))) (kb_ k (4 + i)))) 0 0 7 [some (pr_ (19, i)), some (pi_ (nI j))] [] := by
    intro n_
    induction n_ with
    | zero =>
      intro j hm_
      exact absurd hm_ (Nat.not_lt_zero _)
    | succ n_ ih =>
      intro j hm_ hj
      refine kw_iload_n dX3_forget_7 rfl ?_
      refine kw_bipush (v := 80) dX3_forget_8 (by decide) ?_
      refine kw_icmp_ge (tgt := 26) dX3_forget_10 (by decide) (fun c10 => ?_) (fun c10 => ?_)
      · skip
        have e : j = 80 := Nat.le_antisymm hj (nI_le' (a := 80) (by omega) (by omega) c10)
        rw [e]
        refine kw_iconst (v := 0) dX3_forget_26 (by decide) ?_
        refine kw_istore_n dX3_forget_27 (Nat.le_of_ble_eq_true rfl) ?_
        have h0 : kMM k1 i (rnone 80 (kb_ k (1 + i))) (kb_ k (4 + i)) = kMM k1 i (rnone 80 (kb_ k (1 + i))) (rnone 0 (kb_ k (4 + i))) := by rw [rnone_0]
        rw [h0]
        exact loop2 41 0 (by omega) (by omega)
      · skip
        have hlt : j < 80 := nI_nle' (a := 80) (by omega) (by omega) c10
        refine kw_aload_n dX3_forget_13 rfl ?_
        refine kw_get dX3_forget_14 fl_X3_9 (hC_mi hi) rfl ?_
        refine kw_iload_n dX3_forget_17 rfl ?_
        refine kw_iconst (v := 0) dX3_forget_18 (by decide) ?_
        refine kw_top (v' := pi_ (b2 false)) rfl ?_
        refine kw_zastN dX3_forget_19 (hC_mbM hi) hlt (by decide) ?_
        refine kw_heq (up_mb s k1 i hi _ _ _ _) ?_
        rw [rnone_s]
        refine kw_iinc dX3_forget_20 rfl (nI_i j) ?_
        refine kw_goto (tgt := 7) dX3_forget_23 (by decide) ?_
        exact ih (j + 1) (by omega) (by omega)
  refine kw_aload_n dX3_forget_0 rfl ?_
  refine kw_iconst (v := 0) dX3_forget_1 (by decide) ?_
  refine kw_put dX3_forget_2 fl_X3_24 (hC_mi hi) (kw_ok_i _) (Nat.le_of_ble_eq_true rfl) ?_
  refine kw_heq (up_mdn s k i hi 0) ?_
  rw [← hk1]
  refine kw_iconst (v := 0) dX3_forget_5 (by decide) ?_
  refine kw_istore_n dX3_forget_6 (Nat.le_of_ble_eq_true rfl) ?_
  have h0 : k1 = kMM k1 i (rnone 0 (kb_ k (1 + i))) (kb_ k (4 + i)) := by rw [rnone_0]; have := kMM_id k1 i; rw [hk1] at this ⊢; exact this.symm
  rw [h0]
  exact loop 81 0 (by omega) (by omega)
set_option maxHeartbeats 4000000 in
set_option maxRecDepth 100000 in
theorem r_differ (l : Launch) (s : SG) (k : KG) (i : Nat) (hi : i < 3) (h1 : ∀ q, q < 80 → kb_ k (1 + i) q = kb_ k 3 q) (h2 : ∀ q, q < 40 → kb_ k (4 + i) q = kb_ k 6 q) : kw_F l yX3_differences cX3_differences 4 (Option.some Jvm.ClassFile.FieldType.int) { frames := 0, cells := 0, slots := 0, locals := 0 } [pr_ (19, i), pr_ (19, 2)] (hC s k) (some (pi_ 0)) (hC s k) := by
  refine kw_M_of RX3 "differences" [some (pr_ (19, i)), some (pr_ (19, 2)), none, none] (by decide) rfl rfl rfl (Nat.le_of_ble_eq_true rfl) ?_
  intro D ad A
  refine kw_Kgen (fun K hK => ?_)
  have loop2 : ∀ (n_ : Nat) (j : Nat), 40 - j < n_ → j ≤ 40 → kw_G l D cX3_differences RX3 (Option.some Jvm.ClassFile.FieldType.int) "differences" { frames := 0, cells := 0, slots := 0, locals := 0 } A K ad (hC s k) 0 0 41 [some (pr_ (19, i)), some (pr_ (19, 2)), some (pi_ 0), some (pi_ (nI j))] [] := by
    intro n_
    induction n_ with
    | zero =>
      intro j hm_
      exact absurd hm_ (Nat.not_lt_zero _)
    | succ n_ ih =>
      intro j hm_ hj
      refine kw_iload_n dX3_differences_41 rfl ?_
      refine kw_bipush (v := 40) dX3_differences_42 (by decide) ?_
      refine kw_icmp_ge (tgt := 76) dX3_differences_44 (by decide) (fun c44 => ?_) (fun c44 => ?_)
      · skip
        refine kw_iload_n dX3_differences_76 rfl ?_
        exact kw_iret dX3_differences_77 rfl (Nat.le_of_ble_eq_true rfl) (Nat.le_of_ble_eq_true rfl) (hK _ _ _ ⟨rfl, rfl, rfl⟩)
      · skip
        have hlt : j < 40 := nI_nle' (a := 40) (by omega) (by omega) c44
        refine kw_iload_n dX3_differences_47 rfl ?_
        refine kw_aload_n dX3_differences_48 rfl ?_
        refine kw_get dX3_differences_49 fl_X3_15 (hC_mi hi) rfl ?_
        refine kw_iload_n dX3_differences_52 rfl ?_
        refine kw_zaldN dX3_differences_53 (hC_ms hi) hlt (by decide) ?_
        refine kw_aload_n dX3_differences_54 rfl ?_
        refine kw_get dX3_differences_55 fl_X3_15 (hC_mi (i := 2) (by decide)) rfl ?_
        refine kw_iload_n dX3_differences_58 rfl ?_
        refine kw_zaldN dX3_differences_59 (hC_ms (i := 2) (by decide)) hlt (by decide) ?_
        refine kw_icmp_ne (tgt := 67) dX3_differences_60 (by decide) (fun c60 => ?_) (fun c60 => ?_)
        · skip
          exact absurd (by rw [h2 j hlt]) c60
        · skip
          refine kw_iconst (v := 0) dX3_differences_63 (by decide) ?_
          refine kw_goto (tgt := 68) dX3_differences_64 (by decide) ?_
          refine kw_iadd dX3_differences_68 ?_
          refine kw_top (v' := pi_ 0) (by decide) ?_
          refine kw_istore_n dX3_differences_69 (Nat.le_of_ble_eq_true rfl) ?_
          refine kw_iinc dX3_differences_70 rfl (nI_i j) ?_
          refine kw_goto (tgt := 41) dX3_differences_73 (by decide) ?_
          exact ih (j + 1) (by omega) (by omega)
  have loop : ∀ (n_ : Nat) (j : Nat), 80 - j < n_ → j ≤ 80 → kw_G l D cX3_differences RX3 (Option.some Jvm.ClassFile.FieldType.int) "differences" { frames := 0, cells := 0, slots := 0, locals := 0 } A K ad (hC s k) 0 0 4 [some (pr_ (19, i)), some (pr_ (19, 2)), some (pi_ 0), some (pi_ (nI j))] [] := by
    intro n_
    induction n_ with
    | zero =>
      intro j hm_
      exact absurd hm_ (Nat.not_lt_zero _)
    | succ n_ ih =>
      intro j hm_ hj
      refine kw_iload_n dX3_differences_4 rfl ?_
      refine kw_bipush (v := 80) dX3_differences_5 (by decide) ?_
      refine kw_icmp_ge (tgt := 39) dX3_differences_7 (by decide) (fun c7 => ?_) (fun c7 => ?_)
      · skip
        refine kw_iconst (v := 0) dX3_differences_39 (by decide) ?_
        refine kw_istore_n dX3_differences_40 (Nat.le_of_ble_eq_true rfl) ?_
        exact loop2 41 0 (by omega) (by omega)
      · skip
        have hlt : j < 80 := nI_nle' (a := 80) (by omega) (by omega) c7
        refine kw_iload_n dX3_differences_10 rfl ?_
        refine kw_aload_n dX3_differences_11 rfl ?_
        refine kw_get dX3_differences_12 fl_X3_9 (hC_mi hi) rfl ?_
        refine kw_iload_n dX3_differences_15 rfl ?_
        refine kw_zaldN dX3_differences_16 (hC_mb hi) hlt (by decide) ?_
        refine kw_aload_n dX3_differences_17 rfl ?_
        refine kw_get dX3_differences_18 fl_X3_9 (hC_mi (i := 2) (by decide)) rfl ?_
        refine kw_iload_n dX3_differences_21 rfl ?_
        refine kw_zaldN dX3_differences_22 (hC_mb (i := 2) (by decide)) hlt (by decide) ?_
        refine kw_icmp_ne (tgt := 30) dX3_differences_23 (by decide) (fun c23 => ?_) (fun c23 => ?_)
        · skip
          exact absurd (by rw [h1 j hlt]) c23
        · skip
          refine kw_iconst (v := 0) dX3_differences_26 (by decide) ?_
          refine kw_goto (tgt := 31) dX3_differences_27 (by decide) ?_
          refine kw_iadd dX3_differences_31 ?_
          refine kw_top (v' := pi_ 0) (by decide) ?_
          refine kw_istore_n dX3_differences_32 (Nat.le_of_ble_eq_true rfl) ?_
          refine kw_iinc dX3_differences_33 rfl (nI_i j) ?_
          refine kw_goto (tgt := 4) dX3_differences_36 (by decide) ?_
          exact ih (j + 1) (by omega) (by omega)
  refine kw_iconst (v := 0) dX3_differences_0 (by decide) ?_
  refine kw_istore_n dX3_differences_1 (Nat.le_of_ble_eq_true rfl) ?_
  refine kw_iconst (v := 0) dX3_differences_2 (by decide) ?_
  refine kw_istore_n dX3_differences_3 (Nat.le_of_ble_eq_true rfl) ?_
  exact loop 81 0 (by omega) (by omega)
