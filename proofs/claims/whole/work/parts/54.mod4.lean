/-! THE MODEL'S METHODS, 4: find, save, commit -/
def fitB (s : SG) (z : Nat) : Bool := decide (0 < np_ s) && (!gn_ s (np_ s - 1) && decide (al_ s (np_ s - 1) + z ≤ cap_ s))
abbrev newP (s : SG) (z : Nat) : Nat × Nat := if fitB s z = true then (np_ s - 1, al_ s (np_ s - 1)) else (np_ s, 0)
def a_addA (t : SG) (key : Int64) (z n : Nat) (f : Nat → Nat) : SG := aLay (s_blk (s_ev t 0 (nb_ t)) key z n f) (nb_ t) (newP t z).1 (newP t z).2
def a_new (t : SG) (j : Nat) (key : Int64) (z : Nat) : SG := s_km0 (s_use (a_addA t key z (km_ t j) (ks_ t j)) j (nb_ t)) j
def a_save (s : SG) (x : Int32) (key : Int64) (w : Int32) : Int32 × SG := if dn_ s = true then (-106, s) else if svOk s x = true then (if w < 1 ∨ nI (cap_ s) < w then (-102, s_rn s (cl_ x)) else if dead_ s (cl_ x) = true then (-103, s_rn s (cl_ x)) else if findS s (cl_ x) key (cl_ w) = -1 then (if um_ s (cl_ x) < 8 ∧ nb_ s < 80 ∧ (fitB s (cl_ w) = true ∨ np_ s < 40) then (if cut_ s = 0 then (-105, s_lost (s_rn s (cl_ x))) else (nI (nb_ s), a_new (s_w1 (s_rn s (cl_ x))) (cl_ x) key (cl_ w))) else (-104, s_rn s (cl_ x))) else if um_ s (cl_ x) < 8 ∨ usesB s (cl_ x) (findS s (cl_ x) key (cl_ w)) = true then (if (a_tk (s_rn s (cl_ x)) (cl_ x) (cl_ (findS s (cl_ x) key (cl_ w)))).1 = true then (findS s (cl_ x) key (cl_ w), s_km0 (a_tk (s_rn s (cl_ x)) (cl_ x) (cl_ (findS s (cl_ x) key (cl_ w)))).2 (cl_ x)) else (-105, (a_tk (s_rn s (cl_ x)) (cl_ x) (cl_ (findS s (cl_ x) key (cl_ w)))).2)) else (-104, s_rn s (cl_ x))) else (-101, s)
theorem anyN_up {p : Nat → Bool} {i n : Nat} (h : i ≤ n) (e : anyN p i = true) : anyN p n = true := by
  obtain ⟨j, hj, h2⟩ := anyN_iff.mp e
  exact anyN_t (by omega) h2
set_option maxHeartbeats 4000000 in
set_option maxRecDepth 100000 in
theorem n_find (l : Launch) (s : SG) (k : KG) (hb : nb_ s ≤ 80) (hMI : MI s k) (hcm : ∀ i, i < nb_ s → cm_ s i ≤ 4) (j : Nat) (hj : j < 4) (hkm : km_ s j ≤ 4) (key : Int64) (z : Nat) : kw_F l yX12_find cX12_find 8 (Option.some Jvm.ClassFile.FieldType.int) { frames := 0, cells := 0, slots := 0, locals := 0 } [pr_ (40, 0), pi_ (nI j), pl_ key, pi_ (nI z)] (hM s k) (some (pi_ (findS s j key z))) (hM s k) := by
  refine kw_M_of RX12 "find" [some (pr_ (40, 0)), some (pi_ (nI j)), some (pl_ key), none, some (pi_ (nI z)), none, none, none] (by decide) rfl rfl rfl (Nat.le_of_ble_eq_true rfl) ?_
  intro D ad A
  refine kw_Kgen (fun K hK => ?_)
  have loop : ∀ (n_ : Nat) (b : Nat), nb_ s - b < n_ → b ≤ nb_ s → findF (fun i => th_ s i && likeB s i j key z) (nb_ s - b) b = findS s j key z → kw_G l D cX12_find RX12 (Option.some Jvm.ClassFile.FieldType.int) "find" { frames := 0, cells := 0, slots := 0, locals := 0 } A K ad (hM s k) 0 0 3 [some (pr_ (40, 0)), some (pi_ (nI j)), some (pl_ key), none, some (pi_ (nI z)), some (pi_ (nI b)), none, none] [] := by
    intro n_
    induction n_ with
    | zero =>
      intro b hm_
      exact absurd hm_ (Nat.not_lt_zero _)
    | succ n_ ih =>
      intro b hm_ hbl hf
      refine kw_iload dX12_find_3 rfl ?_
      refine kw_aload_n dX12_find_5 rfl ?_
      refine kw_get dX12_find_6 fl_X12_156 rfl rfl ?_
      refine kw_icmp_ge (tgt := 142) dX12_find_9 (by decide) (fun c9 => ?_) (fun c9 => ?_)
      · skip
        have e : b = nb_ s := Nat.le_antisymm hbl (nI_le' (by omega) (by omega) c9)
        rw [e, Nat.sub_self, findF] at hf
        refine kw_iconst (v := (-1)) dX12_find_142 (by decide) ?_
        exact kw_iret dX12_find_143 rfl (Nat.le_of_ble_eq_true rfl) (Nat.le_of_ble_eq_true rfl) (hK _ _ _ ⟨rfl, by rw [← hf], rfl⟩)
      · skip
        have hlt : b < nb_ s := nI_nle' (by omega) (by omega) c9
        obtain ⟨d, hd9⟩ : ∃ d, nb_ s - b = d + 1 := ⟨nb_ s - b - 1, by omega⟩
        rw [hd9, findF] at hf
        have hc4 := hcm b hlt
        have h31 := hMI.1 b hlt
        have h36 := hMI.2.2.2 j hj
        refine kw_aload_n dX12_find_12 rfl ?_
        refine kw_get dX12_find_13 fl_X12_33 rfl rfl ?_
        refine kw_iload dX12_find_16 rfl ?_
        refine kw_zaldN dX12_find_18 rfl (by omega) (by decide) ?_
        refine kw_if_eq (tgt := 66) dX12_find_19 (by decide) (fun c19 => ?_) (fun c19 => ?_)
        · skip
          have eg : (th_ s b && likeB s b j key z) = false := by show (th_ s b && _) = false; rw [b2_0.mp c19]; rfl
          refine kw_iconst (v := 0) dX12_find_66 (by decide) ?_
          rw [eg, if_neg (by decide)] at hf
          refine kw_istore dX12_find_67 (Nat.le_of_ble_eq_true rfl) ?_
          refine kw_iconst (v := 0) dX12_find_69 (by decide) ?_
          refine kw_istore dX12_find_70 (Nat.le_of_ble_eq_true rfl) ?_
          refine kw_iload dX12_find_72 rfl ?_
          refine kw_aload_n dX12_find_74 rfl ?_
          refine kw_get dX12_find_75 fl_X12_27 rfl rfl ?_
          refine kw_iload dX12_find_78 rfl ?_
          refine kw_ialdN dX12_find_80 rfl (by omega) (by decide) ?_
          refine kw_icmp_ge (tgt := 128) dX12_find_81 (by decide) (fun c81 => ?_) (fun c81 => ?_)
          · skip
            refine kw_iload dX12_find_128 rfl ?_
            refine kw_if_eq (tgt := 136) dX12_find_130 (by decide) (fun c130 => ?_) (fun c130 => ?_)
            · skip
              refine kw_iinc dX12_find_136 rfl (nI_i b) ?_
              refine kw_goto (tgt := 3) dX12_find_139 (by decide) ?_
              refine kw_lvle (lv' := [some (pr_ (40, 0)), some (pi_ (nI j)), some (pl_ key), none, some (pi_ (nI z)), some (pi_ (nI (b + 1))), none, none]) (kw_le_s (kw_le_s (kw_le_s (kw_le_n (kw_le_s (kw_le_s (kw_le_n (kw_le_n kw_le_0)))))))) ?_
              exact ih (b + 1) (by omega) (by omega) (by rw [show nb_ s - (b + 1) = d by omega]; exact hf)
            · skip
              exact absurd rfl c130
          · skip
            refine kw_iload dX12_find_84 rfl ?_
            refine kw_if_eq (tgt := 128) dX12_find_86 (by decide) (fun c86 => ?_) (fun c86 => ?_)
            · skip
              refine kw_iload dX12_find_128 rfl ?_
              refine kw_if_eq (tgt := 136) dX12_find_130 (by decide) (fun c130 => ?_) (fun c130 => ?_)
              · skip
                refine kw_iinc dX12_find_136 rfl (nI_i b) ?_
                refine kw_goto (tgt := 3) dX12_find_139 (by decide) ?_
                refine kw_lvle (lv' := [some (pr_ (40, 0)), some (pi_ (nI j)), some (pl_ key), none, some (pi_ (nI z)), some (pi_ (nI (b + 1))), none, none]) (kw_le_s (kw_le_s (kw_le_s (kw_le_n (kw_le_s (kw_le_s (kw_le_n (kw_le_n kw_le_0)))))))) ?_
                exact ih (b + 1) (by omega) (by omega) (by rw [show nb_ s - (b + 1) = d by omega]; exact hf)
              · skip
                exact absurd rfl c130
            · skip
              exact absurd rfl c86
        · skip
          have e19 := b2_n0.mp c19
          refine kw_aload_n dX12_find_22 rfl ?_
          refine kw_get dX12_find_23 fl_X12_19 rfl rfl ?_
          refine kw_iload dX12_find_26 rfl ?_
          refine kw_laldN dX12_find_28 rfl (by omega) (by decide) ?_
          refine kw_lload_n dX12_find_29 rfl ?_
          refine kw_lcmp dX12_find_30 ?_
          refine kw_if_ne (tgt := 66) dX12_find_31 (by decide) (fun c31 => ?_) (fun c31 => ?_)
          · skip
            have e31 : ¬ ky_ s b = key := fun q => c31 ((lg_cmp_eq _ _).mpr q)
            have eg : (th_ s b && likeB s b j key z) = false := by show (th_ s b && likeB s b j key z) = false; unfold likeB; rw [decide_eq_false e31]; simp
            refine kw_iconst (v := 0) dX12_find_66 (by decide) ?_
            rw [eg, if_neg (by decide)] at hf
            refine kw_istore dX12_find_67 (Nat.le_of_ble_eq_true rfl) ?_
            refine kw_iconst (v := 0) dX12_find_69 (by decide) ?_
            refine kw_istore dX12_find_70 (Nat.le_of_ble_eq_true rfl) ?_
            refine kw_iload dX12_find_72 rfl ?_
            refine kw_aload_n dX12_find_74 rfl ?_
            refine kw_get dX12_find_75 fl_X12_27 rfl rfl ?_
            refine kw_iload dX12_find_78 rfl ?_
            refine kw_ialdN dX12_find_80 rfl (by omega) (by decide) ?_
            refine kw_icmp_ge (tgt := 128) dX12_find_81 (by decide) (fun c81 => ?_) (fun c81 => ?_)
            · skip
              refine kw_iload dX12_find_128 rfl ?_
              refine kw_if_eq (tgt := 136) dX12_find_130 (by decide) (fun c130 => ?_) (fun c130 => ?_)
              · skip
                refine kw_iinc dX12_find_136 rfl (nI_i b) ?_
                refine kw_goto (tgt := 3) dX12_find_139 (by decide) ?_
                refine kw_lvle (lv' := [some (pr_ (40, 0)), some (pi_ (nI j)), some (pl_ key), none, some (pi_ (nI z)), some (pi_ (nI (b + 1))), none, none]) (kw_le_s (kw_le_s (kw_le_s (kw_le_n (kw_le_s (kw_le_s (kw_le_n (kw_le_n kw_le_0)))))))) ?_
                exact ih (b + 1) (by omega) (by omega) (by rw [show nb_ s - (b + 1) = d by omega]; exact hf)
              · skip
                exact absurd rfl c130
            · skip
              refine kw_iload dX12_find_84 rfl ?_
              refine kw_if_eq (tgt := 128) dX12_find_86 (by decide) (fun c86 => ?_) (fun c86 => ?_)
              · skip
                refine kw_iload dX12_find_128 rfl ?_
                refine kw_if_eq (tgt := 136) dX12_find_130 (by decide) (fun c130 => ?_) (fun c130 => ?_)
                · skip
                  refine kw_iinc dX12_find_136 rfl (nI_i b) ?_
                  refine kw_goto (tgt := 3) dX12_find_139 (by decide) ?_
                  refine kw_lvle (lv' := [some (pr_ (40, 0)), some (pi_ (nI j)), some (pl_ key), none, some (pi_ (nI z)), some (pi_ (nI (b + 1))), none, none]) (kw_le_s (kw_le_s (kw_le_s (kw_le_n (kw_le_s (kw_le_s (kw_le_n (kw_le_n kw_le_0)))))))) ?_
                  exact ih (b + 1) (by omega) (by omega) (by rw [show nb_ s - (b + 1) = d by omega]; exact hf)
                · skip
                  exact absurd rfl c130
              · skip
                exact absurd rfl c86
          · skip
            have e31 : ky_ s b = key := (lg_cmp_eq _ _).mp c31
            refine kw_aload_n dX12_find_34 rfl ?_
            refine kw_get dX12_find_35 fl_X12_23 rfl rfl ?_
            refine kw_iload dX12_find_38 rfl ?_
            refine kw_ialdN dX12_find_40 rfl (by omega) (by decide) ?_
            refine kw_iload dX12_find_41 rfl ?_
            refine kw_icmp_ne (tgt := 66) dX12_find_43 (by decide) (fun c43 => ?_) (fun c43 => ?_)
            · skip
              have eg : (th_ s b && likeB s b j key z) = false := by show (th_ s b && likeB s b j key z) = false; unfold likeB; rw [decide_eq_false c43]; simp
              refine kw_iconst (v := 0) dX12_find_66 (by decide) ?_
              rw [eg, if_neg (by decide)] at hf
              refine kw_istore dX12_find_67 (Nat.le_of_ble_eq_true rfl) ?_
              refine kw_iconst (v := 0) dX12_find_69 (by decide) ?_
              refine kw_istore dX12_find_70 (Nat.le_of_ble_eq_true rfl) ?_
              refine kw_iload dX12_find_72 rfl ?_
              refine kw_aload_n dX12_find_74 rfl ?_
              refine kw_get dX12_find_75 fl_X12_27 rfl rfl ?_
              refine kw_iload dX12_find_78 rfl ?_
              refine kw_ialdN dX12_find_80 rfl (by omega) (by decide) ?_
              refine kw_icmp_ge (tgt := 128) dX12_find_81 (by decide) (fun c81 => ?_) (fun c81 => ?_)
              · skip
                refine kw_iload dX12_find_128 rfl ?_
                refine kw_if_eq (tgt := 136) dX12_find_130 (by decide) (fun c130 => ?_) (fun c130 => ?_)
                · skip
                  refine kw_iinc dX12_find_136 rfl (nI_i b) ?_
                  refine kw_goto (tgt := 3) dX12_find_139 (by decide) ?_
                  refine kw_lvle (lv' := [some (pr_ (40, 0)), some (pi_ (nI j)), some (pl_ key), none, some (pi_ (nI z)), some (pi_ (nI (b + 1))), none, none]) (kw_le_s (kw_le_s (kw_le_s (kw_le_n (kw_le_s (kw_le_s (kw_le_n (kw_le_n kw_le_0)))))))) ?_
                  exact ih (b + 1) (by omega) (by omega) (by rw [show nb_ s - (b + 1) = d by omega]; exact hf)
                · skip
                  exact absurd rfl c130
              · skip
                refine kw_iload dX12_find_84 rfl ?_
                refine kw_if_eq (tgt := 128) dX12_find_86 (by decide) (fun c86 => ?_) (fun c86 => ?_)
                · skip
                  refine kw_iload dX12_find_128 rfl ?_
                  refine kw_if_eq (tgt := 136) dX12_find_130 (by decide) (fun c130 => ?_) (fun c130 => ?_)
                  · skip
                    refine kw_iinc dX12_find_136 rfl (nI_i b) ?_
                    refine kw_goto (tgt := 3) dX12_find_139 (by decide) ?_
                    refine kw_lvle (lv' := [some (pr_ (40, 0)), some (pi_ (nI j)), some (pl_ key), none, some (pi_ (nI z)), some (pi_ (nI (b + 1))), none, none]) (kw_le_s (kw_le_s (kw_le_s (kw_le_n (kw_le_s (kw_le_s (kw_le_n (kw_le_n kw_le_0)))))))) ?_
                    exact ih (b + 1) (by omega) (by omega) (by rw [show nb_ s - (b + 1) = d by omega]; exact hf)
                  · skip
                    exact absurd rfl c130
                · skip
                  exact absurd rfl c86
            · skip
              refine kw_aload_n dX12_find_46 rfl ?_
              refine kw_get dX12_find_47 fl_X12_27 rfl rfl ?_
              refine kw_iload dX12_find_50 rfl ?_
              refine kw_ialdN dX12_find_52 rfl (by omega) (by decide) ?_
              refine kw_aload_n dX12_find_53 rfl ?_
              refine kw_get dX12_find_54 fl_X12_94 rfl rfl ?_
              refine kw_iload_n dX12_find_57 rfl ?_
              refine kw_ialdN dX12_find_58 rfl hj (by decide) ?_
              refine kw_icmp_ne (tgt := 66) dX12_find_59 (by decide) (fun c59 => ?_) (fun c59 => ?_)
              · skip
                have eg : (th_ s b && likeB s b j key z) = false := by show (th_ s b && likeB s b j key z) = false; unfold likeB; rw [decide_eq_false c59]; simp
                refine kw_iconst (v := 0) dX12_find_66 (by decide) ?_
                rw [eg, if_neg (by decide)] at hf
                refine kw_istore dX12_find_67 (Nat.le_of_ble_eq_true rfl) ?_
                refine kw_iconst (v := 0) dX12_find_69 (by decide) ?_
                refine kw_istore dX12_find_70 (Nat.le_of_ble_eq_true rfl) ?_
                refine kw_iload dX12_find_72 rfl ?_
                refine kw_aload_n dX12_find_74 rfl ?_
                refine kw_get dX12_find_75 fl_X12_27 rfl rfl ?_
                refine kw_iload dX12_find_78 rfl ?_
                refine kw_ialdN dX12_find_80 rfl (by omega) (by decide) ?_
                refine kw_icmp_ge (tgt := 128) dX12_find_81 (by decide) (fun c81 => ?_) (fun c81 => ?_)
                · skip
                  refine kw_iload dX12_find_128 rfl ?_
                  refine kw_if_eq (tgt := 136) dX12_find_130 (by decide) (fun c130 => ?_) (fun c130 => ?_)
                  · skip
                    refine kw_iinc dX12_find_136 rfl (nI_i b) ?_
                    refine kw_goto (tgt := 3) dX12_find_139 (by decide) ?_
                    refine kw_lvle (lv' := [some (pr_ (40, 0)), some (pi_ (nI j)), some (pl_ key), none, some (pi_ (nI z)), some (pi_ (nI (b + 1))), none, none]) (kw_le_s (kw_le_s (kw_le_s (kw_le_n (kw_le_s (kw_le_s (kw_le_n (kw_le_n kw_le_0)))))))) ?_
                    exact ih (b + 1) (by omega) (by omega) (by rw [show nb_ s - (b + 1) = d by omega]; exact hf)
                  · skip
                    exact absurd rfl c130
                · skip
                  refine kw_iload dX12_find_84 rfl ?_
                  refine kw_if_eq (tgt := 128) dX12_find_86 (by decide) (fun c86 => ?_) (fun c86 => ?_)
                  · skip
                    refine kw_iload dX12_find_128 rfl ?_
                    refine kw_if_eq (tgt := 136) dX12_find_130 (by decide) (fun c130 => ?_) (fun c130 => ?_)
                    · skip
                      refine kw_iinc dX12_find_136 rfl (nI_i b) ?_
                      refine kw_goto (tgt := 3) dX12_find_139 (by decide) ?_
                      refine kw_lvle (lv' := [some (pr_ (40, 0)), some (pi_ (nI j)), some (pl_ key), none, some (pi_ (nI z)), some (pi_ (nI (b + 1))), none, none]) (kw_le_s (kw_le_s (kw_le_s (kw_le_n (kw_le_s (kw_le_s (kw_le_n (kw_le_n kw_le_0)))))))) ?_
                      exact ih (b + 1) (by omega) (by omega) (by rw [show nb_ s - (b + 1) = d by omega]; exact hf)
                    · skip
                      exact absurd rfl c130
                  · skip
                    exact absurd rfl c86
              · skip
                have e59 : cm_ s b = km_ s j := nI_eq' (by omega) (by omega) c59
                have eg : (th_ s b && likeB s b j key z) = !anyN (fun q => !decide (nI (ch_ s b q) = nI (ks_ s j q))) (km_ s j) := by show (th_ s b && likeB s b j key z) = _; unfold likeB; rw [e19, decide_eq_true e31, decide_eq_true c43, decide_eq_true c59]; simp
                refine kw_iconst (v := 1) dX12_find_62 (by decide) ?_
                refine kw_goto (tgt := 67) dX12_find_63 (by decide) ?_
                have inner : ∀ (n_ : Nat) (i : Nat), cm_ s b - i < n_ → i ≤ cm_ s b → kw_G l D cX12_find RX12 (Option.some Jvm.ClassFile.FieldType.int) "find" { frames := 0, cells := 0, slots := 0, locals := 0 } A K ad (hM s k) 0 0 72 [some (pr_ (40, 0)), some (pi_ (nI j)), some (pl_ key), none, some (pi_ (nI z)), some (pi_ (nI b)), some (pi_ (b2 (!anyN (fun q => !decide (nI (ch_ s b q) = nI (ks_ s j q))) i))), some (pi_ (nI i))] [] := by
                  intro n_
                  induction n_ with
                  | zero =>
                    intro i hm_
                    exact absurd hm_ (Nat.not_lt_zero _)
                  | succ n_ ih2 =>
                    intro i hm_ hi
                    refine kw_iload dX12_find_72 rfl ?_
                    refine kw_aload_n dX12_find_74 rfl ?_
                    refine kw_get dX12_find_75 fl_X12_27 rfl rfl ?_
                    refine kw_iload dX12_find_78 rfl ?_
                    refine kw_ialdN dX12_find_80 rfl (by omega) (by decide) ?_
                    refine kw_icmp_ge (tgt := 128) dX12_find_81 (by decide) (fun c81 => ?_) (fun c81 => ?_)
                    · skip
                      have e : i = cm_ s b := Nat.le_antisymm hi (nI_le' (by omega) (by omega) c81)
                      rw [e59] at e
                      rw [← e] at eg
                      refine kw_iload dX12_find_128 rfl ?_
                      refine kw_if_eq (tgt := 136) dX12_find_130 (by decide) (fun c130 => ?_) (fun c130 => ?_)
                      · skip
                        have e130 := b2_0.mp c130
                        rw [eg, e130, if_neg (by decide)] at hf
                        refine kw_iinc dX12_find_136 rfl (nI_i b) ?_
                        refine kw_goto (tgt := 3) dX12_find_139 (by decide) ?_
                        refine kw_lvle (lv' := [some (pr_ (40, 0)), some (pi_ (nI j)), some (pl_ key), none, some (pi_ (nI z)), some (pi_ (nI (b + 1))), none, none]) (kw_le_s (kw_le_s (kw_le_s (kw_le_n (kw_le_s (kw_le_s (kw_le_n (kw_le_n kw_le_0)))))))) ?_
                        exact ih (b + 1) (by omega) (by omega) (by rw [show nb_ s - (b + 1) = d by omega]; exact hf)
                      · skip
                        have e130 := b2_n0.mp c130
                        rw [eg, e130, if_pos rfl] at hf
                        refine kw_iload dX12_find_133 rfl ?_
                        exact kw_iret dX12_find_135 rfl (Nat.le_of_ble_eq_true rfl) (Nat.le_of_ble_eq_true rfl) (hK _ _ _ ⟨rfl, by rw [hf], rfl⟩)
                    · skip
                      have hlti : i < cm_ s b := nI_nle' (by omega) (by omega) c81
                      refine kw_iload dX12_find_84 rfl ?_
                      refine kw_if_eq (tgt := 128) dX12_find_86 (by decide) (fun c86 => ?_) (fun c86 => ?_)
                      · skip
                        have e86 := b2_0.mp c86
                        have eg2 : (th_ s b && likeB s b j key z) = false := by rw [eg]; have := anyN_up (p := (fun q => !decide (nI (ch_ s b q) = nI (ks_ s j q)))) (show i ≤ km_ s j by omega) (by cases h : anyN (fun q => !decide (nI (ch_ s b q) = nI (ks_ s j q))) i with | true => rfl | false => rw [h] at e86; cases e86); rw [this]; rfl
                        rw [eg2, if_neg (by decide)] at hf
                        refine kw_iload dX12_find_128 rfl ?_
                        refine kw_if_eq (tgt := 136) dX12_find_130 (by decide) (fun c130 => ?_) (fun c130 => ?_)
                        · skip
                          refine kw_iinc dX12_find_136 rfl (nI_i b) ?_
                          refine kw_goto (tgt := 3) dX12_find_139 (by decide) ?_
                          refine kw_lvle (lv' := [some (pr_ (40, 0)), some (pi_ (nI j)), some (pl_ key), none, some (pi_ (nI z)), some (pi_ (nI (b + 1))), none, none]) (kw_le_s (kw_le_s (kw_le_s (kw_le_n (kw_le_s (kw_le_s (kw_le_n (kw_le_n kw_le_0)))))))) ?_
                          exact ih (b + 1) (by omega) (by omega) (by rw [show nb_ s - (b + 1) = d by omega]; exact hf)
                        · skip
                          exact absurd e86 (by have := b2_n0.mp c130; rw [this]; decide)
                      · skip
                        have e86 := b2_n0.mp c86
                        refine kw_aload_n dX12_find_89 rfl ?_
                        refine kw_get dX12_find_90 fl_X12_30 rfl rfl ?_
                        refine kw_iconst (v := (nI 4)) dX12_find_93 (by decide) ?_
                        refine kw_iload dX12_find_94 rfl ?_
                        refine kw_imul dX12_find_96 ?_
                        refine kw_top (v' := pi_ (nI (4 * b))) (by rw [nI_mul]) ?_
                        refine kw_iload dX12_find_97 rfl ?_
                        refine kw_iadd dX12_find_99 ?_
                        refine kw_top (v' := pi_ (nI (4 * b + i))) (by rw [nI_add]) ?_
                        refine kw_ialdN dX12_find_100 rfl (by omega) (by decide) ?_
                        refine kw_top (v' := pi_ (nI (ch_ s b i))) (by rw [← h31 i hlti]) ?_
                        refine kw_aload_n dX12_find_101 rfl ?_
                        refine kw_get dX12_find_102 fl_X12_97 rfl rfl ?_
                        refine kw_iconst (v := (nI 4)) dX12_find_105 (by decide) ?_
                        refine kw_iload_n dX12_find_106 rfl ?_
                        refine kw_imul dX12_find_107 ?_
                        refine kw_top (v' := pi_ (nI (4 * j))) (by rw [nI_mul]) ?_
                        refine kw_iload dX12_find_108 rfl ?_
                        refine kw_iadd dX12_find_110 ?_
                        refine kw_top (v' := pi_ (nI (4 * j + i))) (by rw [nI_add]) ?_
                        refine kw_ialdN dX12_find_111 rfl (by omega) (by decide) ?_
                        refine kw_top (v' := pi_ (nI (ks_ s j i))) (by rw [← h36 i (by omega)]) ?_
                        refine kw_icmp_ne (tgt := 119) dX12_find_112 (by decide) (fun c112 => ?_) (fun c112 => ?_)
                        · skip
                          refine kw_iconst (v := 0) dX12_find_119 (by decide) ?_
                          refine kw_top (v' := pi_ (b2 (!anyN (fun q => !decide (nI (ch_ s b q) = nI (ks_ s j q))) (i + 1)))) (by rw [anyN, decide_eq_false c112]; simp [b2]) ?_
                          refine kw_istore dX12_find_120 (Nat.le_of_ble_eq_true rfl) ?_
                          refine kw_iinc dX12_find_122 rfl (nI_i i) ?_
                          refine kw_goto (tgt := 72) dX12_find_125 (by decide) ?_
                          exact ih2 (i + 1) (by omega) (by omega)
                        · skip
                          refine kw_iconst (v := 1) dX12_find_115 (by decide) ?_
                          refine kw_goto (tgt := 120) dX12_find_116 (by decide) ?_
                          refine kw_top (v' := pi_ (b2 (!anyN (fun q => !decide (nI (ch_ s b q) = nI (ks_ s j q))) (i + 1)))) (by rw [anyN, decide_eq_true c112]; rw [show anyN (fun q => !decide (nI (ch_ s b q) = nI (ks_ s j q))) i = false from by cases h : anyN (fun q => !decide (nI (ch_ s b q) = nI (ks_ s j q))) i with | true => rw [h] at e86; cases e86 | false => rfl]; rfl) ?_
                          refine kw_istore dX12_find_120 (Nat.le_of_ble_eq_true rfl) ?_
                          refine kw_iinc dX12_find_122 rfl (nI_i i) ?_
                          refine kw_goto (tgt := 72) dX12_find_125 (by decide) ?_
                          exact ih2 (i + 1) (by omega) (by omega)
                refine kw_istore dX12_find_67 (Nat.le_of_ble_eq_true rfl) ?_
                refine kw_iconst (v := 0) dX12_find_69 (by decide) ?_
                refine kw_istore dX12_find_70 (Nat.le_of_ble_eq_true rfl) ?_
                exact inner (cm_ s b + 1) 0 (by omega) (by omega)
  refine kw_iconst (v := 0) dX12_find_0 (by decide) ?_
  refine kw_istore dX12_find_1 (Nat.le_of_ble_eq_true rfl) ?_
  exact loop (nb_ s + 1) 0 (by omega) (by omega) rfl
set_option maxHeartbeats 4000000 in
set_option maxRecDepth 100000 in
theorem n_fits (l : Launch) (s : SG) (k : KG) (hp : np_ s ≤ 40) (hc : cap_ s ≤ 1000) (ha : ∀ i, i < np_ s → al_ s i ≤ 1000) (z : Nat) (hz : z ≤ 1000) : kw_F l yX12_fitsLatest cX12_fitsLatest 2 (Option.some Jvm.ClassFile.FieldType.boolean) { frames := 0, cells := 0, slots := 0, locals := 0 } [pr_ (40, 0), pi_ (nI z)] (hM s k) (some (pi_ (b2 (fitB s z)))) (hM s k) := by
  refine kw_M_of RX12 "fitsLatest" [some (pr_ (40, 0)), some (pi_ (nI z))] (by decide) rfl rfl rfl (Nat.le_of_ble_eq_true rfl) ?_
  intro D ad A
  refine kw_Kgen (fun K hK => ?_)
  refine kw_aload_n dX12_fitsLatest_0 rfl ?_
  refine kw_get dX12_fitsLatest_1 fl_X12_178 rfl rfl ?_
  refine kw_if_le (tgt := 45) dX12_fitsLatest_4 (by decide) (fun c4 => ?_) (fun c4 => ?_)
  · skip
    refine kw_iconst (v := 0) dX12_fitsLatest_45 (by decide) ?_
    exact kw_zret dX12_fitsLatest_46 rfl (by decide) (Nat.le_of_ble_eq_true rfl) (Nat.le_of_ble_eq_true rfl) (hK _ _ _ ⟨rfl, by rw [fitB, decide_eq_false (fun q => absurd c4 (nI_nle q (by omega)))]; rfl, rfl⟩)
  · skip
    have e4 : 1 ≤ np_ s := Nat.pos_of_ne_zero (fun q => c4 (by rw [q]; decide))
    refine kw_aload_n dX12_fitsLatest_7 rfl ?_
    refine kw_get dX12_fitsLatest_8 fl_X12_46 rfl rfl ?_
    refine kw_aload_n dX12_fitsLatest_11 rfl ?_
    refine kw_get dX12_fitsLatest_12 fl_X12_178 rfl rfl ?_
    refine kw_iconst (v := 1) dX12_fitsLatest_15 (by decide) ?_
    refine kw_isub dX12_fitsLatest_16 ?_
    refine kw_top (v' := pi_ (nI (np_ s - 1))) (by rw [show nI (np_ s) = nI (np_ s - 1 + 1) by rw [Nat.sub_add_cancel e4], nI_pred]) ?_
    refine kw_zaldN dX12_fitsLatest_17 rfl (by omega) (by decide) ?_
    refine kw_if_ne (tgt := 45) dX12_fitsLatest_18 (by decide) (fun c18 => ?_) (fun c18 => ?_)
    · skip
      refine kw_iconst (v := 0) dX12_fitsLatest_45 (by decide) ?_
      exact kw_zret dX12_fitsLatest_46 rfl (by decide) (Nat.le_of_ble_eq_true rfl) (Nat.le_of_ble_eq_true rfl) (hK _ _ _ ⟨rfl, by rw [fitB, b2_n0.mp c18]; simp [b2], rfl⟩)
    · skip
      have e18 := b2_0.mp c18
      have hal := ha (np_ s - 1) (by omega)
      refine kw_aload_n dX12_fitsLatest_21 rfl ?_
      refine kw_get dX12_fitsLatest_22 fl_X12_49 rfl rfl ?_
      refine kw_aload_n dX12_fitsLatest_25 rfl ?_
      refine kw_get dX12_fitsLatest_26 fl_X12_178 rfl rfl ?_
      refine kw_iconst (v := 1) dX12_fitsLatest_29 (by decide) ?_
      refine kw_isub dX12_fitsLatest_30 ?_
      refine kw_top (v' := pi_ (nI (np_ s - 1))) (by rw [show nI (np_ s) = nI (np_ s - 1 + 1) by rw [Nat.sub_add_cancel e4], nI_pred]) ?_
      refine kw_ialdN dX12_fitsLatest_31 rfl (by omega) (by decide) ?_
      refine kw_iload_n dX12_fitsLatest_32 rfl ?_
      refine kw_iadd dX12_fitsLatest_33 ?_
      refine kw_top (v' := pi_ (nI (al_ s (np_ s - 1) + z))) (by rw [nI_add]) ?_
      refine kw_aload_n dX12_fitsLatest_34 rfl ?_
      refine kw_get dX12_fitsLatest_35 fl_X12_124 rfl rfl ?_
      refine kw_icmp_gt (tgt := 45) dX12_fitsLatest_38 (by decide) (fun c38 => ?_) (fun c38 => ?_)
      · skip
        refine kw_iconst (v := 0) dX12_fitsLatest_45 (by decide) ?_
        exact kw_zret dX12_fitsLatest_46 rfl (by decide) (Nat.le_of_ble_eq_true rfl) (Nat.le_of_ble_eq_true rfl) (hK _ _ _ ⟨rfl, by rw [fitB, decide_eq_false (p := al_ s (np_ s - 1) + z ≤ cap_ s) (fun q => absurd (nI_lt' (by omega) (by omega) c38) (by omega))]; simp [b2], rfl⟩)
      · skip
        refine kw_iconst (v := 1) dX12_fitsLatest_41 (by decide) ?_
        refine kw_goto (tgt := 46) dX12_fitsLatest_42 (by decide) ?_
        exact kw_zret dX12_fitsLatest_46 rfl (by decide) (Nat.le_of_ble_eq_true rfl) (Nat.le_of_ble_eq_true rfl) (hK _ _ _ ⟨rfl, by rw [fitB, decide_eq_true (show 0 < np_ s from e4), e18, decide_eq_true (nI_nlt' (by omega) (by omega) c38)]; rfl, rfl⟩)
/-- what made() leaves before it tells -/
def uM (t t1 : SG) (key : Int64) (z n P O A : Nat) : SG := sN (sF (sF (sF (sGb (sF (sGb (sF (sF (sY t1 0 (va_up (ky_ t) (nb_ t) key)) 0 (va_up (sz_ t) (nb_ t) z)) 1 (va_up (cm_ t) (nb_ t) n)) 0 (va_up (th_ t) (nb_ t) true)) 5 (va_up (wt_ t) (nb_ t) 0)) 1 (va_up (mk_ t) (nb_ t) false)) 3 (va_up (pk_ t) (nb_ t) P)) 4 (va_up (pp_ t) (nb_ t) O)) 6 (va_up (al_ t1) P A)) 1 (nb_ t + 1)
theorem uM_fit (t : SG) (key : Int64) (z n : Nat) (f : Nat → Nat) (P O : Nat) (hP : P < np_ t) : sFF (s_ev (uM t t key z n P O (O + z)) 0 (nb_ t)) 0 (va_up (ch_ t) (nb_ t) f) = aLay (s_blk (s_ev t 0 (nb_ t)) key z n f) (nb_ t) P O := by
  have e : aLay (s_blk (s_ev t 0 (nb_ t)) key z n f) (nb_ t) P O = sA (s_lay (s_blk (s_ev t 0 (nb_ t)) key z n f) (nb_ t) P O) P (O + va_up (sz_ t) (nb_ t) z (nb_ t)) := if_pos hP
  rw [e, show va_up (sz_ t) (nb_ t) z (nb_ t) = z by simp only [va_up, if_true]]
  unfold uM s_ev sA s_lay s_blk
  refine sg_ext ?_ rfl rfl rfl ?_ rfl rfl rfl
  · funext i
    dsimp only [fs_, sF, sGb, sY, sN, sFF, va_up]
    repeat' split
    all_goals first | rfl | omega
  · funext i
    match i with
    | 0 => rfl
    | 1 => rfl
    | 3 => exact (va_up2 (pk_ t) (nb_ t) 0 P).symm
    | 4 => exact (va_up2 (pp_ t) (nb_ t) 0 O).symm
    | 5 => rfl
    | 6 => rfl
    | 10 => rfl
    | 11 => rfl
    | 2 => rfl
    | 7 => rfl
    | 8 => rfl
    | 9 => rfl
    | q + 12 => rfl
theorem uM_new (t : SG) (key : Int64) (z n : Nat) (f : Nat → Nat) : sFF (s_ev (uM t (sN (sGb (sF t 6 (va_up (al_ t) (np_ t) 0)) 2 (va_up (gn_ t) (np_ t) false)) 4 (np_ t + 1)) key z n (np_ t) 0 (0 + z)) 0 (nb_ t)) 0 (va_up (ch_ t) (nb_ t) f) = aLay (s_blk (s_ev t 0 (nb_ t)) key z n f) (nb_ t) (np_ t) 0 := by
  have e : aLay (s_blk (s_ev t 0 (nb_ t)) key z n f) (nb_ t) (np_ t) 0 = sA (s_lay (s_np (s_blk (s_ev t 0 (nb_ t)) key z n f)) (nb_ t) (np_ t) 0) (np_ t) (0 + va_up (sz_ t) (nb_ t) z (nb_ t)) := if_neg (Nat.lt_irrefl _)
  rw [e, show va_up (sz_ t) (nb_ t) z (nb_ t) = z by simp only [va_up, if_true]]
  unfold uM s_ev sA s_lay s_np s_blk
  refine sg_ext ?_ rfl rfl rfl ?_ ?_ rfl rfl
  · funext i
    dsimp only [fs_, sF, sGb, sY, sN, sFF, va_up]
    repeat' split
    all_goals first | rfl | omega
  · funext i
    match i with
    | 0 => rfl
    | 1 => rfl
    | 3 => exact (va_up2 (pk_ t) (nb_ t) 0 (np_ t)).symm
    | 4 => exact (va_up2 (pp_ t) (nb_ t) 0 0).symm
    | 5 => rfl
    | 6 => exact va_up2 (al_ t) (np_ t) 0 (0 + z)
    | 10 => rfl
    | 11 => rfl
    | 2 => rfl
    | 7 => rfl
    | 8 => rfl
    | 9 => rfl
    | q + 12 => rfl
  · funext i
    dsimp only [gs_, sF, sGb, sY, sN, sFF, va_up]
    repeat' split
    all_goals first | rfl | omega
theorem hM_ff (s : SG) (k : KG) (i : Nat) (v : Nat → Nat → Nat) : hM (sFF s i v) k = hM s k := rfl
theorem MI_add {t : SG} {k : KG} (h : MI t k) (hb : nb_ t < 80) (hcm : ∀ b, b < nb_ t → cm_ t b ≤ 4) (C : Nat → Nat) (key : Int64) (z n : Nat) (hn : n ≤ 4) (f : Nat → Nat) (h1 : ∀ q, q < 4 * nb_ t → C q = kn_ k 3 q) (h2 : ∀ i, i < n → C (4 * nb_ t + i) = f i) (P O : Nat) : MI (aLay (s_blk (s_ev t 0 (nb_ t)) key z n f) (nb_ t) P O) (kN k 3 C) := by
  have e1 : ∀ u : SG, nb_ u = nb_ t + 1 → cm_ u = va_up (cm_ t) (nb_ t) n → ch_ u = va_up (ch_ t) (nb_ t) f → ns_ u = ns_ t → rm_ u = rm_ t → ro_ u = ro_ t → um_ u = um_ t → us_ u = us_ t → km_ u = km_ t → ks_ u = ks_ t → MI u (kN k 3 C) := by
    intro u a1 a2 a3 a4 a5 a6 a7 a8 a9 a10
    refine ⟨fun b hb2 i hi => ?_, ?_, ?_, ?_⟩
    · rw [a2] at hi
      rw [a3]
      show C (4 * b + i) = _
      simp only [va_up] at hi ⊢
      by_cases e : b = nb_ t
      · rw [if_pos e] at hi ⊢; rw [e]; exact h2 i hi
      · rw [if_neg e] at hi ⊢
        have := hcm b (by omega)
        rw [h1 _ (by omega)]; exact h.1 b (by omega) i hi
    · rw [a4, a5, a6]; exact h.2.1
    · rw [a7, a8]; exact h.2.2.1
    · rw [a9, a10]; exact h.2.2.2
  unfold aLay
  split
  · exact e1 _ rfl rfl rfl rfl rfl rfl rfl rfl rfl rfl
  · exact e1 _ rfl rfl rfl rfl rfl rfl rfl rfl rfl rfl
theorem MI_km0 {s : SG} {k : KG} (h : MI s k) (j : Nat) : MI (s_km0 s j) k := by
  refine ⟨h.1, h.2.1, h.2.2.1, fun i hi q hq => ?_⟩
  have hq : q < va_up (km_ s) j 0 i := hq
  simp only [va_up] at hq
  split at hq
  · omega
  · exact h.2.2.2 i hi q hq
theorem kN2 (k : KG) (i : Nat) (a b : Nat → Nat) : kN (kN k i a) i b = kN k i b := by
  show (k.1, k.2.1, k.2.2.1, va_up (va_up k.2.2.2 i a) i b) = _
  rw [va_up2]
theorem kN_id (k : KG) (i : Nat) : kN k i (kn_ k i) = k := by
  show (k.1, k.2.1, k.2.2.1, va_up k.2.2.2 i (k.2.2.2 i)) = k
  rw [va_up_id]
set_option maxHeartbeats 4000000 in
set_option maxRecDepth 100000 in
theorem n_made (l : Launch) (t : SG) (k : KG) (hMI : MI t k) (hb : nb_ t < 80) (hp : np_ t ≤ 40) (hcap : cap_ t ≤ 1000) (ha : ∀ i, i < np_ t → al_ t i ≤ 1000) (hcm : ∀ b, b < nb_ t → cm_ t b ≤ 4) (hnh : nh_ t < 240) (j : Nat) (hj : j < 4) (hu : ∀ i, i < 4 → um_ t i ≤ 8) (hu8 : um_ t j < 8) (hkm : km_ t j ≤ 4) (key : Int64) (z : Nat) (hz : z ≤ 1000) (hr : fitB t z = true ∨ np_ t < 40) : kw_P l yX12_made cX12_made 7 (Option.some Jvm.ClassFile.FieldType.int) { frames := 2, cells := 0, slots := 0, locals := 46 } [pr_ (40, 0), pi_ (nI j), pl_ key, pi_ (nI z)] (hM t k) (fun r h' => r = some (pi_ (nI (nb_ t))) ∧ mW (a_new t j key z) k h') := by
  refine kw_M_of RX12 "made" [some (pr_ (40, 0)), some (pi_ (nI j)), some (pl_ key), none, some (pi_ (nI z)), none, none] (by decide) rfl rfl rfl (Nat.le_of_ble_eq_true rfl) ?_
  intro D ad A
  refine kw_Kgen (fun K hK => ?_)
  refine kw_aload_n dX12_made_0 rfl ?_
  refine kw_get dX12_made_1 fl_X12_156 rfl rfl ?_
  refine kw_istore dX12_made_4 (Nat.le_of_ble_eq_true rfl) ?_
  refine kw_aload_n dX12_made_6 rfl ?_
  refine kw_iload dX12_made_7 rfl ?_
  refine kw_callVf (As := [pi_ (nI z)]) (n_fits l t k hp hcap ha z hz) dX12_made_9 cl_X12_188 rfl rfl rfl rfl (Nat.le_of_ble_eq_true rfl) ⟨(Nat.le_of_ble_eq_true rfl), (Nat.le_of_ble_eq_true rfl), (Nat.le_of_ble_eq_true rfl), (Nat.le_of_ble_eq_true rfl)⟩ ?_
  refine kw_if_ne (tgt := 45) dX12_made_12 (by decide) (fun c12 => ?_) (fun c12 => ?_)
  · skip
    have e12 := b2_n0.mp c12
    have e4 : 1 ≤ np_ t := by unfold fitB at e12; rw [Bool.and_eq_true] at e12; exact of_decide_eq_true e12.1
    have loop : ∀ (n_ : Nat) (i : Nat) (C : Nat → Nat), km_ t j - i < n_ → i ≤ km_ t j → (∀ q, q < 4 * nb_ t → C q = kn_ k 3 q) → (∀ q, q < i → C (4 * nb_ t + q) = ks_ t j q) → kw_G l D cX12_made RX12 (Option.some Jvm.ClassFile.FieldType.int) "made" { frames := 2, cells := 0, slots := 0, locals := 46 } A K ad (hM (sF (sF (sY t 0 (va_up (ky_ t) (nb_ t) key)) 0 (va_up (sz_ t) (nb_ t) z)) 1 (va_up (cm_ t) (nb_ t) (km_ t j))) (kN k 3 C)) 0 0 78 [some (pr_ (40, 0)), some (pi_ (nI j)), some (pl_ key), none, some (pi_ (nI z)), some (pi_ (nI (nb_ t))), some (pi_ (nI i))] [] := by
      intro n_
      induction n_ with
      | zero =>
        intro i C hm_
        exact absurd hm_ (Nat.not_lt_zero _)
      | succ n_ ih =>
        intro i C hm_ hi h1 h2
        refine kw_iload dX12_made_78 rfl ?_
        refine kw_aload_n dX12_made_80 rfl ?_
        refine kw_get dX12_made_81 fl_X12_94 rfl rfl ?_
        refine kw_iload_n dX12_made_84 rfl ?_
        refine kw_ialdN dX12_made_85 rfl hj (by decide) ?_
        refine kw_top (v' := pi_ (nI (km_ t j))) (by rfl) ?_
        refine kw_icmp_ge (tgt := 118) dX12_made_86 (by decide) (fun c86 => ?_) (fun c86 => ?_)
        · skip
          have e : i = km_ t j := Nat.le_antisymm hi (nI_le' (by omega) (by omega) c86)
          subst e
          refine kw_aload_n dX12_made_118 rfl ?_
          refine kw_get dX12_made_119 fl_X12_33 rfl rfl ?_
          refine kw_iload dX12_made_122 rfl ?_
          refine kw_iconst (v := 1) dX12_made_124 (by decide) ?_
          refine kw_top (v' := pi_ (b2 true)) rfl ?_
          refine kw_zastN dX12_made_125 rfl (by omega) (by decide) ?_
          refine kw_heq (uma_4 _ _ (nb_ t) true) ?_
          refine kw_aload_n dX12_made_126 rfl ?_
          refine kw_get dX12_made_127 fl_X12_43 rfl rfl ?_
          refine kw_iload dX12_made_130 rfl ?_
          refine kw_iconst (v := 0) dX12_made_132 (by decide) ?_
          refine kw_top (v' := pi_ (nI 0)) rfl ?_
          refine kw_iastN dX12_made_133 rfl (by omega) (by decide) ?_
          refine kw_heq (uma_7 _ _ (nb_ t) 0) ?_
          refine kw_aload_n dX12_made_134 rfl ?_
          refine kw_get dX12_made_135 fl_X12_103 rfl rfl ?_
          refine kw_iload dX12_made_138 rfl ?_
          refine kw_iconst (v := 0) dX12_made_140 (by decide) ?_
          refine kw_top (v' := pi_ (b2 false)) rfl ?_
          refine kw_zastN dX12_made_141 rfl (by omega) (by decide) ?_
          refine kw_heq (uma_26 _ _ (nb_ t) false) ?_
          refine kw_aload_n dX12_made_142 rfl ?_
          refine kw_get dX12_made_143 fl_X12_37 rfl rfl ?_
          refine kw_iload dX12_made_146 rfl ?_
          refine kw_aload_n dX12_made_148 rfl ?_
          refine kw_get dX12_made_149 fl_X12_178 rfl rfl ?_
          refine kw_iconst (v := 1) dX12_made_152 (by decide) ?_
          refine kw_isub dX12_made_153 ?_
          refine kw_top (v' := pi_ (nI (np_ t - 1))) (by rw [show nI (np_ t) = nI (np_ t - 1 + 1) by rw [Nat.sub_add_cancel e4], nI_pred]) ?_
          refine kw_iastN dX12_made_154 rfl (by omega) (by decide) ?_
          refine kw_heq (uma_5 _ _ (nb_ t) (np_ t - 1)) ?_
          refine kw_aload_n dX12_made_155 rfl ?_
          refine kw_get dX12_made_156 fl_X12_40 rfl rfl ?_
          refine kw_iload dX12_made_159 rfl ?_
          refine kw_aload_n dX12_made_161 rfl ?_
          refine kw_get dX12_made_162 fl_X12_49 rfl rfl ?_
          refine kw_aload_n dX12_made_165 rfl ?_
          refine kw_get dX12_made_166 fl_X12_178 rfl rfl ?_
          refine kw_iconst (v := 1) dX12_made_169 (by decide) ?_
          refine kw_isub dX12_made_170 ?_
          refine kw_top (v' := pi_ (nI (np_ t - 1))) (by rw [show nI (np_ t) = nI (np_ t - 1 + 1) by rw [Nat.sub_add_cancel e4], nI_pred]) ?_
          refine kw_ialdN dX12_made_171 rfl (by omega) (by decide) ?_
          refine kw_top (v' := pi_ (nI (al_ t (np_ t - 1)))) (rfl) ?_
          refine kw_iastN dX12_made_172 rfl (by omega) (by decide) ?_
          refine kw_heq (uma_6 _ _ (nb_ t) (al_ t (np_ t - 1))) ?_
          refine kw_aload_n dX12_made_173 rfl ?_
          refine kw_get dX12_made_174 fl_X12_49 rfl rfl ?_
          refine kw_aload_n dX12_made_177 rfl ?_
          refine kw_get dX12_made_178 fl_X12_178 rfl rfl ?_
          refine kw_iconst (v := 1) dX12_made_181 (by decide) ?_
          refine kw_isub dX12_made_182 ?_
          refine kw_top (v' := pi_ (nI (np_ t - 1))) (by rw [show nI (np_ t) = nI (np_ t - 1 + 1) by rw [Nat.sub_add_cancel e4], nI_pred]) ?_
          refine kw_dup2 dX12_made_183 rfl rfl ?_
          refine kw_ialdN dX12_made_184 rfl (by omega) (by decide) ?_
          refine kw_top (v' := pi_ (nI (al_ t (np_ t - 1)))) (rfl) ?_
          refine kw_iload dX12_made_185 rfl ?_
          refine kw_iadd dX12_made_187 ?_
          refine kw_top (v' := pi_ (nI ((al_ t (np_ t - 1)) + z))) (by rw [nI_add]) ?_
          refine kw_iastN dX12_made_188 rfl (by omega) (by decide) ?_
          refine kw_heq (uma_9 _ _ (np_ t - 1) ((al_ t (np_ t - 1)) + z)) ?_
          refine kw_aload_n dX12_made_189 rfl ?_
          refine kw_dup dX12_made_190 rfl ?_
          refine kw_get dX12_made_191 fl_X12_156 rfl rfl ?_
          refine kw_iconst (v := 1) dX12_made_194 (by decide) ?_
          refine kw_iadd dX12_made_195 ?_
          refine kw_top (v' := pi_ (nI (nb_ t + 1))) (by rw [← nI_1]) ?_
          refine kw_put dX12_made_196 fl_X12_156 rfl (kw_ok_i _) (Nat.le_of_ble_eq_true rfl) ?_
          refine kw_heq (um_nb _ _ (nb_ t + 1)) ?_
          refine kw_heq (h' := hM (uM t t key z (km_ t j) (np_ t - 1) (al_ t (np_ t - 1)) ((al_ t (np_ t - 1)) + z)) (kN k 3 C)) rfl ?_
          have eA : aLay (s_blk (s_ev t 0 (nb_ t)) key z (km_ t j) (ks_ t j)) (nb_ t) (np_ t - 1) (al_ t (np_ t - 1)) = a_addA t key z (km_ t j) (ks_ t j) := by unfold a_addA newP; rw [e12]; rfl
          have eU : sFF (s_ev (uM t t key z (km_ t j) (np_ t - 1) (al_ t (np_ t - 1)) ((al_ t (np_ t - 1)) + z)) 0 (nb_ t)) 0 (va_up (ch_ t) (nb_ t) (ks_ t j)) = a_addA t key z (km_ t j) (ks_ t j) := (uM_fit t key z (km_ t j) (ks_ t j) (np_ t - 1) (al_ t (np_ t - 1)) (by omega)).trans eA
          have hMA : MI (a_addA t key z (km_ t j) (ks_ t j)) (kN k 3 C) := by rw [← eA]; exact MI_add hMI hb hcm C key z (km_ t j) hkm (ks_ t j) h1 h2 _ _
          have eum : um_ (a_addA t key z (km_ t j) (ks_ t j)) = um_ t := by rw [← eU]; rfl
          have unf : a_new t j key z = s_km0 (s_use (a_addA t key z (km_ t j) (ks_ t j)) j (nb_ t)) j := rfl
          refine kw_aload_n dX12_made_199 rfl ?_
          refine kw_iconst (v := (nI 0)) dX12_made_200 (by decide) ?_
          refine kw_iload dX12_made_201 rfl ?_
          refine kw_callVf (As := [pi_ (nI 0), pi_ (nI (nb_ t))]) (n_tell l (uM t t key z (km_ t j) (np_ t - 1) (al_ t (np_ t - 1)) ((al_ t (np_ t - 1)) + z)) (kN k 3 C) (by exact hnh) 0 (nb_ t)) dX12_made_203 cl_X12_198 rfl rfl rfl rfl (Nat.le_of_ble_eq_true rfl) ⟨(Nat.le_of_ble_eq_true rfl), (Nat.le_of_ble_eq_true rfl), (Nat.le_of_ble_eq_true rfl), (Nat.le_of_ble_eq_true rfl)⟩ ?_
          refine kw_heq (h' := hM (a_addA t key z (km_ t j) (ks_ t j)) (kN k 3 C)) (by rw [← eU, hM_ff]) ?_
          refine kw_aload_n dX12_made_206 rfl ?_
          refine kw_iload_n dX12_made_207 rfl ?_
          refine kw_iload dX12_made_208 rfl ?_
          refine kw_callV (As := [pi_ (nI j), pi_ (nI (nb_ t))]) (n_use l (a_addA t key z (km_ t j) (ks_ t j)) (kN k 3 C) hMA j hj (by rw [eum]; exact hu) (nb_ t) (Or.inl (by rw [eum]; exact hu8))) dX12_made_210 cl_X12_202 rfl rfl rfl rfl (Nat.le_of_ble_eq_true rfl) ⟨(Nat.le_of_ble_eq_true rfl), (Nat.le_of_ble_eq_true rfl), (Nat.le_of_ble_eq_true rfl), (Nat.le_of_ble_eq_true rfl)⟩ (fun r2 h2' hp2 => ?_)
          obtain ⟨rfl, κ, m1, m2, rfl, m3, m4⟩ := hp2
          refine kw_aload_n dX12_made_213 rfl ?_
          refine kw_get dX12_made_214 fl_X12_94 rfl rfl ?_
          refine kw_iload_n dX12_made_217 rfl ?_
          refine kw_iconst (v := 0) dX12_made_218 (by decide) ?_
          refine kw_top (v' := pi_ (nI 0)) rfl ?_
          refine kw_iastN dX12_made_219 rfl hj (by decide) ?_
          refine kw_heq (uma_23 _ _ j 0) ?_
          refine kw_iload dX12_made_220 rfl ?_
          exact kw_iret dX12_made_222 rfl (Nat.le_of_ble_eq_true rfl) (Nat.le_of_ble_eq_true rfl) (hK _ _ _ ⟨rfl, rfl, κ, ⟨m1.1, m1.2⟩, MI_km0 m2 j, rfl⟩)
        · skip
          have hlt : i < km_ t j := nI_nle' (by omega) (by omega) c86
          refine kw_aload_n dX12_made_89 rfl ?_
          refine kw_get dX12_made_90 fl_X12_30 rfl rfl ?_
          refine kw_iconst (v := (nI 4)) dX12_made_93 (by decide) ?_
          refine kw_iload dX12_made_94 rfl ?_
          refine kw_imul dX12_made_96 ?_
          refine kw_top (v' := pi_ (nI (4 * nb_ t))) (by rw [nI_mul]) ?_
          refine kw_iload dX12_made_97 rfl ?_
          refine kw_iadd dX12_made_99 ?_
          refine kw_top (v' := pi_ (nI (4 * nb_ t + i))) (by rw [nI_add]) ?_
          refine kw_aload_n dX12_made_100 rfl ?_
          refine kw_get dX12_made_101 fl_X12_97 rfl rfl ?_
          refine kw_iconst (v := (nI 4)) dX12_made_104 (by decide) ?_
          refine kw_iload_n dX12_made_105 rfl ?_
          refine kw_imul dX12_made_106 ?_
          refine kw_top (v' := pi_ (nI (4 * j))) (by rw [nI_mul]) ?_
          refine kw_iload dX12_made_107 rfl ?_
          refine kw_iadd dX12_made_109 ?_
          refine kw_top (v' := pi_ (nI (4 * j + i))) (by rw [nI_add]) ?_
          refine kw_ialdN dX12_made_110 rfl (by omega) (by decide) ?_
          refine kw_top (v' := pi_ (nI (ks_ t j i))) (by rw [← hMI.2.2.2 j hj i hlt]; rfl) ?_
          refine kw_iastN dX12_made_111 rfl (by omega) (by decide) ?_
          refine kw_heq (h' := hM (sF (sF (sY t 0 (va_up (ky_ t) (nb_ t) key)) 0 (va_up (sz_ t) (nb_ t) z)) 1 (va_up (cm_ t) (nb_ t) (km_ t j))) (kN k 3 (va_up C (4 * nb_ t + i) (ks_ t j i)))) ((uma_3 (sF (sF (sY t 0 (va_up (ky_ t) (nb_ t) key)) 0 (va_up (sz_ t) (nb_ t) z)) 1 (va_up (cm_ t) (nb_ t) (km_ t j))) (kN k 3 C) (4 * nb_ t + i) (ks_ t j i)).trans (by rw [kN2]; rfl)) ?_
          refine kw_iinc dX12_made_112 rfl (nI_i i) ?_
          refine kw_goto (tgt := 78) dX12_made_115 (by decide) ?_
          refine ih (i + 1) _ (by omega) (by omega) (fun q hq => ?_) (fun q hq => ?_)
          · simp only [va_up]; rw [if_neg (by omega)]; exact h1 q hq
          · simp only [va_up]
            by_cases e : q = i
            · rw [if_pos (by omega), e]
            · rw [if_neg (by omega)]; exact h2 q (by omega)
    refine kw_aload_n dX12_made_45 rfl ?_
    refine kw_get dX12_made_46 fl_X12_19 rfl rfl ?_
    refine kw_iload dX12_made_49 rfl ?_
    refine kw_lload_n dX12_made_51 rfl ?_
    refine kw_lastN dX12_made_52 rfl (by omega) (by decide) ?_
    refine kw_heq (h' := hM (sY t 0 (va_up (ky_ t) (nb_ t) key)) k) (uma_0 t k (nb_ t) key) ?_
    refine kw_aload_n dX12_made_53 rfl ?_
    refine kw_get dX12_made_54 fl_X12_23 rfl rfl ?_
    refine kw_iload dX12_made_57 rfl ?_
    refine kw_iload dX12_made_59 rfl ?_
    refine kw_iastN dX12_made_61 rfl (by omega) (by decide) ?_
    refine kw_heq (h' := hM (sF (sY t 0 (va_up (ky_ t) (nb_ t) key)) 0 (va_up (sz_ t) (nb_ t) z)) k) ((uma_1 _ k (nb_ t) z)) ?_
    refine kw_aload_n dX12_made_62 rfl ?_
    refine kw_get dX12_made_63 fl_X12_27 rfl rfl ?_
    refine kw_iload dX12_made_66 rfl ?_
    refine kw_aload_n dX12_made_68 rfl ?_
    refine kw_get dX12_made_69 fl_X12_94 rfl rfl ?_
    refine kw_iload_n dX12_made_72 rfl ?_
    refine kw_ialdN dX12_made_73 rfl hj (by decide) ?_
    refine kw_top (v' := pi_ (nI (km_ t j))) (by rfl) ?_
    refine kw_iastN dX12_made_74 rfl (by omega) (by decide) ?_
    refine kw_heq (h' := hM (sF (sF (sY t 0 (va_up (ky_ t) (nb_ t) key)) 0 (va_up (sz_ t) (nb_ t) z)) 1 (va_up (cm_ t) (nb_ t) (km_ t j))) k) ((uma_2 _ k (nb_ t) (km_ t j))) ?_
    refine kw_iconst (v := 0) dX12_made_75 (by decide) ?_
    refine kw_istore dX12_made_76 (Nat.le_of_ble_eq_true rfl) ?_
    refine kw_heq (h' := hM (sF (sF (sY t 0 (va_up (ky_ t) (nb_ t) key)) 0 (va_up (sz_ t) (nb_ t) z)) 1 (va_up (cm_ t) (nb_ t) (km_ t j))) (kN k 3 (kn_ k 3))) (by rw [kN_id]) ?_
    exact loop (km_ t j + 1) 0 _ (by omega) (by omega) (fun _ _ => rfl) (fun q hq => absurd hq (Nat.not_lt_zero _))
  · skip
    have e12 := b2_0.mp c12
    have hp40 : np_ t < 40 := hr.elim (fun q => by rw [e12] at q; cases q) (fun q => q)
    refine kw_aload_n dX12_made_15 rfl ?_
    refine kw_get dX12_made_16 fl_X12_49 rfl rfl ?_
    refine kw_aload_n dX12_made_19 rfl ?_
    refine kw_get dX12_made_20 fl_X12_178 rfl rfl ?_
    refine kw_iconst (v := 0) dX12_made_23 (by decide) ?_
    refine kw_top (v' := pi_ (nI 0)) rfl ?_
    refine kw_iastN dX12_made_24 rfl (by omega) (by decide) ?_
    refine kw_heq (uma_9 t k (np_ t) 0) ?_
    refine kw_aload_n dX12_made_25 rfl ?_
    refine kw_get dX12_made_26 fl_X12_46 rfl rfl ?_
    refine kw_aload_n dX12_made_29 rfl ?_
    refine kw_get dX12_made_30 fl_X12_178 rfl rfl ?_
    refine kw_iconst (v := 0) dX12_made_33 (by decide) ?_
    refine kw_top (v' := pi_ (b2 false)) rfl ?_
    refine kw_zastN dX12_made_34 rfl (by omega) (by decide) ?_
    refine kw_heq (uma_8 (sF t 6 (va_up (al_ t) (np_ t) 0)) k (np_ t) false) ?_
    refine kw_aload_n dX12_made_35 rfl ?_
    refine kw_dup dX12_made_36 rfl ?_
    refine kw_get dX12_made_37 fl_X12_178 rfl rfl ?_
    refine kw_iconst (v := 1) dX12_made_40 (by decide) ?_
    refine kw_iadd dX12_made_41 ?_
    refine kw_top (v' := pi_ (nI (np_ t + 1))) (by rw [← nI_1]) ?_
    refine kw_put dX12_made_42 fl_X12_178 rfl (kw_ok_i _) (Nat.le_of_ble_eq_true rfl) ?_
    refine kw_heq (um_np _ k (np_ t + 1)) ?_
    obtain ⟨t1, ht1⟩ : ∃ t1, t1 = sN (sGb (sF t 6 (va_up (al_ t) (np_ t) 0)) 2 (va_up (gn_ t) (np_ t) false)) 4 (np_ t + 1) := ⟨_, rfl⟩
    rw [← ht1]
    have g1 : nb_ t1 = nb_ t := by rw [ht1]; rfl
    have g2 : np_ t1 = np_ t + 1 := by rw [ht1]; rfl
    have g3 : km_ t1 = km_ t := by rw [ht1]; rfl
    have g4 : ky_ t1 = ky_ t ∧ sz_ t1 = sz_ t ∧ cm_ t1 = cm_ t ∧ th_ t1 = th_ t ∧ wt_ t1 = wt_ t ∧ mk_ t1 = mk_ t ∧ pk_ t1 = pk_ t ∧ pp_ t1 = pp_ t := by rw [ht1]; exact ⟨rfl, rfl, rfl, rfl, rfl, rfl, rfl, rfl⟩
    have g5 : al_ t1 (np_ t) = 0 := by rw [ht1]; show va_up (al_ t) (np_ t) 0 (np_ t) = 0; simp only [va_up, if_true]
    have loop : ∀ (n_ : Nat) (i : Nat) (C : Nat → Nat), km_ t j - i < n_ → i ≤ km_ t j → (∀ q, q < 4 * nb_ t → C q = kn_ k 3 q) → (∀ q, q < i → C (4 * nb_ t + q) = ks_ t j q) → kw_G l D cX12_made RX12 (Option.some Jvm.ClassFile.FieldType.int) "made" { frames := 2, cells := 0, slots := 0, locals := 46 } A K ad (hM (sF (sF (sY t1 0 (va_up (ky_ t) (nb_ t) key)) 0 (va_up (sz_ t) (nb_ t) z)) 1 (va_up (cm_ t) (nb_ t) (km_ t j))) (kN k 3 C)) 0 0 78 [some (pr_ (40, 0)), some (pi_ (nI j)), some (pl_ key), none, some (pi_ (nI z)), some (pi_ (nI (nb_ t))), some (pi_ (nI i))] [] := by
      intro n_
      induction n_ with
      | zero =>
        intro i C hm_
        exact absurd hm_ (Nat.not_lt_zero _)
      | succ n_ ih =>
        intro i C hm_ hi h1 h2
        refine kw_iload dX12_made_78 rfl ?_
        refine kw_aload_n dX12_made_80 rfl ?_
        refine kw_get dX12_made_81 fl_X12_94 rfl rfl ?_
        refine kw_iload_n dX12_made_84 rfl ?_
        refine kw_ialdN dX12_made_85 rfl hj (by decide) ?_
        refine kw_top (v' := pi_ (nI (km_ t j))) (by show pi_ (nI (km_ t1 j)) = _; rw [g3]) ?_
        refine kw_icmp_ge (tgt := 118) dX12_made_86 (by decide) (fun c86 => ?_) (fun c86 => ?_)
        · skip
          have e : i = km_ t j := Nat.le_antisymm hi (nI_le' (by omega) (by omega) c86)
          subst e
          refine kw_aload_n dX12_made_118 rfl ?_
          refine kw_get dX12_made_119 fl_X12_33 rfl rfl ?_
          refine kw_iload dX12_made_122 rfl ?_
          refine kw_iconst (v := 1) dX12_made_124 (by decide) ?_
          refine kw_top (v' := pi_ (b2 true)) rfl ?_
          refine kw_zastN dX12_made_125 rfl (by omega) (by decide) ?_
          refine kw_heq (uma_4 _ _ (nb_ t) true) ?_
          refine kw_aload_n dX12_made_126 rfl ?_
          refine kw_get dX12_made_127 fl_X12_43 rfl rfl ?_
          refine kw_iload dX12_made_130 rfl ?_
          refine kw_iconst (v := 0) dX12_made_132 (by decide) ?_
          refine kw_top (v' := pi_ (nI 0)) rfl ?_
          refine kw_iastN dX12_made_133 rfl (by omega) (by decide) ?_
          refine kw_heq (uma_7 _ _ (nb_ t) 0) ?_
          refine kw_aload_n dX12_made_134 rfl ?_
          refine kw_get dX12_made_135 fl_X12_103 rfl rfl ?_
          refine kw_iload dX12_made_138 rfl ?_
          refine kw_iconst (v := 0) dX12_made_140 (by decide) ?_
          refine kw_top (v' := pi_ (b2 false)) rfl ?_
          refine kw_zastN dX12_made_141 rfl (by omega) (by decide) ?_
          refine kw_heq (uma_26 _ _ (nb_ t) false) ?_
          refine kw_aload_n dX12_made_142 rfl ?_
          refine kw_get dX12_made_143 fl_X12_37 rfl rfl ?_
          refine kw_iload dX12_made_146 rfl ?_
          refine kw_aload_n dX12_made_148 rfl ?_
          refine kw_get dX12_made_149 fl_X12_178 rfl rfl ?_
          refine kw_iconst (v := 1) dX12_made_152 (by decide) ?_
          refine kw_isub dX12_made_153 ?_
          refine kw_top (v' := pi_ (nI (np_ t))) (by show pi_ (nI (np_ t1) - 1) = _; rw [g2, nI_pred]) ?_
          refine kw_iastN dX12_made_154 rfl (by omega) (by decide) ?_
          refine kw_heq (uma_5 _ _ (nb_ t) (np_ t)) ?_
          refine kw_aload_n dX12_made_155 rfl ?_
          refine kw_get dX12_made_156 fl_X12_40 rfl rfl ?_
          refine kw_iload dX12_made_159 rfl ?_
          refine kw_aload_n dX12_made_161 rfl ?_
          refine kw_get dX12_made_162 fl_X12_49 rfl rfl ?_
          refine kw_aload_n dX12_made_165 rfl ?_
          refine kw_get dX12_made_166 fl_X12_178 rfl rfl ?_
          refine kw_iconst (v := 1) dX12_made_169 (by decide) ?_
          refine kw_isub dX12_made_170 ?_
          refine kw_top (v' := pi_ (nI (np_ t))) (by show pi_ (nI (np_ t1) - 1) = _; rw [g2, nI_pred]) ?_
          refine kw_ialdN dX12_made_171 rfl (by omega) (by decide) ?_
          refine kw_top (v' := pi_ (nI 0)) (congrArg (fun q => pi_ (nI q)) g5) ?_
          refine kw_iastN dX12_made_172 rfl (by omega) (by decide) ?_
          refine kw_heq (uma_6 _ _ (nb_ t) 0) ?_
          refine kw_aload_n dX12_made_173 rfl ?_
          refine kw_get dX12_made_174 fl_X12_49 rfl rfl ?_
          refine kw_aload_n dX12_made_177 rfl ?_
          refine kw_get dX12_made_178 fl_X12_178 rfl rfl ?_
          refine kw_iconst (v := 1) dX12_made_181 (by decide) ?_
          refine kw_isub dX12_made_182 ?_
          refine kw_top (v' := pi_ (nI (np_ t))) (by show pi_ (nI (np_ t1) - 1) = _; rw [g2, nI_pred]) ?_
          refine kw_dup2 dX12_made_183 rfl rfl ?_
          refine kw_ialdN dX12_made_184 rfl (by omega) (by decide) ?_
          refine kw_top (v' := pi_ (nI 0)) (congrArg (fun q => pi_ (nI q)) g5) ?_
          refine kw_iload dX12_made_185 rfl ?_
          refine kw_iadd dX12_made_187 ?_
          refine kw_top (v' := pi_ (nI (0 + z))) (by rw [nI_add]) ?_
          refine kw_iastN dX12_made_188 rfl (by omega) (by decide) ?_
          refine kw_heq (uma_9 _ _ (np_ t) (0 + z)) ?_
          refine kw_aload_n dX12_made_189 rfl ?_
          refine kw_dup dX12_made_190 rfl ?_
          refine kw_get dX12_made_191 fl_X12_156 rfl rfl ?_
          refine kw_iconst (v := 1) dX12_made_194 (by decide) ?_
          refine kw_iadd dX12_made_195 ?_
          refine kw_top (v' := pi_ (nI (nb_ t + 1))) (by rw [← nI_1]; show pi_ (nI (nb_ t1) + 1) = _; rw [g1]) ?_
          refine kw_put dX12_made_196 fl_X12_156 rfl (kw_ok_i _) (Nat.le_of_ble_eq_true rfl) ?_
          refine kw_heq (um_nb _ _ (nb_ t + 1)) ?_
          refine kw_heq (h' := hM (uM t t1 key z (km_ t j) (np_ t) 0 (0 + z)) (kN k 3 C)) (by unfold uM; obtain ⟨q1, q2, q3, q4, q5, q6, q7, q8⟩ := g4; rw [← q1, ← q2, ← q3, ← q4, ← q5, ← q6, ← q7, ← q8, ← g1]; rfl) ?_
          have eA : aLay (s_blk (s_ev t 0 (nb_ t)) key z (km_ t j) (ks_ t j)) (nb_ t) (np_ t) 0 = a_addA t key z (km_ t j) (ks_ t j) := by unfold a_addA newP; rw [e12]; rfl
          have eU : sFF (s_ev (uM t t1 key z (km_ t j) (np_ t) 0 (0 + z)) 0 (nb_ t)) 0 (va_up (ch_ t) (nb_ t) (ks_ t j)) = a_addA t key z (km_ t j) (ks_ t j) := (by rw [ht1]; exact (uM_new t key z (km_ t j) (ks_ t j)).trans eA)
          have hMA : MI (a_addA t key z (km_ t j) (ks_ t j)) (kN k 3 C) := by rw [← eA]; exact MI_add hMI hb hcm C key z (km_ t j) hkm (ks_ t j) h1 h2 _ _
          have eum : um_ (a_addA t key z (km_ t j) (ks_ t j)) = um_ t := by rw [← eU]; show um_ t1 = um_ t; rw [ht1]; rfl
          have unf : a_new t j key z = s_km0 (s_use (a_addA t key z (km_ t j) (ks_ t j)) j (nb_ t)) j := rfl
          refine kw_aload_n dX12_made_199 rfl ?_
          refine kw_iconst (v := (nI 0)) dX12_made_200 (by decide) ?_
          refine kw_iload dX12_made_201 rfl ?_
          refine kw_callVf (As := [pi_ (nI 0), pi_ (nI (nb_ t))]) (n_tell l (uM t t1 key z (km_ t j) (np_ t) 0 (0 + z)) (kN k 3 C) (by show nh_ t1 < 240; rw [ht1]; exact hnh) 0 (nb_ t)) dX12_made_203 cl_X12_198 rfl rfl rfl rfl (Nat.le_of_ble_eq_true rfl) ⟨(Nat.le_of_ble_eq_true rfl), (Nat.le_of_ble_eq_true rfl), (Nat.le_of_ble_eq_true rfl), (Nat.le_of_ble_eq_true rfl)⟩ ?_
          refine kw_heq (h' := hM (a_addA t key z (km_ t j) (ks_ t j)) (kN k 3 C)) (by rw [← eU, hM_ff]) ?_
          refine kw_aload_n dX12_made_206 rfl ?_
          refine kw_iload_n dX12_made_207 rfl ?_
          refine kw_iload dX12_made_208 rfl ?_
          refine kw_callV (As := [pi_ (nI j), pi_ (nI (nb_ t))]) (n_use l (a_addA t key z (km_ t j) (ks_ t j)) (kN k 3 C) hMA j hj (by rw [eum]; exact hu) (nb_ t) (Or.inl (by rw [eum]; exact hu8))) dX12_made_210 cl_X12_202 rfl rfl rfl rfl (Nat.le_of_ble_eq_true rfl) ⟨(Nat.le_of_ble_eq_true rfl), (Nat.le_of_ble_eq_true rfl), (Nat.le_of_ble_eq_true rfl), (Nat.le_of_ble_eq_true rfl)⟩ (fun r2 h2' hp2 => ?_)
          obtain ⟨rfl, κ, m1, m2, rfl, m3, m4⟩ := hp2
          refine kw_aload_n dX12_made_213 rfl ?_
          refine kw_get dX12_made_214 fl_X12_94 rfl rfl ?_
          refine kw_iload_n dX12_made_217 rfl ?_
          refine kw_iconst (v := 0) dX12_made_218 (by decide) ?_
          refine kw_top (v' := pi_ (nI 0)) rfl ?_
          refine kw_iastN dX12_made_219 rfl hj (by decide) ?_
          refine kw_heq (uma_23 _ _ j 0) ?_
          refine kw_iload dX12_made_220 rfl ?_
          exact kw_iret dX12_made_222 rfl (Nat.le_of_ble_eq_true rfl) (Nat.le_of_ble_eq_true rfl) (hK _ _ _ ⟨rfl, rfl, κ, ⟨m1.1, m1.2⟩, MI_km0 m2 j, rfl⟩)
        · skip
          have hlt : i < km_ t j := nI_nle' (by omega) (by omega) c86
          refine kw_aload_n dX12_made_89 rfl ?_
          refine kw_get dX12_made_90 fl_X12_30 rfl rfl ?_
          refine kw_iconst (v := (nI 4)) dX12_made_93 (by decide) ?_
          refine kw_iload dX12_made_94 rfl ?_
          refine kw_imul dX12_made_96 ?_
          refine kw_top (v' := pi_ (nI (4 * nb_ t))) (by rw [nI_mul]) ?_
          refine kw_iload dX12_made_97 rfl ?_
          refine kw_iadd dX12_made_99 ?_
          refine kw_top (v' := pi_ (nI (4 * nb_ t + i))) (by rw [nI_add]) ?_
          refine kw_aload_n dX12_made_100 rfl ?_
          refine kw_get dX12_made_101 fl_X12_97 rfl rfl ?_
          refine kw_iconst (v := (nI 4)) dX12_made_104 (by decide) ?_
          refine kw_iload_n dX12_made_105 rfl ?_
          refine kw_imul dX12_made_106 ?_
          refine kw_top (v' := pi_ (nI (4 * j))) (by rw [nI_mul]) ?_
          refine kw_iload dX12_made_107 rfl ?_
          refine kw_iadd dX12_made_109 ?_
          refine kw_top (v' := pi_ (nI (4 * j + i))) (by rw [nI_add]) ?_
          refine kw_ialdN dX12_made_110 rfl (by omega) (by decide) ?_
          refine kw_top (v' := pi_ (nI (ks_ t j i))) (by rw [← hMI.2.2.2 j hj i hlt]; rfl) ?_
          refine kw_iastN dX12_made_111 rfl (by omega) (by decide) ?_
          refine kw_heq (h' := hM (sF (sF (sY t1 0 (va_up (ky_ t) (nb_ t) key)) 0 (va_up (sz_ t) (nb_ t) z)) 1 (va_up (cm_ t) (nb_ t) (km_ t j))) (kN k 3 (va_up C (4 * nb_ t + i) (ks_ t j i)))) ((uma_3 (sF (sF (sY t1 0 (va_up (ky_ t) (nb_ t) key)) 0 (va_up (sz_ t) (nb_ t) z)) 1 (va_up (cm_ t) (nb_ t) (km_ t j))) (kN k 3 C) (4 * nb_ t + i) (ks_ t j i)).trans (by rw [kN2]; rfl)) ?_
          refine kw_iinc dX12_made_112 rfl (nI_i i) ?_
          refine kw_goto (tgt := 78) dX12_made_115 (by decide) ?_
          refine ih (i + 1) _ (by omega) (by omega) (fun q hq => ?_) (fun q hq => ?_)
          · simp only [va_up]; rw [if_neg (by omega)]; exact h1 q hq
          · simp only [va_up]
            by_cases e : q = i
            · rw [if_pos (by omega), e]
            · rw [if_neg (by omega)]; exact h2 q (by omega)
    refine kw_aload_n dX12_made_45 rfl ?_
    refine kw_get dX12_made_46 fl_X12_19 rfl rfl ?_
    refine kw_iload dX12_made_49 rfl ?_
    refine kw_lload_n dX12_made_51 rfl ?_
    refine kw_lastN dX12_made_52 rfl (by omega) (by decide) ?_
    refine kw_heq (h' := hM (sY t1 0 (va_up (ky_ t) (nb_ t) key)) k) ((uma_0 t1 k (nb_ t) key).trans (by rw [g4.1])) ?_
    refine kw_aload_n dX12_made_53 rfl ?_
    refine kw_get dX12_made_54 fl_X12_23 rfl rfl ?_
    refine kw_iload dX12_made_57 rfl ?_
    refine kw_iload dX12_made_59 rfl ?_
    refine kw_iastN dX12_made_61 rfl (by omega) (by decide) ?_
    refine kw_heq (h' := hM (sF (sY t1 0 (va_up (ky_ t) (nb_ t) key)) 0 (va_up (sz_ t) (nb_ t) z)) k) ((uma_1 _ k (nb_ t) z).trans (by show hM (sF (sY t1 0 _) 0 (va_up (sz_ t1) _ _)) k = _; rw [g4.2.1])) ?_
    refine kw_aload_n dX12_made_62 rfl ?_
    refine kw_get dX12_made_63 fl_X12_27 rfl rfl ?_
    refine kw_iload dX12_made_66 rfl ?_
    refine kw_aload_n dX12_made_68 rfl ?_
    refine kw_get dX12_made_69 fl_X12_94 rfl rfl ?_
    refine kw_iload_n dX12_made_72 rfl ?_
    refine kw_ialdN dX12_made_73 rfl hj (by decide) ?_
    refine kw_top (v' := pi_ (nI (km_ t j))) (by show pi_ (nI (km_ t1 j)) = _; rw [g3]) ?_
    refine kw_iastN dX12_made_74 rfl (by omega) (by decide) ?_
    refine kw_heq (h' := hM (sF (sF (sY t1 0 (va_up (ky_ t) (nb_ t) key)) 0 (va_up (sz_ t) (nb_ t) z)) 1 (va_up (cm_ t) (nb_ t) (km_ t j))) k) ((uma_2 _ k (nb_ t) (km_ t j)).trans (by show hM (sF (sF (sY t1 0 _) 0 _) 1 (va_up (cm_ t1) _ _)) k = _; rw [g4.2.2.1])) ?_
    refine kw_iconst (v := 0) dX12_made_75 (by decide) ?_
    refine kw_istore dX12_made_76 (Nat.le_of_ble_eq_true rfl) ?_
    refine kw_heq (h' := hM (sF (sF (sY t1 0 (va_up (ky_ t) (nb_ t) key)) 0 (va_up (sz_ t) (nb_ t) z)) 1 (va_up (cm_ t) (nb_ t) (km_ t j))) (kN k 3 (kn_ k 3))) (by rw [kN_id]) ?_
    exact loop (km_ t j + 1) 0 _ (by omega) (by omega) (fun _ _ => rfl) (fun q hq => absurd hq (Nat.not_lt_zero _))
