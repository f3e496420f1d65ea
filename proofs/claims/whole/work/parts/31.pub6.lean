/-! THE CLASS'S CALLS, 6: save, commit -/
theorem findF_cases (p : Nat → Bool) : ∀ (n i : Nat), (findF p n i = -1 ∧ ∀ b, i ≤ b → b < i + n → p b = false) ∨ ∃ b, i ≤ b ∧ b < i + n ∧ p b = true ∧ findF p n i = nI b
  | 0, i => Or.inl ⟨rfl, fun b h1 h2 => absurd h2 (by omega)⟩
  | n + 1, i => by
    rw [findF]
    cases h : p i with
    | true => exact Or.inr ⟨i, Nat.le_refl _, by omega, h, rfl⟩
    | false =>
      rcases findF_cases p n (i + 1) with ⟨h1, h2⟩ | ⟨b, h1, h2, h3, h4⟩
      · refine Or.inl ⟨h1, fun b q1 q2 => ?_⟩
        by_cases e : b = i
        · rw [e]; exact h
        · exact h2 b (by omega) (by omega)
      · exact Or.inr ⟨b, by omega, by omega, h3, h4⟩
theorem nI_m1 {c : Nat} (hc : c < 2 ^ 31) : ¬ nI c = -1 := fun q => by
  have := nI_toInt hc
  rw [q] at this
  have e : (-1 : Int32).toInt = -1 := by decide
  omega
def a_save0 (s : SG) (k : KG) (x : Int32) (key : Int64) (w : Int32) : Int32 × SG := if dn_ s = true then (-106, s) else if svOk s x = true then (if w < 1 ∨ nI (cap_ s) < w then (-102, s_rn s (cl_ x)) else if dead_ s (cl_ x) = true then (-103, s_rn s (cl_ x)) else if findS s (cl_ x) key (cl_ w) = -1 then c_new (s_rn s (cl_ x)) k (cl_ x) key (cl_ w) else c_found (s_rn s (cl_ x)) k (cl_ x) (cl_ (findS s (cl_ x) key (cl_ w)))) else (-101, s)
def ck_save (s : SG) (k : KG) (x : Int32) (key : Int64) (w : Int32) : KG := if dn_ s = true then k else if svOk s x = true then (if w < 1 ∨ nI (cap_ s) < w then k else if dead_ s (cl_ x) = true then k else if findS s (cl_ x) key (cl_ w) = -1 then ck_new (s_rn s (cl_ x)) k (cl_ x) key (cl_ w) else k) else k
theorem kw_up3 (h : PH) {a b : KK} (hab : a ≠ b) (c d c' : PC) : kw_up (kw_up (kw_up h a c) b d) a c' = kw_up (kw_up h b d) a c' := by
  funext q
  by_cases e : q = a
  · subst e; rw [kw_up_s, kw_up_s]
  · rw [kw_up_n _ _ e, kw_up_n _ _ e]
    by_cases e2 : q = b
    · subst e2; rw [kw_up_s, kw_up_s]
    · rw [kw_up_n _ _ e2, kw_up_n _ _ e2, kw_up_n _ _ e]
def s_com (s : SG) (j g : Nat) : SG := (fun t => sGb t 4 (va_up (sv_ t) j false)) (s_snp (s_ev (s_w1 s) 2 (ns_ s)) (now_ s) g (um_ s j) (us_ s j))
def a_commit (s : SG) (x g : Int32) : Int32 × SG := if dn_ s = true then (-106, s) else if svOk s x = true then (if g < 0 ∨ 3 < g then (-102, s) else if dead_ s (cl_ x) = true ∨ um_ s (cl_ x) = 0 then (-103, s) else if 40 ≤ ns_ s ∨ 10 ≤ thereN s then (-104, s) else if cut_ s = 0 then (-105, s_lost s) else (nI (ns_ s), s_com s (cl_ x) (cl_ g))) else (-101, s)
set_option maxHeartbeats 4000000 in
set_option maxRecDepth 100000 in
theorem P_save (l : Launch) (s : SG) (k : KG) (hb : nb_ s ≤ 80) (hkd : kidsOk s) (hw : ∀ i, i < nb_ s → wt_ s i < 2 ^ 31) (hph : ph_ s ≤ 4) (hr : rt_ s < 944) (hp : np_ s ≤ 40) (hns : ns_ s ≤ 40) (hnh : nb_ s < 80 → nh_ s < 240) (hcap : cap_ s ≤ 1000) (hfull : fullS s k (-1) ≤ 1000) (ht : tmOk s) (hu : ∀ i, i < 4 → um_ s i ≤ 8 ∧ km_ s i ≤ 4) (x : Int32) (key : Int64) (w : Int32) : kw_Q l yX11_save cX11_save 7 (Option.some Jvm.ClassFile.FieldType.int) { frames := 5, cells := 3, slots := 19, locals := 115 } [pr_ (0, 0), pi_ x, pl_ key, pi_ w] (hC s k) (fun r h' => r = some (pi_ (a_save0 s k x key w).1) ∧ ∃ q, h' = hC (a_save0 s k x key w).2 (kB (ck_save s k x key w) 0 q)) := by
  refine kw_M_of RX11 "save" [some (pr_ (0, 0)), some (pi_ x), some (pl_ key), none, some (pi_ w), none, none] (by decide) rfl rfl rfl (Nat.le_of_ble_eq_true rfl) ?_
  intro D ad A
  refine kw_Kgen (fun K hK => ?_)
  refine kw_aload_n dX11_save_0 rfl ?_
  refine kw_get dX11_save_1 fl_X11_10 rfl rfl ?_
  refine kw_get dX11_save_4 fl_X11_80 rfl rfl ?_
  refine kw_if_eq (tgt := 13) dX11_save_7 (by decide) (fun c7 => ?_) (fun c7 => ?_)
  · skip
    have hd : ¬ dn_ s = true := by rw [b2_0.mp c7]; decide
    rw [a_save0, ck_save, if_neg hd, if_neg hd] at hK
    rcases ix_cases (p := sv_ s) (n := 4) (by decide) x with ⟨h1, h2⟩ | ⟨j, hj, rfl, h3, h4, h5⟩
    · have hsv : ¬ svOk s x = true := by rw [svOk, h1]; decide
      rw [if_neg hsv, if_neg hsv] at hK
      refine kw_aload_n dX11_save_13 rfl ?_
      refine kw_iload_n dX11_save_14 rfl ?_
      refine kw_callVf (As := [pi_ x]) (o_rn0 l s k x h2) dX11_save_15 cl_X11_94 rfl rfl rfl rfl (Nat.le_of_ble_eq_true rfl) ⟨(Nat.le_of_ble_eq_true rfl), (Nat.le_of_ble_eq_true rfl), (Nat.le_of_ble_eq_true rfl), (Nat.le_of_ble_eq_true rfl)⟩ ?_
      refine kw_astore dX11_save_18 (Nat.le_of_ble_eq_true rfl) ?_
      refine kw_aload dX11_save_20 rfl ?_
      refine kw_ifnonnull (tgt := 28) dX11_save_22 (by decide) (fun c22 => ?_) (fun c22 => ?_)
      · skip
        exact absurd rfl c22
      · skip
        refine kw_bipush (v := (-101)) dX11_save_25 (by decide) ?_
        exact kw_iret dX11_save_27 rfl (Nat.le_of_ble_eq_true rfl) (Nat.le_of_ble_eq_true rfl) (hK _ _ _ ⟨fun _ _ => rfl, rfl, kb_ k 0, by rw [kB_id]⟩)
    · have hsv : svOk s (nI j) = true := by rw [svOk, h4]
      rw [if_pos hsv, if_pos hsv, h5] at hK
      obtain ⟨hu1, hu2⟩ := hu j hj
      have hdd := un_rn s j (ht.2 j hj h3).1 (ht.2 j hj h3).2 ht.1
      obtain ⟨yy, hy, hy0, -⟩ := s_rn_e s j
      have ef : ∀ z, findS (s_rn s j) j key z = findS s j key z := fun z => by rw [hy]; unfold findS likeB; simp only [ky_, ys_, hy0]
      have ec : cap_ (s_rn s j) = cap_ s := by rw [hy]
      refine kw_aload_n dX11_save_13 rfl ?_
      refine kw_iload_n dX11_save_14 rfl ?_
      refine kw_callVf (As := [pi_ (nI j)]) (o_rn1 l s k j hj h3) dX11_save_15 cl_X11_94 rfl rfl rfl rfl (Nat.le_of_ble_eq_true rfl) ⟨(Nat.le_of_ble_eq_true rfl), (Nat.le_of_ble_eq_true rfl), (Nat.le_of_ble_eq_true rfl), (Nat.le_of_ble_eq_true rfl)⟩ ?_
      rw [show (if dead_ s j then s else s_renew s j (now_ s)) = s_rn s j from rfl]
      rw [← hdd, ← ef, ← ec] at hK
      have hb : nb_ (s_rn s j) ≤ 80 := by rw [hy]; exact hb
      have hkd : kidsOk (s_rn s j) := by rw [hy]; exact hkd
      have hw : ∀ i, i < nb_ (s_rn s j) → wt_ (s_rn s j) i < 2 ^ 31 := by rw [hy]; exact hw
      have hph : ph_ (s_rn s j) ≤ 4 := by rw [hy]; exact hph
      have hr : rt_ (s_rn s j) < 944 := by rw [hy]; exact hr
      have hp : np_ (s_rn s j) ≤ 40 := by rw [hy]; exact hp
      have hns : ns_ (s_rn s j) ≤ 40 := by rw [hy]; exact hns
      have hnh : nb_ (s_rn s j) < 80 → nh_ (s_rn s j) < 240 := by rw [hy]; exact hnh
      have hcap : cap_ (s_rn s j) ≤ 1000 := by rw [hy]; exact hcap
      have hfull : fullS (s_rn s j) k (-1) ≤ 1000 := by rw [hy]; exact hfull
      have hu1 : um_ (s_rn s j) j ≤ 8 := by rw [hy]; exact hu1
      have hu2 : km_ (s_rn s j) j ≤ 4 := by rw [hy]; exact hu2
      have halv : ∀ q, hC s k q ≠ none → hC (s_rn s j) k q ≠ none := hC_al (by rw [hy]) (by rw [hy]) (by rw [hy])
      generalize s_rn s j = s1 at hu1 hu2 hb hkd hw hph hr hp hns hnh hcap hfull halv hK ⊢
      refine kw_astore dX11_save_18 (Nat.le_of_ble_eq_true rfl) ?_
      refine kw_aload dX11_save_20 rfl ?_
      refine kw_ifnonnull (tgt := 28) dX11_save_22 (by decide) (fun c22 => ?_) (fun c22 => ?_)
      · skip
        refine kw_iload dX11_save_28 rfl ?_
        refine kw_iconst (v := 1) dX11_save_30 (by decide) ?_
        refine kw_icmp_lt (tgt := 46) dX11_save_31 (by decide) (fun c31 => ?_) (fun c31 => ?_)
        · skip
          refine kw_bipush (v := (-102)) dX11_save_46 (by decide) ?_
          exact kw_iret dX11_save_48 rfl (Nat.le_of_ble_eq_true rfl) (Nat.le_of_ble_eq_true rfl) (hK _ _ _ ⟨fun q hq => rfl, by rw [if_pos (Or.inl c31)], kb_ k 0, by rw [if_pos (Or.inl c31), if_pos (Or.inl c31), kB_id]⟩)
        · skip
          refine kw_iload dX11_save_34 rfl ?_
          refine kw_aload_n dX11_save_36 rfl ?_
          refine kw_get dX11_save_37 fl_X11_30 rfl rfl ?_
          refine kw_get dX11_save_40 fl_X11_116 rfl rfl ?_
          refine kw_icmp_le (tgt := 49) dX11_save_43 (by decide) (fun c43 => ?_) (fun c43 => ?_)
          · skip
            have hwr : ¬ (w < 1 ∨ nI (cap_ s1) < w) := fun q => q.elim c31 (fun z => Int32.not_le.mpr z c43)
            rw [if_neg hwr, if_neg hwr] at hK
            obtain ⟨z, hz1, rfl⟩ := nI_of (x := w) (fun q => c31 (Int32.lt_trans q (by decide)))
            have hz2 : z ≤ cap_ s1 := nI_le' hz1 (by omega) c43
            have hz3 : 1 ≤ z := Nat.pos_of_ne_zero (fun q => c31 (by rw [q]; decide))
            rw [cl_, nI_clamp hz1] at hK
            refine kw_aload dX11_save_49 rfl ?_
            refine kw_aload_n dX11_save_51 rfl ?_
            refine kw_get dX11_save_52 fl_X11_76 rfl rfl ?_
            refine kw_callVf (As := [pl_ (now_ s1)]) (v_isDead l s1 k j hj) dX11_save_55 cl_X11_102 (hC_sa hj) rfl rfl rfl (Nat.le_of_ble_eq_true rfl) ⟨(Nat.le_of_ble_eq_true rfl), (Nat.le_of_ble_eq_true rfl), (Nat.le_of_ble_eq_true rfl), (Nat.le_of_ble_eq_true rfl)⟩ ?_
            refine kw_if_eq (tgt := 64) dX11_save_58 (by decide) (fun c58 => ?_) (fun c58 => ?_)
            · skip
              have hnd : ¬ dead_ s1 j = true := by rw [b2_0.mp c58]; decide
              rw [if_neg hnd, if_neg hnd] at hK
              refine kw_aload_n dX11_save_64 rfl ?_
              refine kw_get dX11_save_65 fl_X11_30 rfl rfl ?_
              refine kw_lload_n dX11_save_68 rfl ?_
              refine kw_iload dX11_save_69 rfl ?_
              refine kw_aload dX11_save_71 rfl ?_
              refine kw_get dX11_save_73 fl_X11_119 (hC_sa hj) rfl ?_
              refine kw_aload dX11_save_76 rfl ?_
              refine kw_get dX11_save_78 fl_X11_112 (hC_sa hj) rfl ?_
              refine kw_callVf (As := [pl_ key, pi_ (nI z), pr_ (14, j), pi_ (nI (km_ s1 j))]) (t_find l s1 k hb j hj hu2 (fun i hi => (hkd i hi).1) key z) dX11_save_81 cl_X11_123 rfl rfl rfl rfl (Nat.le_of_ble_eq_true rfl) ⟨(Nat.le_of_ble_eq_true rfl), (Nat.le_of_ble_eq_true rfl), (Nat.le_of_ble_eq_true rfl), (Nat.le_of_ble_eq_true rfl)⟩ ?_
              refine kw_istore dX11_save_84 (Nat.le_of_ble_eq_true rfl) ?_
              refine kw_iload dX11_save_86 rfl ?_
              refine kw_iconst (v := (-1)) dX11_save_88 (by decide) ?_
              refine kw_icmp_ne (tgt := 104) dX11_save_89 (by decide) (fun c89 => ?_) (fun c89 => ?_)
              · skip
                rw [if_neg c89, if_neg c89] at hK
                rcases findF_cases (fun i => th_ s1 i && likeB s1 i j key z) (nb_ s1) 0 with ⟨f1, -⟩ | ⟨b, -, f2, f3, f4⟩
                · exact absurd f1 c89
                have f5 : findS s1 j key z = nI b := f4
                rw [f5, cl_, nI_clamp (by omega)] at hK
                rw [Nat.zero_add] at f2
                refine kw_lveq (lv' := [some (pr_ (0, 0)), some (pi_ (nI j)), some (pl_ key), none, some (pi_ (nI z)), some (pr_ (12, j)), some (pi_ (nI b))]) (by rw [f5]; rfl) ?_
                refine kw_aload_n dX11_save_104 rfl ?_
                refine kw_aload dX11_save_105 rfl ?_
                refine kw_iload dX11_save_107 rfl ?_
                refine kw_callV (As := [pr_ (12, j), pi_ (nI b)]) (o_found l s1 k hb hkd hw hph hr j b hj hu1 f2) dX11_save_109 cl_X11_131 rfl rfl rfl rfl (Nat.le_of_ble_eq_true rfl) ⟨(Nat.le_of_ble_eq_true rfl), (Nat.le_of_ble_eq_true rfl), (Nat.le_of_ble_eq_true rfl), (Nat.le_of_ble_eq_true rfl)⟩ (fun r2 h2 hp2 => ?_)
                obtain ⟨rfl, q9, hq9⟩ := hp2
                exact kw_iret dX11_save_112 rfl (Nat.le_of_ble_eq_true rfl) (Nat.le_of_ble_eq_true rfl) (hK _ _ _ ⟨fun q hq => rfl, rfl, _, hq9⟩)
              · skip
                rw [if_pos c89, if_pos c89] at hK
                refine kw_aload_n dX11_save_92 rfl ?_
                refine kw_aload dX11_save_93 rfl ?_
                refine kw_lload_n dX11_save_95 rfl ?_
                refine kw_iload dX11_save_96 rfl ?_
                refine kw_callVq (As := [pr_ (12, j), pl_ key, pi_ (nI z)]) (o_new l s1 k hb hp hns hnh hcap hfull j hj (fun t ht => by rw [ht]; exact hu1) hu2 key z hz3 (by omega)) dX11_save_98 cl_X11_127 rfl rfl rfl rfl (Nat.le_of_ble_eq_true rfl) ⟨(Nat.le_of_ble_eq_true rfl), (Nat.le_of_ble_eq_true rfl), (Nat.le_of_ble_eq_true rfl), (Nat.le_of_ble_eq_true rfl)⟩ (by simp [kw_all, kw_alo, kw_alv, kw_set1, kw_keep]; exact ⟨nm_some (show hC s1 k (0, 0) = some _ from rfl), nm_some (hC_sa hj)⟩) (by simp [kw_all]) (fun r2 ad2 h2 he2 hp2 => ?_)
                obtain ⟨rfl, rfl⟩ := hp2
                refine kw_goto (tgt := 112) dX11_save_101 (by decide) ?_
                exact kw_iret dX11_save_112 rfl (Nat.le_of_ble_eq_true rfl) (Nat.le_of_ble_eq_true rfl) (hK _ _ _ ⟨fun q hq => he2 q (halv q hq), rfl, kb_ _ 0, by rw [kB_id]⟩)
            · skip
              refine kw_bipush (v := (-103)) dX11_save_61 (by decide) ?_
              exact kw_iret dX11_save_63 rfl (Nat.le_of_ble_eq_true rfl) (Nat.le_of_ble_eq_true rfl) (hK _ _ _ ⟨fun q hq => rfl, by rw [if_pos (b2_n0.mp c58)], kb_ k 0, by rw [if_pos (b2_n0.mp c58), if_pos (b2_n0.mp c58), kB_id]⟩)
          · skip
            refine kw_bipush (v := (-102)) dX11_save_46 (by decide) ?_
            exact kw_iret dX11_save_48 rfl (Nat.le_of_ble_eq_true rfl) (Nat.le_of_ble_eq_true rfl) (hK _ _ _ ⟨fun q hq => rfl, by rw [if_pos (Or.inr (Int32.not_le.mp c43))], kb_ k 0, by rw [if_pos (Or.inr (Int32.not_le.mp c43)), if_pos (Or.inr (Int32.not_le.mp c43)), kB_id]⟩)
      · skip
        exact absurd c22 (fun z => by cases z)
  · skip
    refine kw_bipush (v := (-106)) dX11_save_10 (by decide) ?_
    exact kw_iret dX11_save_12 rfl (Nat.le_of_ble_eq_true rfl) (Nat.le_of_ble_eq_true rfl) (hK _ _ _ ⟨fun _ _ => rfl, by rw [a_save0, if_pos (b2_n0.mp c7)], kb_ k 0, by rw [a_save0, ck_save, if_pos (b2_n0.mp c7), if_pos (b2_n0.mp c7), kB_id]⟩)
set_option maxHeartbeats 4000000 in
set_option maxRecDepth 100000 in
theorem P_commit (l : Launch) (s : SG) (k : KG) (hb : nb_ s ≤ 80) (hp : np_ s ≤ 40) (hns : ns_ s ≤ 40) (hnh : ns_ s < 40 → nh_ s < 240) (hu : ∀ i, i < 4 → um_ s i ≤ 8) (x g : Int32) : kw_Q l yX11_commit cX11_commit 5 (Option.some Jvm.ClassFile.FieldType.int) { frames := 2, cells := 2, slots := 12, locals := 62 } [pr_ (0, 0), pi_ x, pi_ g] (hC s k) (fun r h' => r = some (pi_ (a_commit s x g).1) ∧ h' = hC (a_commit s x g).2 k) := by
  refine kw_M_of RX11 "commit" [some (pr_ (0, 0)), some (pi_ x), some (pi_ g), none, none] (by decide) rfl rfl rfl (Nat.le_of_ble_eq_true rfl) ?_
  intro D ad A
  refine kw_Kgen (fun K hK => ?_)
  refine kw_aload_n dX11_commit_0 rfl ?_
  refine kw_get dX11_commit_1 fl_X11_10 rfl rfl ?_
  refine kw_get dX11_commit_4 fl_X11_80 rfl rfl ?_
  refine kw_if_eq (tgt := 13) dX11_commit_7 (by decide) (fun c7 => ?_) (fun c7 => ?_)
  · skip
    have hd : ¬ dn_ s = true := by rw [b2_0.mp c7]; decide
    rw [a_commit, if_neg hd] at hK
    rcases ix_cases (p := sv_ s) (n := 4) (by decide) x with ⟨h1, h2⟩ | ⟨j, hj, rfl, h3, h4, h5⟩
    · rw [if_neg (by rw [svOk, h1]; decide)] at hK
      refine kw_aload_n dX11_commit_13 rfl ?_
      refine kw_iload_n dX11_commit_14 rfl ?_
      refine kw_callVf (As := [pi_ x]) (o_sv0 l s k x h2) dX11_commit_15 cl_X11_180 rfl rfl rfl rfl (Nat.le_of_ble_eq_true rfl) ⟨(Nat.le_of_ble_eq_true rfl), (Nat.le_of_ble_eq_true rfl), (Nat.le_of_ble_eq_true rfl), (Nat.le_of_ble_eq_true rfl)⟩ ?_
      refine kw_astore_n dX11_commit_18 (Nat.le_of_ble_eq_true rfl) ?_
      refine kw_aload_n dX11_commit_19 rfl ?_
      refine kw_ifnonnull (tgt := 26) dX11_commit_20 (by decide) (fun c20 => ?_) (fun c20 => ?_)
      · skip
        exact absurd rfl c20
      · skip
        refine kw_bipush (v := (-101)) dX11_commit_23 (by decide) ?_
        exact kw_iret dX11_commit_25 rfl (Nat.le_of_ble_eq_true rfl) (Nat.le_of_ble_eq_true rfl) (hK _ _ _ ⟨fun _ _ => rfl, rfl, rfl⟩)
    · rw [if_pos (by rw [svOk, h4]), h5] at hK
      have hu8 := hu j hj
      have htn : thereN s ≤ 40 := Nat.le_trans (cntN_le _) hns
      refine kw_aload_n dX11_commit_13 rfl ?_
      refine kw_iload_n dX11_commit_14 rfl ?_
      refine kw_callVf (As := [pi_ (nI j)]) (o_sv1 l s k j hj h3) dX11_commit_15 cl_X11_180 rfl rfl rfl rfl (Nat.le_of_ble_eq_true rfl) ⟨(Nat.le_of_ble_eq_true rfl), (Nat.le_of_ble_eq_true rfl), (Nat.le_of_ble_eq_true rfl), (Nat.le_of_ble_eq_true rfl)⟩ ?_
      refine kw_astore_n dX11_commit_18 (Nat.le_of_ble_eq_true rfl) ?_
      refine kw_aload_n dX11_commit_19 rfl ?_
      refine kw_ifnonnull (tgt := 26) dX11_commit_20 (by decide) (fun c20 => ?_) (fun c20 => ?_)
      · skip
        refine kw_iload_n dX11_commit_26 rfl ?_
        refine kw_if_lt (tgt := 35) dX11_commit_27 (by decide) (fun c27 => ?_) (fun c27 => ?_)
        · skip
          refine kw_bipush (v := (-102)) dX11_commit_35 (by decide) ?_
          exact kw_iret dX11_commit_37 rfl (Nat.le_of_ble_eq_true rfl) (Nat.le_of_ble_eq_true rfl) (hK _ _ _ ⟨fun q hq => rfl, by rw [if_pos (Or.inl c27)], by rw [if_pos (Or.inl c27)]⟩)
        · skip
          refine kw_iload_n dX11_commit_30 rfl ?_
          refine kw_iconst (v := 3) dX11_commit_31 (by decide) ?_
          refine kw_icmp_le (tgt := 38) dX11_commit_32 (by decide) (fun c32 => ?_) (fun c32 => ?_)
          · skip
            rw [if_neg (fun q => q.elim c27 (fun z => Int32.not_le.mpr z c32))] at hK
            obtain ⟨t, ht1, rfl⟩ := nI_of2 (M := 3) (n := 3) (by decide) c27 c32
            rw [cl_, nI_clamp (by omega)] at hK
            refine kw_aload_n dX11_commit_38 rfl ?_
            refine kw_aload_n dX11_commit_39 rfl ?_
            refine kw_get dX11_commit_40 fl_X11_76 rfl rfl ?_
            refine kw_callVf (As := [pl_ (now_ s)]) (v_isDead l s k j hj) dX11_commit_43 cl_X11_102 (hC_sa hj) rfl rfl rfl (Nat.le_of_ble_eq_true rfl) ⟨(Nat.le_of_ble_eq_true rfl), (Nat.le_of_ble_eq_true rfl), (Nat.le_of_ble_eq_true rfl), (Nat.le_of_ble_eq_true rfl)⟩ ?_
            refine kw_if_ne (tgt := 56) dX11_commit_46 (by decide) (fun c46 => ?_) (fun c46 => ?_)
            · skip
              refine kw_bipush (v := (-103)) dX11_commit_56 (by decide) ?_
              exact kw_iret dX11_commit_58 rfl (Nat.le_of_ble_eq_true rfl) (Nat.le_of_ble_eq_true rfl) (hK _ _ _ ⟨fun q hq => rfl, by rw [if_pos (Or.inl (b2_n0.mp c46))], by rw [if_pos (Or.inl (b2_n0.mp c46))]⟩)
            · skip
              refine kw_aload_n dX11_commit_49 rfl ?_
              refine kw_get dX11_commit_50 fl_X11_135 (hC_sa hj) rfl ?_
              refine kw_if_ne (tgt := 59) dX11_commit_53 (by decide) (fun c53 => ?_) (fun c53 => ?_)
              · skip
                have hum : ¬ um_ s j = 0 := fun q => c53 (by rw [q]; rfl)
                rw [if_neg (fun q => q.elim (fun z => by rw [b2_0.mp c46] at z; cases z) hum)] at hK
                refine kw_aload_n dX11_commit_59 rfl ?_
                refine kw_get dX11_commit_60 fl_X11_183 rfl rfl ?_
                refine kw_bipush (v := 40) dX11_commit_63 (by decide) ?_
                refine kw_icmp_ge (tgt := 77) dX11_commit_65 (by decide) (fun c65 => ?_) (fun c65 => ?_)
                · skip
                  refine kw_bipush (v := (-104)) dX11_commit_77 (by decide) ?_
                  exact kw_iret dX11_commit_79 rfl (Nat.le_of_ble_eq_true rfl) (Nat.le_of_ble_eq_true rfl) (hK _ _ _ ⟨fun q hq => rfl, by rw [if_pos (Or.inl (nI_le' (a := 40) (by decide) (by omega) c65))], by rw [if_pos (Or.inl (nI_le' (a := 40) (by decide) (by omega) c65))]⟩)
                · skip
                  have hn40 : ns_ s < 40 := nI_nle' (a := 40) (by decide) (by omega) c65
                  refine kw_aload_n dX11_commit_68 rfl ?_
                  refine kw_callVf (As := []) (o_sn l s k hns) dX11_commit_69 cl_X11_186 rfl rfl rfl rfl (Nat.le_of_ble_eq_true rfl) ⟨(Nat.le_of_ble_eq_true rfl), (Nat.le_of_ble_eq_true rfl), (Nat.le_of_ble_eq_true rfl), (Nat.le_of_ble_eq_true rfl)⟩ ?_
                  refine kw_bipush (v := 10) dX11_commit_72 (by decide) ?_
                  refine kw_icmp_lt (tgt := 80) dX11_commit_74 (by decide) (fun c74 => ?_) (fun c74 => ?_)
                  · skip
                    have h10 : thereN s < 10 := nI_lt' (b := 10) (by omega) (by decide) c74
                    rw [if_neg (by omega)] at hK
                    by_cases hcut : cut_ s = 0
                    · rw [if_pos hcut] at hK
                      refine kw_aload_n dX11_commit_80 rfl ?_
                      refine kw_get dX11_commit_81 fl_X11_183 rfl rfl ?_
                      refine kw_istore dX11_commit_84 (Nat.le_of_ble_eq_true rfl) ?_
                      refine kw_aload_n dX11_commit_86 rfl ?_
                      refine kw_get dX11_commit_87 fl_X11_10 rfl rfl ?_
                      refine kw_iconst (v := 2) dX11_commit_90 (by decide) ?_
                      refine kw_iload dX11_commit_91 rfl ?_
                      refine kw_callVf (As := [pi_ 2, pi_ (nI (ns_ s))]) (j_ev0 l s k hcut 2 (nI (ns_ s))) dX11_commit_93 cl_X11_189 rfl rfl rfl rfl (Nat.le_of_ble_eq_true rfl) ⟨(Nat.le_of_ble_eq_true rfl), (Nat.le_of_ble_eq_true rfl), (Nat.le_of_ble_eq_true rfl), (Nat.le_of_ble_eq_true rfl)⟩ ?_
                      refine kw_if_ne (tgt := 104) dX11_commit_96 (by decide) (fun c96 => ?_) (fun c96 => ?_)
                      · skip
                        exact absurd rfl c96
                      · skip
                        refine kw_aload_n dX11_commit_99 rfl ?_
                        refine kw_callVf (As := []) (o_lose l (s_w0 s) k) dX11_commit_100 cl_X11_151 rfl rfl rfl rfl (Nat.le_of_ble_eq_true rfl) ⟨(Nat.le_of_ble_eq_true rfl), (Nat.le_of_ble_eq_true rfl), (Nat.le_of_ble_eq_true rfl), (Nat.le_of_ble_eq_true rfl)⟩ ?_
                        exact kw_iret dX11_commit_103 rfl (Nat.le_of_ble_eq_true rfl) (Nat.le_of_ble_eq_true rfl) (hK _ _ _ ⟨fun q hq => rfl, rfl, rfl⟩)
                    rw [if_neg hcut] at hK
                    unfold s_com at hK
                    obtain ⟨s1, hs1⟩ : ∃ s1, s1 = s_ev (s_w1 s) 2 (ns_ s) := ⟨_, rfl⟩
                    rw [← hs1] at hK
                    have e1 : ∀ i, i ≠ 8 → s1.1 i = s.1 i := fun i hi => by rw [hs1]; show va_up (s_w1 s).1 8 _ i = _; simp only [va_up, if_neg hi]; rw [s_w1_1]
                    have efs : ∀ i, i < 10 ∨ 12 ≤ i → fs_ s1 i = fs_ s i := fun i hi => by rw [hs1]; show va_up (va_up (s_w1 s).2.2.2.2.1 10 _) 11 _ i = _; rw [s_w1_2]; simp [va_up, show ¬ i = 10 by omega, show ¬ i = 11 by omega]
                    have e22 : (s1.2.2.1, s1.2.2.2.1, s1.2.2.2.2.2) = (s.2.2.1, s.2.2.2.1, s.2.2.2.2.2) := by rw [hs1]; show ((s_w1 s).2.2.1, (s_w1 s).2.2.2.1, (s_w1 s).2.2.2.2.2) = _; rw [s_w1_2]
                    have en : ns_ s1 = ns_ s := e1 7 (by decide)
                    have enow : now_ s1 = now_ s := congrArg (fun z => z.1) e22
                    have eum : um_ s1 = um_ s := efs 14 (by omega)
                    have eus : us_ s1 = us_ s := congrArg (fun z => z.2.2.2.2 2) e22
                    have alr : ∀ q, hC s k q ≠ none → hC s1 k q ≠ none := hC_al (e1 1 (by decide)).symm (e1 4 (by decide)).symm en.symm
                    have hbb : nb_ s1 ≤ 80 := by rw [nb_, e1 1 (by decide)]; exact hb
                    have hpp : np_ s1 ≤ 40 := by rw [np_, e1 4 (by decide)]; exact hp
                    rw [← enow, ← eum, ← eus] at hK
                    rw [← eum] at hu8
                    refine kw_aload_n dX11_commit_80 rfl ?_
                    refine kw_get dX11_commit_81 fl_X11_183 rfl rfl ?_
                    refine kw_istore dX11_commit_84 (Nat.le_of_ble_eq_true rfl) ?_
                    refine kw_aload_n dX11_commit_86 rfl ?_
                    refine kw_get dX11_commit_87 fl_X11_10 rfl rfl ?_
                    refine kw_iconst (v := 2) dX11_commit_90 (by decide) ?_
                    refine kw_iload dX11_commit_91 rfl ?_
                    refine kw_callVf (As := [pi_ (nI 2), pi_ (nI (ns_ s))]) (j_ev1 l s k hcut (hnh hn40) 2 (ns_ s)) dX11_commit_93 cl_X11_189 rfl rfl rfl rfl (Nat.le_of_ble_eq_true rfl) ⟨(Nat.le_of_ble_eq_true rfl), (Nat.le_of_ble_eq_true rfl), (Nat.le_of_ble_eq_true rfl), (Nat.le_of_ble_eq_true rfl)⟩ ?_
                    rw [← hs1]
                    rw [← en] at hK hn40 ⊢
                    have hk16 : hC s1 k (16, ns_ s1) = none := if_neg (Nat.lt_irrefl _)
                    have hk17 : hC s1 k (17, ns_ s1) = none := if_neg (Nat.lt_irrefl _)
                    refine kw_if_ne (tgt := 104) dX11_commit_96 (by decide) (fun c96 => ?_) (fun c96 => ?_)
                    · skip
                      refine kw_aload_n dX11_commit_104 rfl ?_
                      refine kw_get dX11_commit_105 fl_X11_59 rfl rfl ?_
                      refine kw_iload dX11_commit_108 rfl ?_
                      refine kw_new (16, ns_ s1) (fs := [pl_ 0, pi_ 0, pn_, pi_ 0]) dX11_commit_110 kc_X8 kt_243 kt_537 kt_15 (fun _ j hj => match j, hj with | 0, _ => rfl | 1, _ => rfl | 2, _ => rfl | 3, _ => rfl | k + 4, h9 => absurd h9 (by omega)) hk16 (hC_nm hk16 (by omega) hbb hpp) (by simp [kw_all, kw_nmo, kw_nmv, kw_set1, kw_set2, kw_keep, kw_alo, kw_alv]) (by simp [kw_all, kw_nmo, kw_nmv, kw_set1, kw_set2, kw_keep, kw_alo, kw_alv]) (Nat.le_of_ble_eq_true rfl) (Nat.le_of_ble_eq_true rfl) (fun a9 => ?_)
                      refine kw_dup dX11_commit_113 rfl ?_
                      refine kw_aload_n dX11_commit_114 rfl ?_
                      refine kw_get dX11_commit_115 fl_X11_76 rfl rfl ?_
                      refine kw_iload_n dX11_commit_118 rfl ?_
                      refine kw_aload_n dX11_commit_119 rfl ?_
                      refine kw_get dX11_commit_120 fl_X11_193 ((kw_up_n _ _ (fun z => by cases z)).trans (hC_sa hj)) rfl ?_
                      refine kw_aload_n dX11_commit_123 rfl ?_
                      refine kw_get dX11_commit_124 fl_X11_135 ((kw_up_n _ _ (fun z => by cases z)).trans (hC_sa hj)) rfl ?_
                      refine kw_callSq (As := [pr_ (13, j), pi_ (nI (um_ s1 j))]) (m_copy l _ (13, j) (17, ns_ s1) 8 (um_ s1 j) (fun i => nI (us_ s1 j i)) ((kw_up_n _ _ (fun z => by cases z)).trans (hC_us hj)) hu8 (by decide) ((kw_up_n _ _ (fun z => by cases z)).trans hk17) (kw_nm_up (hC_nm hk17 (by omega) hbb hpp) (by simp [kw_nmc, kw_nmv])) (fun z => by cases z)) dX11_commit_127 cl_X11_141 rfl rfl (Nat.le_of_ble_eq_true rfl) ⟨(Nat.le_of_ble_eq_true rfl), (Nat.le_of_ble_eq_true rfl), (Nat.le_of_ble_eq_true rfl), (Nat.le_of_ble_eq_true rfl)⟩ (by simp [kw_all, kw_alo, kw_alv, kw_set1, kw_keep]; exact ⟨kw_up_nn (nm_some (show hC s1 k (0, 0) = some _ from rfl)), kw_up_nn (nm_some (hC_sa hj))⟩) (by simp [kw_all, kw_alv]; exact ⟨nm_some (kw_up_s _ _ _), kw_up_nn (nm_some (show hC s1 k (15, 0) = some _ from rfl))⟩) (fun r2 ad2 h2 he2 hp2 => ?_)
                      obtain ⟨rfl, rfl⟩ := hp2
                      refine kw_callIf (As := [pl_ (now_ s1), pi_ (nI t), pr_ (17, ns_ s1)]) (n_init l _ (16, ns_ s1) (17, ns_ s1) (now_ s1) (nI t) ((kw_up_n _ _ (fun z => by cases z)).trans (kw_up_s _ _ _))) dX11_commit_130 cl_X11_196 rfl rfl (Nat.le_of_ble_eq_true rfl) ⟨(Nat.le_of_ble_eq_true rfl), (Nat.le_of_ble_eq_true rfl), (Nat.le_of_ble_eq_true rfl), (Nat.le_of_ble_eq_true rfl)⟩ ?_
                      rw [kw_up3 _ (fun z => by cases z)]
                      refine kw_aast dX11_commit_133 rfl rfl (kw_up_s _ _ _) (vp_in_nI hn40 (by decide)) ?_
                      rw [nI_clamp (by omega)]
                      refine kw_aload_n dX11_commit_134 rfl ?_
                      refine kw_dup dX11_commit_135 rfl ?_
                      refine kw_get dX11_commit_136 fl_X11_183 rfl rfl ?_
                      refine kw_iconst (v := 1) dX11_commit_139 (by decide) ?_
                      refine kw_iadd dX11_commit_140 ?_
                      refine kw_top (v' := pi_ (nI (ns_ s1 + 1))) (by rw [← nI_1]) ?_
                      refine kw_put dX11_commit_141 fl_X11_183 rfl (kw_ok_i _) (Nat.le_of_ble_eq_true rfl) ?_
                      refine kw_heq (up_newsnap s1 k (now_ s1) t (um_ s1 j) (us_ s1 j)) ?_
                      refine kw_aload_n dX11_commit_144 rfl ?_
                      refine kw_iconst (v := 0) dX11_commit_145 (by decide) ?_
                      refine kw_put dX11_commit_146 fl_X11_87 (hC_sa hj) (kw_ok_z (Or.inl rfl)) (Nat.le_of_ble_eq_true rfl) ?_
                      refine kw_heq (up_ssv _ k j hj false) ?_
                      refine kw_iload dX11_commit_149 rfl ?_
                      exact kw_iret dX11_commit_151 rfl (Nat.le_of_ble_eq_true rfl) (Nat.le_of_ble_eq_true rfl) (hK _ _ _ ⟨fun q hq => by rw [he2 q (kw_up_nn (alr q hq)), kw_ad_n _ _ (fun e => by rw [e] at hq; exact alr _ hq hk16)], rfl, rfl⟩)
                    · skip
                      exact absurd c96 (by decide)
                  · skip
                    refine kw_bipush (v := (-104)) dX11_commit_77 (by decide) ?_
                    exact kw_iret dX11_commit_79 rfl (Nat.le_of_ble_eq_true rfl) (Nat.le_of_ble_eq_true rfl) (hK _ _ _ ⟨fun q hq => rfl, by rw [if_pos (Or.inr (nI_nlt' (b := 10) (by omega) (by decide) c74))], by rw [if_pos (Or.inr (nI_nlt' (b := 10) (by omega) (by decide) c74))]⟩)
              · skip
                refine kw_bipush (v := (-103)) dX11_commit_56 (by decide) ?_
                exact kw_iret dX11_commit_58 rfl (Nat.le_of_ble_eq_true rfl) (Nat.le_of_ble_eq_true rfl) (hK _ _ _ ⟨fun q hq => rfl, by rw [if_pos (Or.inr (nI_eq' (b := 0) (by omega) (by decide) c53))], by rw [if_pos (Or.inr (nI_eq' (b := 0) (by omega) (by decide) c53))]⟩)
          · skip
            refine kw_bipush (v := (-102)) dX11_commit_35 (by decide) ?_
            exact kw_iret dX11_commit_37 rfl (Nat.le_of_ble_eq_true rfl) (Nat.le_of_ble_eq_true rfl) (hK _ _ _ ⟨fun q hq => rfl, by rw [if_pos (Or.inr (Int32.not_le.mp c32))], by rw [if_pos (Or.inr (Int32.not_le.mp c32))]⟩)
      · skip
        exact absurd c20 (fun z => by cases z)
  · skip
    refine kw_bipush (v := (-106)) dX11_commit_10 (by decide) ?_
    exact kw_iret dX11_commit_12 rfl (Nat.le_of_ble_eq_true rfl) (Nat.le_of_ble_eq_true rfl) (hK _ _ _ ⟨fun _ _ => rfl, by rw [a_commit, if_pos (b2_n0.mp c7)], by rw [a_commit, if_pos (b2_n0.mp c7)]⟩)
