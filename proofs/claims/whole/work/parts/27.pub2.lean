/-! THE CLASS'S CALLS, 2: what is told -/
abbrev at_ (s : SG) : Nat := s.1 14
abbrev pn2_ (s : SG) : Nat := s.1 15
def byN (s : SG) (p : Nat) : Nat := sumN (fun j => if liesB s j (nI p) then sz_ s j else 0) (nb_ s)
def a_block (s : SG) (x w : Int32) : Int32 := if x < 0 ∨ nI (nb_ s) ≤ x then -101 else if w = 0 then b2 (th_ s (cl_ x)) else if w = 1 then nI (sz_ s (cl_ x)) else if w = 2 then nI (pk_ s (cl_ x)) else if w = 3 then nI (pp_ s (cl_ x)) else if w = 4 then nI (wt_ s (cl_ x)) else if w = 5 then b2 (!decide (ph_ s = 0) && mk_ s (cl_ x)) else if w = 6 then nI (useN s x) else if w = 7 then nI (cm_ s (cl_ x)) else if 8 ≤ w ∧ w ≤ 11 then (if cl_ w - 8 < cm_ s (cl_ x) then nI (ch_ s (cl_ x) (cl_ w - 8)) else -1) else -102
def a_pack (s : SG) (x w : Int32) : Int32 := if x < 0 ∨ nI (np_ s) ≤ x then -101 else if w = 0 then b2 (!gn_ s (cl_ x)) else if w = 1 then (if gn_ s (cl_ x) = true then 0 else nI (al_ s (cl_ x))) else if w = 2 then (if gn_ s (cl_ x) = true then 0 else nI (al_ s (cl_ x) - byN s (cl_ x))) else if w = 3 then nI (lieN s x) else -102
def a_snapshot (s : SG) (x w : Int32) : Int32 := if snOk s x = true then (if w < 0 ∨ nI (rm_ s (cl_ x) + 1) < w then -102 else if w = 0 then nI (tg_ s (cl_ x)) else if w = 1 then nI (rm_ s (cl_ x)) else nI (ro_ s (cl_ x) (cl_ w - 2))) else -101
def a_saver (s : SG) (x w : Int32) : Int32 := if svOk s x = true then (if w < 0 ∨ nI (um_ s (cl_ x) + 2) < w then -102 else if w = 0 then b2 (dead_ s (cl_ x)) else if w = 1 then nI (um_ s (cl_ x)) else if w = 2 then nI (km_ s (cl_ x)) else nI (us_ s (cl_ x) (cl_ w - 3))) else -101
def a_swept (s : SG) (w : Int32) : Int32 := if w = 0 then nI (ph_ s) else if w = 1 then (if ph_ s = 0 then -1 else if ph_ s = 1 then nI (rt_ s - rf_ s) else 0) else if w = 2 then (if ph_ s = 0 then -1 else nI (end_ s)) else if w = 3 then (if ph_ s = 0 ∨ ph_ s = 1 then -1 else nI (at_ s)) else -102
def mirS (s : SG) (m : Nat) : (Nat → Bool) × (Nat → Bool) := mrep s (md_ s m) 0 (fun _ => false, fun _ => false)
def a_has (s : SG) (m b : Int32) : Bool := if m < 0 ∨ 2 ≤ m ∨ b < 0 ∨ 80 ≤ b then false else (mirS s (cl_ m)).1 (cl_ b)
def a_follow (s : SG) (m n : Int32) : Int32 × SG := if m < 0 ∨ 2 ≤ m then (-101, s) else if n < 0 ∨ 500 < n then (-102, s) else (nI (nh_ s - min (nh_ s) (md_ s (cl_ m) + cl_ n)), sF s 12 (va_up (md_ s) (cl_ m) (min (nh_ s) (md_ s (cl_ m) + cl_ n))))
theorem sw_row {s : SG} (e0 : ¬ ph_ s = 0) (hrf : rf_ s ≤ rt_ s) (hrow : 2 ≤ ph_ s → rt_ s = rf_ s) : nI (rt_ s) - nI (rf_ s) = if ph_ s = 0 then -1 else if ph_ s = 1 then nI (rt_ s - rf_ s) else 0 := by
  rw [if_neg e0, pk_sub hrf]
  by_cases q : ph_ s = 1
  · rw [if_pos q]
  · rw [if_neg q, hrow (by omega), Nat.sub_self]; rfl
theorem sub_lt {y c n : Nat} (hy : y < 2 ^ 31) (hc : c ≤ 3) (hn : n < 2 ^ 30) (h : nI y - nI c < nI n) : y < n + c := by
  by_cases q : c ≤ y
  · rw [pk_sub q] at h
    have := nI_lt' (by omega) (by omega) h
    omega
  · omega
theorem sub_nlt {y c n : Nat} (hy : y < 2 ^ 31) (hc : c ≤ 3) (hn : n < 2 ^ 30) (h : ¬ nI y - nI c < nI n) : n + c ≤ y := by
  by_cases q : c ≤ y
  · rw [pk_sub q] at h
    have := nI_nlt' (by omega) (by omega) h
    omega
  · exfalso
    apply h
    have h1 : nI y - nI c < 0 := pk_sneg (by omega) (by omega)
    exact Int32.lt_of_lt_of_le h1 (nI_pos' (by omega))
set_option maxHeartbeats 4000000 in
set_option maxRecDepth 100000 in
theorem P_block (l : Launch) (s : SG) (k : KG) (hb : nb_ s ≤ 80) (hph : ph_ s ≤ 4) (hu : ∀ i, i < 4 → um_ s i ≤ 8) (hcm : ∀ j, j < nb_ s → cm_ s j ≤ 4) (x w : Int32) : kw_F l yX11_block cX11_block 4 (Option.some Jvm.ClassFile.FieldType.int) { frames := 2, cells := 0, slots := 0, locals := 45 } [pr_ (0, 0), pi_ x, pi_ w] (hC s k) (some (pi_ (a_block s x w))) (hC s k) := by
  refine kw_M_of RX11 "block" [some (pr_ (0, 0)), some (pi_ x), some (pi_ w), none] (by decide) rfl rfl rfl (Nat.le_of_ble_eq_true rfl) ?_
  intro D ad A
  refine kw_Kgen (fun K hK => ?_)
  refine kw_iload_n dX11_block_0 rfl ?_
  refine kw_if_lt (tgt := 15) dX11_block_1 (by decide) (fun c1 => ?_) (fun c1 => ?_)
  · skip
    refine kw_bipush (v := (-101)) dX11_block_15 (by decide) ?_
    exact kw_iret dX11_block_17 rfl (Nat.le_of_ble_eq_true rfl) (Nat.le_of_ble_eq_true rfl) (hK _ _ _ ⟨rfl, by rw [a_block, if_pos (Or.inl c1)], rfl⟩)
  · skip
    refine kw_iload_n dX11_block_4 rfl ?_
    refine kw_aload_n dX11_block_5 rfl ?_
    refine kw_get dX11_block_6 fl_X11_30 rfl rfl ?_
    refine kw_get dX11_block_9 fl_X11_277 rfl rfl ?_
    refine kw_icmp_lt (tgt := 18) dX11_block_12 (by decide) (fun c12 => ?_) (fun c12 => ?_)
    · skip
      rw [a_block, if_neg (fun q => q.elim c1 (fun z => Int32.not_le.mpr c12 z))] at hK
      obtain ⟨j, hj, rfl⟩ := nI_of c1
      have hlt : j < nb_ s := nI_lt' hj (by omega) c12
      have hc4 := hcm j hlt
      rw [cl_, nI_clamp hj] at hK
      refine kw_aload_n dX11_block_18 rfl ?_
      refine kw_get dX11_block_19 fl_X11_30 rfl rfl ?_
      refine kw_get dX11_block_22 fl_X11_298 rfl rfl ?_
      refine kw_iload_n dX11_block_25 rfl ?_
      refine kw_aaldN dX11_block_26 rfl (by omega) (by decide) (if_pos hlt) ?_
      refine kw_astore_n dX11_block_27 (Nat.le_of_ble_eq_true rfl) ?_
      refine kw_iload_n dX11_block_28 rfl ?_
      by_cases e0 : w = 0
      · skip
        subst e0
        refine kw_tableIn (off := 63) (tgt := 92) dX11_block_29 (by decide) (by decide) (by decide) (by decide) ?_
        refine kw_aload_n dX11_block_92 rfl ?_
        refine kw_get dX11_block_93 fl_X11_302 (hC_bl hlt) rfl ?_
        refine kw_if_eq (tgt := 103) dX11_block_96 (by decide) (fun c96 => ?_) (fun c96 => ?_)
        · skip
          refine kw_iconst (v := 1) dX11_block_103 (by decide) ?_
          exact kw_iret dX11_block_104 rfl (Nat.le_of_ble_eq_true rfl) (Nat.le_of_ble_eq_true rfl) (hK _ _ _ ⟨rfl, congrArg (fun z => some (pi_ z)) (show (1 : Int32) = b2 (th_ s j) by rw [not_b2 c96]; rfl), rfl⟩)
        · skip
          refine kw_iconst (v := 0) dX11_block_99 (by decide) ?_
          refine kw_goto (tgt := 104) dX11_block_100 (by decide) ?_
          exact kw_iret dX11_block_104 rfl (Nat.le_of_ble_eq_true rfl) (Nat.le_of_ble_eq_true rfl) (hK _ _ _ ⟨rfl, congrArg (fun z => some (pi_ z)) (show (0 : Int32) = b2 (th_ s j) by rw [not_b2n c96]; rfl), rfl⟩)
      by_cases e1 : w = 1
      · skip
        subst e1
        refine kw_tableIn (off := 76) (tgt := 105) dX11_block_29 (by decide) (by decide) (by decide) (by decide) ?_
        refine kw_aload_n dX11_block_105 rfl ?_
        refine kw_get dX11_block_106 fl_X11_307 (hC_bl hlt) rfl ?_
        exact kw_iret dX11_block_109 rfl (Nat.le_of_ble_eq_true rfl) (Nat.le_of_ble_eq_true rfl) (hK _ _ _ ⟨rfl, rfl, rfl⟩)
      by_cases e2 : w = 2
      · skip
        subst e2
        refine kw_tableIn (off := 81) (tgt := 110) dX11_block_29 (by decide) (by decide) (by decide) (by decide) ?_
        refine kw_aload_n dX11_block_110 rfl ?_
        refine kw_get dX11_block_111 fl_X11_310 (hC_bl hlt) rfl ?_
        exact kw_iret dX11_block_114 rfl (Nat.le_of_ble_eq_true rfl) (Nat.le_of_ble_eq_true rfl) (hK _ _ _ ⟨rfl, rfl, rfl⟩)
      by_cases e3 : w = 3
      · skip
        subst e3
        refine kw_tableIn (off := 86) (tgt := 115) dX11_block_29 (by decide) (by decide) (by decide) (by decide) ?_
        refine kw_aload_n dX11_block_115 rfl ?_
        refine kw_get dX11_block_116 fl_X11_313 (hC_bl hlt) rfl ?_
        exact kw_iret dX11_block_119 rfl (Nat.le_of_ble_eq_true rfl) (Nat.le_of_ble_eq_true rfl) (hK _ _ _ ⟨rfl, rfl, rfl⟩)
      by_cases e4 : w = 4
      · skip
        subst e4
        refine kw_tableIn (off := 91) (tgt := 120) dX11_block_29 (by decide) (by decide) (by decide) (by decide) ?_
        refine kw_aload_n dX11_block_120 rfl ?_
        refine kw_get dX11_block_121 fl_X11_316 (hC_bl hlt) rfl ?_
        exact kw_iret dX11_block_124 rfl (Nat.le_of_ble_eq_true rfl) (Nat.le_of_ble_eq_true rfl) (hK _ _ _ ⟨rfl, rfl, rfl⟩)
      by_cases e5 : w = 5
      · skip
        subst e5
        refine kw_tableIn (off := 96) (tgt := 125) dX11_block_29 (by decide) (by decide) (by decide) (by decide) ?_
        refine kw_aload_n dX11_block_125 rfl ?_
        refine kw_get dX11_block_126 fl_X11_39 rfl rfl ?_
        refine kw_get dX11_block_129 fl_X11_229 rfl rfl ?_
        refine kw_if_eq (tgt := 146) dX11_block_132 (by decide) (fun c132 => ?_) (fun c132 => ?_)
        · skip
          have e0 : ph_ s = 0 := nI_eq' (b := 0) (by omega) (by decide) c132
          refine kw_iconst (v := 0) dX11_block_146 (by decide) ?_
          exact kw_iret dX11_block_147 rfl (Nat.le_of_ble_eq_true rfl) (Nat.le_of_ble_eq_true rfl) (hK _ _ _ ⟨rfl, congrArg (fun z => some (pi_ z)) (show (0 : Int32) = b2 (!decide (ph_ s = 0) && mk_ s j) by rw [decide_eq_true e0]; rfl), rfl⟩)
        · skip
          have e0 : ¬ ph_ s = 0 := fun q => c132 (by rw [q]; rfl)
          refine kw_aload_n dX11_block_135 rfl ?_
          refine kw_get dX11_block_136 fl_X11_319 (hC_bl hlt) rfl ?_
          refine kw_if_eq (tgt := 146) dX11_block_139 (by decide) (fun c139 => ?_) (fun c139 => ?_)
          · skip
            refine kw_iconst (v := 0) dX11_block_146 (by decide) ?_
            exact kw_iret dX11_block_147 rfl (Nat.le_of_ble_eq_true rfl) (Nat.le_of_ble_eq_true rfl) (hK _ _ _ ⟨rfl, congrArg (fun z => some (pi_ z)) (show (0 : Int32) = b2 (!decide (ph_ s = 0) && mk_ s j) by rw [b2_0.mp c139, Bool.and_false]; rfl), rfl⟩)
          · skip
            refine kw_iconst (v := 1) dX11_block_142 (by decide) ?_
            refine kw_goto (tgt := 147) dX11_block_143 (by decide) ?_
            exact kw_iret dX11_block_147 rfl (Nat.le_of_ble_eq_true rfl) (Nat.le_of_ble_eq_true rfl) (hK _ _ _ ⟨rfl, congrArg (fun z => some (pi_ z)) (show (1 : Int32) = b2 (!decide (ph_ s = 0) && mk_ s j) by rw [decide_eq_false e0, b2_n0.mp c139]; rfl), rfl⟩)
      by_cases e6 : w = 6
      · skip
        subst e6
        refine kw_tableIn (off := 119) (tgt := 148) dX11_block_29 (by decide) (by decide) (by decide) (by decide) ?_
        refine kw_aload_n dX11_block_148 rfl ?_
        refine kw_iload_n dX11_block_149 rfl ?_
        refine kw_callVf (As := [pi_ (nI j)]) (o_using l s k hu (nI j)) dX11_block_150 cl_X11_322 rfl rfl rfl rfl (Nat.le_of_ble_eq_true rfl) ⟨(Nat.le_of_ble_eq_true rfl), (Nat.le_of_ble_eq_true rfl), (Nat.le_of_ble_eq_true rfl), (Nat.le_of_ble_eq_true rfl)⟩ ?_
        exact kw_iret dX11_block_153 rfl (Nat.le_of_ble_eq_true rfl) (Nat.le_of_ble_eq_true rfl) (hK _ _ _ ⟨rfl, rfl, rfl⟩)
      by_cases e7 : w = 7
      · skip
        subst e7
        refine kw_tableIn (off := 125) (tgt := 154) dX11_block_29 (by decide) (by decide) (by decide) (by decide) ?_
        refine kw_aload_n dX11_block_154 rfl ?_
        refine kw_get dX11_block_155 fl_X11_325 (hC_bl hlt) rfl ?_
        refine kw_alen dX11_block_158 (hC_ch hlt) ?_
        exact kw_iret dX11_block_159 rfl (Nat.le_of_ble_eq_true rfl) (Nat.le_of_ble_eq_true rfl) (hK _ _ _ ⟨rfl, rfl, rfl⟩)
      by_cases e8 : w = 8
      · skip
        subst e8
        refine kw_tableIn (off := 131) (tgt := 160) dX11_block_29 (by decide) (by decide) (by decide) (by decide) ?_
        refine kw_iload_n dX11_block_160 rfl ?_
        refine kw_bipush (v := 8) dX11_block_161 (by decide) ?_
        refine kw_isub dX11_block_163 ?_
        refine kw_top (v' := pi_ (nI 0)) (by decide) ?_
        refine kw_aload_n dX11_block_164 rfl ?_
        refine kw_get dX11_block_165 fl_X11_325 (hC_bl hlt) rfl ?_
        refine kw_alen dX11_block_168 (hC_ch hlt) ?_
        refine kw_icmp_ge (tgt := 184) dX11_block_169 (by decide) (fun c169 => ?_) (fun c169 => ?_)
        · skip
          refine kw_iconst (v := (-1)) dX11_block_184 (by decide) ?_
          exact kw_iret dX11_block_185 rfl (Nat.le_of_ble_eq_true rfl) (Nat.le_of_ble_eq_true rfl) (hK _ _ _ ⟨rfl, congrArg (fun z => some (pi_ z)) (show (-1 : Int32) = if 0 < cm_ s j then nI (ch_ s j 0) else -1 by rw [if_neg (Nat.not_lt.mpr (nI_le' (a := cm_ s j) (by omega) (by decide) c169))]), rfl⟩)
        · skip
          refine kw_aload_n dX11_block_172 rfl ?_
          refine kw_get dX11_block_173 fl_X11_325 (hC_bl hlt) rfl ?_
          refine kw_iload_n dX11_block_176 rfl ?_
          refine kw_bipush (v := 8) dX11_block_177 (by decide) ?_
          refine kw_isub dX11_block_179 ?_
          refine kw_top (v' := pi_ (nI 0)) (by decide) ?_
          refine kw_ialdN dX11_block_180 (hC_ch hlt) (nI_nle' (a := cm_ s j) (by omega) (by decide) c169) (by omega) ?_
          refine kw_goto (tgt := 185) dX11_block_181 (by decide) ?_
          exact kw_iret dX11_block_185 rfl (Nat.le_of_ble_eq_true rfl) (Nat.le_of_ble_eq_true rfl) (hK _ _ _ ⟨rfl, congrArg (fun z => some (pi_ z)) (show nI (ch_ s j 0) = if 0 < cm_ s j then nI (ch_ s j 0) else -1 by rw [if_pos (nI_nle' (a := cm_ s j) (by omega) (by decide) c169)]), rfl⟩)
      by_cases e9 : w = 9
      · skip
        subst e9
        refine kw_tableIn (off := 131) (tgt := 160) dX11_block_29 (by decide) (by decide) (by decide) (by decide) ?_
        refine kw_iload_n dX11_block_160 rfl ?_
        refine kw_bipush (v := 8) dX11_block_161 (by decide) ?_
        refine kw_isub dX11_block_163 ?_
        refine kw_top (v' := pi_ (nI 1)) (by decide) ?_
        refine kw_aload_n dX11_block_164 rfl ?_
        refine kw_get dX11_block_165 fl_X11_325 (hC_bl hlt) rfl ?_
        refine kw_alen dX11_block_168 (hC_ch hlt) ?_
        refine kw_icmp_ge (tgt := 184) dX11_block_169 (by decide) (fun c169 => ?_) (fun c169 => ?_)
        · skip
          refine kw_iconst (v := (-1)) dX11_block_184 (by decide) ?_
          exact kw_iret dX11_block_185 rfl (Nat.le_of_ble_eq_true rfl) (Nat.le_of_ble_eq_true rfl) (hK _ _ _ ⟨rfl, congrArg (fun z => some (pi_ z)) (show (-1 : Int32) = if 1 < cm_ s j then nI (ch_ s j 1) else -1 by rw [if_neg (Nat.not_lt.mpr (nI_le' (a := cm_ s j) (by omega) (by decide) c169))]), rfl⟩)
        · skip
          refine kw_aload_n dX11_block_172 rfl ?_
          refine kw_get dX11_block_173 fl_X11_325 (hC_bl hlt) rfl ?_
          refine kw_iload_n dX11_block_176 rfl ?_
          refine kw_bipush (v := 8) dX11_block_177 (by decide) ?_
          refine kw_isub dX11_block_179 ?_
          refine kw_top (v' := pi_ (nI 1)) (by decide) ?_
          refine kw_ialdN dX11_block_180 (hC_ch hlt) (nI_nle' (a := cm_ s j) (by omega) (by decide) c169) (by omega) ?_
          refine kw_goto (tgt := 185) dX11_block_181 (by decide) ?_
          exact kw_iret dX11_block_185 rfl (Nat.le_of_ble_eq_true rfl) (Nat.le_of_ble_eq_true rfl) (hK _ _ _ ⟨rfl, congrArg (fun z => some (pi_ z)) (show nI (ch_ s j 1) = if 1 < cm_ s j then nI (ch_ s j 1) else -1 by rw [if_pos (nI_nle' (a := cm_ s j) (by omega) (by decide) c169)]), rfl⟩)
      by_cases e10 : w = 10
      · skip
        subst e10
        refine kw_tableIn (off := 131) (tgt := 160) dX11_block_29 (by decide) (by decide) (by decide) (by decide) ?_
        refine kw_iload_n dX11_block_160 rfl ?_
        refine kw_bipush (v := 8) dX11_block_161 (by decide) ?_
        refine kw_isub dX11_block_163 ?_
        refine kw_top (v' := pi_ (nI 2)) (by decide) ?_
        refine kw_aload_n dX11_block_164 rfl ?_
        refine kw_get dX11_block_165 fl_X11_325 (hC_bl hlt) rfl ?_
        refine kw_alen dX11_block_168 (hC_ch hlt) ?_
        refine kw_icmp_ge (tgt := 184) dX11_block_169 (by decide) (fun c169 => ?_) (fun c169 => ?_)
        · skip
          refine kw_iconst (v := (-1)) dX11_block_184 (by decide) ?_
          exact kw_iret dX11_block_185 rfl (Nat.le_of_ble_eq_true rfl) (Nat.le_of_ble_eq_true rfl) (hK _ _ _ ⟨rfl, congrArg (fun z => some (pi_ z)) (show (-1 : Int32) = if 2 < cm_ s j then nI (ch_ s j 2) else -1 by rw [if_neg (Nat.not_lt.mpr (nI_le' (a := cm_ s j) (by omega) (by decide) c169))]), rfl⟩)
        · skip
          refine kw_aload_n dX11_block_172 rfl ?_
          refine kw_get dX11_block_173 fl_X11_325 (hC_bl hlt) rfl ?_
          refine kw_iload_n dX11_block_176 rfl ?_
          refine kw_bipush (v := 8) dX11_block_177 (by decide) ?_
          refine kw_isub dX11_block_179 ?_
          refine kw_top (v' := pi_ (nI 2)) (by decide) ?_
          refine kw_ialdN dX11_block_180 (hC_ch hlt) (nI_nle' (a := cm_ s j) (by omega) (by decide) c169) (by omega) ?_
          refine kw_goto (tgt := 185) dX11_block_181 (by decide) ?_
          exact kw_iret dX11_block_185 rfl (Nat.le_of_ble_eq_true rfl) (Nat.le_of_ble_eq_true rfl) (hK _ _ _ ⟨rfl, congrArg (fun z => some (pi_ z)) (show nI (ch_ s j 2) = if 2 < cm_ s j then nI (ch_ s j 2) else -1 by rw [if_pos (nI_nle' (a := cm_ s j) (by omega) (by decide) c169)]), rfl⟩)
      by_cases e11 : w = 11
      · skip
        subst e11
        refine kw_tableIn (off := 131) (tgt := 160) dX11_block_29 (by decide) (by decide) (by decide) (by decide) ?_
        refine kw_iload_n dX11_block_160 rfl ?_
        refine kw_bipush (v := 8) dX11_block_161 (by decide) ?_
        refine kw_isub dX11_block_163 ?_
        refine kw_top (v' := pi_ (nI 3)) (by decide) ?_
        refine kw_aload_n dX11_block_164 rfl ?_
        refine kw_get dX11_block_165 fl_X11_325 (hC_bl hlt) rfl ?_
        refine kw_alen dX11_block_168 (hC_ch hlt) ?_
        refine kw_icmp_ge (tgt := 184) dX11_block_169 (by decide) (fun c169 => ?_) (fun c169 => ?_)
        · skip
          refine kw_iconst (v := (-1)) dX11_block_184 (by decide) ?_
          exact kw_iret dX11_block_185 rfl (Nat.le_of_ble_eq_true rfl) (Nat.le_of_ble_eq_true rfl) (hK _ _ _ ⟨rfl, congrArg (fun z => some (pi_ z)) (show (-1 : Int32) = if 3 < cm_ s j then nI (ch_ s j 3) else -1 by rw [if_neg (Nat.not_lt.mpr (nI_le' (a := cm_ s j) (by omega) (by decide) c169))]), rfl⟩)
        · skip
          refine kw_aload_n dX11_block_172 rfl ?_
          refine kw_get dX11_block_173 fl_X11_325 (hC_bl hlt) rfl ?_
          refine kw_iload_n dX11_block_176 rfl ?_
          refine kw_bipush (v := 8) dX11_block_177 (by decide) ?_
          refine kw_isub dX11_block_179 ?_
          refine kw_top (v' := pi_ (nI 3)) (by decide) ?_
          refine kw_ialdN dX11_block_180 (hC_ch hlt) (nI_nle' (a := cm_ s j) (by omega) (by decide) c169) (by omega) ?_
          refine kw_goto (tgt := 185) dX11_block_181 (by decide) ?_
          exact kw_iret dX11_block_185 rfl (Nat.le_of_ble_eq_true rfl) (Nat.le_of_ble_eq_true rfl) (hK _ _ _ ⟨rfl, congrArg (fun z => some (pi_ z)) (show nI (ch_ s j 3) = if 3 < cm_ s j then nI (ch_ s j 3) else -1 by rw [if_pos (nI_nle' (a := cm_ s j) (by omega) (by decide) c169)]), rfl⟩)
      have n0 : (w).toInt ≠ 0 := fun q => e0 (Int32.toInt_inj.mp (q.trans (by decide)))
      have n1 : (w).toInt ≠ 1 := fun q => e1 (Int32.toInt_inj.mp (q.trans (by decide)))
      have n2 : (w).toInt ≠ 2 := fun q => e2 (Int32.toInt_inj.mp (q.trans (by decide)))
      have n3 : (w).toInt ≠ 3 := fun q => e3 (Int32.toInt_inj.mp (q.trans (by decide)))
      have n4 : (w).toInt ≠ 4 := fun q => e4 (Int32.toInt_inj.mp (q.trans (by decide)))
      have n5 : (w).toInt ≠ 5 := fun q => e5 (Int32.toInt_inj.mp (q.trans (by decide)))
      have n6 : (w).toInt ≠ 6 := fun q => e6 (Int32.toInt_inj.mp (q.trans (by decide)))
      have n7 : (w).toInt ≠ 7 := fun q => e7 (Int32.toInt_inj.mp (q.trans (by decide)))
      have n8 : (w).toInt ≠ 8 := fun q => e8 (Int32.toInt_inj.mp (q.trans (by decide)))
      have n9 : (w).toInt ≠ 9 := fun q => e9 (Int32.toInt_inj.mp (q.trans (by decide)))
      have n10 : (w).toInt ≠ 10 := fun q => e10 (Int32.toInt_inj.mp (q.trans (by decide)))
      have n11 : (w).toInt ≠ 11 := fun q => e11 (Int32.toInt_inj.mp (q.trans (by decide)))
      refine kw_tableOut (tgt := 186) dX11_block_29 (by omega) (by decide) ?_
      refine kw_bipush (v := (-102)) dX11_block_186 (by decide) ?_
      exact kw_iret dX11_block_188 rfl (Nat.le_of_ble_eq_true rfl) (Nat.le_of_ble_eq_true rfl) (hK _ _ _ ⟨rfl, by rw [if_neg e0, if_neg e1, if_neg e2, if_neg e3, if_neg e4, if_neg e5, if_neg e6, if_neg e7, if_neg (fun q => by have q1 := Int32.le_iff_toInt_le.mp q.1; have q2 := Int32.le_iff_toInt_le.mp q.2; rw [show (8 : Int32).toInt = 8 from by decide] at q1; rw [show (11 : Int32).toInt = 11 from by decide] at q2; omega)], rfl⟩)
    · skip
      refine kw_bipush (v := (-101)) dX11_block_15 (by decide) ?_
      exact kw_iret dX11_block_17 rfl (Nat.le_of_ble_eq_true rfl) (Nat.le_of_ble_eq_true rfl) (hK _ _ _ ⟨rfl, by rw [a_block, if_pos (Or.inr (Int32.not_lt.mp c12))], rfl⟩)
set_option maxHeartbeats 4000000 in
set_option maxRecDepth 100000 in
theorem P_pack (l : Launch) (s : SG) (k : KG) (hb : nb_ s ≤ 80) (hp : np_ s ≤ 40) (ha : ∀ j, j < np_ s → ac_ k j = if gn_ s j = true then 0 else al_ s j) (hh : ∀ j, j < np_ s → ho_ k j = if gn_ s j = true then 0 else al_ s j - byN s j) (x w : Int32) : kw_F l yX11_pack cX11_pack 4 (Option.some Jvm.ClassFile.FieldType.int) { frames := 2, cells := 0, slots := 0, locals := 45 } [pr_ (0, 0), pi_ x, pi_ w] (hC s k) (some (pi_ (a_pack s x w))) (hC s k) := by
  refine kw_M_of RX11 "pack" [some (pr_ (0, 0)), some (pi_ x), some (pi_ w), none] (by decide) rfl rfl rfl (Nat.le_of_ble_eq_true rfl) ?_
  intro D ad A
  refine kw_Kgen (fun K hK => ?_)
  refine kw_iload_n dX11_pack_0 rfl ?_
  refine kw_if_lt (tgt := 15) dX11_pack_1 (by decide) (fun c1 => ?_) (fun c1 => ?_)
  · skip
    refine kw_bipush (v := (-101)) dX11_pack_15 (by decide) ?_
    exact kw_iret dX11_pack_17 rfl (Nat.le_of_ble_eq_true rfl) (Nat.le_of_ble_eq_true rfl) (hK _ _ _ ⟨rfl, by rw [a_pack, if_pos (Or.inl c1)], rfl⟩)
  · skip
    refine kw_iload_n dX11_pack_4 rfl ?_
    refine kw_aload_n dX11_pack_5 rfl ?_
    refine kw_get dX11_pack_6 fl_X11_30 rfl rfl ?_
    refine kw_get dX11_pack_9 fl_X11_283 rfl rfl ?_
    refine kw_icmp_lt (tgt := 18) dX11_pack_12 (by decide) (fun c12 => ?_) (fun c12 => ?_)
    · skip
      rw [a_pack, if_neg (fun q => q.elim c1 (fun z => Int32.not_le.mpr c12 z))] at hK
      obtain ⟨j, hj, rfl⟩ := nI_of c1
      have hlt : j < np_ s := nI_lt' hj (by omega) c12
      rw [cl_, nI_clamp hj] at hK
      refine kw_aload_n dX11_pack_18 rfl ?_
      refine kw_get dX11_pack_19 fl_X11_30 rfl rfl ?_
      refine kw_get dX11_pack_22 fl_X11_329 rfl rfl ?_
      refine kw_iload_n dX11_pack_25 rfl ?_
      refine kw_aaldN dX11_pack_26 rfl (by omega) (by decide) (if_pos hlt) ?_
      refine kw_astore_n dX11_pack_27 (Nat.le_of_ble_eq_true rfl) ?_
      refine kw_iload_n dX11_pack_28 rfl ?_
      by_cases e0 : w = 0
      · skip
        subst e0
        refine kw_tableIn (off := 31) (tgt := 60) dX11_pack_29 (by decide) (by decide) (by decide) (by decide) ?_
        refine kw_aload_n dX11_pack_60 rfl ?_
        refine kw_get dX11_pack_61 fl_X11_333 (hC_pa hlt) rfl ?_
        refine kw_if_eq (tgt := 71) dX11_pack_64 (by decide) (fun c64 => ?_) (fun c64 => ?_)
        · skip
          refine kw_iconst (v := 1) dX11_pack_71 (by decide) ?_
          exact kw_iret dX11_pack_72 rfl (Nat.le_of_ble_eq_true rfl) (Nat.le_of_ble_eq_true rfl) (hK _ _ _ ⟨rfl, congrArg (fun z => some (pi_ z)) (show (1 : Int32) = b2 (!gn_ s j) by rw [b2_0.mp c64]; rfl), rfl⟩)
        · skip
          refine kw_iconst (v := 0) dX11_pack_67 (by decide) ?_
          refine kw_goto (tgt := 72) dX11_pack_68 (by decide) ?_
          exact kw_iret dX11_pack_72 rfl (Nat.le_of_ble_eq_true rfl) (Nat.le_of_ble_eq_true rfl) (hK _ _ _ ⟨rfl, congrArg (fun z => some (pi_ z)) (show (0 : Int32) = b2 (!gn_ s j) by rw [b2_n0.mp c64]; rfl), rfl⟩)
      by_cases e1 : w = 1
      · skip
        subst e1
        refine kw_tableIn (off := 44) (tgt := 73) dX11_pack_29 (by decide) (by decide) (by decide) (by decide) ?_
        refine kw_aload_n dX11_pack_73 rfl ?_
        refine kw_get dX11_pack_74 fl_X11_336 (hC_pa hlt) rfl ?_
        exact kw_iret dX11_pack_77 rfl (Nat.le_of_ble_eq_true rfl) (Nat.le_of_ble_eq_true rfl) (hK _ _ _ ⟨rfl, congrArg (fun z => some (pi_ z)) (show nI (ac_ k j) = if gn_ s j = true then 0 else nI (al_ s j) by rw [ha j hlt]; split <;> rfl), rfl⟩)
      by_cases e2 : w = 2
      · skip
        subst e2
        refine kw_tableIn (off := 49) (tgt := 78) dX11_pack_29 (by decide) (by decide) (by decide) (by decide) ?_
        refine kw_aload_n dX11_pack_78 rfl ?_
        refine kw_get dX11_pack_79 fl_X11_339 (hC_pa hlt) rfl ?_
        exact kw_iret dX11_pack_82 rfl (Nat.le_of_ble_eq_true rfl) (Nat.le_of_ble_eq_true rfl) (hK _ _ _ ⟨rfl, congrArg (fun z => some (pi_ z)) (show nI (ho_ k j) = if gn_ s j = true then 0 else nI (al_ s j - byN s j) by rw [hh j hlt]; split <;> rfl), rfl⟩)
      by_cases e3 : w = 3
      · skip
        subst e3
        refine kw_tableIn (off := 54) (tgt := 83) dX11_pack_29 (by decide) (by decide) (by decide) (by decide) ?_
        refine kw_aload_n dX11_pack_83 rfl ?_
        refine kw_get dX11_pack_84 fl_X11_30 rfl rfl ?_
        refine kw_iload_n dX11_pack_87 rfl ?_
        refine kw_callVf (As := [pi_ (nI j)]) (t_blocksIn l s k hb (nI j)) dX11_pack_88 cl_X11_342 rfl rfl rfl rfl (Nat.le_of_ble_eq_true rfl) ⟨(Nat.le_of_ble_eq_true rfl), (Nat.le_of_ble_eq_true rfl), (Nat.le_of_ble_eq_true rfl), (Nat.le_of_ble_eq_true rfl)⟩ ?_
        exact kw_iret dX11_pack_91 rfl (Nat.le_of_ble_eq_true rfl) (Nat.le_of_ble_eq_true rfl) (hK _ _ _ ⟨rfl, rfl, rfl⟩)
      have n0 : (w).toInt ≠ 0 := fun q => e0 (Int32.toInt_inj.mp (q.trans (by decide)))
      have n1 : (w).toInt ≠ 1 := fun q => e1 (Int32.toInt_inj.mp (q.trans (by decide)))
      have n2 : (w).toInt ≠ 2 := fun q => e2 (Int32.toInt_inj.mp (q.trans (by decide)))
      have n3 : (w).toInt ≠ 3 := fun q => e3 (Int32.toInt_inj.mp (q.trans (by decide)))
      refine kw_tableOut (tgt := 92) dX11_pack_29 (by omega) (by decide) ?_
      refine kw_bipush (v := (-102)) dX11_pack_92 (by decide) ?_
      exact kw_iret dX11_pack_94 rfl (Nat.le_of_ble_eq_true rfl) (Nat.le_of_ble_eq_true rfl) (hK _ _ _ ⟨rfl, by rw [if_neg e0, if_neg e1, if_neg e2, if_neg e3], rfl⟩)
    · skip
      refine kw_bipush (v := (-101)) dX11_pack_15 (by decide) ?_
      exact kw_iret dX11_pack_17 rfl (Nat.le_of_ble_eq_true rfl) (Nat.le_of_ble_eq_true rfl) (hK _ _ _ ⟨rfl, by rw [a_pack, if_pos (Or.inr (Int32.not_lt.mp c12))], rfl⟩)
set_option maxHeartbeats 4000000 in
set_option maxRecDepth 100000 in
theorem P_snapshot (l : Launch) (s : SG) (k : KG) (hns : ns_ s ≤ 40) (hrm : ∀ j, j < ns_ s → rm_ s j ≤ 8) (x w : Int32) : kw_F l yX11_snapshot cX11_snapshot 4 (Option.some Jvm.ClassFile.FieldType.int) { frames := 1, cells := 0, slots := 0, locals := 21 } [pr_ (0, 0), pi_ x, pi_ w] (hC s k) (some (pi_ (a_snapshot s x w))) (hC s k) := by
  refine kw_M_of RX11 "snapshot" [some (pr_ (0, 0)), some (pi_ x), some (pi_ w), none] (by decide) rfl rfl rfl (Nat.le_of_ble_eq_true rfl) ?_
  intro D ad A
  refine kw_Kgen (fun K hK => ?_)
  rcases ix_cases (p := kp_ s) (n := ns_ s) (by omega) x with ⟨h1, h2⟩ | ⟨j, hj, rfl, h3, h4, h5⟩
  · rw [a_snapshot, if_neg (by rw [snOk, h1]; decide)] at hK
    refine kw_aload_n dX11_snapshot_0 rfl ?_
    refine kw_iload_n dX11_snapshot_1 rfl ?_
    refine kw_callVf (As := [pi_ x]) (o_snIs l s k hns x) dX11_snapshot_2 cl_X11_203 rfl rfl rfl rfl (Nat.le_of_ble_eq_true rfl) ⟨(Nat.le_of_ble_eq_true rfl), (Nat.le_of_ble_eq_true rfl), (Nat.le_of_ble_eq_true rfl), (Nat.le_of_ble_eq_true rfl)⟩ ?_
    refine kw_if_ne (tgt := 11) dX11_snapshot_5 (by decide) (fun c5 => ?_) (fun c5 => ?_)
    · skip
      exact absurd (by rw [snOk, h1]; rfl) c5
    · skip
      refine kw_bipush (v := (-101)) dX11_snapshot_8 (by decide) ?_
      exact kw_iret dX11_snapshot_10 rfl (Nat.le_of_ble_eq_true rfl) (Nat.le_of_ble_eq_true rfl) (hK _ _ _ ⟨rfl, rfl, rfl⟩)
  · rw [a_snapshot, if_pos (by rw [snOk, h4]), h5] at hK
    have hr8 := hrm j hj
    refine kw_aload_n dX11_snapshot_0 rfl ?_
    refine kw_iload_n dX11_snapshot_1 rfl ?_
    refine kw_callVf (As := [pi_ (nI j)]) (o_snIs l s k hns (nI j)) dX11_snapshot_2 cl_X11_203 rfl rfl rfl rfl (Nat.le_of_ble_eq_true rfl) ⟨(Nat.le_of_ble_eq_true rfl), (Nat.le_of_ble_eq_true rfl), (Nat.le_of_ble_eq_true rfl), (Nat.le_of_ble_eq_true rfl)⟩ ?_
    refine kw_if_ne (tgt := 11) dX11_snapshot_5 (by decide) (fun c5 => ?_) (fun c5 => ?_)
    · skip
      refine kw_aload_n dX11_snapshot_11 rfl ?_
      refine kw_get dX11_snapshot_12 fl_X11_59 rfl rfl ?_
      refine kw_iload_n dX11_snapshot_15 rfl ?_
      refine kw_aaldN dX11_snapshot_16 rfl (by omega) (by decide) (if_pos hj) ?_
      refine kw_astore_n dX11_snapshot_17 (Nat.le_of_ble_eq_true rfl) ?_
      refine kw_iload_n dX11_snapshot_18 rfl ?_
      refine kw_if_lt (tgt := 33) dX11_snapshot_19 (by decide) (fun c19 => ?_) (fun c19 => ?_)
      · skip
        refine kw_bipush (v := (-102)) dX11_snapshot_33 (by decide) ?_
        exact kw_iret dX11_snapshot_35 rfl (Nat.le_of_ble_eq_true rfl) (Nat.le_of_ble_eq_true rfl) (hK _ _ _ ⟨rfl, by rw [if_pos (Or.inl c19)], rfl⟩)
      · skip
        obtain ⟨y, hy, rfl⟩ := nI_of c19
        refine kw_iload_n dX11_snapshot_22 rfl ?_
        refine kw_iconst (v := 2) dX11_snapshot_23 (by decide) ?_
        refine kw_isub dX11_snapshot_24 ?_
        refine kw_aload_n dX11_snapshot_25 rfl ?_
        refine kw_get dX11_snapshot_26 fl_X11_238 (hC_sn hj) rfl ?_
        refine kw_alen dX11_snapshot_29 (hC_rt hj) ?_
        refine kw_icmp_lt (tgt := 36) dX11_snapshot_30 (by decide) (fun c30 => ?_) (fun c30 => ?_)
        · skip
          have hg := sub_lt (c := 2) (n := rm_ s j) hy (by decide) (by omega) c30
          rw [if_neg (fun q => q.elim c19 (fun z => absurd (nI_lt' (by omega) hy z) (by omega)))] at hK
          refine kw_iload_n dX11_snapshot_36 rfl ?_
          by_cases e0 : y = 0
          · subst e0
            refine kw_lookup (off := 27) (tgt := 64) dX11_snapshot_37 (by decide) (by decide) (by decide) ?_
            refine kw_aload_n dX11_snapshot_64 rfl ?_
            refine kw_get dX11_snapshot_65 fl_X11_345 (hC_sn hj) rfl ?_
            exact kw_iret dX11_snapshot_68 rfl (Nat.le_of_ble_eq_true rfl) (Nat.le_of_ble_eq_true rfl) (hK _ _ _ ⟨rfl, rfl, rfl⟩)
          by_cases e1 : y = 1
          · subst e1
            refine kw_lookup (off := 32) (tgt := 69) dX11_snapshot_37 (by decide) (by decide) (by decide) ?_
            refine kw_aload_n dX11_snapshot_69 rfl ?_
            refine kw_get dX11_snapshot_70 fl_X11_238 (hC_sn hj) rfl ?_
            refine kw_alen dX11_snapshot_73 (hC_rt hj) ?_
            exact kw_iret dX11_snapshot_74 rfl (Nat.le_of_ble_eq_true rfl) (Nat.le_of_ble_eq_true rfl) (hK _ _ _ ⟨rfl, rfl, rfl⟩)
          refine kw_lookup (off := 38) (tgt := 75) dX11_snapshot_37 (by decide) (by rw [show (nI y).toInt = (y : Int) from nI_toInt hy]; simp [Op.lookupswitch.offset]; omega) (by decide) ?_
          have hne0 : ¬ nI y = 0 := fun q => e0 (nI_eq' (b := 0) hy (by decide) q)
          have hne1 : ¬ nI y = 1 := fun q => e1 (nI_eq' (b := 1) hy (by decide) q)
          rw [if_neg hne0, if_neg hne1, cl_, nI_clamp hy] at hK
          refine kw_aload_n dX11_snapshot_75 rfl ?_
          refine kw_get dX11_snapshot_76 fl_X11_238 (hC_sn hj) rfl ?_
          refine kw_iload_n dX11_snapshot_79 rfl ?_
          refine kw_iconst (v := 2) dX11_snapshot_80 (by decide) ?_
          refine kw_isub dX11_snapshot_81 ?_
          refine kw_top (v' := pi_ (nI (y - 2))) (congrArg pi_ (pk_sub (a := y) (b := 2) (by omega))) ?_
          refine kw_ialdN dX11_snapshot_82 (hC_rt hj) (by omega) (by omega) ?_
          exact kw_iret dX11_snapshot_83 rfl (Nat.le_of_ble_eq_true rfl) (Nat.le_of_ble_eq_true rfl) (hK _ _ _ ⟨rfl, rfl, rfl⟩)
        · skip
          have hg := sub_nlt (c := 2) (n := rm_ s j) hy (by decide) (by omega) c30
          refine kw_bipush (v := (-102)) dX11_snapshot_33 (by decide) ?_
          exact kw_iret dX11_snapshot_35 rfl (Nat.le_of_ble_eq_true rfl) (Nat.le_of_ble_eq_true rfl) (hK _ _ _ ⟨rfl, by rw [if_pos (Or.inr (nI_lt (by omega) hy))], rfl⟩)
    · skip
      exact absurd c5 (by rw [snOk, h4]; decide)
set_option maxHeartbeats 4000000 in
set_option maxRecDepth 100000 in
theorem P_saver (l : Launch) (s : SG) (k : KG) (hu : ∀ i, i < 4 → um_ s i ≤ 8) (x w : Int32) : kw_F l yX11_saver cX11_saver 4 (Option.some Jvm.ClassFile.FieldType.int) { frames := 1, cells := 0, slots := 0, locals := 22 } [pr_ (0, 0), pi_ x, pi_ w] (hC s k) (some (pi_ (a_saver s x w))) (hC s k) := by
  refine kw_M_of RX11 "saver" [some (pr_ (0, 0)), some (pi_ x), some (pi_ w), none] (by decide) rfl rfl rfl (Nat.le_of_ble_eq_true rfl) ?_
  intro D ad A
  refine kw_Kgen (fun K hK => ?_)
  rcases ix_cases (p := sv_ s) (n := 4) (by decide) x with ⟨h1, h2⟩ | ⟨j, hj, rfl, h3, h4, h5⟩
  · rw [a_saver, if_neg (by rw [svOk, h1]; decide)] at hK
    refine kw_aload_n dX11_saver_0 rfl ?_
    refine kw_iload_n dX11_saver_1 rfl ?_
    refine kw_callVf (As := [pi_ x]) (o_sv0 l s k x h2) dX11_saver_2 cl_X11_180 rfl rfl rfl rfl (Nat.le_of_ble_eq_true rfl) ⟨(Nat.le_of_ble_eq_true rfl), (Nat.le_of_ble_eq_true rfl), (Nat.le_of_ble_eq_true rfl), (Nat.le_of_ble_eq_true rfl)⟩ ?_
    refine kw_astore_n dX11_saver_5 (Nat.le_of_ble_eq_true rfl) ?_
    refine kw_aload_n dX11_saver_6 rfl ?_
    refine kw_ifnonnull (tgt := 13) dX11_saver_7 (by decide) (fun c7 => ?_) (fun c7 => ?_)
    · skip
      exact absurd rfl c7
    · skip
      refine kw_bipush (v := (-101)) dX11_saver_10 (by decide) ?_
      exact kw_iret dX11_saver_12 rfl (Nat.le_of_ble_eq_true rfl) (Nat.le_of_ble_eq_true rfl) (hK _ _ _ ⟨rfl, rfl, rfl⟩)
  · rw [a_saver, if_pos (by rw [svOk, h4]), h5] at hK
    have hu8 := hu j hj
    refine kw_aload_n dX11_saver_0 rfl ?_
    refine kw_iload_n dX11_saver_1 rfl ?_
    refine kw_callVf (As := [pi_ (nI j)]) (o_sv1 l s k j hj h3) dX11_saver_2 cl_X11_180 rfl rfl rfl rfl (Nat.le_of_ble_eq_true rfl) ⟨(Nat.le_of_ble_eq_true rfl), (Nat.le_of_ble_eq_true rfl), (Nat.le_of_ble_eq_true rfl), (Nat.le_of_ble_eq_true rfl)⟩ ?_
    refine kw_astore_n dX11_saver_5 (Nat.le_of_ble_eq_true rfl) ?_
    refine kw_aload_n dX11_saver_6 rfl ?_
    refine kw_ifnonnull (tgt := 13) dX11_saver_7 (by decide) (fun c7 => ?_) (fun c7 => ?_)
    · skip
      refine kw_iload_n dX11_saver_13 rfl ?_
      refine kw_if_lt (tgt := 27) dX11_saver_14 (by decide) (fun c14 => ?_) (fun c14 => ?_)
      · skip
        refine kw_bipush (v := (-102)) dX11_saver_27 (by decide) ?_
        exact kw_iret dX11_saver_29 rfl (Nat.le_of_ble_eq_true rfl) (Nat.le_of_ble_eq_true rfl) (hK _ _ _ ⟨rfl, by rw [if_pos (Or.inl c14)], rfl⟩)
      · skip
        obtain ⟨y, hy, hyw⟩ := nI_of c14
        refine kw_iload_n dX11_saver_17 rfl ?_
        refine kw_iconst (v := 3) dX11_saver_18 (by decide) ?_
        refine kw_isub dX11_saver_19 ?_
        refine kw_aload_n dX11_saver_20 rfl ?_
        refine kw_get dX11_saver_21 fl_X11_135 (hC_sa hj) rfl ?_
        refine kw_icmp_lt (tgt := 30) dX11_saver_24 (by decide) (fun c24 => ?_) (fun c24 => ?_)
        · skip
          rw [hyw] at c24
          have hg := sub_lt (c := 3) (n := um_ s j) hy (by decide) (by omega) c24
          rw [if_neg (fun q => q.elim c14 (fun z => by rw [hyw] at z; exact absurd (nI_lt' (by omega) hy z) (by omega)))] at hK
          refine kw_iload_n dX11_saver_30 rfl ?_
          by_cases e0 : w = 0
          · skip
            subst e0
            refine kw_tableIn (off := 25) (tgt := 56) dX11_saver_31 (by decide) (by decide) (by decide) (by decide) ?_
            refine kw_aload_n dX11_saver_56 rfl ?_
            refine kw_aload_n dX11_saver_57 rfl ?_
            refine kw_get dX11_saver_58 fl_X11_76 rfl rfl ?_
            refine kw_callVf (As := [pl_ (now_ s)]) (v_isDead l s k j hj) dX11_saver_61 cl_X11_102 (hC_sa hj) rfl rfl rfl (Nat.le_of_ble_eq_true rfl) ⟨(Nat.le_of_ble_eq_true rfl), (Nat.le_of_ble_eq_true rfl), (Nat.le_of_ble_eq_true rfl), (Nat.le_of_ble_eq_true rfl)⟩ ?_
            refine kw_if_eq (tgt := 71) dX11_saver_64 (by decide) (fun c64 => ?_) (fun c64 => ?_)
            · skip
              refine kw_iconst (v := 0) dX11_saver_71 (by decide) ?_
              exact kw_iret dX11_saver_72 rfl (Nat.le_of_ble_eq_true rfl) (Nat.le_of_ble_eq_true rfl) (hK _ _ _ ⟨rfl, congrArg (fun z => some (pi_ z)) (show (0 : Int32) = b2 (dead_ s j) by rw [b2_0.mp c64]; rfl), rfl⟩)
            · skip
              refine kw_iconst (v := 1) dX11_saver_67 (by decide) ?_
              refine kw_goto (tgt := 72) dX11_saver_68 (by decide) ?_
              exact kw_iret dX11_saver_72 rfl (Nat.le_of_ble_eq_true rfl) (Nat.le_of_ble_eq_true rfl) (hK _ _ _ ⟨rfl, congrArg (fun z => some (pi_ z)) (show (1 : Int32) = b2 (dead_ s j) by rw [b2_n0.mp c64]; rfl), rfl⟩)
          by_cases e1 : w = 1
          · skip
            subst e1
            refine kw_tableIn (off := 42) (tgt := 73) dX11_saver_31 (by decide) (by decide) (by decide) (by decide) ?_
            refine kw_aload_n dX11_saver_73 rfl ?_
            refine kw_get dX11_saver_74 fl_X11_135 (hC_sa hj) rfl ?_
            exact kw_iret dX11_saver_77 rfl (Nat.le_of_ble_eq_true rfl) (Nat.le_of_ble_eq_true rfl) (hK _ _ _ ⟨rfl, rfl, rfl⟩)
          by_cases e2 : w = 2
          · skip
            subst e2
            refine kw_tableIn (off := 47) (tgt := 78) dX11_saver_31 (by decide) (by decide) (by decide) (by decide) ?_
            refine kw_aload_n dX11_saver_78 rfl ?_
            refine kw_get dX11_saver_79 fl_X11_112 (hC_sa hj) rfl ?_
            exact kw_iret dX11_saver_82 rfl (Nat.le_of_ble_eq_true rfl) (Nat.le_of_ble_eq_true rfl) (hK _ _ _ ⟨rfl, rfl, rfl⟩)
          have n0 : (w).toInt ≠ 0 := fun q => e0 (Int32.toInt_inj.mp (q.trans (by decide)))
          have n1 : (w).toInt ≠ 1 := fun q => e1 (Int32.toInt_inj.mp (q.trans (by decide)))
          have n2 : (w).toInt ≠ 2 := fun q => e2 (Int32.toInt_inj.mp (q.trans (by decide)))
          refine kw_tableOut (tgt := 83) dX11_saver_31 (by omega) (by decide) ?_
          rw [if_neg e0, if_neg e1, if_neg e2, hyw, cl_, nI_clamp hy] at hK
          subst hyw
          have hy3 : 3 ≤ y := by rw [nI_toInt hy] at n0 n1 n2; omega
          refine kw_aload_n dX11_saver_83 rfl ?_
          refine kw_get dX11_saver_84 fl_X11_193 (hC_sa hj) rfl ?_
          refine kw_iload_n dX11_saver_87 rfl ?_
          refine kw_iconst (v := 3) dX11_saver_88 (by decide) ?_
          refine kw_isub dX11_saver_89 ?_
          refine kw_top (v' := pi_ (nI (y - 3))) (congrArg pi_ (pk_sub (a := y) (b := 3) (by omega))) ?_
          refine kw_ialdN dX11_saver_90 (hC_us hj) (by omega) (by decide) ?_
          exact kw_iret dX11_saver_91 rfl (Nat.le_of_ble_eq_true rfl) (Nat.le_of_ble_eq_true rfl) (hK _ _ _ ⟨rfl, rfl, rfl⟩)
        · skip
          rw [hyw] at c24
          have hg := sub_nlt (c := 3) (n := um_ s j) hy (by decide) (by omega) c24
          refine kw_bipush (v := (-102)) dX11_saver_27 (by decide) ?_
          exact kw_iret dX11_saver_29 rfl (Nat.le_of_ble_eq_true rfl) (Nat.le_of_ble_eq_true rfl) (hK _ _ _ ⟨rfl, by rw [if_pos (Or.inr (by rw [hyw]; exact nI_lt (by omega) hy))], rfl⟩)
    · skip
      exact absurd c7 (fun z => by cases z)
set_option maxHeartbeats 4000000 in
set_option maxRecDepth 100000 in
theorem P_swept (l : Launch) (s : SG) (k : KG) (hph : ph_ s ≤ 4) (hrf : rf_ s ≤ rt_ s) (hrow : 2 ≤ ph_ s → rt_ s = rf_ s) (hnx : 2 ≤ ph_ s → nx_ k = nI (at_ s)) (w : Int32) : kw_F l yX11_swept cX11_swept 3 (Option.some Jvm.ClassFile.FieldType.int) { frames := 0, cells := 0, slots := 0, locals := 0 } [pr_ (0, 0), pi_ w] (hC s k) (some (pi_ (a_swept s w))) (hC s k) := by
  refine kw_M_of RX11 "swept" [some (pr_ (0, 0)), some (pi_ w), none] (by decide) rfl rfl rfl (Nat.le_of_ble_eq_true rfl) ?_
  intro D ad A
  refine kw_Kgen (fun K hK => ?_)
  refine kw_aload_n dX11_swept_0 rfl ?_
  refine kw_get dX11_swept_1 fl_X11_39 rfl rfl ?_
  refine kw_get dX11_swept_4 fl_X11_229 rfl rfl ?_
  refine kw_if_ne (tgt := 14) dX11_swept_7 (by decide) (fun c7 => ?_) (fun c7 => ?_)
  · skip
    have e0p : ¬ ph_ s = 0 := fun q => c7 (by rw [q]; rfl)
    refine kw_iconst (v := 0) dX11_swept_14 (by decide) ?_
    refine kw_istore_n dX11_swept_15 (Nat.le_of_ble_eq_true rfl) ?_
    refine kw_iload_n dX11_swept_16 rfl ?_
    by_cases e0 : w = 0
    · skip
      subst e0
      refine kw_tableIn (off := 31) (tgt := 48) dX11_swept_17 (by decide) (by decide) (by decide) (by decide) ?_
      refine kw_aload_n dX11_swept_48 rfl ?_
      refine kw_get dX11_swept_49 fl_X11_39 rfl rfl ?_
      refine kw_get dX11_swept_52 fl_X11_229 rfl rfl ?_
      exact kw_iret dX11_swept_55 rfl (Nat.le_of_ble_eq_true rfl) (Nat.le_of_ble_eq_true rfl) (hK _ _ _ ⟨rfl, rfl, rfl⟩)
    by_cases e1 : w = 1
    · skip
      subst e1
      refine kw_tableIn (off := 39) (tgt := 56) dX11_swept_17 (by decide) (by decide) (by decide) (by decide) ?_
      refine kw_iload_n dX11_swept_56 rfl ?_
      refine kw_if_eq (tgt := 64) dX11_swept_57 (by decide) (fun c57 => ?_) (fun c57 => ?_)
      · skip
        refine kw_aload_n dX11_swept_64 rfl ?_
        refine kw_get dX11_swept_65 fl_X11_39 rfl rfl ?_
        refine kw_get dX11_swept_68 fl_X11_351 rfl rfl ?_
        refine kw_aload_n dX11_swept_71 rfl ?_
        refine kw_get dX11_swept_72 fl_X11_39 rfl rfl ?_
        refine kw_get dX11_swept_75 fl_X11_354 rfl rfl ?_
        refine kw_isub dX11_swept_78 ?_
        exact kw_iret dX11_swept_79 rfl (Nat.le_of_ble_eq_true rfl) (Nat.le_of_ble_eq_true rfl) (hK _ _ _ ⟨rfl, congrArg (fun z => some (pi_ z)) (sw_row e0p hrf hrow), rfl⟩)
      · skip
        exact absurd rfl c57
    by_cases e2 : w = 2
    · skip
      subst e2
      refine kw_tableIn (off := 63) (tgt := 80) dX11_swept_17 (by decide) (by decide) (by decide) (by decide) ?_
      refine kw_iload_n dX11_swept_80 rfl ?_
      refine kw_if_eq (tgt := 88) dX11_swept_81 (by decide) (fun c81 => ?_) (fun c81 => ?_)
      · skip
        refine kw_aload_n dX11_swept_88 rfl ?_
        refine kw_get dX11_swept_89 fl_X11_39 rfl rfl ?_
        refine kw_get dX11_swept_92 fl_X11_357 rfl rfl ?_
        exact kw_iret dX11_swept_95 rfl (Nat.le_of_ble_eq_true rfl) (Nat.le_of_ble_eq_true rfl) (hK _ _ _ ⟨rfl, congrArg (fun z => some (pi_ z)) (show nI (end_ s) = if ph_ s = 0 then -1 else nI (end_ s) by rw [if_neg e0p]), rfl⟩)
      · skip
        exact absurd rfl c81
    by_cases e3 : w = 3
    · skip
      subst e3
      refine kw_tableIn (off := 79) (tgt := 96) dX11_swept_17 (by decide) (by decide) (by decide) (by decide) ?_
      refine kw_iload_n dX11_swept_96 rfl ?_
      refine kw_if_ne (tgt := 111) dX11_swept_97 (by decide) (fun c97 => ?_) (fun c97 => ?_)
      · skip
        exact absurd rfl c97
      · skip
        refine kw_aload_n dX11_swept_100 rfl ?_
        refine kw_get dX11_swept_101 fl_X11_39 rfl rfl ?_
        refine kw_get dX11_swept_104 fl_X11_229 rfl rfl ?_
        refine kw_iconst (v := 1) dX11_swept_107 (by decide) ?_
        refine kw_icmp_ne (tgt := 115) dX11_swept_108 (by decide) (fun c108 => ?_) (fun c108 => ?_)
        · skip
          have e1p : ¬ ph_ s = 1 := fun q => c108 (by rw [q]; rfl)
          refine kw_aload_n dX11_swept_115 rfl ?_
          refine kw_get dX11_swept_116 fl_X11_39 rfl rfl ?_
          refine kw_get dX11_swept_119 fl_X11_360 rfl rfl ?_
          exact kw_iret dX11_swept_122 rfl (Nat.le_of_ble_eq_true rfl) (Nat.le_of_ble_eq_true rfl) (hK _ _ _ ⟨rfl, congrArg (fun z => some (pi_ z)) (show nx_ k = if ph_ s = 0 ∨ ph_ s = 1 then -1 else nI (at_ s) by rw [if_neg (by omega), hnx (by omega)]), rfl⟩)
        · skip
          refine kw_iconst (v := (-1)) dX11_swept_111 (by decide) ?_
          refine kw_goto (tgt := 122) dX11_swept_112 (by decide) ?_
          exact kw_iret dX11_swept_122 rfl (Nat.le_of_ble_eq_true rfl) (Nat.le_of_ble_eq_true rfl) (hK _ _ _ ⟨rfl, congrArg (fun z => some (pi_ z)) (show (-1 : Int32) = if ph_ s = 0 ∨ ph_ s = 1 then -1 else nI (at_ s) by rw [if_pos (Or.inr (nI_eq' (b := 1) (by omega) (by decide) c108))]), rfl⟩)
    have n0 : (w).toInt ≠ 0 := fun q => e0 (Int32.toInt_inj.mp (q.trans (by decide)))
    have n1 : (w).toInt ≠ 1 := fun q => e1 (Int32.toInt_inj.mp (q.trans (by decide)))
    have n2 : (w).toInt ≠ 2 := fun q => e2 (Int32.toInt_inj.mp (q.trans (by decide)))
    have n3 : (w).toInt ≠ 3 := fun q => e3 (Int32.toInt_inj.mp (q.trans (by decide)))
    refine kw_tableOut (tgt := 123) dX11_swept_17 (by omega) (by decide) ?_
    refine kw_bipush (v := (-102)) dX11_swept_123 (by decide) ?_
    exact kw_iret dX11_swept_125 rfl (Nat.le_of_ble_eq_true rfl) (Nat.le_of_ble_eq_true rfl) (hK _ _ _ ⟨rfl, by rw [a_swept, if_neg e0, if_neg e1, if_neg e2, if_neg e3], rfl⟩)
  · skip
    have e0p : ph_ s = 0 := nI_eq' (b := 0) (by omega) (by decide) c7
    refine kw_iconst (v := 1) dX11_swept_10 (by decide) ?_
    refine kw_goto (tgt := 15) dX11_swept_11 (by decide) ?_
    refine kw_istore_n dX11_swept_15 (Nat.le_of_ble_eq_true rfl) ?_
    refine kw_iload_n dX11_swept_16 rfl ?_
    by_cases e0 : w = 0
    · skip
      subst e0
      refine kw_tableIn (off := 31) (tgt := 48) dX11_swept_17 (by decide) (by decide) (by decide) (by decide) ?_
      refine kw_aload_n dX11_swept_48 rfl ?_
      refine kw_get dX11_swept_49 fl_X11_39 rfl rfl ?_
      refine kw_get dX11_swept_52 fl_X11_229 rfl rfl ?_
      exact kw_iret dX11_swept_55 rfl (Nat.le_of_ble_eq_true rfl) (Nat.le_of_ble_eq_true rfl) (hK _ _ _ ⟨rfl, rfl, rfl⟩)
    by_cases e1 : w = 1
    · skip
      subst e1
      refine kw_tableIn (off := 39) (tgt := 56) dX11_swept_17 (by decide) (by decide) (by decide) (by decide) ?_
      refine kw_iload_n dX11_swept_56 rfl ?_
      refine kw_if_eq (tgt := 64) dX11_swept_57 (by decide) (fun c57 => ?_) (fun c57 => ?_)
      · skip
        exact absurd c57 (by decide)
      · skip
        refine kw_iconst (v := (-1)) dX11_swept_60 (by decide) ?_
        refine kw_goto (tgt := 79) dX11_swept_61 (by decide) ?_
        exact kw_iret dX11_swept_79 rfl (Nat.le_of_ble_eq_true rfl) (Nat.le_of_ble_eq_true rfl) (hK _ _ _ ⟨rfl, congrArg (fun z => some (pi_ z)) (show (-1 : Int32) = if ph_ s = 0 then -1 else if ph_ s = 1 then nI (rt_ s - rf_ s) else 0 by rw [if_pos e0p]), rfl⟩)
    by_cases e2 : w = 2
    · skip
      subst e2
      refine kw_tableIn (off := 63) (tgt := 80) dX11_swept_17 (by decide) (by decide) (by decide) (by decide) ?_
      refine kw_iload_n dX11_swept_80 rfl ?_
      refine kw_if_eq (tgt := 88) dX11_swept_81 (by decide) (fun c81 => ?_) (fun c81 => ?_)
      · skip
        exact absurd c81 (by decide)
      · skip
        refine kw_iconst (v := (-1)) dX11_swept_84 (by decide) ?_
        refine kw_goto (tgt := 95) dX11_swept_85 (by decide) ?_
        exact kw_iret dX11_swept_95 rfl (Nat.le_of_ble_eq_true rfl) (Nat.le_of_ble_eq_true rfl) (hK _ _ _ ⟨rfl, congrArg (fun z => some (pi_ z)) (show (-1 : Int32) = if ph_ s = 0 then -1 else nI (end_ s) by rw [if_pos e0p]), rfl⟩)
    by_cases e3 : w = 3
    · skip
      subst e3
      refine kw_tableIn (off := 79) (tgt := 96) dX11_swept_17 (by decide) (by decide) (by decide) (by decide) ?_
      refine kw_iload_n dX11_swept_96 rfl ?_
      refine kw_if_ne (tgt := 111) dX11_swept_97 (by decide) (fun c97 => ?_) (fun c97 => ?_)
      · skip
        refine kw_iconst (v := (-1)) dX11_swept_111 (by decide) ?_
        refine kw_goto (tgt := 122) dX11_swept_112 (by decide) ?_
        exact kw_iret dX11_swept_122 rfl (Nat.le_of_ble_eq_true rfl) (Nat.le_of_ble_eq_true rfl) (hK _ _ _ ⟨rfl, congrArg (fun z => some (pi_ z)) (show (-1 : Int32) = if ph_ s = 0 ∨ ph_ s = 1 then -1 else nI (at_ s) by rw [if_pos (Or.inl e0p)]), rfl⟩)
      · skip
        exact absurd c97 (by decide)
    have n0 : (w).toInt ≠ 0 := fun q => e0 (Int32.toInt_inj.mp (q.trans (by decide)))
    have n1 : (w).toInt ≠ 1 := fun q => e1 (Int32.toInt_inj.mp (q.trans (by decide)))
    have n2 : (w).toInt ≠ 2 := fun q => e2 (Int32.toInt_inj.mp (q.trans (by decide)))
    have n3 : (w).toInt ≠ 3 := fun q => e3 (Int32.toInt_inj.mp (q.trans (by decide)))
    refine kw_tableOut (tgt := 123) dX11_swept_17 (by omega) (by decide) ?_
    refine kw_bipush (v := (-102)) dX11_swept_123 (by decide) ?_
    exact kw_iret dX11_swept_125 rfl (Nat.le_of_ble_eq_true rfl) (Nat.le_of_ble_eq_true rfl) (hK _ _ _ ⟨rfl, by rw [a_swept, if_neg e0, if_neg e1, if_neg e2, if_neg e3], rfl⟩)
set_option maxHeartbeats 4000000 in
set_option maxRecDepth 100000 in
theorem P_has (l : Launch) (s : SG) (k : KG) (hm : ∀ m, m < 2 → ∀ q, q < 80 → kb_ k (1 + m) q = (mirS s m).1 q) (x b : Int32) : kw_F l yX11_has cX11_has 3 (Option.some Jvm.ClassFile.FieldType.boolean) { frames := 0, cells := 0, slots := 0, locals := 0 } [pr_ (0, 0), pi_ x, pi_ b] (hC s k) (some (pi_ (b2 (a_has s x b)))) (hC s k) := by
  refine kw_M_of RX11 "has" [some (pr_ (0, 0)), some (pi_ x), some (pi_ b)] (by decide) rfl rfl rfl (Nat.le_of_ble_eq_true rfl) ?_
  intro D ad A
  refine kw_Kgen (fun K hK => ?_)
  refine kw_iload_n dX11_has_0 rfl ?_
  refine kw_if_lt (tgt := 37) dX11_has_1 (by decide) (fun c1 => ?_) (fun c1 => ?_)
  · skip
    refine kw_iconst (v := 0) dX11_has_37 (by decide) ?_
    exact kw_zret dX11_has_38 rfl (by decide) (Nat.le_of_ble_eq_true rfl) (Nat.le_of_ble_eq_true rfl) (hK _ _ _ ⟨rfl, by rw [a_has, if_pos (Or.inl c1)]; rfl, rfl⟩)
  · skip
    refine kw_iload_n dX11_has_4 rfl ?_
    refine kw_iconst (v := 2) dX11_has_5 (by decide) ?_
    refine kw_icmp_ge (tgt := 37) dX11_has_6 (by decide) (fun c6 => ?_) (fun c6 => ?_)
    · skip
      refine kw_iconst (v := 0) dX11_has_37 (by decide) ?_
      exact kw_zret dX11_has_38 rfl (by decide) (Nat.le_of_ble_eq_true rfl) (Nat.le_of_ble_eq_true rfl) (hK _ _ _ ⟨rfl, by rw [a_has, if_pos (Or.inr (Or.inl c6))]; rfl, rfl⟩)
    · skip
      refine kw_iload_n dX11_has_9 rfl ?_
      refine kw_if_lt (tgt := 37) dX11_has_10 (by decide) (fun c10 => ?_) (fun c10 => ?_)
      · skip
        refine kw_iconst (v := 0) dX11_has_37 (by decide) ?_
        exact kw_zret dX11_has_38 rfl (by decide) (Nat.le_of_ble_eq_true rfl) (Nat.le_of_ble_eq_true rfl) (hK _ _ _ ⟨rfl, by rw [a_has, if_pos (Or.inr (Or.inr (Or.inl c10)))]; rfl, rfl⟩)
      · skip
        refine kw_iload_n dX11_has_13 rfl ?_
        refine kw_bipush (v := 80) dX11_has_14 (by decide) ?_
        refine kw_icmp_ge (tgt := 37) dX11_has_16 (by decide) (fun c16 => ?_) (fun c16 => ?_)
        · skip
          refine kw_iconst (v := 0) dX11_has_37 (by decide) ?_
          exact kw_zret dX11_has_38 rfl (by decide) (Nat.le_of_ble_eq_true rfl) (Nat.le_of_ble_eq_true rfl) (hK _ _ _ ⟨rfl, by rw [a_has, if_pos (Or.inr (Or.inr (Or.inr c16)))]; rfl, rfl⟩)
        · skip
          rw [a_has, if_neg (fun q => q.elim c1 (fun q => q.elim c6 (fun q => q.elim c10 c16)))] at hK
          obtain ⟨i, hi1, rfl⟩ := nI_of c1
          have hi : i < 2 := nI_nle' (a := 2) (by decide) hi1 c6
          obtain ⟨y, hy1, rfl⟩ := nI_of c10
          have hy : y < 80 := nI_nle' (a := 80) (by decide) hy1 c16
          rw [cl_, cl_, nI_clamp hi1, nI_clamp hy1] at hK
          refine kw_aload_n dX11_has_19 rfl ?_
          refine kw_get dX11_has_20 fl_X11_65 rfl rfl ?_
          refine kw_iload_n dX11_has_23 rfl ?_
          refine kw_aaldN dX11_has_24 rfl hi (by decide) (if_pos hi) ?_
          refine kw_get dX11_has_25 fl_X11_384 (hC_mi (by omega)) rfl ?_
          refine kw_iload_n dX11_has_28 rfl ?_
          refine kw_zaldN dX11_has_29 (hC_mb (by omega)) hy (by decide) ?_
          refine kw_if_eq (tgt := 37) dX11_has_30 (by decide) (fun c30 => ?_) (fun c30 => ?_)
          · skip
            refine kw_iconst (v := 0) dX11_has_37 (by decide) ?_
            exact kw_zret dX11_has_38 rfl (by decide) (Nat.le_of_ble_eq_true rfl) (Nat.le_of_ble_eq_true rfl) (hK _ _ _ ⟨rfl, by rw [← hm i hi y hy, b2_0.mp c30]; rfl, rfl⟩)
          · skip
            refine kw_iconst (v := 1) dX11_has_33 (by decide) ?_
            refine kw_goto (tgt := 38) dX11_has_34 (by decide) ?_
            exact kw_zret dX11_has_38 rfl (by decide) (Nat.le_of_ble_eq_true rfl) (Nat.le_of_ble_eq_true rfl) (hK _ _ _ ⟨rfl, by rw [← hm i hi y hy, b2_n0.mp c30]; rfl, rfl⟩)
set_option maxHeartbeats 4000000 in
set_option maxRecDepth 100000 in
theorem P_follow (l : Launch) (s : SG) (k : KG) (hh : histOk s) (hd : ∀ m, m < 2 → dn2_ k m = md_ s m ∧ md_ s m ≤ nh_ s) (x n : Int32) : kw_F l yX11_follow cX11_follow 3 (Option.some Jvm.ClassFile.FieldType.int) { frames := 2, cells := 0, slots := 0, locals := 47 } [pr_ (0, 0), pi_ x, pi_ n] (hC s k) (some (pi_ (a_follow s x n).1)) (hC s (if x < 0 ∨ 2 ≤ x then k else if n < 0 ∨ 500 < n then k else kRep s k (cl_ x) (cl_ n))) := by
  refine kw_M_of RX11 "follow" [some (pr_ (0, 0)), some (pi_ x), some (pi_ n)] (by decide) rfl rfl rfl (Nat.le_of_ble_eq_true rfl) ?_
  intro D ad A
  refine kw_Kgen (fun K hK => ?_)
  refine kw_iload_n dX11_follow_0 rfl ?_
  refine kw_if_lt (tgt := 9) dX11_follow_1 (by decide) (fun c1 => ?_) (fun c1 => ?_)
  · skip
    refine kw_bipush (v := (-101)) dX11_follow_9 (by decide) ?_
    exact kw_iret dX11_follow_11 rfl (Nat.le_of_ble_eq_true rfl) (Nat.le_of_ble_eq_true rfl) (hK _ _ _ ⟨rfl, by rw [a_follow, if_pos (Or.inl c1)], by rw [if_pos (Or.inl c1)]⟩)
  · skip
    refine kw_iload_n dX11_follow_4 rfl ?_
    refine kw_iconst (v := 2) dX11_follow_5 (by decide) ?_
    refine kw_icmp_lt (tgt := 12) dX11_follow_6 (by decide) (fun c6 => ?_) (fun c6 => ?_)
    · skip
      have hx : ¬ (x < 0 ∨ 2 ≤ x) := fun q => q.elim c1 (fun z => Int32.not_le.mpr c6 z)
      rw [a_follow, if_neg hx, if_neg hx] at hK
      refine kw_iload_n dX11_follow_12 rfl ?_
      refine kw_if_lt (tgt := 23) dX11_follow_13 (by decide) (fun c13 => ?_) (fun c13 => ?_)
      · skip
        refine kw_bipush (v := (-102)) dX11_follow_23 (by decide) ?_
        exact kw_iret dX11_follow_25 rfl (Nat.le_of_ble_eq_true rfl) (Nat.le_of_ble_eq_true rfl) (hK _ _ _ ⟨rfl, by rw [if_pos (Or.inl c13)], by rw [if_pos (Or.inl c13)]⟩)
      · skip
        refine kw_iload_n dX11_follow_16 rfl ?_
        refine kw_sipush (v := 500) dX11_follow_17 (by decide) ?_
        refine kw_icmp_le (tgt := 26) dX11_follow_20 (by decide) (fun c20 => ?_) (fun c20 => ?_)
        · skip
          have hnn : ¬ (n < 0 ∨ 500 < n) := fun q => q.elim c13 (fun z => Int32.not_le.mpr z c20)
          rw [if_neg hnn, if_neg hnn] at hK
          obtain ⟨i, hi1, rfl⟩ := nI_of c1
          have hi : i < 2 := nI_lt' (b := 2) hi1 (by decide) c6
          obtain ⟨y, hy1, rfl⟩ := nI_of2 (M := 500) (n := 500) (by decide) c13 c20
          rw [cl_, cl_, nI_clamp hi1, nI_clamp (by omega)] at hK
          obtain ⟨d1, d2⟩ := hd i hi
          refine kw_aload_n dX11_follow_26 rfl ?_
          refine kw_get dX11_follow_27 fl_X11_65 rfl rfl ?_
          refine kw_iload_n dX11_follow_30 rfl ?_
          refine kw_aaldN dX11_follow_31 rfl hi (by decide) (if_pos hi) ?_
          refine kw_aload_n dX11_follow_32 rfl ?_
          refine kw_get dX11_follow_33 fl_X11_10 rfl rfl ?_
          refine kw_iload_n dX11_follow_36 rfl ?_
          refine kw_callVf (As := [pr_ (1, 0), pi_ (nI y)]) (r_repeat l s k hh i y (by omega) (by omega) hy1) dX11_follow_37 cl_X11_267 (hC_mi (by omega)) rfl rfl rfl (Nat.le_of_ble_eq_true rfl) ⟨(Nat.le_of_ble_eq_true rfl), (Nat.le_of_ble_eq_true rfl), (Nat.le_of_ble_eq_true rfl), (Nat.le_of_ble_eq_true rfl)⟩ ?_
          refine kw_aload_n dX11_follow_40 rfl ?_
          refine kw_get dX11_follow_41 fl_X11_10 rfl rfl ?_
          refine kw_get dX11_follow_44 fl_X11_271 rfl rfl ?_
          refine kw_aload_n dX11_follow_47 rfl ?_
          refine kw_get dX11_follow_48 fl_X11_65 rfl rfl ?_
          refine kw_iload_n dX11_follow_51 rfl ?_
          refine kw_aaldN dX11_follow_52 rfl hi (by decide) (if_pos hi) ?_
          refine kw_get dX11_follow_53 fl_X11_274 (hC_mi (by omega)) rfl ?_
          refine kw_isub dX11_follow_56 ?_
          refine kw_top (v' := pi_ (nI (nh_ s - min (nh_ s) (md_ s i + y)))) (congrArg pi_ (by show nI (nh_ s) - nI (va_up (dn2_ k) i (min (nh_ s) (dn2_ k i + y)) i) = _; rw [show va_up (dn2_ k) i (min (nh_ s) (dn2_ k i + y)) i = min (nh_ s) (dn2_ k i + y) from by simp [va_up], d1, pk_sub (Nat.min_le_left _ _)])) ?_
          exact kw_iret dX11_follow_57 rfl (Nat.le_of_ble_eq_true rfl) (Nat.le_of_ble_eq_true rfl) (hK _ _ _ ⟨rfl, rfl, rfl⟩)
        · skip
          refine kw_bipush (v := (-102)) dX11_follow_23 (by decide) ?_
          exact kw_iret dX11_follow_25 rfl (Nat.le_of_ble_eq_true rfl) (Nat.le_of_ble_eq_true rfl) (hK _ _ _ ⟨rfl, by rw [if_pos (Or.inr (Int32.not_le.mp c20))], by rw [if_pos (Or.inr (Int32.not_le.mp c20))]⟩)
    · skip
      refine kw_bipush (v := (-101)) dX11_follow_9 (by decide) ?_
      exact kw_iret dX11_follow_11 rfl (Nat.le_of_ble_eq_true rfl) (Nat.le_of_ble_eq_true rfl) (hK _ _ _ ⟨rfl, by rw [a_follow, if_pos (Or.inr (Int32.not_lt.mp c6))], by rw [if_pos (Or.inr (Int32.not_lt.mp c6))]⟩)
