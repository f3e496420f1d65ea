/-! THE CALENDAR -/
abbrev lI (z : Int) : Int64 := Int64.ofInt z
abbrev iI (z : Int) : Int32 := Int32.ofInt z
theorem lI_add (a b : Int) : lI a + lI b = lI (a + b) := (Int64.ofInt_add a b).symm
theorem lI_sub (a b : Int) : lI a - lI b = lI (a - b) := (Int64.ofInt_sub a b).symm
theorem lI_mul (a b : Int) : lI a * lI b = lI (a * b) := (Int64.ofInt_mul a b).symm
theorem lI_toInt {a : Int} (h1 : -4000000000000000 ≤ a) (h2 : a ≤ 4000000000000000) : (lI a).toInt = a := Int64.toInt_ofInt_of_le (by omega) (by omega)
theorem lI_inj {a b : Int} (h1 : -4000000000000000 ≤ a) (h2 : a ≤ 4000000000000000) (h3 : -4000000000000000 ≤ b) (h4 : b ≤ 4000000000000000) (h : lI a = lI b) : a = b := by rw [← lI_toInt h1 h2, ← lI_toInt h3 h4, h]
theorem lI_div {a b : Int} (h1 : -4000000000000000 ≤ a) (h2 : a ≤ 4000000000000000) (h3 : 0 < b) (h4 : b ≤ 4000000000000000) : lI a / lI b = lI (a.tdiv b) := by
  apply Int64.toInt_inj.mp
  have e := lI_toInt (a := b) (by omega) h4
  rw [Int64.toInt_div_of_ne_right _ _ (fun q => by rw [q] at e; have : (-1 : Int64).toInt = -1 := by decide
                                                   omega), lI_toInt h1 h2, e]
  have t1 := Int.natAbs_tdiv_le_natAbs a b
  rw [lI_toInt (by omega) (by omega)]
theorem lI_ne {b : Int} (h3 : 0 < b) (h4 : b ≤ 4000000000000000) : ¬ lI b = 0 := fun q => by
  have e := lI_toInt (a := b) (by omega) h4
  rw [q] at e
  have : (0 : Int64).toInt = 0 := by decide
  omega
theorem lI_lt {a b : Int} (h1 : -4000000000000000 ≤ a) (h2 : a ≤ 4000000000000000) (h3 : -4000000000000000 ≤ b) (h4 : b ≤ 4000000000000000) : lI a < lI b ↔ a < b := by
  rw [Int64.lt_iff_toInt_lt, lI_toInt h1 h2, lI_toInt h3 h4]
theorem xneg {x y : Int64} (hy : 0 ≤ y.toInt) : (x ^^^ y) < 0 ↔ x < 0 := by
  have e : ∀ z : Int64, z < 0 ↔ z.toBitVec.msb = true := fun z => by
    rw [Int64.lt_iff_toInt_lt, show (0 : Int64).toInt = 0 by decide, ← Int64.toInt_toBitVec, BitVec.msb_eq_toInt]
    simp
  have ey : y.toBitVec.msb = false := by
    cases h : y.toBitVec.msb with
    | false => rfl
    | true =>
      have := (e y).mpr h
      rw [Int64.lt_iff_toInt_lt, show (0 : Int64).toInt = 0 by decide] at this
      omega
  rw [e, e, Int64.toBitVec_xor, BitVec.msb_xor, ey, Bool.xor_false]
theorem fd_pos {a b : Int} (ha : 0 ≤ a) : a.tdiv b = a / b := Int.tdiv_eq_ediv_of_nonneg ha
theorem fd_eq {a b : Int} (h : a.tdiv b * b = a) : a.tdiv b = a / b := Int.tdiv_eq_ediv_of_dvd ⟨a.tdiv b, by rw [Int.mul_comm]; exact h.symm⟩
theorem fd_ne {a b : Int} (hb : 0 < b) (ha : a < 0) (h : a.tdiv b * b ≠ a) : a.tdiv b - 1 = a / b := by
  rw [Int.tdiv_eq_ediv, if_neg, Int.sign_eq_one_of_pos hb]
  · omega
  · intro q
    rcases q with q | q
    · omega
    · exact h (Int.tdiv_mul_cancel q)
/-- the day within four centuries from March on: its year, and where that begins -/
def fI (e : Int) : Int := e - (e / 1460 - e / 36524 + e / 146096)
def SI (y : Int) : Int := 365 * y + y / 4 - y / 100
def yoeI (e : Int) : Int := (e - (e / 1460 - e / 36524 + e / 146096)) / 365
theorem f_mono (e : Int) : ∀ n : Nat, fI e ≤ fI (e + n)
  | 0 => by rw [show e + ((0 : Nat) : Int) = e by omega]; exact Int.le_refl _
  | n + 1 => by
    refine Int.le_trans (f_mono e n) ?_
    rw [show e + ((n + 1 : Nat) : Int) = (e + n) + 1 by omega]
    unfold fI
    omega
theorem f_mono' {a b : Int} (h : a ≤ b) : fI a ≤ fI b := by
  have := f_mono a (b - a).toNat
  rw [show a + ((b - a).toNat : Int) = b by omega] at this
  exact this
def f_ck : Nat → Bool
  | 0 => true
  | y + 1 => (decide (365 * (y : Int) ≤ fI (SI y)) && decide (fI (SI (y + 1) - 1) < 365 * ((y : Int) + 1))) && f_ck y
set_option maxRecDepth 100000 in
theorem f_ck4 : f_ck 400 = true := by decide +kernel
theorem f_ck_get : ∀ {n y : Nat}, f_ck n = true → y < n → 365 * (y : Int) ≤ fI (SI y) ∧ fI (SI (y + 1) - 1) < 365 * ((y : Int) + 1)
  | 0, _, _, h => absurd h (Nat.not_lt_zero _)
  | n + 1, y, h, hy => by
    rw [f_ck, Bool.and_eq_true, Bool.and_eq_true] at h
    by_cases e : y = n
    · rw [e]; exact ⟨of_decide_eq_true h.1.1, of_decide_eq_true h.1.2⟩
    · exact f_ck_get h.2 (by omega)
theorem S_find {e : Int} (h0 : 0 ≤ e) : ∀ n : Nat, e < SI n → ∃ y : Nat, y < n ∧ SI y ≤ e ∧ e < SI (y + 1)
  | 0, h => by exact absurd h (by unfold SI; omega)
  | n + 1, h => by
    by_cases q : e < SI n
    · obtain ⟨y, h1, h2⟩ := S_find h0 n q
      exact ⟨y, by omega, h2⟩
    · exact ⟨n, by omega, by omega, by rw [show ((n + 1 : Nat) : Int) = (n : Int) + 1 by omega] at h; exact h⟩
theorem yoe_ok {e : Int} (h0 : 0 ≤ e) (h1 : e < 146097) : (0 ≤ yoeI e ∧ yoeI e < 400) ∧ SI (yoeI e) ≤ e ∧ (e < SI (yoeI e + 1) ∨ (yoeI e = 399 ∧ e = 146096)) := by
  by_cases hl : e = 146096
  · rw [hl]; decide
  · obtain ⟨y, hy, h2, h3⟩ := S_find h0 400 (by show e < SI 400; rw [show SI 400 = 146096 by decide]; omega)
    obtain ⟨g1, g2⟩ := f_ck_get f_ck4 hy
    have m1 := f_mono' h2
    have m2 := f_mono' (show e ≤ SI (y + 1) - 1 by omega)
    have : yoeI e = y := by
      show fI e / 365 = y
      omega
    rw [this]
    exact ⟨⟨by omega, by omega⟩, h2, Or.inl h3⟩
theorem S_len (y : Int) : SI (y + 1) ≤ SI y + 366 := by unfold SI; omega
theorem S_nn {y : Int} (h : 0 ≤ y) (h4 : y ≤ 400) : 0 ≤ SI y ∧ SI y ≤ 150000 := by unfold SI; omega
def eraI (d : Int) : Int := (d + 719468) / 146097
def doeI (d : Int) : Int := (d + 719468) % 146097
def doyI (d : Int) : Int := doeI d - SI (yoeI (doeI d))
def mmI (d : Int) : Int := (5 * doyI d + 2) / 153
def monI (d : Int) : Int := 12 * (400 * eraI d + yoeI (doeI d)) + mmI d + 2
def domI (d : Int) : Int := doyI d - (153 * mmI d + 2) / 5 + 1
theorem doe_b (d : Int) : 0 ≤ doeI d ∧ doeI d < 146097 := by unfold doeI; omega
theorem doy_b (d : Int) : 0 ≤ doyI d ∧ doyI d < 366 := by
  obtain ⟨h1, h2⟩ := doe_b d
  obtain ⟨-, h3, h4⟩ := yoe_ok h1 h2
  have := S_len (yoeI (doeI d))
  unfold doyI
  rcases h4 with h4 | ⟨h4, h5⟩
  · omega
  · rw [h4, h5]; decide
theorem mm_b (d : Int) : 0 ≤ mmI d ∧ mmI d ≤ 11 := by have := doy_b d; unfold mmI; omega
def dOk (d : Int) : Prop := -20000000 ≤ d ∧ d ≤ 20000000
theorem mon_b {d : Int} (h : dOk d) : -2000000 ≤ monI d ∧ monI d ≤ 2000000 := by
  obtain ⟨h1, h2⟩ := h
  obtain ⟨h3, h4⟩ := doe_b d
  obtain ⟨⟨h5, h6⟩, -⟩ := yoe_ok h3 h4
  have := mm_b d
  unfold monI eraI
  omega
theorem nm_lI (x : Int64) : lI x.toInt = x := Int64.ofInt_toInt x
theorem tdm (a b : Int) : (a.tdiv b * b).natAbs ≤ a.natAbs := by
  rw [Int.natAbs_mul, Int.natAbs_tdiv]
  exact Nat.div_mul_le_self _ _
set_option maxHeartbeats 4000000 in
set_option maxRecDepth 100000 in
theorem m_fdiv (l : Launch) (h : PH) (a b : Int) (h1 : -2000000000000 ≤ a) (h2 : a ≤ 2000000000000) (h3 : 0 < b) (h4 : b ≤ 1000000) : kw_F l yJ9_floorDiv_f86c9 cJ9_floorDiv_f86c9 6 (Option.some Jvm.ClassFile.FieldType.long) { frames := 0, cells := 0, slots := 0, locals := 0 } [pl_ (lI a), pl_ (lI b)] h (some (pl_ (lI (a / b)))) h := by
  refine kw_M_ofF RJ9 "floorDiv" [some (pl_ (lI a)), none, some (pl_ (lI b)), none, none, none] (by decide +kernel) rfl rfl rfl (Nat.le_of_ble_eq_true rfl) ?_
  intro D ad A
  refine kw_Kgen (fun K hK => ?_)
  have hy : 0 ≤ (lI b).toInt := by rw [lI_toInt (by omega) (by omega)]; omega
  have td := Int.natAbs_tdiv_le_natAbs a b
  refine kw_lload_n dJ9_floorDiv_f86c9_0 rfl ?_
  refine kw_lload_n dJ9_floorDiv_f86c9_1 rfl ?_
  refine kw_ldiv dJ9_floorDiv_f86c9_2 (lI_ne h3 (by omega)) ?_
  refine kw_top (v' := pl_ (lI (a.tdiv b))) (by rw [lI_div (by omega) (by omega) h3 (by omega)]) ?_
  refine kw_lstore dJ9_floorDiv_f86c9_3 (Nat.le_of_ble_eq_true rfl) ?_
  refine kw_lload_n dJ9_floorDiv_f86c9_5 rfl ?_
  refine kw_lload_n dJ9_floorDiv_f86c9_6 rfl ?_
  refine kw_lxor dJ9_floorDiv_f86c9_7 ?_
  refine kw_lconst (v := 0) dJ9_floorDiv_f86c9_8 (by decide) ?_
  refine kw_lcmp dJ9_floorDiv_f86c9_9 ?_
  refine kw_if_ge (tgt := 27) dJ9_floorDiv_f86c9_10 (by decide) (fun c10 => ?_) (fun c10 => ?_)
  · skip
    have e10 : 0 ≤ a := by
      have z : ¬ lI a < 0 := fun q => absurd ((lg_cmp_lt _ _).mpr ((xneg hy).mpr q)) (Int32.not_lt.mpr c10)
      have z2 : ¬ lI a < lI 0 := z
      rw [lI_lt (by omega) (by omega) (by omega) (by omega)] at z2
      omega
    refine kw_lload dJ9_floorDiv_f86c9_27 rfl ?_
    exact kw_lret dJ9_floorDiv_f86c9_29 rfl (Nat.le_of_ble_eq_true rfl) (Nat.le_of_ble_eq_true rfl) (hK _ _ _ ⟨rfl, by rw [fd_pos e10], rfl⟩)
  · skip
    have e10 : a < 0 := by
      have z : lI a < lI 0 := (xneg hy).mp ((lg_cmp_lt _ _).mp (Int32.not_le.mp c10))
      rw [lI_lt (by omega) (by omega) (by omega) (by omega)] at z
      exact z
    refine kw_lload dJ9_floorDiv_f86c9_13 rfl ?_
    refine kw_lload_n dJ9_floorDiv_f86c9_15 rfl ?_
    refine kw_lmul dJ9_floorDiv_f86c9_16 ?_
    refine kw_top (v' := pl_ (lI (a.tdiv b * b))) (by rw [lI_mul]) ?_
    refine kw_lload_n dJ9_floorDiv_f86c9_17 rfl ?_
    refine kw_lcmp dJ9_floorDiv_f86c9_18 ?_
    refine kw_if_eq (tgt := 27) dJ9_floorDiv_f86c9_19 (by decide) (fun c19 => ?_) (fun c19 => ?_)
    · skip
      have e19 : a.tdiv b * b = a := by
        have z := (lg_cmp_eq _ _).mp c19
        have tm := Int.natAbs_tdiv_le_natAbs a b
        have t2 := tdm a b
        exact lI_inj (by omega) (by omega) (by omega) (by omega) z
      refine kw_lload dJ9_floorDiv_f86c9_27 rfl ?_
      exact kw_lret dJ9_floorDiv_f86c9_29 rfl (Nat.le_of_ble_eq_true rfl) (Nat.le_of_ble_eq_true rfl) (hK _ _ _ ⟨rfl, by rw [fd_eq e19], rfl⟩)
    · skip
      have e19 : a.tdiv b * b ≠ a := fun q => c19 ((lg_cmp_eq _ _).mpr (by rw [q]))
      refine kw_lload dJ9_floorDiv_f86c9_22 rfl ?_
      refine kw_lconst (v := 1) dJ9_floorDiv_f86c9_24 (by decide) ?_
      refine kw_lsub dJ9_floorDiv_f86c9_25 ?_
      refine kw_top (v' := pl_ (lI (a.tdiv b - 1))) (congrArg pl_ (lI_sub _ 1)) ?_
      exact kw_lret dJ9_floorDiv_f86c9_26 rfl (Nat.le_of_ble_eq_true rfl) (Nat.le_of_ble_eq_true rfl) (hK _ _ _ ⟨rfl, by rw [fd_ne h3 e10 e19], rfl⟩)
set_option maxHeartbeats 4000000 in
set_option maxRecDepth 100000 in
theorem m_fmod (l : Launch) (h : PH) (a b : Int) (h1 : -2000000000000 ≤ a) (h2 : a ≤ 2000000000000) (h3 : 0 < b) (h4 : b ≤ 1000000) : kw_F l yJ9_floorMod_f86c9 cJ9_floorMod_f86c9 6 (Option.some Jvm.ClassFile.FieldType.long) { frames := 0, cells := 0, slots := 0, locals := 0 } [pl_ (lI a), pl_ (lI b)] h (some (pl_ (lI (a % b)))) h := by
  refine kw_M_ofF RJ9 "floorMod" [some (pl_ (lI a)), none, some (pl_ (lI b)), none, none, none] (by decide +kernel) rfl rfl rfl (Nat.le_of_ble_eq_true rfl) ?_
  intro D ad A
  refine kw_Kgen (fun K hK => ?_)
  have hy : 0 ≤ (lI b).toInt := by rw [lI_toInt (by omega) (by omega)]; omega
  have td := tdm a b
  refine kw_lload_n dJ9_floorMod_f86c9_0 rfl ?_
  refine kw_lload_n dJ9_floorMod_f86c9_1 rfl ?_
  refine kw_lrem dJ9_floorMod_f86c9_2 (lI_ne h3 (by omega)) ?_
  refine kw_top (v' := pl_ (lI (a - a.tdiv b * b))) (by rw [lI_div (by omega) (by omega) h3 (by omega), lI_mul, lI_sub]) ?_
  refine kw_lstore dJ9_floorMod_f86c9_3 (Nat.le_of_ble_eq_true rfl) ?_
  refine kw_lload_n dJ9_floorMod_f86c9_5 rfl ?_
  refine kw_lload_n dJ9_floorMod_f86c9_6 rfl ?_
  refine kw_lxor dJ9_floorMod_f86c9_7 ?_
  refine kw_lconst (v := 0) dJ9_floorMod_f86c9_8 (by decide) ?_
  refine kw_lcmp dJ9_floorMod_f86c9_9 ?_
  refine kw_if_ge (tgt := 25) dJ9_floorMod_f86c9_10 (by decide) (fun c10 => ?_) (fun c10 => ?_)
  · skip
    have e10 : 0 ≤ a := by
      have z : ¬ lI a < 0 := fun q => absurd ((lg_cmp_lt _ _).mpr ((xneg hy).mpr q)) (Int32.not_lt.mpr c10)
      have z2 : ¬ lI a < lI 0 := z
      rw [lI_lt (by omega) (by omega) (by omega) (by omega)] at z2
      omega
    refine kw_lload dJ9_floorMod_f86c9_25 rfl ?_
    exact kw_lret dJ9_floorMod_f86c9_27 rfl (Nat.le_of_ble_eq_true rfl) (Nat.le_of_ble_eq_true rfl) (hK _ _ _ ⟨rfl, by rw [fd_pos e10, Int.mul_comm, ← Int.emod_def], rfl⟩)
  · skip
    have e10 : a < 0 := by
      have z : lI a < lI 0 := (xneg hy).mp ((lg_cmp_lt _ _).mp (Int32.not_le.mp c10))
      rw [lI_lt (by omega) (by omega) (by omega) (by omega)] at z
      exact z
    refine kw_lload dJ9_floorMod_f86c9_13 rfl ?_
    refine kw_lconst (v := 0) dJ9_floorMod_f86c9_15 (by decide) ?_
    refine kw_lcmp dJ9_floorMod_f86c9_16 ?_
    refine kw_if_eq (tgt := 25) dJ9_floorMod_f86c9_17 (by decide) (fun c17 => ?_) (fun c17 => ?_)
    · skip
      have e19 : a.tdiv b * b = a := by
        have z : lI (a - a.tdiv b * b) = lI 0 := (lg_cmp_eq _ _).mp c17
        have := lI_inj (by omega) (by omega) (by omega) (by omega) z
        omega
      refine kw_lload dJ9_floorMod_f86c9_25 rfl ?_
      exact kw_lret dJ9_floorMod_f86c9_27 rfl (Nat.le_of_ble_eq_true rfl) (Nat.le_of_ble_eq_true rfl) (hK _ _ _ ⟨rfl, by rw [fd_eq e19, Int.mul_comm, ← Int.emod_def], rfl⟩)
    · skip
      have e19 : a.tdiv b * b ≠ a := fun q => c17 ((lg_cmp_eq _ _).mpr (by rw [q, Int.sub_self]; rfl))
      have e20 := fd_ne h3 e10 e19
      refine kw_lload dJ9_floorMod_f86c9_20 rfl ?_
      refine kw_lload_n dJ9_floorMod_f86c9_22 rfl ?_
      refine kw_ladd dJ9_floorMod_f86c9_23 ?_
      refine kw_top (v' := pl_ (lI (a - a.tdiv b * b + b))) (congrArg pl_ (lI_add _ _)) ?_
      exact kw_lret dJ9_floorMod_f86c9_24 rfl (Nat.le_of_ble_eq_true rfl) (Nat.le_of_ble_eq_true rfl) (hK _ _ _ ⟨rfl, by rw [Int.emod_def, ← e20, Int.mul_comm b, Int.sub_mul, Int.one_mul, show a - (a.tdiv b * b - b) = a - a.tdiv b * b + b by omega], rfl⟩)
set_option maxHeartbeats 4000000 in
set_option maxRecDepth 100000 in
theorem c_dayOf (l : Launch) (h : PH) (t : Int) (h1 : -1000000000000 ≤ t) (h2 : t ≤ 1000000000000) : kw_F l yX1_dayOf cX1_dayOf 2 (Option.some Jvm.ClassFile.FieldType.long) { frames := 1, cells := 0, slots := 0, locals := 25 } [pl_ (lI t)] h (some (pl_ (lI (t / 86400)))) h := by
  refine kw_M_of RX1 "dayOf" [some (pl_ (lI t)), none] (by decide) rfl rfl rfl (Nat.le_of_ble_eq_true rfl) ?_
  intro D ad A
  refine kw_Kgen (fun K hK => ?_)
  refine kw_lload_n dX1_dayOf_0 rfl ?_
  refine kw_ldc2 dX1_dayOf_1 kt_599 ?_
  refine kw_top (v' := pl_ (lI 86400)) (by decide) ?_
  refine kw_callSf (As := [pl_ (lI t), pl_ (lI 86400)]) (m_fdiv l h t 86400 (by omega) (by omega) (by decide) (by decide)) dX1_dayOf_4 cl_X1_11 rfl rfl (Nat.le_of_ble_eq_true rfl) ⟨(Nat.le_of_ble_eq_true rfl), (Nat.le_of_ble_eq_true rfl), (Nat.le_of_ble_eq_true rfl), (Nat.le_of_ble_eq_true rfl)⟩ ?_
  exact kw_lret dX1_dayOf_7 rfl (Nat.le_of_ble_eq_true rfl) (Nat.le_of_ble_eq_true rfl) (hK _ _ _ ⟨rfl, rfl, rfl⟩)
set_option maxHeartbeats 4000000 in
set_option maxRecDepth 100000 in
theorem c_weekOf (l : Launch) (h : PH) (d : Int) (hd : dOk d) : kw_F l yX1_weekOf cX1_weekOf 2 (Option.some Jvm.ClassFile.FieldType.long) { frames := 1, cells := 0, slots := 0, locals := 25 } [pl_ (lI d)] h (some (pl_ (lI ((d + 3) / 7)))) h := by
  refine kw_M_of RX1 "weekOf" [some (pl_ (lI d)), none] (by decide) rfl rfl rfl (Nat.le_of_ble_eq_true rfl) ?_
  intro D ad A
  refine kw_Kgen (fun K hK => ?_)
  obtain ⟨d1, d2⟩ := hd
  refine kw_lload_n dX1_weekOf_0 rfl ?_
  refine kw_ldc2 dX1_weekOf_1 kt_609 ?_
  refine kw_top (v' := pl_ (lI 3)) (by decide) ?_
  refine kw_ladd dX1_weekOf_4 ?_
  refine kw_top (v' := pl_ (lI (d + 3))) (congrArg pl_ (lI_add _ _)) ?_
  refine kw_ldc2 dX1_weekOf_5 kt_610 ?_
  refine kw_top (v' := pl_ (lI 7)) (by decide) ?_
  refine kw_callSf (As := [pl_ (lI (d + 3)), pl_ (lI 7)]) (m_fdiv l h (d + 3) 7 (by omega) (by omega) (by decide) (by decide)) dX1_weekOf_8 cl_X1_11 rfl rfl (Nat.le_of_ble_eq_true rfl) ⟨(Nat.le_of_ble_eq_true rfl), (Nat.le_of_ble_eq_true rfl), (Nat.le_of_ble_eq_true rfl), (Nat.le_of_ble_eq_true rfl)⟩ ?_
  exact kw_lret dX1_weekOf_11 rfl (Nat.le_of_ble_eq_true rfl) (Nat.le_of_ble_eq_true rfl) (hK _ _ _ ⟨rfl, rfl, rfl⟩)
theorem lI_i {z : Int} : (lI z).toInt32 = iI z := by
  apply Int32.toInt_inj.mp
  rw [Int64.toInt_toInt32, Int64.toInt_ofInt, Int32.toInt_ofInt]
  exact Int.bmod_bmod_of_dvd (by decide)
set_option maxHeartbeats 4000000 in
set_option maxRecDepth 100000 in
theorem c_dow (l : Launch) (h : PH) (d : Int) (hd : dOk d) : kw_F l yX1_dayOfWeek cX1_dayOfWeek 2 (Option.some Jvm.ClassFile.FieldType.int) { frames := 1, cells := 0, slots := 0, locals := 25 } [pl_ (lI d)] h (some (pi_ (iI ((d + 3) % 7)))) h := by
  refine kw_M_of RX1 "dayOfWeek" [some (pl_ (lI d)), none] (by decide) rfl rfl rfl (Nat.le_of_ble_eq_true rfl) ?_
  intro D ad A
  refine kw_Kgen (fun K hK => ?_)
  obtain ⟨d1, d2⟩ := hd
  refine kw_lload_n dX1_dayOfWeek_0 rfl ?_
  refine kw_ldc2 dX1_dayOfWeek_1 kt_609 ?_
  refine kw_top (v' := pl_ (lI 3)) (by decide) ?_
  refine kw_ladd dX1_dayOfWeek_4 ?_
  refine kw_top (v' := pl_ (lI (d + 3))) (congrArg pl_ (lI_add _ _)) ?_
  refine kw_ldc2 dX1_dayOfWeek_5 kt_610 ?_
  refine kw_top (v' := pl_ (lI 7)) (by decide) ?_
  refine kw_callSf (As := [pl_ (lI (d + 3)), pl_ (lI 7)]) (m_fmod l h (d + 3) 7 (by omega) (by omega) (by decide) (by decide)) dX1_dayOfWeek_8 cl_X1_21 rfl rfl (Nat.le_of_ble_eq_true rfl) ⟨(Nat.le_of_ble_eq_true rfl), (Nat.le_of_ble_eq_true rfl), (Nat.le_of_ble_eq_true rfl), (Nat.le_of_ble_eq_true rfl)⟩ ?_
  refine kw_l2i dX1_dayOfWeek_11 ?_
  refine kw_top (v' := pi_ (iI ((d + 3) % 7))) (by rw [lI_i]) ?_
  exact kw_iret dX1_dayOfWeek_12 rfl (Nat.le_of_ble_eq_true rfl) (Nat.le_of_ble_eq_true rfl) (hK _ _ _ ⟨rfl, rfl, rfl⟩)
theorem lI_doe (d : Int) : lI (d + 719468) - lI (eraI d * 146097) = lI (doeI d) := (lI_sub _ _).trans (congrArg lI (by unfold eraI doeI; omega))
set_option maxHeartbeats 4000000 in
set_option maxRecDepth 100000 in
theorem c_yoe (l : Launch) (h : PH) (e : Int) (h1 : 0 ≤ e) (h2 : e < 146097) : kw_F l yX1_marchYearOfEra cX1_marchYearOfEra 4 (Option.some Jvm.ClassFile.FieldType.long) { frames := 0, cells := 0, slots := 0, locals := 0 } [pl_ (lI e)] h (some (pl_ (lI (yoeI e)))) h := by
  refine kw_M_of RX1 "marchYearOfEra" [some (pl_ (lI e)), none, none, none] (by decide) rfl rfl rfl (Nat.le_of_ble_eq_true rfl) ?_
  intro D ad A
  refine kw_Kgen (fun K hK => ?_)
  refine kw_lload_n dX1_marchYearOfEra_0 rfl ?_
  refine kw_ldc2 dX1_marchYearOfEra_1 kt_619 ?_
  refine kw_top (v' := pl_ (lI 1460)) (by decide) ?_
  refine kw_ldiv dX1_marchYearOfEra_4 (by decide) ?_
  refine kw_top (v' := pl_ (lI (e / 1460))) (by rw [lI_div (by omega) (by omega) (by decide) (by decide), fd_pos (by omega)]) ?_
  refine kw_lload_n dX1_marchYearOfEra_5 rfl ?_
  refine kw_ldc2 dX1_marchYearOfEra_6 kt_620 ?_
  refine kw_top (v' := pl_ (lI 36524)) (by decide) ?_
  refine kw_ldiv dX1_marchYearOfEra_9 (by decide) ?_
  refine kw_top (v' := pl_ (lI (e / 36524))) (by rw [lI_div (by omega) (by omega) (by decide) (by decide), fd_pos (by omega)]) ?_
  refine kw_lsub dX1_marchYearOfEra_10 ?_
  refine kw_top (v' := pl_ (lI (e / 1460 - e / 36524))) (congrArg pl_ (lI_sub _ _)) ?_
  refine kw_lload_n dX1_marchYearOfEra_11 rfl ?_
  refine kw_ldc2 dX1_marchYearOfEra_12 kt_621 ?_
  refine kw_top (v' := pl_ (lI 146096)) (by decide) ?_
  refine kw_ldiv dX1_marchYearOfEra_15 (by decide) ?_
  refine kw_top (v' := pl_ (lI (e / 146096))) (by rw [lI_div (by omega) (by omega) (by decide) (by decide), fd_pos (by omega)]) ?_
  refine kw_ladd dX1_marchYearOfEra_16 ?_
  refine kw_top (v' := pl_ (lI (e / 1460 - e / 36524 + e / 146096))) (congrArg pl_ (lI_add _ _)) ?_
  refine kw_lstore_n dX1_marchYearOfEra_17 (Nat.le_of_ble_eq_true rfl) ?_
  refine kw_lload_n dX1_marchYearOfEra_18 rfl ?_
  refine kw_lload_n dX1_marchYearOfEra_19 rfl ?_
  refine kw_lsub dX1_marchYearOfEra_20 ?_
  refine kw_top (v' := pl_ (lI (e - (e / 1460 - e / 36524 + e / 146096)))) (congrArg pl_ (lI_sub _ _)) ?_
  refine kw_ldc2 dX1_marchYearOfEra_21 kt_622 ?_
  refine kw_top (v' := pl_ (lI 365)) (by decide) ?_
  refine kw_ldiv dX1_marchYearOfEra_24 (by decide) ?_
  refine kw_top (v' := pl_ (lI ((e - (e / 1460 - e / 36524 + e / 146096)) / 365))) (by rw [lI_div (by omega) (by omega) (by decide) (by decide), fd_pos (by omega)]) ?_
  exact kw_lret dX1_marchYearOfEra_25 rfl (Nat.le_of_ble_eq_true rfl) (Nat.le_of_ble_eq_true rfl) (hK _ _ _ ⟨rfl, rfl, rfl⟩)
set_option maxHeartbeats 4000000 in
set_option maxRecDepth 100000 in
theorem c_doy (l : Launch) (h : PH) (e y : Int) (h1 : 0 ≤ y) (h2 : y ≤ 400) : kw_F l yX1_dayOfMarchYear cX1_dayOfMarchYear 4 (Option.some Jvm.ClassFile.FieldType.long) { frames := 0, cells := 0, slots := 0, locals := 0 } [pl_ (lI e), pl_ (lI y)] h (some (pl_ (lI (e - SI y)))) h := by
  refine kw_M_of RX1 "dayOfMarchYear" [some (pl_ (lI e)), none, some (pl_ (lI y)), none] (by decide) rfl rfl rfl (Nat.le_of_ble_eq_true rfl) ?_
  intro D ad A
  refine kw_Kgen (fun K hK => ?_)
  refine kw_lload_n dX1_dayOfMarchYear_0 rfl ?_
  refine kw_ldc2 dX1_dayOfMarchYear_1 kt_622 ?_
  refine kw_top (v' := pl_ (lI 365)) (by decide) ?_
  refine kw_lload_n dX1_dayOfMarchYear_4 rfl ?_
  refine kw_lmul dX1_dayOfMarchYear_5 ?_
  refine kw_top (v' := pl_ (lI (365 * y))) (congrArg pl_ (lI_mul _ _)) ?_
  refine kw_lload_n dX1_dayOfMarchYear_6 rfl ?_
  refine kw_ldc2 dX1_dayOfMarchYear_7 kt_628 ?_
  refine kw_top (v' := pl_ (lI 4)) (by decide) ?_
  refine kw_ldiv dX1_dayOfMarchYear_10 (by decide) ?_
  refine kw_top (v' := pl_ (lI (y / 4))) (by rw [lI_div (by omega) (by omega) (by decide) (by decide), fd_pos (by omega)]) ?_
  refine kw_ladd dX1_dayOfMarchYear_11 ?_
  refine kw_top (v' := pl_ (lI (365 * y + y / 4))) (congrArg pl_ (lI_add _ _)) ?_
  refine kw_lload_n dX1_dayOfMarchYear_12 rfl ?_
  refine kw_ldc2 dX1_dayOfMarchYear_13 kt_629 ?_
  refine kw_top (v' := pl_ (lI 100)) (by decide) ?_
  refine kw_ldiv dX1_dayOfMarchYear_16 (by decide) ?_
  refine kw_top (v' := pl_ (lI (y / 100))) (by rw [lI_div (by omega) (by omega) (by decide) (by decide), fd_pos (by omega)]) ?_
  refine kw_lsub dX1_dayOfMarchYear_17 ?_
  refine kw_top (v' := pl_ (lI (365 * y + y / 4 - y / 100))) (congrArg pl_ (lI_sub _ _)) ?_
  refine kw_lsub dX1_dayOfMarchYear_18 ?_
  refine kw_top (v' := pl_ (lI (e - SI y))) (congrArg pl_ (lI_sub _ _)) ?_
  exact kw_lret dX1_dayOfMarchYear_19 rfl (Nat.le_of_ble_eq_true rfl) (Nat.le_of_ble_eq_true rfl) (hK _ _ _ ⟨rfl, rfl, rfl⟩)
set_option maxHeartbeats 4000000 in
set_option maxRecDepth 100000 in
theorem c_mm (l : Launch) (h : PH) (x : Int) (h1 : 0 ≤ x) (h2 : x ≤ 400) : kw_F l yX1_marchMonth cX1_marchMonth 2 (Option.some Jvm.ClassFile.FieldType.long) { frames := 0, cells := 0, slots := 0, locals := 0 } [pl_ (lI x)] h (some (pl_ (lI ((5 * x + 2) / 153)))) h := by
  refine kw_M_of RX1 "marchMonth" [some (pl_ (lI x)), none] (by decide) rfl rfl rfl (Nat.le_of_ble_eq_true rfl) ?_
  intro D ad A
  refine kw_Kgen (fun K hK => ?_)
  refine kw_ldc2 dX1_marchMonth_0 kt_633 ?_
  refine kw_top (v' := pl_ (lI 5)) (by decide) ?_
  refine kw_lload_n dX1_marchMonth_3 rfl ?_
  refine kw_lmul dX1_marchMonth_4 ?_
  refine kw_top (v' := pl_ (lI (5 * x))) (congrArg pl_ (lI_mul _ _)) ?_
  refine kw_ldc2 dX1_marchMonth_5 kt_634 ?_
  refine kw_top (v' := pl_ (lI 2)) (by decide) ?_
  refine kw_ladd dX1_marchMonth_8 ?_
  refine kw_top (v' := pl_ (lI (5 * x + 2))) (congrArg pl_ (lI_add _ _)) ?_
  refine kw_ldc2 dX1_marchMonth_9 kt_635 ?_
  refine kw_top (v' := pl_ (lI 153)) (by decide) ?_
  refine kw_ldiv dX1_marchMonth_12 (by decide) ?_
  refine kw_top (v' := pl_ (lI ((5 * x + 2) / 153))) (by rw [lI_div (by omega) (by omega) (by decide) (by decide), fd_pos (by omega)]) ?_
  exact kw_lret dX1_marchMonth_13 rfl (Nat.le_of_ble_eq_true rfl) (Nat.le_of_ble_eq_true rfl) (hK _ _ _ ⟨rfl, rfl, rfl⟩)
set_option maxHeartbeats 4000000 in
set_option maxRecDepth 100000 in
theorem c_dbm (l : Launch) (h : PH) (x : Int) (h1 : 0 ≤ x) (h2 : x ≤ 12) : kw_F l yX1_daysBeforeMarchMonth cX1_daysBeforeMarchMonth 2 (Option.some Jvm.ClassFile.FieldType.long) { frames := 0, cells := 0, slots := 0, locals := 0 } [pl_ (lI x)] h (some (pl_ (lI ((153 * x + 2) / 5)))) h := by
  refine kw_M_of RX1 "daysBeforeMarchMonth" [some (pl_ (lI x)), none] (by decide) rfl rfl rfl (Nat.le_of_ble_eq_true rfl) ?_
  intro D ad A
  refine kw_Kgen (fun K hK => ?_)
  refine kw_ldc2 dX1_daysBeforeMarchMonth_0 kt_635 ?_
  refine kw_top (v' := pl_ (lI 153)) (by decide) ?_
  refine kw_lload_n dX1_daysBeforeMarchMonth_3 rfl ?_
  refine kw_lmul dX1_daysBeforeMarchMonth_4 ?_
  refine kw_top (v' := pl_ (lI (153 * x))) (congrArg pl_ (lI_mul _ _)) ?_
  refine kw_ldc2 dX1_daysBeforeMarchMonth_5 kt_634 ?_
  refine kw_top (v' := pl_ (lI 2)) (by decide) ?_
  refine kw_ladd dX1_daysBeforeMarchMonth_8 ?_
  refine kw_top (v' := pl_ (lI (153 * x + 2))) (congrArg pl_ (lI_add _ _)) ?_
  refine kw_ldc2 dX1_daysBeforeMarchMonth_9 kt_633 ?_
  refine kw_top (v' := pl_ (lI 5)) (by decide) ?_
  refine kw_ldiv dX1_daysBeforeMarchMonth_12 (by decide) ?_
  refine kw_top (v' := pl_ (lI ((153 * x + 2) / 5))) (by rw [lI_div (by omega) (by omega) (by decide) (by decide), fd_pos (by omega)]) ?_
  exact kw_lret dX1_daysBeforeMarchMonth_13 rfl (Nat.le_of_ble_eq_true rfl) (Nat.le_of_ble_eq_true rfl) (hK _ _ _ ⟨rfl, rfl, rfl⟩)
set_option maxHeartbeats 4000000 in
set_option maxRecDepth 100000 in
theorem c_mon (l : Launch) (h : PH) (d : Int) (hd : dOk d) : kw_F l yX1_monthsUpTo cX1_monthsUpTo 10 (Option.some Jvm.ClassFile.FieldType.long) { frames := 1, cells := 0, slots := 0, locals := 25 } [pl_ (lI d)] h (some (pl_ (lI (monI d)))) h := by
  refine kw_M_of RX1 "monthsUpTo" [some (pl_ (lI d)), none, none, none, none, none, none, none, none, none] (by decide) rfl rfl rfl (Nat.le_of_ble_eq_true rfl) ?_
  intro D ad A
  refine kw_Kgen (fun K hK => ?_)
  obtain ⟨d1, d2⟩ := id hd
  obtain ⟨b1, b2⟩ := doe_b d
  obtain ⟨⟨b3, b4⟩, -⟩ := yoe_ok b1 b2
  obtain ⟨b5, b6⟩ := doy_b d
  obtain ⟨b7, b8⟩ := mm_b d
  refine kw_lload_n dX1_monthsUpTo_0 rfl ?_
  refine kw_ldc2 dX1_monthsUpTo_1 kt_614 ?_
  refine kw_top (v' := pl_ (lI 719468)) (by decide) ?_
  refine kw_ladd dX1_monthsUpTo_4 ?_
  refine kw_top (v' := pl_ (lI (d + 719468))) (congrArg pl_ (lI_add _ _)) ?_
  refine kw_lstore_n dX1_monthsUpTo_5 (Nat.le_of_ble_eq_true rfl) ?_
  refine kw_lload_n dX1_monthsUpTo_6 rfl ?_
  refine kw_ldc2 dX1_monthsUpTo_7 kt_615 ?_
  refine kw_top (v' := pl_ (lI 146097)) (by decide) ?_
  refine kw_callSf (As := [pl_ (lI (d + 719468)), pl_ (lI 146097)]) (m_fdiv l h (d + 719468) 146097 (by omega) (by omega) (by decide) (by decide)) dX1_monthsUpTo_10 cl_X1_11 rfl rfl (Nat.le_of_ble_eq_true rfl) ⟨(Nat.le_of_ble_eq_true rfl), (Nat.le_of_ble_eq_true rfl), (Nat.le_of_ble_eq_true rfl), (Nat.le_of_ble_eq_true rfl)⟩ ?_
  refine kw_lstore dX1_monthsUpTo_13 (Nat.le_of_ble_eq_true rfl) ?_
  refine kw_lload_n dX1_monthsUpTo_15 rfl ?_
  refine kw_lload dX1_monthsUpTo_16 rfl ?_
  refine kw_ldc2 dX1_monthsUpTo_18 kt_615 ?_
  refine kw_top (v' := pl_ (lI 146097)) (by decide) ?_
  refine kw_lmul dX1_monthsUpTo_21 ?_
  refine kw_top (v' := pl_ (lI (eraI d * 146097))) (congrArg pl_ (lI_mul _ _)) ?_
  refine kw_lsub dX1_monthsUpTo_22 ?_
  refine kw_top (v' := pl_ (lI (doeI d))) (congrArg pl_ (lI_doe d)) ?_
  refine kw_lstore dX1_monthsUpTo_23 (Nat.le_of_ble_eq_true rfl) ?_
  refine kw_lload dX1_monthsUpTo_25 rfl ?_
  refine kw_callSf (As := [pl_ (lI (doeI d))]) (c_yoe l h (doeI d) b1 b2) dX1_monthsUpTo_27 cl_X1_34 rfl rfl (Nat.le_of_ble_eq_true rfl) ⟨(Nat.le_of_ble_eq_true rfl), (Nat.le_of_ble_eq_true rfl), (Nat.le_of_ble_eq_true rfl), (Nat.le_of_ble_eq_true rfl)⟩ ?_
  refine kw_lstore dX1_monthsUpTo_30 (Nat.le_of_ble_eq_true rfl) ?_
  refine kw_ldc2 dX1_monthsUpTo_32 kt_623 ?_
  refine kw_top (v' := pl_ (lI 12)) (by decide) ?_
  refine kw_ldc2 dX1_monthsUpTo_35 kt_624 ?_
  refine kw_top (v' := pl_ (lI 400)) (by decide) ?_
  refine kw_lload dX1_monthsUpTo_38 rfl ?_
  refine kw_lmul dX1_monthsUpTo_40 ?_
  refine kw_top (v' := pl_ (lI (400 * eraI d))) (congrArg pl_ (lI_mul _ _)) ?_
  refine kw_lload dX1_monthsUpTo_41 rfl ?_
  refine kw_ladd dX1_monthsUpTo_43 ?_
  refine kw_top (v' := pl_ (lI (400 * eraI d + yoeI (doeI d)))) (congrArg pl_ (lI_add _ _)) ?_
  refine kw_lmul dX1_monthsUpTo_44 ?_
  refine kw_top (v' := pl_ (lI (12 * (400 * eraI d + yoeI (doeI d))))) (congrArg pl_ (lI_mul _ _)) ?_
  refine kw_lload dX1_monthsUpTo_45 rfl ?_
  refine kw_lload dX1_monthsUpTo_47 rfl ?_
  refine kw_callSf (As := [pl_ (lI (doeI d)), pl_ (lI (yoeI (doeI d)))]) (c_doy l h (doeI d) (yoeI (doeI d)) b3 (by omega)) dX1_monthsUpTo_49 cl_X1_37 rfl rfl (Nat.le_of_ble_eq_true rfl) ⟨(Nat.le_of_ble_eq_true rfl), (Nat.le_of_ble_eq_true rfl), (Nat.le_of_ble_eq_true rfl), (Nat.le_of_ble_eq_true rfl)⟩ ?_
  refine kw_callSf (As := [pl_ (lI (doyI d))]) (c_mm l h (doyI d) b5 (by omega)) dX1_monthsUpTo_52 cl_X1_40 rfl rfl (Nat.le_of_ble_eq_true rfl) ⟨(Nat.le_of_ble_eq_true rfl), (Nat.le_of_ble_eq_true rfl), (Nat.le_of_ble_eq_true rfl), (Nat.le_of_ble_eq_true rfl)⟩ ?_
  refine kw_ladd dX1_monthsUpTo_55 ?_
  refine kw_top (v' := pl_ (lI (12 * (400 * eraI d + yoeI (doeI d)) + mmI d))) (congrArg pl_ (lI_add _ _)) ?_
  refine kw_ldc2 dX1_monthsUpTo_56 kt_634 ?_
  refine kw_top (v' := pl_ (lI 2)) (by decide) ?_
  refine kw_ladd dX1_monthsUpTo_59 ?_
  refine kw_top (v' := pl_ (lI (monI d))) (congrArg pl_ (lI_add _ _)) ?_
  exact kw_lret dX1_monthsUpTo_60 rfl (Nat.le_of_ble_eq_true rfl) (Nat.le_of_ble_eq_true rfl) (hK _ _ _ ⟨rfl, rfl, rfl⟩)
set_option maxHeartbeats 4000000 in
set_option maxRecDepth 100000 in
theorem c_year (l : Launch) (h : PH) (d : Int) (hd : dOk d) : kw_F l yX1_yearOf cX1_yearOf 2 (Option.some Jvm.ClassFile.FieldType.long) { frames := 2, cells := 0, slots := 0, locals := 54 } [pl_ (lI d)] h (some (pl_ (lI (monI d / 12)))) h := by
  refine kw_M_of RX1 "yearOf" [some (pl_ (lI d)), none] (by decide) rfl rfl rfl (Nat.le_of_ble_eq_true rfl) ?_
  intro D ad A
  refine kw_Kgen (fun K hK => ?_)
  obtain ⟨b1, b2⟩ := mon_b hd
  refine kw_lload_n dX1_yearOf_0 rfl ?_
  refine kw_callSf (As := [pl_ (lI d)]) (c_mon l h d hd) dX1_yearOf_1 cl_X1_24 rfl rfl (Nat.le_of_ble_eq_true rfl) ⟨(Nat.le_of_ble_eq_true rfl), (Nat.le_of_ble_eq_true rfl), (Nat.le_of_ble_eq_true rfl), (Nat.le_of_ble_eq_true rfl)⟩ ?_
  refine kw_ldc2 dX1_yearOf_4 kt_623 ?_
  refine kw_top (v' := pl_ (lI 12)) (by decide) ?_
  refine kw_callSf (As := [pl_ (lI (monI d)), pl_ (lI 12)]) (m_fdiv l h (monI d) 12 (by omega) (by omega) (by decide) (by decide)) dX1_yearOf_7 cl_X1_11 rfl rfl (Nat.le_of_ble_eq_true rfl) ⟨(Nat.le_of_ble_eq_true rfl), (Nat.le_of_ble_eq_true rfl), (Nat.le_of_ble_eq_true rfl), (Nat.le_of_ble_eq_true rfl)⟩ ?_
  exact kw_lret dX1_yearOf_10 rfl (Nat.le_of_ble_eq_true rfl) (Nat.le_of_ble_eq_true rfl) (hK _ _ _ ⟨rfl, rfl, rfl⟩)
set_option maxHeartbeats 4000000 in
set_option maxRecDepth 100000 in
theorem c_month (l : Launch) (h : PH) (d : Int) (hd : dOk d) : kw_F l yX1_monthOf cX1_monthOf 2 (Option.some Jvm.ClassFile.FieldType.int) { frames := 2, cells := 0, slots := 0, locals := 54 } [pl_ (lI d)] h (some (pi_ (iI (monI d % 12 + 1)))) h := by
  refine kw_M_of RX1 "monthOf" [some (pl_ (lI d)), none] (by decide) rfl rfl rfl (Nat.le_of_ble_eq_true rfl) ?_
  intro D ad A
  refine kw_Kgen (fun K hK => ?_)
  obtain ⟨b1, b2⟩ := mon_b hd
  refine kw_lload_n dX1_monthOf_0 rfl ?_
  refine kw_callSf (As := [pl_ (lI d)]) (c_mon l h d hd) dX1_monthOf_1 cl_X1_24 rfl rfl (Nat.le_of_ble_eq_true rfl) ⟨(Nat.le_of_ble_eq_true rfl), (Nat.le_of_ble_eq_true rfl), (Nat.le_of_ble_eq_true rfl), (Nat.le_of_ble_eq_true rfl)⟩ ?_
  refine kw_ldc2 dX1_monthOf_4 kt_623 ?_
  refine kw_top (v' := pl_ (lI 12)) (by decide) ?_
  refine kw_callSf (As := [pl_ (lI (monI d)), pl_ (lI 12)]) (m_fmod l h (monI d) 12 (by omega) (by omega) (by decide) (by decide)) dX1_monthOf_7 cl_X1_21 rfl rfl (Nat.le_of_ble_eq_true rfl) ⟨(Nat.le_of_ble_eq_true rfl), (Nat.le_of_ble_eq_true rfl), (Nat.le_of_ble_eq_true rfl), (Nat.le_of_ble_eq_true rfl)⟩ ?_
  refine kw_l2i dX1_monthOf_10 ?_
  refine kw_top (v' := pi_ (iI (monI d % 12))) (by rw [lI_i]) ?_
  refine kw_iconst (v := 1) dX1_monthOf_11 (by decide) ?_
  refine kw_iadd dX1_monthOf_12 ?_
  refine kw_top (v' := pi_ (iI (monI d % 12 + 1))) ((Int32.ofInt_add _ 1).symm ▸ rfl) ?_
  exact kw_iret dX1_monthOf_13 rfl (Nat.le_of_ble_eq_true rfl) (Nat.le_of_ble_eq_true rfl) (hK _ _ _ ⟨rfl, rfl, rfl⟩)
set_option maxHeartbeats 4000000 in
set_option maxRecDepth 100000 in
theorem c_dom (l : Launch) (h : PH) (d : Int) (hd : dOk d) : kw_F l yX1_dayOfMonth cX1_dayOfMonth 6 (Option.some Jvm.ClassFile.FieldType.int) { frames := 1, cells := 0, slots := 0, locals := 25 } [pl_ (lI d)] h (some (pi_ (iI (domI d)))) h := by
  refine kw_M_of RX1 "dayOfMonth" [some (pl_ (lI d)), none, none, none, none, none] (by decide) rfl rfl rfl (Nat.le_of_ble_eq_true rfl) ?_
  intro D ad A
  refine kw_Kgen (fun K hK => ?_)
  obtain ⟨d1, d2⟩ := id hd
  obtain ⟨b1, b2⟩ := doe_b d
  obtain ⟨⟨b3, b4⟩, -⟩ := yoe_ok b1 b2
  obtain ⟨b5, b6⟩ := doy_b d
  obtain ⟨b7, b8⟩ := mm_b d
  refine kw_lload_n dX1_dayOfMonth_0 rfl ?_
  refine kw_ldc2 dX1_dayOfMonth_1 kt_614 ?_
  refine kw_top (v' := pl_ (lI 719468)) (by decide) ?_
  refine kw_ladd dX1_dayOfMonth_4 ?_
  refine kw_top (v' := pl_ (lI (d + 719468))) (congrArg pl_ (lI_add _ _)) ?_
  refine kw_ldc2 dX1_dayOfMonth_5 kt_615 ?_
  refine kw_top (v' := pl_ (lI 146097)) (by decide) ?_
  refine kw_callSf (As := [pl_ (lI (d + 719468)), pl_ (lI 146097)]) (m_fmod l h (d + 719468) 146097 (by omega) (by omega) (by decide) (by decide)) dX1_dayOfMonth_8 cl_X1_21 rfl rfl (Nat.le_of_ble_eq_true rfl) ⟨(Nat.le_of_ble_eq_true rfl), (Nat.le_of_ble_eq_true rfl), (Nat.le_of_ble_eq_true rfl), (Nat.le_of_ble_eq_true rfl)⟩ ?_
  refine kw_lstore_n dX1_dayOfMonth_11 (Nat.le_of_ble_eq_true rfl) ?_
  refine kw_lload_n dX1_dayOfMonth_12 rfl ?_
  refine kw_lload_n dX1_dayOfMonth_13 rfl ?_
  refine kw_callSf (As := [pl_ (lI (doeI d))]) (c_yoe l h (doeI d) b1 b2) dX1_dayOfMonth_14 cl_X1_34 rfl rfl (Nat.le_of_ble_eq_true rfl) ⟨(Nat.le_of_ble_eq_true rfl), (Nat.le_of_ble_eq_true rfl), (Nat.le_of_ble_eq_true rfl), (Nat.le_of_ble_eq_true rfl)⟩ ?_
  refine kw_callSf (As := [pl_ (lI (doeI d)), pl_ (lI (yoeI (doeI d)))]) (c_doy l h (doeI d) (yoeI (doeI d)) b3 (by omega)) dX1_dayOfMonth_17 cl_X1_37 rfl rfl (Nat.le_of_ble_eq_true rfl) ⟨(Nat.le_of_ble_eq_true rfl), (Nat.le_of_ble_eq_true rfl), (Nat.le_of_ble_eq_true rfl), (Nat.le_of_ble_eq_true rfl)⟩ ?_
  refine kw_lstore dX1_dayOfMonth_20 (Nat.le_of_ble_eq_true rfl) ?_
  refine kw_lload dX1_dayOfMonth_22 rfl ?_
  refine kw_lload dX1_dayOfMonth_24 rfl ?_
  refine kw_callSf (As := [pl_ (lI (doyI d))]) (c_mm l h (doyI d) b5 (by omega)) dX1_dayOfMonth_26 cl_X1_40 rfl rfl (Nat.le_of_ble_eq_true rfl) ⟨(Nat.le_of_ble_eq_true rfl), (Nat.le_of_ble_eq_true rfl), (Nat.le_of_ble_eq_true rfl), (Nat.le_of_ble_eq_true rfl)⟩ ?_
  refine kw_callSf (As := [pl_ (lI (mmI d))]) (c_dbm l h (mmI d) b7 (by omega)) dX1_dayOfMonth_29 cl_X1_43 rfl rfl (Nat.le_of_ble_eq_true rfl) ⟨(Nat.le_of_ble_eq_true rfl), (Nat.le_of_ble_eq_true rfl), (Nat.le_of_ble_eq_true rfl), (Nat.le_of_ble_eq_true rfl)⟩ ?_
  refine kw_lsub dX1_dayOfMonth_32 ?_
  refine kw_top (v' := pl_ (lI (doyI d - (153 * mmI d + 2) / 5))) (congrArg pl_ (lI_sub _ _)) ?_
  refine kw_l2i dX1_dayOfMonth_33 ?_
  refine kw_top (v' := pi_ (iI (doyI d - (153 * mmI d + 2) / 5))) (by rw [lI_i]) ?_
  refine kw_iconst (v := 1) dX1_dayOfMonth_34 (by decide) ?_
  refine kw_iadd dX1_dayOfMonth_35 ?_
  refine kw_top (v' := pi_ (iI (domI d))) ((Int32.ofInt_add _ 1).symm ▸ rfl) ?_
  exact kw_iret dX1_dayOfMonth_36 rfl (Nat.le_of_ble_eq_true rfl) (Nat.le_of_ble_eq_true rfl) (hK _ _ _ ⟨rfl, rfl, rfl⟩)
def dayI (t : Int64) : Int := t.toInt / 86400
def a_calendar (t : Int64) (w : Int32) : Int32 := if t < -1000000000000 ∨ 1000000000000 < t then -102 else if w = 0 then iI (monI (dayI t) / 12) else if w = 1 then iI (monI (dayI t) % 12 + 1) else if w = 2 then iI (domI (dayI t)) else if w = 3 then iI ((dayI t + 3) % 7) else if w = 4 then iI (dayI t) else -102
set_option maxHeartbeats 4000000 in
set_option maxRecDepth 100000 in
theorem P_calendar (l : Launch) (h : PH) (t : Int64) (w : Int32) : kw_F l yX11_calendar cX11_calendar 6 (Option.some Jvm.ClassFile.FieldType.int) { frames := 3, cells := 0, slots := 0, locals := 75 } [pr_ (0, 0), pl_ t, pi_ w] h (some (pi_ (a_calendar t w))) h := by
  refine kw_M_of RX11 "calendar" [some (pr_ (0, 0)), some (pl_ t), none, some (pi_ w), none, none] (by decide) rfl rfl rfl (Nat.le_of_ble_eq_true rfl) ?_
  intro D ad A
  refine kw_Kgen (fun K hK => ?_)
  refine kw_lload_n dX11_calendar_0 rfl ?_
  refine kw_ldc2 dX11_calendar_1 kt_805 ?_
  refine kw_lcmp dX11_calendar_4 ?_
  refine kw_if_lt (tgt := 16) dX11_calendar_5 (by decide) (fun c5 => ?_) (fun c5 => ?_)
  · skip
    refine kw_bipush (v := (-102)) dX11_calendar_16 (by decide) ?_
    exact kw_iret dX11_calendar_18 rfl (Nat.le_of_ble_eq_true rfl) (Nat.le_of_ble_eq_true rfl) (hK _ _ _ ⟨rfl, by rw [a_calendar, if_pos (Or.inl ((lg_cmp_lt _ _).mp c5))], rfl⟩)
  · skip
    refine kw_lload_n dX11_calendar_8 rfl ?_
    refine kw_ldc2 dX11_calendar_9 kt_301 ?_
    refine kw_lcmp dX11_calendar_12 ?_
    refine kw_if_le (tgt := 19) dX11_calendar_13 (by decide) (fun c13 => ?_) (fun c13 => ?_)
    · skip
      have n1 : ¬ t < -1000000000000 := fun q => c5 ((lg_cmp_lt _ _).mpr q)
      have n2 : ¬ 1000000000000 < t := fun q => absurd ((lg_cmp_gt _ _).mpr q) (Int32.not_lt.mpr c13)
      rw [a_calendar, if_neg (fun q => q.elim n1 n2)] at hK
      rw [Int64.lt_iff_toInt_lt] at n1 n2
      have n1 : ¬ t.toInt < -1000000000000 := n1
      have n2 : ¬ 1000000000000 < t.toInt := n2
      have hd : dOk (dayI t) := by unfold dOk dayI; omega
      refine kw_lload_n dX11_calendar_19 rfl ?_
      refine kw_top (v' := pl_ (lI t.toInt)) (by rw [nm_lI]) ?_
      refine kw_callSf (As := [pl_ (lI t.toInt)]) (c_dayOf l h t.toInt (by omega) (by omega)) dX11_calendar_20 cl_X11_365 rfl rfl (Nat.le_of_ble_eq_true rfl) ⟨(Nat.le_of_ble_eq_true rfl), (Nat.le_of_ble_eq_true rfl), (Nat.le_of_ble_eq_true rfl), (Nat.le_of_ble_eq_true rfl)⟩ ?_
      refine kw_lstore dX11_calendar_23 (Nat.le_of_ble_eq_true rfl) ?_
      refine kw_iload_n dX11_calendar_25 rfl ?_
      by_cases e0 : w = 0
      · skip
        subst e0
        refine kw_tableIn (off := 34) (tgt := 60) dX11_calendar_26 (by decide) (by decide) (by decide) (by decide) ?_
        refine kw_lload dX11_calendar_60 rfl ?_
        refine kw_callSf (As := [pl_ (lI (dayI t))]) (c_year l h (dayI t) hd) dX11_calendar_62 cl_X11_371 rfl rfl (Nat.le_of_ble_eq_true rfl) ⟨(Nat.le_of_ble_eq_true rfl), (Nat.le_of_ble_eq_true rfl), (Nat.le_of_ble_eq_true rfl), (Nat.le_of_ble_eq_true rfl)⟩ ?_
        refine kw_l2i dX11_calendar_65 ?_
        refine kw_top (v' := pi_ (iI (monI (dayI t) / 12))) (by rw [lI_i]) ?_
        exact kw_iret dX11_calendar_66 rfl (Nat.le_of_ble_eq_true rfl) (Nat.le_of_ble_eq_true rfl) (hK _ _ _ ⟨rfl, rfl, rfl⟩)
      by_cases e1 : w = 1
      · skip
        subst e1
        refine kw_tableIn (off := 41) (tgt := 67) dX11_calendar_26 (by decide) (by decide) (by decide) (by decide) ?_
        refine kw_lload dX11_calendar_67 rfl ?_
        refine kw_callSf (As := [pl_ (lI (dayI t))]) (c_month l h (dayI t) hd) dX11_calendar_69 cl_X11_374 rfl rfl (Nat.le_of_ble_eq_true rfl) ⟨(Nat.le_of_ble_eq_true rfl), (Nat.le_of_ble_eq_true rfl), (Nat.le_of_ble_eq_true rfl), (Nat.le_of_ble_eq_true rfl)⟩ ?_
        exact kw_iret dX11_calendar_72 rfl (Nat.le_of_ble_eq_true rfl) (Nat.le_of_ble_eq_true rfl) (hK _ _ _ ⟨rfl, rfl, rfl⟩)
      by_cases e2 : w = 2
      · skip
        subst e2
        refine kw_tableIn (off := 47) (tgt := 73) dX11_calendar_26 (by decide) (by decide) (by decide) (by decide) ?_
        refine kw_lload dX11_calendar_73 rfl ?_
        refine kw_callSf (As := [pl_ (lI (dayI t))]) (c_dom l h (dayI t) hd) dX11_calendar_75 cl_X11_378 rfl rfl (Nat.le_of_ble_eq_true rfl) ⟨(Nat.le_of_ble_eq_true rfl), (Nat.le_of_ble_eq_true rfl), (Nat.le_of_ble_eq_true rfl), (Nat.le_of_ble_eq_true rfl)⟩ ?_
        exact kw_iret dX11_calendar_78 rfl (Nat.le_of_ble_eq_true rfl) (Nat.le_of_ble_eq_true rfl) (hK _ _ _ ⟨rfl, rfl, rfl⟩)
      by_cases e3 : w = 3
      · skip
        subst e3
        refine kw_tableIn (off := 53) (tgt := 79) dX11_calendar_26 (by decide) (by decide) (by decide) (by decide) ?_
        refine kw_lload dX11_calendar_79 rfl ?_
        refine kw_callSf (As := [pl_ (lI (dayI t))]) (c_dow l h (dayI t) hd) dX11_calendar_81 cl_X11_381 rfl rfl (Nat.le_of_ble_eq_true rfl) ⟨(Nat.le_of_ble_eq_true rfl), (Nat.le_of_ble_eq_true rfl), (Nat.le_of_ble_eq_true rfl), (Nat.le_of_ble_eq_true rfl)⟩ ?_
        exact kw_iret dX11_calendar_84 rfl (Nat.le_of_ble_eq_true rfl) (Nat.le_of_ble_eq_true rfl) (hK _ _ _ ⟨rfl, rfl, rfl⟩)
      by_cases e4 : w = 4
      · skip
        subst e4
        refine kw_tableIn (off := 59) (tgt := 85) dX11_calendar_26 (by decide) (by decide) (by decide) (by decide) ?_
        refine kw_lload dX11_calendar_85 rfl ?_
        refine kw_l2i dX11_calendar_87 ?_
        refine kw_top (v' := pi_ (iI (dayI t))) (by rw [lI_i]; rfl) ?_
        exact kw_iret dX11_calendar_88 rfl (Nat.le_of_ble_eq_true rfl) (Nat.le_of_ble_eq_true rfl) (hK _ _ _ ⟨rfl, rfl, rfl⟩)
      have n0 : (w).toInt ≠ 0 := fun q => e0 (Int32.toInt_inj.mp (q.trans (by decide)))
      have n1 : (w).toInt ≠ 1 := fun q => e1 (Int32.toInt_inj.mp (q.trans (by decide)))
      have n2 : (w).toInt ≠ 2 := fun q => e2 (Int32.toInt_inj.mp (q.trans (by decide)))
      have n3 : (w).toInt ≠ 3 := fun q => e3 (Int32.toInt_inj.mp (q.trans (by decide)))
      have n4 : (w).toInt ≠ 4 := fun q => e4 (Int32.toInt_inj.mp (q.trans (by decide)))
      refine kw_tableOut (tgt := 89) dX11_calendar_26 (by omega) (by decide) ?_
      refine kw_bipush (v := (-102)) dX11_calendar_89 (by decide) ?_
      exact kw_iret dX11_calendar_91 rfl (Nat.le_of_ble_eq_true rfl) (Nat.le_of_ble_eq_true rfl) (hK _ _ _ ⟨rfl, by rw [if_neg e0, if_neg e1, if_neg e2, if_neg e3, if_neg e4], rfl⟩)
    · skip
      refine kw_bipush (v := (-102)) dX11_calendar_16 (by decide) ?_
      exact kw_iret dX11_calendar_18 rfl (Nat.le_of_ble_eq_true rfl) (Nat.le_of_ble_eq_true rfl) (hK _ _ _ ⟨rfl, by rw [a_calendar, if_pos (Or.inr (by have := Int32.not_le.mp c13; exact (lg_cmp_gt _ _).mp this))], rfl⟩)
