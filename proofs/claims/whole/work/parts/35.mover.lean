/-! MOVER -/
theorem nI_mul (a b : Nat) : nI a * nI b = nI (a * b) := (Int32.ofNat_mul a b).symm
theorem kA2 (k : KG) (i : Nat) (a b : Nat → Int32) : kA (kA k i a) i b = kA k i b := by
  show (k.1, va_up (va_up k.2.1 i a) i b, k.2.2) = _
  rw [va_up2]
theorem kA_id (k : KG) (i : Nat) : kA k i (ka_ k i) = k := by
  show (k.1, va_up k.2.1 i (k.2.1 i), k.2.2) = k
  rw [va_up_id]
theorem up_M0 (s : SG) (k : KG) (a : Nat → Int32) (j : Nat) (v : Int32) : kw_up (hC s (kA k 0 a)) (9, 1) (rx_ 80 (va_up a j v)) = hC s (kA k 0 (va_up a j v)) := (up_rm0 s (kA k 0 a) j v).trans (by rw [kA2]; rfl)
/-- the blocks of a pack below m, by place -/
def planM (s : SG) (p m n : Nat) (f : Nat → Nat) : Prop := (∀ i, i < n → f i < m ∧ liesB s (f i) (nI p) = true) ∧ (∀ i j, i < j → j < n → pp_ s (f i) < pp_ s (f j)) ∧ ∀ b, b < m → liesB s b (nI p) = true → ∃ i, i < n ∧ f i = b
def insF (f : Nat → Nat) (i b q : Nat) : Nat := if q < i then f q else if q = i then b else f (q - 1)
theorem insF_up {f : Nat → Nat} {a : Nat → Int32} {i b n : Nat} (h1 : ∀ q, q < i → a q = nI (f q)) (h2 : ∀ q, i < q → q ≤ n → a q = nI (f (q - 1))) : ∀ q, q < n + 1 → va_up a i (nI b) q = nI (insF f i b q) := by
  intro q hq
  unfold insF
  simp only [va_up]
  by_cases e1 : q < i
  · rw [if_neg (by omega), if_pos e1]; exact h1 q e1
  · by_cases e2 : q = i
    · rw [if_pos e2, if_neg e1, if_pos e2]
    · rw [if_neg e2, if_neg e1, if_neg e2]; exact h2 q (by omega) (by omega)
theorem planM_ins {s : SG} {p m n i : Nat} {f : Nat → Nat} (h : planM s p m n f) (hm : liesB s m (nI p) = true) (hi : i ≤ n) (h1 : ∀ q, q < i → pp_ s (f q) < pp_ s m) (h2 : ∀ q, i ≤ q → q < n → pp_ s m < pp_ s (f q)) : planM s p (m + 1) (n + 1) (insF f i m) := by
  obtain ⟨a, b, c⟩ := h
  refine ⟨fun q hq => ?_, fun q r hqr hr => ?_, fun x hx hl => ?_⟩
  · unfold insF
    split
    · have := a q (by omega); exact ⟨by omega, this.2⟩
    · split
      · exact ⟨by omega, hm⟩
      · have := a (q - 1) (by omega); exact ⟨by omega, this.2⟩
  · unfold insF
    by_cases e1 : r < i
    · rw [if_pos (by omega), if_pos e1]; exact b q r hqr (by omega)
    · rw [if_neg e1]
      by_cases e2 : r = i
      · rw [if_pos e2, if_pos (by omega)]; exact h1 q (by omega)
      · rw [if_neg e2]
        by_cases e3 : q < i
        · rw [if_pos e3]; exact b q (r - 1) (by omega) (by omega)
        · rw [if_neg e3]
          by_cases e4 : q = i
          · rw [if_pos e4]; exact h2 (r - 1) (by omega) (by omega)
          · rw [if_neg e4]; exact b (q - 1) (r - 1) (by omega) (by omega)
  · by_cases e : x = m
    · exact ⟨i, by omega, by unfold insF; rw [if_neg (Nat.lt_irrefl _), if_pos rfl, e]⟩
    · obtain ⟨q, hq, rfl⟩ := c x (by omega) hl
      by_cases e1 : q < i
      · exact ⟨q, by omega, by unfold insF; rw [if_pos e1]⟩
      · exact ⟨q + 1, by omega, by unfold insF; rw [if_neg (by omega), if_neg (by omega)]; rfl⟩
theorem planM_skip {s : SG} {p m n : Nat} {f : Nat → Nat} (h : planM s p m n f) (hm : liesB s m (nI p) = false) : planM s p (m + 1) n f :=
  ⟨fun i hi => ⟨Nat.lt_succ_of_lt (h.1 i hi).1, (h.1 i hi).2⟩, h.2.1, fun b hb hl => h.2.2 b (by
    by_cases e : b = m
    · rw [e, hm] at hl; cases hl
    · omega) hl⟩
def disOk (s : SG) (p : Nat) : Prop := ∀ a b, a < nb_ s → b < nb_ s → a ≠ b → liesB s a (nI p) = true → liesB s b (nI p) = true → pp_ s a ≠ pp_ s b
theorem pos_ex (g : Nat → Nat) (x : Nat) : ∀ n, (∀ i j, i < j → j < n → g i < g j) → (∀ i, i < n → g i ≠ x) → ∃ i, i ≤ n ∧ (∀ q, q < i → g q < x) ∧ ∀ q, i ≤ q → q < n → x < g q
  | 0, _, _ => ⟨0, Nat.le_refl _, fun q hq => absurd hq (Nat.not_lt_zero _), fun q _ hq => absurd hq (Nat.not_lt_zero _)⟩
  | n + 1, h, hx => by
    by_cases e : g n < x
    · refine ⟨n + 1, Nat.le_refl _, fun q hq => ?_, fun q h1 h2 => absurd h2 (by omega)⟩
      by_cases e2 : q = n
      · rw [e2]; exact e
      · exact Nat.lt_trans (h q n (by omega) (by omega)) e
    · obtain ⟨i, hi, h1, h2⟩ := pos_ex g x n (fun i j a b => h i j a (by omega)) (fun i hi => hx i (by omega))
      have := hx n (by omega)
      refine ⟨i, by omega, h1, fun q hq hq2 => ?_⟩
      by_cases e2 : q = n
      · rw [e2]; omega
      · exact h2 q hq (by omega)
theorem planM_ex {s : SG} {p : Nat} (hd : disOk s p) : ∀ m, m ≤ nb_ s → ∃ f, planM s p m (cntN (fun q => liesB s q (nI p)) m) f
  | 0, _ => ⟨fun _ => 0, fun i hi => absurd hi (Nat.not_lt_zero _), fun i j _ hj => absurd hj (Nat.not_lt_zero _), fun b hb => absurd hb (Nat.not_lt_zero _)⟩
  | m + 1, hm => by
    obtain ⟨f, hf⟩ := planM_ex hd m (by omega)
    rw [cntN]
    cases e : liesB s m (nI p) with
    | false => exact ⟨f, by rw [if_neg (by decide)]; exact planM_skip hf e⟩
    | true =>
      rw [if_pos rfl]
      obtain ⟨i, hi, h1, h2⟩ := pos_ex (fun q => pp_ s (f q)) (pp_ s m) _ hf.2.1 (fun i hi => by have := hf.1 i hi; exact hd (f i) m (by omega) (by omega) (by omega) this.2 e)
      exact ⟨insF f i m, planM_ins hf e hi h1 h2⟩
/-- the next by place, as a look at all finds it -/
def ltO (s : SG) (x : Nat) (o : Option Nat) : Bool := match o with
  | none => true
  | some c => decide (pp_ s x < pp_ s c)
def nxtO (s : SG) (p lo : Nat) : Nat → Option Nat
  | 0 => none
  | m + 1 => if liesB s m (nI p) = true ∧ lo ≤ pp_ s m ∧ ltO s m (nxtO s p lo m) = true then some m else nxtO s p lo m
theorem nxtO_some {s : SG} {p lo : Nat} : ∀ {m c : Nat}, nxtO s p lo m = some c → c < m ∧ liesB s c (nI p) = true ∧ lo ≤ pp_ s c ∧ ∀ b, b < m → liesB s b (nI p) = true → lo ≤ pp_ s b → pp_ s c ≤ pp_ s b
  | 0, c, h => by cases h
  | m + 1, c, h => by
    rw [nxtO] at h
    split at h
    · rename_i q
      cases h
      refine ⟨Nat.lt_succ_self _, q.1, q.2.1, fun b hb hl hlo => ?_⟩
      by_cases e : b = m
      · rw [e]; exact Nat.le_refl _
      · cases e2 : nxtO s p lo m with
        | none => exact absurd e2 (nxtO_none hl hlo (by omega))
        | some c => exact Nat.le_of_lt (Nat.lt_of_lt_of_le (by have q2 := q.2.2; rw [e2] at q2; exact of_decide_eq_true q2) ((nxtO_some e2).2.2.2 b (by omega) hl hlo))
    · rename_i q
      obtain ⟨a1, a2, a3, a4⟩ := nxtO_some h
      refine ⟨by omega, a2, a3, fun b hb hl hlo => ?_⟩
      by_cases e : b = m
      · subst e
        apply Nat.le_of_not_lt
        intro z
        exact q ⟨hl, hlo, by rw [h]; exact decide_eq_true z⟩
      · exact a4 b (by omega) hl hlo
where nxtO_none {s : SG} {p lo : Nat} : ∀ {m b : Nat}, liesB s b (nI p) = true → lo ≤ pp_ s b → b < m → nxtO s p lo m ≠ none
  | 0, b, _, _, h => absurd h (Nat.not_lt_zero _)
  | m + 1, b, h1, h2, h3 => by
    rw [nxtO]
    split
    · exact fun z => by cases z
    · rename_i q
      by_cases e : b = m
      · subst e
        intro z
        exact q ⟨h1, h2, by rw [z]; rfl⟩
      · exact nxtO_none h1 h2 (by omega)
def mvO (s : SG) (p : Nat) : Nat → Nat
  | 0 => (nxtO s p 0 (nb_ s)).getD 0
  | i + 1 => (nxtO s p (pp_ s (mvO s p i) + 1) (nb_ s)).getD 0
theorem plan_one {s : SG} {p n : Nat} {f : Nat → Nat} (hd : disOk s p) (h : planM s p (nb_ s) n f) (lo i : Nat) (hi : i < n) (h1 : lo ≤ pp_ s (f i)) (h2 : ∀ q, q < i → pp_ s (f q) < lo) : nxtO s p lo (nb_ s) = some (f i) := by
  obtain ⟨a, b, c⟩ := h
  have ai := a i hi
  cases e : nxtO s p lo (nb_ s) with
  | none => exact absurd e (nxtO_some.nxtO_none ai.2 h1 ai.1)
  | some d =>
    obtain ⟨d1, d2, d3, d4⟩ := nxtO_some e
    obtain ⟨q, hq, rfl⟩ := c d d1 d2
    have h3 := d4 (f i) ai.1 ai.2 h1
    rcases Nat.lt_trichotomy q i with z | z | z
    · have := h2 q z; omega
    · rw [z]
    · have := b i q z hq; omega
theorem plan_mvO {s : SG} {p n : Nat} {f : Nat → Nat} (hd : disOk s p) (h : planM s p (nb_ s) n f) : ∀ i, i < n → f i = mvO s p i
  | 0, hi => by rw [mvO, plan_one hd h 0 0 hi (Nat.zero_le _) (fun q hq => absurd hq (Nat.not_lt_zero _))]; rfl
  | i + 1, hi => by
    rw [mvO, ← plan_mvO hd h i (by omega), plan_one hd h (pp_ s (f i) + 1) (i + 1) hi (h.2.1 i (i + 1) (by omega) hi) (fun q hq => ?_)]
    · rfl
    · by_cases e : q = i
      · rw [e]; exact Nat.lt_succ_self _
      · exact Nat.lt_succ_of_lt (h.2.1 q i (by omega) (by omega))
theorem mvO_plan {s : SG} {p : Nat} (hd : disOk s p) : planM s p (nb_ s) (lieN s (nI p)) (mvO s p) := by
  obtain ⟨f, hf⟩ := planM_ex hd (nb_ s) (Nat.le_refl _)
  have e := plan_mvO hd hf
  have hf : planM s p (nb_ s) (lieN s (nI p)) f := hf
  exact ⟨fun i hi => by rw [← e i hi]; exact hf.1 i hi, fun i j hij hj => by rw [← e i (Nat.lt_trans hij hj), ← e j hj]; exact hf.2.1 i j hij hj, fun b hb hl => by
    obtain ⟨i, hi, q⟩ := hf.2.2 b hb hl
    exact ⟨i, hi, by rw [← e i hi]; exact q⟩⟩
def kMvd (k : KG) (a : Nat → Int32) (v : Int32) : KG := kX (kA k 0 a) 2 v
theorem kMvd2 (k : KG) (a b : Nat → Int32) (v w : Int32) : kMvd (kMvd k a v) b w = kMvd k b w := by
  show (va_up (va_up k.1 2 v) 2 w, va_up (va_up k.2.1 0 a) 0 b, k.2.2) = _
  rw [va_up2, va_up2]; rfl
/-- where each goes -/
def plA (s : SG) (f : Nat → Nat) (x : Nat × Nat) (i : Nat) : Nat × Nat := if x.2 + sz_ s (f i) ≤ cap_ s then x else (x.1 + 1, 0)
def plT (s : SG) (f : Nat → Nat) (x0 : Nat × Nat) : Nat → Nat × Nat
  | 0 => x0
  | i + 1 => ((plA s f (plT s f x0 i) i).1, (plA s f (plT s f x0 i) i).2 + sz_ s (f i))
abbrev plP (s : SG) (f : Nat → Nat) (x0 : Nat × Nat) (i : Nat) : Nat × Nat := plA s f (plT s f x0 i) i
theorem plA_le (s : SG) (f : Nat → Nat) (x : Nat × Nat) (i : Nat) : (plA s f x i).1 ≤ x.1 + 1 ∧ x.1 ≤ (plA s f x i).1 ∧ (plA s f x i).2 ≤ x.2 := by
  unfold plA
  split
  · exact ⟨Nat.le_succ _, Nat.le_refl _, Nat.le_refl _⟩
  · exact ⟨Nat.le_refl _, Nat.le_succ _, Nat.zero_le _⟩
theorem plT_le (s : SG) (f : Nat → Nat) (x0 : Nat × Nat) : ∀ i, (plT s f x0 i).1 ≤ x0.1 + i
  | 0 => Nat.le_refl _
  | i + 1 => by have h1 := plT_le s f x0 i; have h2 := (plA_le s f (plT s f x0 i) i).1; rw [plT]; show (plA s f (plT s f x0 i) i).1 ≤ _; omega
theorem plA_fit (s : SG) (f : Nat → Nat) (x : Nat × Nat) (i : Nat) (hz : sz_ s (f i) ≤ cap_ s) : (plA s f x i).2 + sz_ s (f i) ≤ cap_ s := by
  unfold plA
  split
  · assumption
  · show 0 + _ ≤ _; omega
theorem plT_fit (s : SG) (f : Nat → Nat) (x0 : Nat × Nat) (h0 : x0.2 ≤ cap_ s) : ∀ i, (∀ q, q < i → sz_ s (f q) ≤ cap_ s) → (plT s f x0 i).2 ≤ cap_ s
  | 0, _ => h0
  | i + 1, h => plA_fit s f _ i (h i (by omega))
theorem up_M12 (s : SG) (k : KG) (a b : Nat → Int32) (j : Nat) (v : Int32) : kw_up (hC s (kA (kA k 1 a) 2 b)) (9, 2) (rx_ 80 (va_up a j v)) = hC s (kA (kA k 1 (va_up a j v)) 2 b) := (up_rm1 s (kA (kA k 1 a) 2 b) j v).trans (congrArg (hC s) (by show (k.1, va_up (va_up (va_up k.2.1 1 a) 2 b) 1 (va_up a j v), k.2.2) = _; rw [va_up_comm _ (by decide), va_up2]))
theorem up_M13 (s : SG) (k : KG) (a b : Nat → Int32) (j : Nat) (v : Int32) : kw_up (hC s (kA (kA k 1 a) 2 b)) (9, 3) (rx_ 80 (va_up b j v)) = hC s (kA (kA k 1 a) 2 (va_up b j v)) := (up_rm2 s (kA (kA k 1 a) 2 b) j v).trans (by rw [kA2]; rfl)
def dueB (s : SG) (k : KG) (p : Nat) : Bool := decide (0 < shr_ s) && (!gn_ s p && (decide (0 < ho_ k p) && decide (shr_ s * ac_ k p ≤ 100 * ho_ k p)))
set_option maxHeartbeats 4000000 in
set_option maxRecDepth 100000 in
theorem d_isDue (l : Launch) (s : SG) (k : KG) (p : Nat) (hp : p < np_ s) (hp4 : np_ s ≤ 40) (hsh : shr_ s ≤ 100) (hho : ho_ k p ≤ 1000) (hac : ac_ k p ≤ 1000) : kw_F l yX4_isDue cX4_isDue 4 (Option.some Jvm.ClassFile.FieldType.boolean) { frames := 0, cells := 0, slots := 0, locals := 0 } [pr_ (9, 0), pi_ (nI p), pi_ (nI (shr_ s))] (hC s k) (some (pi_ (b2 (dueB s k p)))) (hC s k) := by
  refine kw_M_of RX4 "isDue" [some (pr_ (9, 0)), some (pi_ (nI p)), some (pi_ (nI (shr_ s))), none] (by decide) rfl rfl rfl (Nat.le_of_ble_eq_true rfl) ?_
  intro D ad A
  refine kw_Kgen (fun K hK => ?_)
  have hmm : shr_ s * ac_ k p ≤ 100 * 1000 := Nat.mul_le_mul hsh hac
  refine kw_aload_n dX4_isDue_0 rfl ?_
  refine kw_get dX4_isDue_1 fl_X4_21 rfl rfl ?_
  refine kw_get dX4_isDue_4 fl_X4_29 rfl rfl ?_
  refine kw_iload_n dX4_isDue_7 rfl ?_
  refine kw_aaldN dX4_isDue_8 rfl (by omega) (by decide) (if_pos hp) ?_
  refine kw_astore_n dX4_isDue_9 (Nat.le_of_ble_eq_true rfl) ?_
  refine kw_iload_n dX4_isDue_10 rfl ?_
  refine kw_if_le (tgt := 48) dX4_isDue_11 (by decide) (fun c11 => ?_) (fun c11 => ?_)
  · skip
    refine kw_iconst (v := 0) dX4_isDue_48 (by decide) ?_
    exact kw_zret dX4_isDue_49 rfl (by decide) (Nat.le_of_ble_eq_true rfl) (Nat.le_of_ble_eq_true rfl) (hK _ _ _ ⟨rfl, by rw [dueB, decide_eq_false (fun q => absurd c11 (nI_nle q (by omega)))]; rfl, rfl⟩)
  · skip
    have e11 : 0 < shr_ s := Nat.pos_of_ne_zero (fun q => c11 (by rw [q]; decide))
    refine kw_aload_n dX4_isDue_14 rfl ?_
    refine kw_get dX4_isDue_15 fl_X4_34 (hC_pa hp) rfl ?_
    refine kw_if_ne (tgt := 48) dX4_isDue_18 (by decide) (fun c18 => ?_) (fun c18 => ?_)
    · skip
      refine kw_iconst (v := 0) dX4_isDue_48 (by decide) ?_
      exact kw_zret dX4_isDue_49 rfl (by decide) (Nat.le_of_ble_eq_true rfl) (Nat.le_of_ble_eq_true rfl) (hK _ _ _ ⟨rfl, by rw [dueB, b2_n0.mp c18]; simp [b2], rfl⟩)
    · skip
      have e18 := b2_0.mp c18
      refine kw_aload_n dX4_isDue_21 rfl ?_
      refine kw_get dX4_isDue_22 fl_X4_40 (hC_pa hp) rfl ?_
      refine kw_if_le (tgt := 48) dX4_isDue_25 (by decide) (fun c25 => ?_) (fun c25 => ?_)
      · skip
        refine kw_iconst (v := 0) dX4_isDue_48 (by decide) ?_
        exact kw_zret dX4_isDue_49 rfl (by decide) (Nat.le_of_ble_eq_true rfl) (Nat.le_of_ble_eq_true rfl) (hK _ _ _ ⟨rfl, by rw [dueB, decide_eq_false (p := 0 < ho_ k p) (fun q => absurd c25 (nI_nle q (by omega)))]; simp [b2], rfl⟩)
      · skip
        have e25 : 0 < ho_ k p := Nat.pos_of_ne_zero (fun q => c25 (by rw [q]; decide))
        refine kw_bipush (v := (nI 100)) dX4_isDue_28 (by decide) ?_
        refine kw_aload_n dX4_isDue_30 rfl ?_
        refine kw_get dX4_isDue_31 fl_X4_40 (hC_pa hp) rfl ?_
        refine kw_imul dX4_isDue_34 ?_
        refine kw_top (v' := pi_ (nI (100 * ho_ k p))) (by rw [nI_mul]) ?_
        refine kw_iload_n dX4_isDue_35 rfl ?_
        refine kw_aload_n dX4_isDue_36 rfl ?_
        refine kw_get dX4_isDue_37 fl_X4_44 (hC_pa hp) rfl ?_
        refine kw_imul dX4_isDue_40 ?_
        refine kw_top (v' := pi_ (nI (shr_ s * ac_ k p))) (by rw [nI_mul]) ?_
        refine kw_icmp_lt (tgt := 48) dX4_isDue_41 (by decide) (fun c41 => ?_) (fun c41 => ?_)
        · skip
          refine kw_iconst (v := 0) dX4_isDue_48 (by decide) ?_
          exact kw_zret dX4_isDue_49 rfl (by decide) (Nat.le_of_ble_eq_true rfl) (Nat.le_of_ble_eq_true rfl) (hK _ _ _ ⟨rfl, by rw [dueB, decide_eq_false (p := shr_ s * ac_ k p ≤ 100 * ho_ k p) (fun q => absurd (nI_lt' (by omega) (by omega) c41) (by omega))]; simp [b2], rfl⟩)
        · skip
          refine kw_iconst (v := 1) dX4_isDue_44 (by decide) ?_
          refine kw_goto (tgt := 49) dX4_isDue_45 (by decide) ?_
          exact kw_zret dX4_isDue_49 rfl (by decide) (Nat.le_of_ble_eq_true rfl) (Nat.le_of_ble_eq_true rfl) (hK _ _ _ ⟨rfl, by rw [dueB, decide_eq_true e11, e18, decide_eq_true e25, decide_eq_true (nI_nlt' (by omega) (by omega) c41)]; rfl, rfl⟩)
set_option maxHeartbeats 4000000 in
set_option maxRecDepth 100000 in
theorem d_insert (l : Launch) (s : SG) (k : KG) (hb : nb_ s ≤ 80) (hpp : ∀ j, j < nb_ s → pp_ s j < 2 ^ 31) (b n : Nat) (hbb : b < nb_ s) (hn : n < 80) (f : Nat → Nat) (hml : ml_ k = nI n) (hf : ∀ q, q < n → ka_ k 0 q = nI (f q) ∧ f q < nb_ s) : kw_P l yX4_insertByPlace cX4_insertByPlace 4 (Option.none : Option Jvm.ClassFile.FieldType) { frames := 0, cells := 0, slots := 0, locals := 0 } [pr_ (9, 0), pi_ (nI b)] (hC s k) (fun r h' => r = none ∧ ∃ i a, i ≤ n ∧ (∀ q, q < n + 1 → a q = nI (insF f i b q)) ∧ (i = 0 ∨ pp_ s (f (i - 1)) ≤ pp_ s b) ∧ (∀ q, i ≤ q → q < n → pp_ s b < pp_ s (f q)) ∧ h' = hC s (kMvd k a (nI (n + 1)))) := by
  refine kw_M_of RX4 "insertByPlace" [some (pr_ (9, 0)), some (pi_ (nI b)), none, none] (by decide) rfl rfl rfl (Nat.le_of_ble_eq_true rfl) ?_
  intro D ad A
  refine kw_Kgen (fun K hK => ?_)
  have loop : ∀ (n_ : Nat) (i : Nat) (a : Nat → Int32), i < n_ → i ≤ n → (∀ q, q < i → a q = nI (f q)) → (∀ q, i < q → q ≤ n → a q = nI (f (q - 1))) → (∀ q, i ≤ q → q < n → pp_ s b < pp_ s (f q)) → kw_G l D cX4_insertByPlace RX4 (Option.none : Option Jvm.ClassFile.FieldType) "insertByPlace" { frames := 0, cells := 0, slots := 0, locals := 0 } A K ad (hC s (kA k 0 a)) 0 0 10 [some (pr_ (9, 0)), some (pi_ (nI b)), some (pi_ (nI i)), some (pi_ (nI i))] [] := by
    intro n_
    induction n_ with
    | zero =>
      intro i a hm_
      exact absurd hm_ (Nat.not_lt_zero _)
    | succ n_ ih =>
      intro i a hm_ hi h1 h2 h3
      refine kw_iload_n dX4_insertByPlace_10 rfl ?_
      refine kw_if_le (tgt := 72) dX4_insertByPlace_11 (by decide) (fun c11 => ?_) (fun c11 => ?_)
      · skip
        have e0 : i = 0 := Nat.eq_zero_of_not_pos (fun q => absurd c11 (nI_nle q (by omega)))
        refine kw_aload_n dX4_insertByPlace_72 rfl ?_
        refine kw_get dX4_insertByPlace_73 fl_X4_9 rfl rfl ?_
        refine kw_iload_n dX4_insertByPlace_76 rfl ?_
        refine kw_iload_n dX4_insertByPlace_77 rfl ?_
        refine kw_iastR dX4_insertByPlace_78 rfl (by omega) (by decide) ?_
        refine kw_heq (up_M0 s k a i (nI b)) ?_
        refine kw_aload_n dX4_insertByPlace_79 rfl ?_
        refine kw_dup dX4_insertByPlace_80 rfl ?_
        refine kw_get dX4_insertByPlace_81 fl_X4_55 rfl rfl ?_
        refine kw_top (v' := pi_ (nI n)) (congrArg pi_ hml) ?_
        refine kw_iconst (v := 1) dX4_insertByPlace_84 (by decide) ?_
        refine kw_iadd dX4_insertByPlace_85 ?_
        refine kw_top (v' := pi_ (nI (n + 1))) (by rw [← nI_1]) ?_
        refine kw_put dX4_insertByPlace_86 fl_X4_55 rfl (kw_ok_i _) (Nat.le_of_ble_eq_true rfl) ?_
        refine kw_heq (up_mml s (kA k 0 (va_up a i (nI b))) (nI (n + 1))) ?_
        exact kw_vret dX4_insertByPlace_89 rfl (Nat.le_of_ble_eq_true rfl) (Nat.le_of_ble_eq_true rfl) (hK _ _ _ ⟨rfl, rfl, i, va_up a i (nI b), hi, insF_up h1 h2, Or.inl e0, h3, rfl⟩)
      · skip
        cases i with
        | zero => exact absurd (by decide) c11
        | succ i => ?_
        obtain ⟨ha, hfi⟩ := hf i (by omega)
        have h1i := h1 i (by omega)
        refine kw_aload_n dX4_insertByPlace_14 rfl ?_
        refine kw_get dX4_insertByPlace_15 fl_X4_21 rfl rfl ?_
        refine kw_get dX4_insertByPlace_18 fl_X4_77 rfl rfl ?_
        refine kw_aload_n dX4_insertByPlace_21 rfl ?_
        refine kw_get dX4_insertByPlace_22 fl_X4_9 rfl rfl ?_
        refine kw_iload_n dX4_insertByPlace_25 rfl ?_
        refine kw_iconst (v := 1) dX4_insertByPlace_26 (by decide) ?_
        refine kw_isub dX4_insertByPlace_27 ?_
        refine kw_top (v' := pi_ (nI i)) (by rw [nI_pred]) ?_
        refine kw_ialdN dX4_insertByPlace_28 rfl (by omega) (by decide) ?_
        refine kw_top (v' := pi_ (nI (f i))) (congrArg pi_ h1i) ?_
        refine kw_aaldN dX4_insertByPlace_29 rfl (by omega) (by decide) (if_pos hfi) ?_
        refine kw_get dX4_insertByPlace_30 fl_X4_81 (hC_bl hfi) rfl ?_
        refine kw_aload_n dX4_insertByPlace_33 rfl ?_
        refine kw_get dX4_insertByPlace_34 fl_X4_21 rfl rfl ?_
        refine kw_get dX4_insertByPlace_37 fl_X4_77 rfl rfl ?_
        refine kw_iload_n dX4_insertByPlace_40 rfl ?_
        refine kw_aaldN dX4_insertByPlace_41 rfl (by omega) (by decide) (if_pos hbb) ?_
        refine kw_get dX4_insertByPlace_42 fl_X4_81 (hC_bl hbb) rfl ?_
        refine kw_icmp_le (tgt := 72) dX4_insertByPlace_45 (by decide) (fun c45 => ?_) (fun c45 => ?_)
        · skip
          refine kw_aload_n dX4_insertByPlace_72 rfl ?_
          refine kw_get dX4_insertByPlace_73 fl_X4_9 rfl rfl ?_
          refine kw_iload_n dX4_insertByPlace_76 rfl ?_
          refine kw_iload_n dX4_insertByPlace_77 rfl ?_
          refine kw_iastR dX4_insertByPlace_78 rfl (by omega) (by decide) ?_
          refine kw_heq (up_M0 s k a (i + 1) (nI b)) ?_
          refine kw_aload_n dX4_insertByPlace_79 rfl ?_
          refine kw_dup dX4_insertByPlace_80 rfl ?_
          refine kw_get dX4_insertByPlace_81 fl_X4_55 rfl rfl ?_
          refine kw_top (v' := pi_ (nI n)) (congrArg pi_ hml) ?_
          refine kw_iconst (v := 1) dX4_insertByPlace_84 (by decide) ?_
          refine kw_iadd dX4_insertByPlace_85 ?_
          refine kw_top (v' := pi_ (nI (n + 1))) (by rw [← nI_1]) ?_
          refine kw_put dX4_insertByPlace_86 fl_X4_55 rfl (kw_ok_i _) (Nat.le_of_ble_eq_true rfl) ?_
          refine kw_heq (up_mml s (kA k 0 (va_up a (i + 1) (nI b))) (nI (n + 1))) ?_
          exact kw_vret dX4_insertByPlace_89 rfl (Nat.le_of_ble_eq_true rfl) (Nat.le_of_ble_eq_true rfl) (hK _ _ _ ⟨rfl, rfl, i + 1, va_up a (i + 1) (nI b), hi, insF_up h1 h2, Or.inr (nI_le' (hpp _ hfi) (hpp _ hbb) c45), h3, rfl⟩)
        · skip
          have e45 : pp_ s b < pp_ s (f i) := nI_nle' (a := pp_ s (f i)) (b := pp_ s b) (hpp _ hfi) (hpp _ hbb) c45
          refine kw_aload_n dX4_insertByPlace_48 rfl ?_
          refine kw_get dX4_insertByPlace_49 fl_X4_9 rfl rfl ?_
          refine kw_iload_n dX4_insertByPlace_52 rfl ?_
          refine kw_aload_n dX4_insertByPlace_53 rfl ?_
          refine kw_get dX4_insertByPlace_54 fl_X4_9 rfl rfl ?_
          refine kw_iload_n dX4_insertByPlace_57 rfl ?_
          refine kw_iconst (v := 1) dX4_insertByPlace_58 (by decide) ?_
          refine kw_isub dX4_insertByPlace_59 ?_
          refine kw_top (v' := pi_ (nI i)) (by rw [nI_pred]) ?_
          refine kw_ialdN dX4_insertByPlace_60 rfl (by omega) (by decide) ?_
          refine kw_top (v' := pi_ (nI (f i))) (congrArg pi_ h1i) ?_
          refine kw_iastR dX4_insertByPlace_61 rfl (by omega) (by decide) ?_
          refine kw_heq (up_M0 s k a (i + 1) (nI (f i))) ?_
          refine kw_iload_n dX4_insertByPlace_62 rfl ?_
          refine kw_iconst (v := 1) dX4_insertByPlace_63 (by decide) ?_
          refine kw_isub dX4_insertByPlace_64 ?_
          refine kw_top (v' := pi_ (nI i)) (by rw [nI_pred]) ?_
          refine kw_istore_n dX4_insertByPlace_65 (Nat.le_of_ble_eq_true rfl) ?_
          refine kw_iinc dX4_insertByPlace_66 rfl ((nI_d (i + 1)).trans (nI_pred i)) ?_
          refine kw_goto (tgt := 10) dX4_insertByPlace_69 (by decide) ?_
          refine ih i _ (by omega) (by omega) (fun q hq => ?_) (fun q hq hq2 => ?_) (fun q hq hq2 => ?_)
          · simp only [va_up]; rw [if_neg (by omega)]; exact h1 q (by omega)
          · simp only [va_up]
            by_cases e : q = i + 1
            · rw [if_pos e, e]; rfl
            · rw [if_neg e]; exact h2 q (by omega) hq2
          · by_cases e : q = i
            · rw [e]; exact e45
            · exact h3 q (by omega) hq2
  refine kw_aload_n dX4_insertByPlace_0 rfl ?_
  refine kw_get dX4_insertByPlace_1 fl_X4_55 rfl rfl ?_
  refine kw_top (v' := pi_ (nI n)) (congrArg pi_ hml) ?_
  refine kw_istore_n dX4_insertByPlace_4 (Nat.le_of_ble_eq_true rfl) ?_
  refine kw_aload_n dX4_insertByPlace_5 rfl ?_
  refine kw_get dX4_insertByPlace_6 fl_X4_55 rfl rfl ?_
  refine kw_top (v' := pi_ (nI n)) (congrArg pi_ hml) ?_
  refine kw_istore_n dX4_insertByPlace_9 (Nat.le_of_ble_eq_true rfl) ?_
  have h0 : hC s k = hC s (kA k 0 (ka_ k 0)) := by rw [kA_id]
  rw [h0]
  exact loop (n + 1) n _ (by omega) (Nat.le_refl _) (fun q hq => (hf q hq).1) (fun q h1 h2 => absurd h2 (by omega)) (fun q h1 h2 => absurd h2 (by omega))
set_option maxHeartbeats 4000000 in
set_option maxRecDepth 100000 in
theorem d_collect (l : Launch) (s : SG) (k : KG) (hb : nb_ s ≤ 80) (hpp : ∀ j, j < nb_ s → pp_ s j < 2 ^ 31) (p : Nat) (hd : disOk s p) : kw_P l yX4_collect cX4_collect 3 (Option.none : Option Jvm.ClassFile.FieldType) { frames := 1, cells := 0, slots := 0, locals := 23 } [pr_ (9, 0), pi_ (nI p)] (hC s k) (fun r h' => r = none ∧ ∃ a, (∀ q, q < lieN s (nI p) → a q = nI (mvO s p q)) ∧ h' = hC s (kMvd k a (nI (lieN s (nI p))))) := by
  refine kw_M_of RX4 "collect" [some (pr_ (9, 0)), some (pi_ (nI p)), none] (by decide) rfl rfl rfl (Nat.le_of_ble_eq_true rfl) ?_
  intro D ad A
  refine kw_Kgen (fun K hK => ?_)
  have loop : ∀ (n_ : Nat) (j : Nat) (a : Nat → Int32) (f : Nat → Nat), nb_ s - j < n_ → j ≤ nb_ s → planM s p j (cntN (fun q => liesB s q (nI p)) j) f → (∀ q, q < cntN (fun q => liesB s q (nI p)) j → a q = nI (f q)) → kw_G l D cX4_collect RX4 (Option.none : Option Jvm.ClassFile.FieldType) "collect" { frames := 1, cells := 0, slots := 0, locals := 23 } A K ad (hC s (kMvd k a (nI (cntN (fun q => liesB s q (nI p)) j)))) 0 0 7 [some (pr_ (9, 0)), some (pi_ (nI p)), some (pi_ (nI j))] [] := by
    intro n_
    induction n_ with
    | zero =>
      intro j a f hm_
      exact absurd hm_ (Nat.not_lt_zero _)
    | succ n_ ih =>
      intro j a f hm_ hj hpl ha
      refine kw_iload_n dX4_collect_7 rfl ?_
      refine kw_aload_n dX4_collect_8 rfl ?_
      refine kw_get dX4_collect_9 fl_X4_21 rfl rfl ?_
      refine kw_get dX4_collect_12 fl_X4_67 rfl rfl ?_
      refine kw_icmp_ge (tgt := 41) dX4_collect_15 (by decide) (fun c15 => ?_) (fun c15 => ?_)
      · skip
        have e : j = nb_ s := Nat.le_antisymm hj (nI_le' (by omega) (by omega) c15)
        subst e
        exact kw_vret dX4_collect_41 rfl (Nat.le_of_ble_eq_true rfl) (Nat.le_of_ble_eq_true rfl) (hK _ _ _ ⟨rfl, rfl, a, (fun q hq => by rw [ha q hq, plan_mvO hd hpl q hq]), rfl⟩)
      · skip
        have hlt : j < nb_ s := nI_nle' (by omega) (by omega) c15
        refine kw_aload_n dX4_collect_18 rfl ?_
        refine kw_get dX4_collect_19 fl_X4_21 rfl rfl ?_
        refine kw_iload_n dX4_collect_22 rfl ?_
        refine kw_iload_n dX4_collect_23 rfl ?_
        refine kw_callVf (As := [pi_ (nI j), pi_ (nI p)]) (t_liesIn l s (kMvd k a (nI (cntN (fun q => liesB s q (nI p)) j))) hb j hlt (nI p)) dX4_collect_24 cl_X4_70 rfl rfl rfl rfl (Nat.le_of_ble_eq_true rfl) ⟨(Nat.le_of_ble_eq_true rfl), (Nat.le_of_ble_eq_true rfl), (Nat.le_of_ble_eq_true rfl), (Nat.le_of_ble_eq_true rfl)⟩ ?_
        refine kw_if_eq (tgt := 35) dX4_collect_27 (by decide) (fun c27 => ?_) (fun c27 => ?_)
        · skip
          have e27 := b2_0.mp c27
          have ec : cntN (fun q => liesB s q (nI p)) (j + 1) = cntN (fun q => liesB s q (nI p)) j := by rw [cntN, e27]; rfl
          refine kw_iinc dX4_collect_35 rfl (nI_i j) ?_
          refine kw_goto (tgt := 7) dX4_collect_38 (by decide) ?_
          rw [← ec] at hpl ha ⊢
          exact ih (j + 1) a f (by omega) (by omega) (planM_skip hpl e27) ha
        · skip
          have e27 := b2_n0.mp c27
          have ec : cntN (fun q => liesB s q (nI p)) (j + 1) = cntN (fun q => liesB s q (nI p)) j + 1 := by rw [cntN, e27]; rfl
          have hcn : cntN (fun q => liesB s q (nI p)) j ≤ j := cntN_le j
          refine kw_aload_n dX4_collect_30 rfl ?_
          refine kw_iload_n dX4_collect_31 rfl ?_
          refine kw_callV (As := [pi_ (nI j)]) (d_insert l s (kMvd k a (nI (cntN (fun q => liesB s q (nI p)) j))) hb hpp j (cntN (fun q => liesB s q (nI p)) j) hlt (by omega) f rfl (fun q hq => ⟨ha q hq, by have := (hpl.1 q hq).1; omega⟩)) dX4_collect_32 cl_X4_74 rfl rfl rfl rfl (Nat.le_of_ble_eq_true rfl) ⟨(Nat.le_of_ble_eq_true rfl), (Nat.le_of_ble_eq_true rfl), (Nat.le_of_ble_eq_true rfl), (Nat.le_of_ble_eq_true rfl)⟩ (fun r2 h2 hp2 => ?_)
          obtain ⟨rfl, i2, a2, b1, b2, b3, b4, rfl⟩ := hp2
          rw [kMvd2, ← ec]
          refine kw_iinc dX4_collect_35 rfl (nI_i j) ?_
          refine kw_goto (tgt := 7) dX4_collect_38 (by decide) ?_
          refine ih (j + 1) a2 (insF f i2 j) (by omega) (by omega) ?_ (by rw [ec]; exact b2)
          rw [ec]
          have dj : ∀ q, q < cntN (fun q => liesB s q (nI p)) j → pp_ s (f q) ≠ pp_ s j := fun q hq => by
            have := hpl.1 q hq
            exact hd (f q) j (by omega) hlt (by omega) this.2 e27
          refine planM_ins hpl e27 b1 (fun q hq => ?_) b4
          rcases b3 with b3 | b3
          · omega
          · have := dj (i2 - 1) (by omega)
            by_cases e : q = i2 - 1
            · rw [e]; omega
            · have := hpl.2.1 q (i2 - 1) (by omega) (by omega); omega
  refine kw_aload_n dX4_collect_0 rfl ?_
  refine kw_iconst (v := 0) dX4_collect_1 (by decide) ?_
  refine kw_put dX4_collect_2 fl_X4_55 rfl (kw_ok_i _) (Nat.le_of_ble_eq_true rfl) ?_
  refine kw_heq (up_mml s k (0 : Int32)) ?_
  refine kw_iconst (v := 0) dX4_collect_5 (by decide) ?_
  refine kw_istore_n dX4_collect_6 (Nat.le_of_ble_eq_true rfl) ?_
  have h0 : hC s (kX k 2 0) = hC s (kMvd k (ka_ k 0) (nI 0)) := by unfold kMvd; rw [kA_id]; rfl
  rw [h0]
  exact loop (nb_ s + 1) 0 _ (fun _ => 0) (by omega) (by omega) ⟨fun i hi => absurd hi (Nat.not_lt_zero _), fun i j _ hj => absurd hj (Nat.not_lt_zero _), fun b hb => absurd hb (Nat.not_lt_zero _)⟩ (fun q hq => absurd hq (Nat.not_lt_zero _))
