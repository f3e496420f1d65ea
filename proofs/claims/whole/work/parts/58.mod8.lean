/-! THE MODEL'S METHODS, 8: the plan of packing -/
def encO : Option Nat → Int32
  | none => -1
  | some c => nI c
theorem nxtO_s {s : SG} {p lo m : Nat} : nxtO s p lo (m + 1) = if liesB s m (nI p) = true ∧ lo ≤ pp_ s m ∧ ltO s m (nxtO s p lo m) = true then some m else nxtO s p lo m := rfl
theorem le_pred {a lo : Nat} (ha : a < 2 ^ 30) (hl : lo < 2 ^ 30) : nI a ≤ nI lo - 1 ↔ a < lo := by
  cases lo with
  | zero =>
    constructor
    · intro h
      have h2 : nI a ≤ (-1 : Int32) := h
      exact absurd (Int32.le_trans (nI_pos' (n := a) (by omega)) h2) (by decide)
    · intro h; omega
  | succ lo =>
    rw [nI_pred]
    constructor
    · intro h; have := nI_le' (by omega) (by omega) h; omega
    · intro h; exact nI_le (by omega) (by omega)
abbrev k3 (k : KG) (a b c : Nat → Int32) : KG := (k.1, va_up (va_up (va_up k.2.1 0 a) 1 b) 2 c, k.2.2)
theorem um3_0 (s : SG) (k : KG) (a b c : Nat → Int32) (i : Nat) (v : Int32) : kw_up (hM s (k3 k a b c)) (41, 30) (rx_ 80 (va_up a i v)) = hM s (k3 k (va_up a i v) b c) := (uma_30 s (k3 k a b c) i v).trans (congrArg (hM s) (by
  show (k.1, va_up (va_up (va_up (va_up k.2.1 0 a) 1 b) 2 c) 0 (va_up a i v), k.2.2) = _
  rw [va_up_comm _ (show (2 : Nat) ≠ 0 by decide), va_up_comm _ (show (1 : Nat) ≠ 0 by decide), va_up2]))
theorem um3_1 (s : SG) (k : KG) (a b c : Nat → Int32) (i : Nat) (v : Int32) : kw_up (hM s (k3 k a b c)) (41, 31) (rx_ 80 (va_up b i v)) = hM s (k3 k a (va_up b i v) c) := (uma_31 s (k3 k a b c) i v).trans (congrArg (hM s) (by
  show (k.1, va_up (va_up (va_up (va_up k.2.1 0 a) 1 b) 2 c) 1 (va_up b i v), k.2.2) = _
  rw [va_up_comm _ (show (2 : Nat) ≠ 1 by decide), va_up2]))
theorem um3_2 (s : SG) (k : KG) (a b c : Nat → Int32) (i : Nat) (v : Int32) : kw_up (hM s (k3 k a b c)) (41, 32) (rx_ 80 (va_up c i v)) = hM s (k3 k a b (va_up c i v)) := (uma_32 s (k3 k a b c) i v).trans (congrArg (hM s) (by
  show (k.1, va_up (va_up (va_up (va_up k.2.1 0 a) 1 b) 2 c) 2 (va_up c i v), k.2.2) = _
  rw [va_up2]))
theorem k3_id (k : KG) : k3 k (ka_ k 0) (ka_ k 1) (ka_ k 2) = k := by
  show (k.1, va_up (va_up (va_up k.2.1 0 (k.2.1 0)) 1 (k.2.1 1)) 2 (k.2.1 2), k.2.2) = k
  rw [va_up_id, va_up_id, va_up_id]
theorem a3_up {f : Nat → Nat} {a : Nat → Int32} {i v : Nat} (h : ∀ q, q < i → a q = nI (f q)) (hv : v = f i) : ∀ q, q < i + 1 → va_up a i (nI v) q = nI (f q) := by
  intro q hq
  simp only [va_up]
  by_cases e : q = i
  · rw [if_pos e, hv, e]
  · rw [if_neg e]; exact h q (by omega)
set_option maxHeartbeats 4000000 in
set_option maxRecDepth 100000 in
theorem n_plan (l : Launch) (s : SG) (k : KG) (hb : nb_ s ≤ 80) (hp4 : np_ s ≤ 40) (hcap : cap_ s ≤ 1000) (p : Nat) (hp : p < np_ s) (hd : disOk s p) (hpp : ∀ j, j < nb_ s → pp_ s j ≤ 1000 ∧ 1 ≤ sz_ s j ∧ sz_ s j ≤ cap_ s) (hal : al_ s (np_ s - 1) ≤ cap_ s) (N : Nat) (hN : N = lieN s (nI p)) (f : Nat → Nat) (hf : f = mvO s p) (x0 : Nat × Nat) (hx0 : x0.1 = np_ s - 1 ∧ ((np_ s - 1 = p ∨ gn_ s (np_ s - 1) = true) → x0.2 = cap_ s) ∧ (¬ (np_ s - 1 = p ∨ gn_ s (np_ s - 1) = true) → x0.2 = al_ s (np_ s - 1))) : kw_P l yX12_plan cX12_plan 12 (Option.some Jvm.ClassFile.FieldType.int) { frames := 0, cells := 0, slots := 0, locals := 0 } [pr_ (40, 0), pi_ (nI p), pi_ (nI N)] (hM s k) (fun r h' => r = some (pi_ (nI ((plT s f x0 N).1 + 1))) ∧ ∃ a b c, (∀ q, q < N → a q = nI (f q)) ∧ (∀ q, q < N → b q = nI (plP s f x0 q).1) ∧ (∀ q, q < N → c q = nI (plP s f x0 q).2) ∧ h' = hM s (k3 k a b c)) := by
  refine kw_M_of RX12 "plan" [some (pr_ (40, 0)), some (pi_ (nI p)), some (pi_ (nI N)), none, none, none, none, none, none, none, none, none] (by decide) rfl rfl rfl (Nat.le_of_ble_eq_true rfl) ?_
  intro D ad A
  refine kw_Kgen (fun K hK => ?_)
  have hpl : planM s p (nb_ s) N f := by rw [hN, hf]; exact mvO_plan hd
  have hNb : N ≤ nb_ s := by rw [hN]; exact cntN_le _
  have hpl1 : ∀ i, (plT s f x0 i).1 ≤ np_ s - 1 + i := fun i => by rw [← hx0.1]; exact plT_le s f x0 i
  have outer : ∀ (n_ : Nat) (i : Nat) (L : Nat) (O : Bool) (F : Nat) (lo : Nat) (a1 : Nat → Int32) (a2 : Nat → Int32) (a3 : Nat → Int32), N - i < n_ → i ≤ N → F ≤ 1000 → lo ≤ 1001 → (O = true ∧ L = (plT s f x0 i).1 ∧ F = (plT s f x0 i).2) ∨ (O = false ∧ (plT s f x0 i).2 = cap_ s) → (∀ q, q < i → pp_ s (f q) < lo) → (i < N → lo ≤ pp_ s (f i)) → (∀ q, q < i → a1 q = nI (f q)) → (∀ q, q < i → a2 q = nI (plP s f x0 q).1) → (∀ q, q < i → a3 q = nI (plP s f x0 q).2) → kw_G l D cX12_plan RX12 (Option.some Jvm.ClassFile.FieldType.int) "plan" { frames := 0, cells := 0, slots := 0, locals := 0 } A K ad (hM s (k3 k a1 a2 a3)) 0 0 51 [some (pr_ (40, 0)), some (pi_ (nI p)), some (pi_ (nI N)), some (pi_ (nI ((plT s f x0 i).1 + 1))), some (pi_ (nI L)), some (pi_ (b2 O)), some (pi_ (nI F)), some (pi_ (nI lo - 1)), some (pi_ (nI i)), none, none, none] [] := by
    intro n_
    induction n_ with
    | zero =>
      intro i L O F lo a1 a2 a3 hm_
      exact absurd hm_ (Nat.not_lt_zero _)
    | succ n_ ih =>
      intro i L O F lo a1 a2 a3 hm_ hi hF hlo hLOF hl1 hl2 ha1 ha2 ha3
      refine kw_iload dX12_plan_51 rfl ?_
      refine kw_iload_n dX12_plan_53 rfl ?_
      refine kw_icmp_ge (tgt := 243) dX12_plan_54 (by decide) (fun c54 => ?_) (fun c54 => ?_)
      · skip
        have e : i = N := Nat.le_antisymm hi (nI_le' (by omega) (by omega) c54)
        subst e
        refine kw_iload_n dX12_plan_243 rfl ?_
        exact kw_iret dX12_plan_244 rfl (Nat.le_of_ble_eq_true rfl) (Nat.le_of_ble_eq_true rfl) (hK _ _ _ ⟨rfl, rfl, a1, a2, a3, ha1, ha2, ha3, rfl⟩)
      · skip
        have hilt : i < N := nI_nle' (by omega) (by omega) c54
        have hfi : f i < nb_ s := (hpl.1 i hilt).1
        have hnx : encO (nxtO s p lo (nb_ s)) = nI (f i) := by rw [plan_one hd hpl lo i hilt (hl2 hilt) hl1]; rfl
        have hp9 := hpl1 i
        have inner : ∀ (n_ : Nat) (b : Nat), nb_ s - b < n_ → b ≤ nb_ s → kw_G l D cX12_plan RX12 (Option.some Jvm.ClassFile.FieldType.int) "plan" { frames := 0, cells := 0, slots := 0, locals := 0 } A K ad (hM s (k3 k a1 a2 a3)) 0 0 63 [some (pr_ (40, 0)), some (pi_ (nI p)), some (pi_ (nI N)), some (pi_ (nI ((plT s f x0 i).1 + 1))), some (pi_ (nI L)), some (pi_ (b2 O)), some (pi_ (nI F)), some (pi_ (nI lo - 1)), some (pi_ (nI i)), some (pi_ (encO (nxtO s p lo b))), some (pi_ (nI b)), none] [] := by
          intro n_
          induction n_ with
          | zero =>
            intro b hm_
            exact absurd hm_ (Nat.not_lt_zero _)
          | succ n_ ih2 =>
            intro b hm_ hbl
            refine kw_iload dX12_plan_63 rfl ?_
            refine kw_aload_n dX12_plan_65 rfl ?_
            refine kw_get dX12_plan_66 fl_X12_156 rfl rfl ?_
            refine kw_icmp_ge (tgt := 155) dX12_plan_69 (by decide) (fun c69 => ?_) (fun c69 => ?_)
            · skip
              have eb : b = nb_ s := Nat.le_antisymm hbl (nI_le' (by omega) (by omega) c69)
              subst eb
              rw [hnx]
              have hpf := hpp (f i) hfi
              refine kw_aload_n dX12_plan_155 rfl ?_
              refine kw_get dX12_plan_156 fl_X12_40 rfl rfl ?_
              refine kw_iload dX12_plan_159 rfl ?_
              refine kw_ialdN dX12_plan_161 rfl (by omega) (by decide) ?_
              refine kw_istore dX12_plan_162 (Nat.le_of_ble_eq_true rfl) ?_
              refine kw_iload dX12_plan_164 rfl ?_
              refine kw_if_eq (tgt := 186) dX12_plan_166 (by decide) (fun c166 => ?_) (fun c166 => ?_)
              · skip
                have e166 : O = false := b2_0.mp c166
                have ePA : plA s f (plT s f x0 i) i = ((plT s f x0 i).1 + 1, 0) := if_neg (by have := (hLOF.resolve_left (fun q => by rw [e166] at q; cases q.1)).2; omega)
                refine kw_iload_n dX12_plan_186 rfl ?_
                refine kw_istore dX12_plan_187 (Nat.le_of_ble_eq_true rfl) ?_
                refine kw_iinc dX12_plan_189 rfl (nI_i ((plT s f x0 i).1 + 1)) ?_
                refine kw_iconst (v := 0) dX12_plan_192 (by decide) ?_
                refine kw_top (v' := pi_ (nI 0)) rfl ?_
                refine kw_istore dX12_plan_193 (Nat.le_of_ble_eq_true rfl) ?_
                refine kw_iconst (v := 1) dX12_plan_195 (by decide) ?_
                refine kw_top (v' := pi_ (b2 true)) rfl ?_
                refine kw_istore dX12_plan_196 (Nat.le_of_ble_eq_true rfl) ?_
                refine kw_aload_n dX12_plan_198 rfl ?_
                refine kw_get dX12_plan_199 fl_X12_115 rfl rfl ?_
                refine kw_iload dX12_plan_202 rfl ?_
                refine kw_iload dX12_plan_204 rfl ?_
                refine kw_iastR dX12_plan_206 rfl (by omega) (by decide) ?_
                refine kw_heq (um3_0 s k a1 a2 a3 i (nI (f i))) ?_
                refine kw_aload_n dX12_plan_207 rfl ?_
                refine kw_get dX12_plan_208 fl_X12_118 rfl rfl ?_
                refine kw_iload dX12_plan_211 rfl ?_
                refine kw_iload dX12_plan_213 rfl ?_
                refine kw_iastR dX12_plan_215 rfl (by omega) (by decide) ?_
                refine kw_heq (um3_1 s k _ a2 a3 i (nI ((plT s f x0 i).1 + 1))) ?_
                refine kw_aload_n dX12_plan_216 rfl ?_
                refine kw_get dX12_plan_217 fl_X12_121 rfl rfl ?_
                refine kw_iload dX12_plan_220 rfl ?_
                refine kw_iload dX12_plan_222 rfl ?_
                refine kw_iastR dX12_plan_224 rfl (by omega) (by decide) ?_
                refine kw_heq (um3_2 s k _ _ a3 i (nI 0)) ?_
                refine kw_iload dX12_plan_225 rfl ?_
                refine kw_aload_n dX12_plan_227 rfl ?_
                refine kw_get dX12_plan_228 fl_X12_23 rfl rfl ?_
                refine kw_iload dX12_plan_231 rfl ?_
                refine kw_ialdN dX12_plan_233 rfl (by omega) (by decide) ?_
                refine kw_iadd dX12_plan_234 ?_
                refine kw_top (v' := pi_ (nI (0 + sz_ s (f i)))) (by rw [nI_add]) ?_
                refine kw_istore dX12_plan_235 (Nat.le_of_ble_eq_true rfl) ?_
                refine kw_iinc dX12_plan_237 rfl (nI_i i) ?_
                refine kw_goto (tgt := 51) dX12_plan_240 (by decide) ?_
                have hz9 := plA_fit s f (plT s f x0 i) i hpf.2.2
                refine kw_lvle (lv' := [some (pr_ (40, 0)), some (pi_ (nI p)), some (pi_ (nI N)), some (pi_ (nI ((plT s f x0 (i + 1)).1 + 1))), some (pi_ (nI ((plT s f x0 i).1 + 1))), some (pi_ (b2 true)), some (pi_ (nI (0 + sz_ s (f i)))), some (pi_ (nI (pp_ s (f i) + 1) - 1)), some (pi_ (nI (i + 1))), none, none, none]) (by rw [nI_pred, show (plT s f x0 (i + 1)).1 = ((plT s f x0 i).1 + 1) by show (plA s f (plT s f x0 i) i).1 = _; rw [ePA]]; exact kw_le_s (kw_le_s (kw_le_s (kw_le_s (kw_le_s (kw_le_s (kw_le_s (kw_le_s (kw_le_s (kw_le_n (kw_le_n (kw_le_n kw_le_0)))))))))))) ?_
                refine ih (i + 1) ((plT s f x0 i).1 + 1) true (0 + sz_ s (f i)) (pp_ s (f i) + 1) _ _ _ (by omega) (by omega) (by rw [ePA] at hz9; have h9 : 0 + sz_ s (f i) ≤ cap_ s := hz9; omega) (by omega) (Or.inl ⟨rfl, by show _ = (plA s f (plT s f x0 i) i).1; rw [ePA], by show _ = (plA s f (plT s f x0 i) i).2 + _; rw [ePA]⟩) (fun q hq => ?_) (fun hq => ?_) (a3_up ha1 rfl) (a3_up (f := fun q => (plP s f x0 q).1) ha2 (by show _ = (plA s f (plT s f x0 i) i).1; rw [ePA])) (a3_up (f := fun q => (plP s f x0 q).2) ha3 (by show _ = (plA s f (plT s f x0 i) i).2; rw [ePA]))
                · by_cases e : q = i
                  · rw [e]; exact Nat.lt_succ_self _
                  · have := hpl.2.1 q i (by omega) hilt
                    omega
                · exact hpl.2.1 i (i + 1) (Nat.lt_succ_self _) hq
              · skip
                have e166 : O = true := b2_n0.mp c166
                obtain ⟨_, eL, eF⟩ := hLOF.resolve_right (fun q => by rw [e166] at q; cases q.1)
                subst eL
                subst eF
                refine kw_iload dX12_plan_169 rfl ?_
                refine kw_aload_n dX12_plan_171 rfl ?_
                refine kw_get dX12_plan_172 fl_X12_23 rfl rfl ?_
                refine kw_iload dX12_plan_175 rfl ?_
                refine kw_ialdN dX12_plan_177 rfl (by omega) (by decide) ?_
                refine kw_iadd dX12_plan_178 ?_
                refine kw_top (v' := pi_ (nI ((plT s f x0 i).2 + sz_ s (f i)))) (by rw [nI_add]) ?_
                refine kw_aload_n dX12_plan_179 rfl ?_
                refine kw_get dX12_plan_180 fl_X12_124 rfl rfl ?_
                refine kw_icmp_le (tgt := 198) dX12_plan_183 (by decide) (fun c183 => ?_) (fun c183 => ?_)
                · skip
                  have e183 : (plT s f x0 i).2 + sz_ s (f i) ≤ cap_ s := nI_le' (by omega) (by omega) c183
                  have ePA : plA s f (plT s f x0 i) i = ((plT s f x0 i).1, (plT s f x0 i).2) := if_pos e183
                  rw [e166]
                  refine kw_aload_n dX12_plan_198 rfl ?_
                  refine kw_get dX12_plan_199 fl_X12_115 rfl rfl ?_
                  refine kw_iload dX12_plan_202 rfl ?_
                  refine kw_iload dX12_plan_204 rfl ?_
                  refine kw_iastR dX12_plan_206 rfl (by omega) (by decide) ?_
                  refine kw_heq (um3_0 s k a1 a2 a3 i (nI (f i))) ?_
                  refine kw_aload_n dX12_plan_207 rfl ?_
                  refine kw_get dX12_plan_208 fl_X12_118 rfl rfl ?_
                  refine kw_iload dX12_plan_211 rfl ?_
                  refine kw_iload dX12_plan_213 rfl ?_
                  refine kw_iastR dX12_plan_215 rfl (by omega) (by decide) ?_
                  refine kw_heq (um3_1 s k _ a2 a3 i (nI (plT s f x0 i).1)) ?_
                  refine kw_aload_n dX12_plan_216 rfl ?_
                  refine kw_get dX12_plan_217 fl_X12_121 rfl rfl ?_
                  refine kw_iload dX12_plan_220 rfl ?_
                  refine kw_iload dX12_plan_222 rfl ?_
                  refine kw_iastR dX12_plan_224 rfl (by omega) (by decide) ?_
                  refine kw_heq (um3_2 s k _ _ a3 i (nI (plT s f x0 i).2)) ?_
                  refine kw_iload dX12_plan_225 rfl ?_
                  refine kw_aload_n dX12_plan_227 rfl ?_
                  refine kw_get dX12_plan_228 fl_X12_23 rfl rfl ?_
                  refine kw_iload dX12_plan_231 rfl ?_
                  refine kw_ialdN dX12_plan_233 rfl (by omega) (by decide) ?_
                  refine kw_iadd dX12_plan_234 ?_
                  refine kw_top (v' := pi_ (nI ((plT s f x0 i).2 + sz_ s (f i)))) (by rw [nI_add]) ?_
                  refine kw_istore dX12_plan_235 (Nat.le_of_ble_eq_true rfl) ?_
                  refine kw_iinc dX12_plan_237 rfl (nI_i i) ?_
                  refine kw_goto (tgt := 51) dX12_plan_240 (by decide) ?_
                  have hz9 := plA_fit s f (plT s f x0 i) i hpf.2.2
                  refine kw_lvle (lv' := [some (pr_ (40, 0)), some (pi_ (nI p)), some (pi_ (nI N)), some (pi_ (nI ((plT s f x0 (i + 1)).1 + 1))), some (pi_ (nI (plT s f x0 i).1)), some (pi_ (b2 true)), some (pi_ (nI ((plT s f x0 i).2 + sz_ s (f i)))), some (pi_ (nI (pp_ s (f i) + 1) - 1)), some (pi_ (nI (i + 1))), none, none, none]) (by rw [nI_pred, show (plT s f x0 (i + 1)).1 = (plT s f x0 i).1 by show (plA s f (plT s f x0 i) i).1 = _; rw [ePA]]; exact kw_le_s (kw_le_s (kw_le_s (kw_le_s (kw_le_s (kw_le_s (kw_le_s (kw_le_s (kw_le_s (kw_le_n (kw_le_n (kw_le_n kw_le_0)))))))))))) ?_
                  refine ih (i + 1) (plT s f x0 i).1 true ((plT s f x0 i).2 + sz_ s (f i)) (pp_ s (f i) + 1) _ _ _ (by omega) (by omega) (by rw [ePA] at hz9; have h9 : (plT s f x0 i).2 + sz_ s (f i) ≤ cap_ s := hz9; omega) (by omega) (Or.inl ⟨rfl, by show _ = (plA s f (plT s f x0 i) i).1; rw [ePA], by show _ = (plA s f (plT s f x0 i) i).2 + _; rw [ePA]⟩) (fun q hq => ?_) (fun hq => ?_) (a3_up ha1 rfl) (a3_up (f := fun q => (plP s f x0 q).1) ha2 (by show _ = (plA s f (plT s f x0 i) i).1; rw [ePA])) (a3_up (f := fun q => (plP s f x0 q).2) ha3 (by show _ = (plA s f (plT s f x0 i) i).2; rw [ePA]))
                  · by_cases e : q = i
                    · rw [e]; exact Nat.lt_succ_self _
                    · have := hpl.2.1 q i (by omega) hilt
                      omega
                  · exact hpl.2.1 i (i + 1) (Nat.lt_succ_self _) hq
                · skip
                  have e183 : ¬ (plT s f x0 i).2 + sz_ s (f i) ≤ cap_ s := fun q => c183 (nI_le q (by omega))
                  have ePA : plA s f (plT s f x0 i) i = ((plT s f x0 i).1 + 1, 0) := if_neg e183
                  refine kw_iload_n dX12_plan_186 rfl ?_
                  refine kw_istore dX12_plan_187 (Nat.le_of_ble_eq_true rfl) ?_
                  refine kw_iinc dX12_plan_189 rfl (nI_i ((plT s f x0 i).1 + 1)) ?_
                  refine kw_iconst (v := 0) dX12_plan_192 (by decide) ?_
                  refine kw_top (v' := pi_ (nI 0)) rfl ?_
                  refine kw_istore dX12_plan_193 (Nat.le_of_ble_eq_true rfl) ?_
                  refine kw_iconst (v := 1) dX12_plan_195 (by decide) ?_
                  refine kw_top (v' := pi_ (b2 true)) rfl ?_
                  refine kw_istore dX12_plan_196 (Nat.le_of_ble_eq_true rfl) ?_
                  refine kw_aload_n dX12_plan_198 rfl ?_
                  refine kw_get dX12_plan_199 fl_X12_115 rfl rfl ?_
                  refine kw_iload dX12_plan_202 rfl ?_
                  refine kw_iload dX12_plan_204 rfl ?_
                  refine kw_iastR dX12_plan_206 rfl (by omega) (by decide) ?_
                  refine kw_heq (um3_0 s k a1 a2 a3 i (nI (f i))) ?_
                  refine kw_aload_n dX12_plan_207 rfl ?_
                  refine kw_get dX12_plan_208 fl_X12_118 rfl rfl ?_
                  refine kw_iload dX12_plan_211 rfl ?_
                  refine kw_iload dX12_plan_213 rfl ?_
                  refine kw_iastR dX12_plan_215 rfl (by omega) (by decide) ?_
                  refine kw_heq (um3_1 s k _ a2 a3 i (nI ((plT s f x0 i).1 + 1))) ?_
                  refine kw_aload_n dX12_plan_216 rfl ?_
                  refine kw_get dX12_plan_217 fl_X12_121 rfl rfl ?_
                  refine kw_iload dX12_plan_220 rfl ?_
                  refine kw_iload dX12_plan_222 rfl ?_
                  refine kw_iastR dX12_plan_224 rfl (by omega) (by decide) ?_
                  refine kw_heq (um3_2 s k _ _ a3 i (nI 0)) ?_
                  refine kw_iload dX12_plan_225 rfl ?_
                  refine kw_aload_n dX12_plan_227 rfl ?_
                  refine kw_get dX12_plan_228 fl_X12_23 rfl rfl ?_
                  refine kw_iload dX12_plan_231 rfl ?_
                  refine kw_ialdN dX12_plan_233 rfl (by omega) (by decide) ?_
                  refine kw_iadd dX12_plan_234 ?_
                  refine kw_top (v' := pi_ (nI (0 + sz_ s (f i)))) (by rw [nI_add]) ?_
                  refine kw_istore dX12_plan_235 (Nat.le_of_ble_eq_true rfl) ?_
                  refine kw_iinc dX12_plan_237 rfl (nI_i i) ?_
                  refine kw_goto (tgt := 51) dX12_plan_240 (by decide) ?_
                  have hz9 := plA_fit s f (plT s f x0 i) i hpf.2.2
                  refine kw_lvle (lv' := [some (pr_ (40, 0)), some (pi_ (nI p)), some (pi_ (nI N)), some (pi_ (nI ((plT s f x0 (i + 1)).1 + 1))), some (pi_ (nI ((plT s f x0 i).1 + 1))), some (pi_ (b2 true)), some (pi_ (nI (0 + sz_ s (f i)))), some (pi_ (nI (pp_ s (f i) + 1) - 1)), some (pi_ (nI (i + 1))), none, none, none]) (by rw [nI_pred, show (plT s f x0 (i + 1)).1 = ((plT s f x0 i).1 + 1) by show (plA s f (plT s f x0 i) i).1 = _; rw [ePA]]; exact kw_le_s (kw_le_s (kw_le_s (kw_le_s (kw_le_s (kw_le_s (kw_le_s (kw_le_s (kw_le_s (kw_le_n (kw_le_n (kw_le_n kw_le_0)))))))))))) ?_
                  refine ih (i + 1) ((plT s f x0 i).1 + 1) true (0 + sz_ s (f i)) (pp_ s (f i) + 1) _ _ _ (by omega) (by omega) (by rw [ePA] at hz9; have h9 : 0 + sz_ s (f i) ≤ cap_ s := hz9; omega) (by omega) (Or.inl ⟨rfl, by show _ = (plA s f (plT s f x0 i) i).1; rw [ePA], by show _ = (plA s f (plT s f x0 i) i).2 + _; rw [ePA]⟩) (fun q hq => ?_) (fun hq => ?_) (a3_up ha1 rfl) (a3_up (f := fun q => (plP s f x0 q).1) ha2 (by show _ = (plA s f (plT s f x0 i) i).1; rw [ePA])) (a3_up (f := fun q => (plP s f x0 q).2) ha3 (by show _ = (plA s f (plT s f x0 i) i).2; rw [ePA]))
                  · by_cases e : q = i
                    · rw [e]; exact Nat.lt_succ_self _
                    · have := hpl.2.1 q i (by omega) hilt
                      omega
                  · exact hpl.2.1 i (i + 1) (Nat.lt_succ_self _) hq
            · skip
              have hlt : b < nb_ s := nI_nle' (by omega) (by omega) c69
              have hpb := hpp b hlt
              refine kw_aload_n dX12_plan_72 rfl ?_
              refine kw_get dX12_plan_73 fl_X12_33 rfl rfl ?_
              refine kw_iload dX12_plan_76 rfl ?_
              refine kw_zaldN dX12_plan_78 rfl (by omega) (by decide) ?_
              refine kw_if_eq (tgt := 109) dX12_plan_79 (by decide) (fun c79 => ?_) (fun c79 => ?_)
              · skip
                have en : nxtO s p lo (b + 1) = nxtO s p lo b := by rw [nxtO_s]; exact if_neg (fun q => by have := q.1; unfold liesB at this; rw [b2_0.mp c79] at this; cases this)
                refine kw_iconst (v := 0) dX12_plan_109 (by decide) ?_
                refine kw_istore dX12_plan_110 (Nat.le_of_ble_eq_true rfl) ?_
                refine kw_iload dX12_plan_112 rfl ?_
                refine kw_if_eq (tgt := 145) dX12_plan_114 (by decide) (fun c114 => ?_) (fun c114 => ?_)
                · skip
                  refine kw_iload dX12_plan_145 rfl ?_
                  refine kw_istore dX12_plan_147 (Nat.le_of_ble_eq_true rfl) ?_
                  refine kw_iinc dX12_plan_149 rfl (nI_i b) ?_
                  refine kw_goto (tgt := 63) dX12_plan_152 (by decide) ?_
                  refine kw_lvle (lv' := [some (pr_ (40, 0)), some (pi_ (nI p)), some (pi_ (nI N)), some (pi_ (nI ((plT s f x0 i).1 + 1))), some (pi_ (nI L)), some (pi_ (b2 O)), some (pi_ (nI F)), some (pi_ (nI lo - 1)), some (pi_ (nI i)), some (pi_ (encO (nxtO s p lo (b + 1)))), some (pi_ (nI (b + 1))), none]) (by rw [en]; exact (kw_le_s (kw_le_s (kw_le_s (kw_le_s (kw_le_s (kw_le_s (kw_le_s (kw_le_s (kw_le_s (kw_le_s (kw_le_s (kw_le_n kw_le_0))))))))))))) ?_
                  exact ih2 (b + 1) (by omega) (by omega)
                · skip
                  exact absurd rfl c114
              · skip
                have e79 := b2_n0.mp c79
                refine kw_aload_n dX12_plan_82 rfl ?_
                refine kw_get dX12_plan_83 fl_X12_37 rfl rfl ?_
                refine kw_iload dX12_plan_86 rfl ?_
                refine kw_ialdN dX12_plan_88 rfl (by omega) (by decide) ?_
                refine kw_iload_n dX12_plan_89 rfl ?_
                refine kw_icmp_ne (tgt := 109) dX12_plan_90 (by decide) (fun c90 => ?_) (fun c90 => ?_)
                · skip
                  have en : nxtO s p lo (b + 1) = nxtO s p lo b := by rw [nxtO_s]; exact if_neg (fun q => by have := q.1; unfold liesB at this; rw [decide_eq_false c90, Bool.and_false] at this; cases this)
                  refine kw_iconst (v := 0) dX12_plan_109 (by decide) ?_
                  refine kw_istore dX12_plan_110 (Nat.le_of_ble_eq_true rfl) ?_
                  refine kw_iload dX12_plan_112 rfl ?_
                  refine kw_if_eq (tgt := 145) dX12_plan_114 (by decide) (fun c114 => ?_) (fun c114 => ?_)
                  · skip
                    refine kw_iload dX12_plan_145 rfl ?_
                    refine kw_istore dX12_plan_147 (Nat.le_of_ble_eq_true rfl) ?_
                    refine kw_iinc dX12_plan_149 rfl (nI_i b) ?_
                    refine kw_goto (tgt := 63) dX12_plan_152 (by decide) ?_
                    refine kw_lvle (lv' := [some (pr_ (40, 0)), some (pi_ (nI p)), some (pi_ (nI N)), some (pi_ (nI ((plT s f x0 i).1 + 1))), some (pi_ (nI L)), some (pi_ (b2 O)), some (pi_ (nI F)), some (pi_ (nI lo - 1)), some (pi_ (nI i)), some (pi_ (encO (nxtO s p lo (b + 1)))), some (pi_ (nI (b + 1))), none]) (by rw [en]; exact (kw_le_s (kw_le_s (kw_le_s (kw_le_s (kw_le_s (kw_le_s (kw_le_s (kw_le_s (kw_le_s (kw_le_s (kw_le_s (kw_le_n kw_le_0))))))))))))) ?_
                    exact ih2 (b + 1) (by omega) (by omega)
                  · skip
                    exact absurd rfl c114
                · skip
                  have hlies : liesB s b (nI p) = true := by unfold liesB; rw [e79, decide_eq_true c90]; rfl
                  refine kw_aload_n dX12_plan_93 rfl ?_
                  refine kw_get dX12_plan_94 fl_X12_40 rfl rfl ?_
                  refine kw_iload dX12_plan_97 rfl ?_
                  refine kw_ialdN dX12_plan_99 rfl (by omega) (by decide) ?_
                  refine kw_iload dX12_plan_100 rfl ?_
                  refine kw_icmp_le (tgt := 109) dX12_plan_102 (by decide) (fun c102 => ?_) (fun c102 => ?_)
                  · skip
                    have e102 : pp_ s b < lo := (le_pred (by omega) (by omega)).mp c102
                    have en : nxtO s p lo (b + 1) = nxtO s p lo b := by rw [nxtO_s]; exact if_neg (fun q => by have := q.2.1; omega)
                    refine kw_iconst (v := 0) dX12_plan_109 (by decide) ?_
                    refine kw_istore dX12_plan_110 (Nat.le_of_ble_eq_true rfl) ?_
                    refine kw_iload dX12_plan_112 rfl ?_
                    refine kw_if_eq (tgt := 145) dX12_plan_114 (by decide) (fun c114 => ?_) (fun c114 => ?_)
                    · skip
                      refine kw_iload dX12_plan_145 rfl ?_
                      refine kw_istore dX12_plan_147 (Nat.le_of_ble_eq_true rfl) ?_
                      refine kw_iinc dX12_plan_149 rfl (nI_i b) ?_
                      refine kw_goto (tgt := 63) dX12_plan_152 (by decide) ?_
                      refine kw_lvle (lv' := [some (pr_ (40, 0)), some (pi_ (nI p)), some (pi_ (nI N)), some (pi_ (nI ((plT s f x0 i).1 + 1))), some (pi_ (nI L)), some (pi_ (b2 O)), some (pi_ (nI F)), some (pi_ (nI lo - 1)), some (pi_ (nI i)), some (pi_ (encO (nxtO s p lo (b + 1)))), some (pi_ (nI (b + 1))), none]) (by rw [en]; exact (kw_le_s (kw_le_s (kw_le_s (kw_le_s (kw_le_s (kw_le_s (kw_le_s (kw_le_s (kw_le_s (kw_le_s (kw_le_s (kw_le_n kw_le_0))))))))))))) ?_
                      exact ih2 (b + 1) (by omega) (by omega)
                    · skip
                      exact absurd rfl c114
                  · skip
                    have e102 : lo ≤ pp_ s b := Nat.not_lt.mp (fun q => c102 ((le_pred (by omega) (by omega)).mpr q))
                    cases hc : nxtO s p lo b with
                    | none =>
                      have en : nxtO s p lo (b + 1) = some b := by rw [nxtO_s]; exact if_pos ⟨hlies, e102, by rw [hc]; rfl⟩
                      refine kw_iconst (v := 1) dX12_plan_105 (by decide) ?_
                      refine kw_goto (tgt := 110) dX12_plan_106 (by decide) ?_
                      refine kw_istore dX12_plan_110 (Nat.le_of_ble_eq_true rfl) ?_
                      refine kw_iload dX12_plan_112 rfl ?_
                      refine kw_if_eq (tgt := 145) dX12_plan_114 (by decide) (fun c114 => ?_) (fun c114 => ?_)
                      · skip
                        exact absurd c114 (by decide)
                      · skip
                        refine kw_iload dX12_plan_117 rfl ?_
                        refine kw_iconst (v := (-1)) dX12_plan_119 (by decide) ?_
                        refine kw_icmp_eq (tgt := 140) dX12_plan_120 (by decide) (fun c120 => ?_) (fun c120 => ?_)
                        · skip
                          refine kw_iload dX12_plan_140 rfl ?_
                          refine kw_goto (tgt := 147) dX12_plan_142 (by decide) ?_
                          refine kw_istore dX12_plan_147 (Nat.le_of_ble_eq_true rfl) ?_
                          refine kw_iinc dX12_plan_149 rfl (nI_i b) ?_
                          refine kw_goto (tgt := 63) dX12_plan_152 (by decide) ?_
                          refine kw_lvle (lv' := [some (pr_ (40, 0)), some (pi_ (nI p)), some (pi_ (nI N)), some (pi_ (nI ((plT s f x0 i).1 + 1))), some (pi_ (nI L)), some (pi_ (b2 O)), some (pi_ (nI F)), some (pi_ (nI lo - 1)), some (pi_ (nI i)), some (pi_ (encO (nxtO s p lo (b + 1)))), some (pi_ (nI (b + 1))), none]) (by rw [en]; exact (kw_le_s (kw_le_s (kw_le_s (kw_le_s (kw_le_s (kw_le_s (kw_le_s (kw_le_s (kw_le_s (kw_le_s (kw_le_s (kw_le_n kw_le_0))))))))))))) ?_
                          exact ih2 (b + 1) (by omega) (by omega)
                        · skip
                          exact absurd rfl c120
                    | some c =>
                      obtain ⟨hcb, _, _, _⟩ := nxtO_some hc
                      refine kw_iconst (v := 1) dX12_plan_105 (by decide) ?_
                      refine kw_goto (tgt := 110) dX12_plan_106 (by decide) ?_
                      refine kw_istore dX12_plan_110 (Nat.le_of_ble_eq_true rfl) ?_
                      refine kw_iload dX12_plan_112 rfl ?_
                      refine kw_if_eq (tgt := 145) dX12_plan_114 (by decide) (fun c114 => ?_) (fun c114 => ?_)
                      · skip
                        exact absurd c114 (by decide)
                      · skip
                        refine kw_iload dX12_plan_117 rfl ?_
                        refine kw_iconst (v := (-1)) dX12_plan_119 (by decide) ?_
                        refine kw_icmp_eq (tgt := 140) dX12_plan_120 (by decide) (fun c120 => ?_) (fun c120 => ?_)
                        · skip
                          exact absurd c120 (nI_m1 (by omega))
                        · skip
                          refine kw_aload_n dX12_plan_123 rfl ?_
                          refine kw_get dX12_plan_124 fl_X12_40 rfl rfl ?_
                          refine kw_iload dX12_plan_127 rfl ?_
                          refine kw_ialdN dX12_plan_129 rfl (by omega) (by decide) ?_
                          refine kw_aload_n dX12_plan_130 rfl ?_
                          refine kw_get dX12_plan_131 fl_X12_40 rfl rfl ?_
                          refine kw_iload dX12_plan_134 rfl ?_
                          refine kw_ialdN dX12_plan_136 rfl (by omega) (by decide) ?_
                          refine kw_icmp_ge (tgt := 145) dX12_plan_137 (by decide) (fun c137 => ?_) (fun c137 => ?_)
                          · skip
                            have e137 : pp_ s c ≤ pp_ s b := nI_le' (by have := hpp c (by omega); omega) (by omega) c137
                            have en : nxtO s p lo (b + 1) = some c := by rw [nxtO_s, hc]; exact if_neg (fun q => by have := of_decide_eq_true q.2.2; omega)
                            refine kw_iload dX12_plan_145 rfl ?_
                            refine kw_istore dX12_plan_147 (Nat.le_of_ble_eq_true rfl) ?_
                            refine kw_iinc dX12_plan_149 rfl (nI_i b) ?_
                            refine kw_goto (tgt := 63) dX12_plan_152 (by decide) ?_
                            refine kw_lvle (lv' := [some (pr_ (40, 0)), some (pi_ (nI p)), some (pi_ (nI N)), some (pi_ (nI ((plT s f x0 i).1 + 1))), some (pi_ (nI L)), some (pi_ (b2 O)), some (pi_ (nI F)), some (pi_ (nI lo - 1)), some (pi_ (nI i)), some (pi_ (encO (nxtO s p lo (b + 1)))), some (pi_ (nI (b + 1))), none]) (by rw [en]; exact (kw_le_s (kw_le_s (kw_le_s (kw_le_s (kw_le_s (kw_le_s (kw_le_s (kw_le_s (kw_le_s (kw_le_s (kw_le_s (kw_le_n kw_le_0))))))))))))) ?_
                            exact ih2 (b + 1) (by omega) (by omega)
                          · skip
                            have e137 : pp_ s b < pp_ s c := nI_nle' (by have := hpp c (by omega); omega) (by omega) c137
                            have en : nxtO s p lo (b + 1) = some b := by rw [nxtO_s, hc]; exact if_pos ⟨hlies, e102, decide_eq_true e137⟩
                            refine kw_iload dX12_plan_140 rfl ?_
                            refine kw_goto (tgt := 147) dX12_plan_142 (by decide) ?_
                            refine kw_istore dX12_plan_147 (Nat.le_of_ble_eq_true rfl) ?_
                            refine kw_iinc dX12_plan_149 rfl (nI_i b) ?_
                            refine kw_goto (tgt := 63) dX12_plan_152 (by decide) ?_
                            refine kw_lvle (lv' := [some (pr_ (40, 0)), some (pi_ (nI p)), some (pi_ (nI N)), some (pi_ (nI ((plT s f x0 i).1 + 1))), some (pi_ (nI L)), some (pi_ (b2 O)), some (pi_ (nI F)), some (pi_ (nI lo - 1)), some (pi_ (nI i)), some (pi_ (encO (nxtO s p lo (b + 1)))), some (pi_ (nI (b + 1))), none]) (by rw [en]; exact (kw_le_s (kw_le_s (kw_le_s (kw_le_s (kw_le_s (kw_le_s (kw_le_s (kw_le_s (kw_le_s (kw_le_s (kw_le_s (kw_le_n kw_le_0))))))))))))) ?_
                            exact ih2 (b + 1) (by omega) (by omega)
        refine kw_iconst (v := (-1)) dX12_plan_57 (by decide) ?_
        refine kw_istore dX12_plan_58 (Nat.le_of_ble_eq_true rfl) ?_
        refine kw_iconst (v := 0) dX12_plan_60 (by decide) ?_
        refine kw_istore dX12_plan_61 (Nat.le_of_ble_eq_true rfl) ?_
        exact inner (nb_ s + 1) 0 (by omega) (by omega)
  refine kw_aload_n dX12_plan_0 rfl ?_
  refine kw_get dX12_plan_1 fl_X12_178 rfl rfl ?_
  refine kw_istore_n dX12_plan_4 (Nat.le_of_ble_eq_true rfl) ?_
  refine kw_aload_n dX12_plan_5 rfl ?_
  refine kw_get dX12_plan_6 fl_X12_178 rfl rfl ?_
  refine kw_iconst (v := 1) dX12_plan_9 (by decide) ?_
  refine kw_isub dX12_plan_10 ?_
  refine kw_top (v' := pi_ (nI (np_ s - 1))) (by rw [show nI (np_ s) = nI (np_ s - 1 + 1) by rw [Nat.sub_add_cancel (by omega)], nI_pred]) ?_
  refine kw_istore dX12_plan_11 (Nat.le_of_ble_eq_true rfl) ?_
  refine kw_iload dX12_plan_13 rfl ?_
  refine kw_iload_n dX12_plan_15 rfl ?_
  refine kw_icmp_eq (tgt := 33) dX12_plan_16 (by decide) (fun c16 => ?_) (fun c16 => ?_)
  · skip
    have e16 : np_ s - 1 = p := nI_eq' (by omega) (by omega) c16
    refine kw_iconst (v := 0) dX12_plan_33 (by decide) ?_
    refine kw_top (v' := pi_ (b2 false)) rfl ?_
    refine kw_istore dX12_plan_34 (Nat.le_of_ble_eq_true rfl) ?_
    refine kw_aload_n dX12_plan_36 rfl ?_
    refine kw_get dX12_plan_37 fl_X12_49 rfl rfl ?_
    refine kw_iload dX12_plan_40 rfl ?_
    refine kw_ialdN dX12_plan_42 rfl (by omega) (by decide) ?_
    refine kw_istore dX12_plan_43 (Nat.le_of_ble_eq_true rfl) ?_
    refine kw_iconst (v := (-1)) dX12_plan_45 (by decide) ?_
    refine kw_istore dX12_plan_46 (Nat.le_of_ble_eq_true rfl) ?_
    refine kw_iconst (v := 0) dX12_plan_48 (by decide) ?_
    refine kw_istore dX12_plan_49 (Nat.le_of_ble_eq_true rfl) ?_
    refine kw_heq (h' := hM s (k3 k (ka_ k 0) (ka_ k 1) (ka_ k 2))) (by rw [k3_id]) ?_
    refine kw_lvle (lv' := [some (pr_ (40, 0)), some (pi_ (nI p)), some (pi_ (nI N)), some (pi_ (nI ((plT s f x0 0).1 + 1))), some (pi_ (nI (np_ s - 1))), some (pi_ (b2 false)), some (pi_ (nI (al_ s (np_ s - 1)))), some (pi_ (nI 0 - 1)), some (pi_ (nI 0)), none, none, none]) (by rw [show (plT s f x0 0).1 + 1 = np_ s by show x0.1 + 1 = _; rw [hx0.1]; omega]; exact kw_le_s (kw_le_s (kw_le_s (kw_le_s (kw_le_s (kw_le_s (kw_le_s (kw_le_s (kw_le_s (kw_le_n (kw_le_n (kw_le_n kw_le_0)))))))))))) ?_
    exact outer (N + 1) 0 (np_ s - 1) false (al_ s (np_ s - 1)) 0 _ _ _ (by omega) (by omega) (by omega) (by omega) (Or.inr ⟨rfl, hx0.2.1 (Or.inl e16)⟩) (fun q hq => absurd hq (Nat.not_lt_zero _)) (fun _ => Nat.zero_le _) (fun q hq => absurd hq (Nat.not_lt_zero _)) (fun q hq => absurd hq (Nat.not_lt_zero _)) (fun q hq => absurd hq (Nat.not_lt_zero _))
  · skip
    have e16 : np_ s - 1 ≠ p := nI_ne' (by omega) (by omega) c16
    refine kw_aload_n dX12_plan_19 rfl ?_
    refine kw_get dX12_plan_20 fl_X12_46 rfl rfl ?_
    refine kw_iload dX12_plan_23 rfl ?_
    refine kw_zaldN dX12_plan_25 rfl (by omega) (by decide) ?_
    refine kw_if_ne (tgt := 33) dX12_plan_26 (by decide) (fun c26 => ?_) (fun c26 => ?_)
    · skip
      have e26 := b2_n0.mp c26
      refine kw_iconst (v := 0) dX12_plan_33 (by decide) ?_
      refine kw_top (v' := pi_ (b2 false)) rfl ?_
      refine kw_istore dX12_plan_34 (Nat.le_of_ble_eq_true rfl) ?_
      refine kw_aload_n dX12_plan_36 rfl ?_
      refine kw_get dX12_plan_37 fl_X12_49 rfl rfl ?_
      refine kw_iload dX12_plan_40 rfl ?_
      refine kw_ialdN dX12_plan_42 rfl (by omega) (by decide) ?_
      refine kw_istore dX12_plan_43 (Nat.le_of_ble_eq_true rfl) ?_
      refine kw_iconst (v := (-1)) dX12_plan_45 (by decide) ?_
      refine kw_istore dX12_plan_46 (Nat.le_of_ble_eq_true rfl) ?_
      refine kw_iconst (v := 0) dX12_plan_48 (by decide) ?_
      refine kw_istore dX12_plan_49 (Nat.le_of_ble_eq_true rfl) ?_
      refine kw_heq (h' := hM s (k3 k (ka_ k 0) (ka_ k 1) (ka_ k 2))) (by rw [k3_id]) ?_
      refine kw_lvle (lv' := [some (pr_ (40, 0)), some (pi_ (nI p)), some (pi_ (nI N)), some (pi_ (nI ((plT s f x0 0).1 + 1))), some (pi_ (nI (np_ s - 1))), some (pi_ (b2 false)), some (pi_ (nI (al_ s (np_ s - 1)))), some (pi_ (nI 0 - 1)), some (pi_ (nI 0)), none, none, none]) (by rw [show (plT s f x0 0).1 + 1 = np_ s by show x0.1 + 1 = _; rw [hx0.1]; omega]; exact kw_le_s (kw_le_s (kw_le_s (kw_le_s (kw_le_s (kw_le_s (kw_le_s (kw_le_s (kw_le_s (kw_le_n (kw_le_n (kw_le_n kw_le_0)))))))))))) ?_
      exact outer (N + 1) 0 (np_ s - 1) false (al_ s (np_ s - 1)) 0 _ _ _ (by omega) (by omega) (by omega) (by omega) (Or.inr ⟨rfl, hx0.2.1 (Or.inr e26)⟩) (fun q hq => absurd hq (Nat.not_lt_zero _)) (fun _ => Nat.zero_le _) (fun q hq => absurd hq (Nat.not_lt_zero _)) (fun q hq => absurd hq (Nat.not_lt_zero _)) (fun q hq => absurd hq (Nat.not_lt_zero _))
    · skip
      have e26 := b2_0.mp c26
      refine kw_iconst (v := 1) dX12_plan_29 (by decide) ?_
      refine kw_top (v' := pi_ (b2 true)) rfl ?_
      refine kw_goto (tgt := 34) dX12_plan_30 (by decide) ?_
      refine kw_istore dX12_plan_34 (Nat.le_of_ble_eq_true rfl) ?_
      refine kw_aload_n dX12_plan_36 rfl ?_
      refine kw_get dX12_plan_37 fl_X12_49 rfl rfl ?_
      refine kw_iload dX12_plan_40 rfl ?_
      refine kw_ialdN dX12_plan_42 rfl (by omega) (by decide) ?_
      refine kw_istore dX12_plan_43 (Nat.le_of_ble_eq_true rfl) ?_
      refine kw_iconst (v := (-1)) dX12_plan_45 (by decide) ?_
      refine kw_istore dX12_plan_46 (Nat.le_of_ble_eq_true rfl) ?_
      refine kw_iconst (v := 0) dX12_plan_48 (by decide) ?_
      refine kw_istore dX12_plan_49 (Nat.le_of_ble_eq_true rfl) ?_
      refine kw_heq (h' := hM s (k3 k (ka_ k 0) (ka_ k 1) (ka_ k 2))) (by rw [k3_id]) ?_
      refine kw_lvle (lv' := [some (pr_ (40, 0)), some (pi_ (nI p)), some (pi_ (nI N)), some (pi_ (nI ((plT s f x0 0).1 + 1))), some (pi_ (nI (np_ s - 1))), some (pi_ (b2 true)), some (pi_ (nI (al_ s (np_ s - 1)))), some (pi_ (nI 0 - 1)), some (pi_ (nI 0)), none, none, none]) (by rw [show (plT s f x0 0).1 + 1 = np_ s by show x0.1 + 1 = _; rw [hx0.1]; omega]; exact kw_le_s (kw_le_s (kw_le_s (kw_le_s (kw_le_s (kw_le_s (kw_le_s (kw_le_s (kw_le_s (kw_le_n (kw_le_n (kw_le_n kw_le_0)))))))))))) ?_
      exact outer (N + 1) 0 (np_ s - 1) true (al_ s (np_ s - 1)) 0 _ _ _ (by omega) (by omega) (by omega) (by omega) (Or.inl ⟨rfl, hx0.1.symm, (hx0.2.2 (fun q => q.elim e16 (fun y => by rw [e26] at y; cases y))).symm⟩) (fun q hq => absurd hq (Nat.not_lt_zero _)) (fun _ => Nat.zero_le _) (fun q hq => absurd hq (Nat.not_lt_zero _)) (fun q hq => absurd hq (Nat.not_lt_zero _)) (fun q hq => absurd hq (Nat.not_lt_zero _))
