/-! WHAT HOLDS BETWEEN CALLS, 6: the class and the model -/
theorem revL_congr {r r' : Nat → Bool} : ∀ (n j : Nat) (s : SG) (c : Nat), (∀ q, j ≤ q → q < j + n → r q = r' q) → revL r n j s c = revL r' n j s c := by
  intro n
  induction n with
  | zero => intro j s c _; rfl
  | succ n ih =>
    intro j s c h
    rw [revL, revL, h j (Nat.le_refl _) (by omega)]
    rw [ih (j + 1) s c (fun q h1 h2 => h q (by omega) (by omega)), ih (j + 1) (s_rev1 s j) (c + 1) (fun q h1 h2 => h q (by omega) (by omega))]
theorem rS0_e {s : SG} {k : KG} {b : Nat} (hb : b < nb_ s) : ∀ q, q < nb_ s → rS0 s k b q = rC s b q := by
  intro q hq
  unfold rS0 rC
  exact rfrom_congr s hb (fun q h => by unfold rnone; rw [if_pos h]) q hq
theorem rv_e {s : SG} {k : KG} {b : Nat} (hb : b < nb_ s) : rvS s k b = tkS s b := by
  unfold rvS tkS
  exact revL_congr _ _ _ _ (fun q _ h => rS0_e hb q (by omega))
theorem spare_e {t : SG} {k : KG} {r r' : Nat → Bool} (h : ∀ q, q < nb_ t → r q = r' q) (b : Nat) : s_spare t (kB k 0 r) b = s_sp t r' b := by
  unfold s_spare s_sp
  have e : mkP t (rch_ (kB k 0 r)) (nb_ t) = mkP t r' (nb_ t) := by
    funext q
    show (mk_ t q || (decide (q < nb_ t) && r q)) = (mk_ t q || (decide (q < nb_ t) && r' q))
    by_cases e : q < nb_ t
    · rw [h q e]
    · rw [decide_eq_false e]; rfl
  rw [e]
theorem take_e {s : SG} {k : KG} {j b : Nat} (hb : b < nb_ s) : c_take s k j b = if (a_tk s j b).1 = true then (nI (tkS s b).2.2, (a_tk s j b).2) else (-105, (a_tk s j b).2) := by
  unfold c_take a_tk
  rw [rv_e hb]
  by_cases e : (tkS s b).1 = true
  · rw [if_pos e, if_pos e, if_pos rfl, spare_e (r' := rC s b)]
    intro q hq
    have : nb_ (tkS s b).2.1 = nb_ s := revL_1 _ _ _ _ _ 1 (by decide)
    exact rS0_e hb q (by omega)
  · rw [if_neg e, if_neg e]
    exact (if_neg (fun z => Bool.noConfusion (show false = true from z))).symm
theorem rn_p {s : SG} (j : Nat) : nb_ (s_rn s j) = nb_ s ∧ um_ (s_rn s j) = um_ s ∧ (∀ x, usesB (s_rn s j) j x = usesB s j x) ∧ ph_ (s_rn s j) = ph_ s ∧ cut_ (s_rn s j) = cut_ s ∧ cap_ (s_rn s j) = cap_ s ∧ np_ (s_rn s j) = np_ s ∧ (∀ z, fitB (s_rn s j) z = fitB s z) := by
  obtain ⟨y, e, _, _⟩ := s_rn_e s j
  rw [e]
  exact ⟨rfl, rfl, fun _ => rfl, rfl, rfl, rfl, rfl, fun _ => rfl⟩
theorem take0_e {s : SG} {k : KG} (hb : nb_ s ≤ 80) (x b : Int32) : a_take0 s k x b = a_take s x b := by
  unfold a_take0 a_take
  by_cases h1 : dn_ s = true
  · rw [if_pos h1, if_pos h1]
  · rw [if_neg h1, if_neg h1]
    by_cases h2 : svOk s x = true
    · rw [if_pos h2, if_pos h2]
      by_cases h3 : holdsB s b = true
      · rw [if_pos h3, if_pos h3]
        obtain ⟨f1, f2, f3⟩ := holds_ok hb h3
        rw [take_e (by rw [(rn_p (s := s) (cl_ x)).1]; exact f1)]
      · rw [if_neg h3, if_neg h3]
    · rw [if_neg h2, if_neg h2]
/-- two states that the class cannot tell apart -/
def sameA (a b : SG) : Prop := ∃ v, a = sF b 6 v
theorem sameA.rf (a : SG) : sameA a a := ⟨fs_ a 6, by show a = (a.1, a.2.1, a.2.2.1, a.2.2.2.1, va_up a.2.2.2.2.1 6 (a.2.2.2.2.1 6), a.2.2.2.2.2); rw [va_up_id]⟩
theorem sameA.use {a b : SG} (h : sameA a b) (j c : Nat) : sameA (s_use a j c) (s_use b j c) := by
  obtain ⟨v, rfl⟩ := h
  unfold s_use
  by_cases e : um_ b j < 8 ∧ usesB b j (nI c) = false
  · rw [if_pos (show um_ (sF b 6 v) j < 8 ∧ usesB (sF b 6 v) j (nI c) = false from e), if_pos e]
    refine ⟨v, ?_⟩
    unfold s_push
    exact (sF_c (sFF b 2 (va_up (us_ b) j (va_up (us_ b j) (um_ b j) c))) (show (6 : Nat) ≠ 14 by decide) v _)
  · rw [if_neg (show ¬ (um_ (sF b 6 v) j < 8 ∧ usesB (sF b 6 v) j (nI c) = false) from e), if_neg e]
    exact ⟨v, rfl⟩
theorem sameA.km0 {a b : SG} (h : sameA a b) (j : Nat) : sameA (s_km0 a j) (s_km0 b j) := by
  obtain ⟨v, rfl⟩ := h
  exact ⟨v, sF_c b (show (6 : Nat) ≠ 16 by decide) v _⟩
theorem add_same {t : SG} {k : KG} (hK : VK t k) (hnp : np_ t ≤ 40) {z : Nat} (hz : 1 ≤ z) (key : Int64) (n : Nat) (f : Nat → Nat) : sameA (a_addA (s_w1 t) key z n f) (s_add t k key z n f) := by
  obtain ⟨f1, f2⟩ := fit_full hK hnp hz
  obtain ⟨X, e⟩ := w1_e t
  unfold a_addA s_add s_add1
  rw [e]
  by_cases h : fitB t z = true
  · rw [if_pos (f1.mpr h), show newP (t.1, X, t.2.2) z = (np_ t - 1, al_ t (np_ t - 1)) from if_pos h, (f2 h).1]
    have hp := (f2 h).2
    exact ⟨_, if_pos (show np_ t - 1 < np_ t by omega)⟩
  · rw [if_neg (fun q => h (f1.mp q)), show newP (t.1, X, t.2.2) z = (np_ t, 0) from if_neg h]
    exact ⟨_, if_neg (Nat.lt_irrefl (np_ t))⟩
theorem save0_e {n : Nat} {s : SG} {k : KG} (h : JI n s k) (x : Int32) (key : Int64) (w : Int32) : (a_save0 s k x key w).1 = (a_save s x key w).1 ∧ sameA (a_save s x key w).2 (a_save0 s k x key w).2 := by
  unfold a_save0 a_save
  by_cases h1 : dn_ s = true
  · rw [if_pos h1, if_pos h1]; exact ⟨rfl, sameA.rf _⟩
  · rw [if_neg h1, if_neg h1]
    by_cases h2 : svOk s x = true
    · rw [if_pos h2, if_pos h2]
      have hr := JI_rn h (cl_ x)
      obtain ⟨r1, r2, r3, r4, r5, r6, r7, r8⟩ := rn_p (s := s) (cl_ x)
      by_cases h3 : w < 1 ∨ nI (cap_ s) < w
      · rw [if_pos h3, if_pos h3]; exact ⟨rfl, sameA.rf _⟩
      · rw [if_neg h3, if_neg h3]
        have hz := cl_b (x := w) (a := 1) (b := cap_ s) (fun q => h3 (Or.inl q)) (fun q => h3 (Or.inr q)) (by decide) (by have := h.A.1.1.2.2.2.1; omega)
        by_cases h4 : dead_ s (cl_ x) = true
        · rw [if_pos h4, if_pos h4]; exact ⟨rfl, sameA.rf _⟩
        · rw [if_neg h4, if_neg h4]
          by_cases h5 : findS s (cl_ x) key (cl_ w) = -1
          · rw [if_pos h5, if_pos h5]
            unfold c_new
            have hnp : np_ (s_rn s (cl_ x)) ≤ 40 := hr.A.1.1.2.1
            have hc : (um_ (s_rn s (cl_ x)) (cl_ x) < 8 ∧ roomS (s_rn s (cl_ x)) k (cl_ w) = true) ↔ (um_ s (cl_ x) < 8 ∧ nb_ s < 80 ∧ (fitB s (cl_ w) = true ∨ np_ s < 40)) := by
              rw [room_e hr.A.2.1 hnp hz.1, r1, r2, r7, r8]
            by_cases h6 : um_ s (cl_ x) < 8 ∧ nb_ s < 80 ∧ (fitB s (cl_ w) = true ∨ np_ s < 40)
            · rw [if_pos h6, if_pos (hc.mpr h6), r5]
              by_cases h7 : cut_ s = 0
              · rw [if_pos h7, if_pos h7]; exact ⟨rfl, sameA.rf _⟩
              · rw [if_neg h7, if_neg h7]
                refine ⟨by show nI (nb_ (s_rn s (cl_ x))) = nI (nb_ s); rw [r1], ?_⟩
                have hw := add_same hr.A.2.1 hnp hz.1 key (km_ (s_rn s (cl_ x)) (cl_ x)) (ks_ (s_rn s (cl_ x)) (cl_ x))
                obtain ⟨X, eX⟩ := w1_e (s_rn s (cl_ x))
                have e1 : km_ (s_w1 (s_rn s (cl_ x))) = km_ (s_rn s (cl_ x)) := by rw [eX]
                have e2 : ks_ (s_w1 (s_rn s (cl_ x))) = ks_ (s_rn s (cl_ x)) := by rw [eX]
                have e3 : nb_ (s_w1 (s_rn s (cl_ x))) = nb_ (s_rn s (cl_ x)) := by rw [eX]
                show sameA (a_new (s_w1 (s_rn s (cl_ x))) (cl_ x) key (cl_ w)) _
                unfold a_new
                rw [e1, e2, e3]
                exact (hw.use _ _).km0 _
            · rw [if_neg h6, if_neg (fun q => h6 (hc.mp q))]; exact ⟨rfl, sameA.rf _⟩
          · rw [if_neg h5, if_neg h5]
            rcases findF_cases (fun i => th_ s i && likeB s i (cl_ x) key (cl_ w)) (nb_ s) 0 with q | ⟨b, q1, q2, q3, q4⟩
            · exact absurd q.1 h5
            · have eb : findS s (cl_ x) key (cl_ w) = nI b := q4
              have hb : b < nb_ s := by omega
              have ecl : cl_ (nI b) = b := nI_clamp (by have := h.A.1.1.1; omega)
              rw [eb, ecl]
              unfold c_found
              rw [r2, r3, take_e (by rw [r1]; exact hb), rv_e (by rw [r1]; exact hb)]
              have e1 : (a_tk (s_rn s (cl_ x)) (cl_ x) b).1 = (tkS (s_rn s (cl_ x)) b).1 := by
                unfold a_tk
                split
                · rename_i z; exact z.symm
                · rename_i z; cases y : (tkS (s_rn s (cl_ x)) b).1 with | false => rfl | true => exact absurd y z
              rw [e1]
              by_cases h6 : um_ s (cl_ x) < 8 ∨ usesB s (cl_ x) (nI b) = true
              · rw [if_pos h6, if_pos h6]
                by_cases h7 : (tkS (s_rn s (cl_ x)) b).1 = true
                · rw [if_pos h7, if_pos h7, if_pos h7]; exact ⟨rfl, sameA.rf _⟩
                · rw [if_neg h7, if_neg h7, if_neg h7]; exact ⟨rfl, sameA.rf _⟩
              · rw [if_neg h6, if_neg h6]; exact ⟨rfl, sameA.rf _⟩
    · rw [if_neg h2, if_neg h2]; exact ⟨rfl, sameA.rf _⟩
/-! where the sweep stands after a call that is no sweep's -/
def phOk (s t : SG) : Prop := ph_ t = ph_ s ∨ ph_ t = 0
theorem phOk.rf (s : SG) : phOk s s := Or.inl rfl
theorem ph_w1 (s : SG) : ph_ (s_w1 s) = ph_ s := congrFun (s_w1_1 s) 10
theorem ph_use (s : SG) (j b : Nat) : ph_ (s_use s j b) = ph_ s := by
  unfold s_use
  split <;> rfl
theorem ph_tk (s : SG) (j b : Nat) : phOk s (a_tk s j b).2 := by
  unfold a_tk
  have h : ph_ (tkS s b).2.1 = ph_ s := revL_1 _ _ _ _ _ 10 (by decide)
  split
  · refine Or.inl ?_
    show ph_ (s_use _ j b) = _
    rw [ph_use]
    unfold s_sp
    split
    · exact h
    · split
      · exact h
      · exact h
  · exact Or.inr rfl
theorem ph_rn (s : SG) (j : Nat) : ph_ (s_rn s j) = ph_ s := (rn_p (s := s) j).2.2.2.1
theorem phOk.rn {s t : SG} {j : Nat} (h : phOk (s_rn s j) t) : phOk s t := by
  unfold phOk at h ⊢
  rw [ph_rn] at h
  exact h
theorem ph_at (s : SG) (t : Int64) : phOk s (a_at s t).2 := by
  unfold a_at
  split
  · exact phOk.rf s
  · split <;> exact Or.inl rfl
theorem ph_begin (s : SG) (x : Int32) : phOk s (a_begin s x).2 := by
  unfold a_begin
  split
  · exact phOk.rf s
  · split
    · exact phOk.rf s
    · split <;> exact Or.inl rfl
theorem ph_give (s : SG) (x : Int32) : phOk s (a_give s x).2 := by
  unfold a_give
  split
  · exact phOk.rf s
  · split <;> exact Or.inl rfl
theorem ph_rmv (s : SG) (b : Nat) : ph_ (s_rmv s b) = ph_ s := s_rmv_1 s b 10 (by decide)
theorem ph_drop (s : SG) (x : Int32) : phOk s (a_drop s x).2 := by
  unfold a_drop
  split
  · exact phOk.rf s
  · split
    · split
      · exact Or.inr rfl
      · exact Or.inl (ph_rmv _ _)
    · exact phOk.rf s
theorem ph_share (s : SG) (x : Int32) : phOk s (a_share s x).2 := by
  unfold a_share
  split
  · exact phOk.rf s
  · split <;> exact Or.inl rfl
theorem ph_cut (s : SG) (x : Int32) : phOk s (a_cut s x).2 := by
  unfold a_cut
  split
  · exact phOk.rf s
  · split <;> exact Or.inl rfl
theorem ph_open (s : SG) : phOk s (a_open s).2 := by
  unfold a_open
  split <;> exact Or.inl rfl
theorem ph_rule (s : SG) (x n : Int32) : phOk s (a_rule s x n).2 := by
  unfold a_rule
  split
  · exact phOk.rf s
  · split <;> exact Or.inl rfl
theorem ph_follow (s : SG) (x n : Int32) : phOk s (a_follow s x n).2 := by
  unfold a_follow
  split
  · exact phOk.rf s
  · split <;> exact Or.inl rfl
theorem ph_child (s : SG) (x b : Int32) : phOk s (a_child s x b).2 := by
  unfold a_child
  split
  · exact phOk.rf s
  · split
    · split
      · split
        · exact Or.inl (ph_rn _ _)
        · split
          · exact Or.inl (ph_rn s (cl_ x))
          · exact Or.inl (ph_rn _ _)
      · exact Or.inl (ph_rn _ _)
    · exact phOk.rf s
theorem ph_take (s : SG) (x b : Int32) : phOk s (a_take s x b).2 := by
  unfold a_take
  split
  · exact phOk.rf s
  · split
    · split
      · split
        · exact Or.inl (ph_rn _ _)
        · split
          · split <;> exact (ph_tk _ _ _).rn
          · exact Or.inl (ph_rn _ _)
      · exact Or.inl (ph_rn _ _)
    · exact phOk.rf s
theorem ph_addA (t : SG) (key : Int64) (z n : Nat) (f : Nat → Nat) : ph_ (a_addA t key z n f) = ph_ t := by
  unfold a_addA aLay
  split <;> rfl
theorem ph_km0 (t : SG) (j : Nat) : ph_ (s_km0 t j) = ph_ t := rfl
theorem ph_new (t : SG) (j : Nat) (key : Int64) (z : Nat) : ph_ (a_new t j key z) = ph_ t := by
  unfold a_new
  rw [ph_km0, ph_use, ph_addA]
theorem ph_save (s : SG) (x : Int32) (key : Int64) (w : Int32) : phOk s (a_save s x key w).2 := by
  unfold a_save
  have h0 : ∀ r : Int32, phOk s (r, s_rn s (cl_ x)).2 := fun r => Or.inl (ph_rn _ _)
  split
  · exact phOk.rf s
  · split
    · split
      · exact h0 _
      · split
        · exact h0 _
        · split
          · split
            · split
              · exact Or.inr rfl
              · have e : ph_ (a_new (s_w1 (s_rn s (cl_ x))) (cl_ x) key (cl_ w)) = ph_ s := by rw [ph_new, ph_w1, ph_rn]
                exact Or.inl e
            · exact h0 _
          · split
            · have e : phOk s (a_tk (s_rn s (cl_ x)) (cl_ x) (cl_ (findS s (cl_ x) key (cl_ w)))).2 := (ph_tk _ _ _).rn
              split
              · generalize (a_tk (s_rn s (cl_ x)) (cl_ x) (cl_ (findS s (cl_ x) key (cl_ w)))).2 = u at e ⊢
                exact e
              · exact e
            · exact h0 _
    · exact phOk.rf s
theorem ph_commit (s : SG) (x g : Int32) : phOk s (a_commit s x g).2 := by
  unfold a_commit
  split
  · exact phOk.rf s
  · split
    · split
      · exact phOk.rf s
      · split
        · exact phOk.rf s
        · split
          · exact phOk.rf s
          · split
            · exact Or.inr rfl
            · refine Or.inl ?_
              show ph_ (s_w1 s) = _
              exact ph_w1 s
    · exact phOk.rf s
theorem ph_prL (g : Nat → Bool) : ∀ (n i : Nat) (s : SG), ph_ (prL g n i s).2 = ph_ s := by
  intro n
  induction n with
  | zero => intro i s; rfl
  | succ n ih =>
    intro i s
    rw [prL]
    split
    · split
      · rfl
      · rw [ih]; exact ph_rmv _ _
    · exact ih _ _
theorem ph_prune (s : SG) (w : Bool) : phOk s (a_prune s w).2 := by
  unfold a_prune
  split
  · exact phOk.rf s
  · split
    · exact phOk.rf s
    · split
      · exact Or.inl (ph_prL _ _ _ _)
      · exact Or.inr rfl
theorem J_rt {n : Nat} {s : SG} {k : KG} (h : JI n s k) (hn : n ≤ 511) : rt_ s < 944 := by
  obtain ⟨⟨a1, a2, a3, a4, a5, a6, a7, a8, a9, a10⟩, _⟩ := h.A
  have h1 := a9.2.1
  have h2 := cntN_le (p := mk_ s) (nb_ s)
  have h3 := a1.1
  omega
theorem J_wt {n : Nat} {s : SG} {k : KG} (h : JI n s k) (hn : n ≤ 511) : ∀ i, i < nb_ s → wt_ s i < 2 ^ 31 := by
  intro i _
  obtain ⟨⟨a1, a2, a3, a4, a5, a6, a7, a8, a9, a10⟩, _⟩ := h.A
  have h1 := a8.1
  have h2 := (a8.2.1 i).1
  omega
theorem J_wt0 {n : Nat} {s : SG} {k : KG} (h : JI n s k) : ∀ i, th_ s i = false → wt_ s i = 0 := by
  intro i
  obtain ⟨⟨a1, a2, a3, a4, a5, a6, a7, a8, a9, a10⟩, _⟩ := h.A
  exact (a8.2.1 i).2
theorem J_nh {n : Nat} {s : SG} {k : KG} (h : JI n s k) : nh_ s + thereN s ≤ 240 ∧ (nb_ s < 80 → nh_ s < 240) ∧ (ns_ s < 40 → nh_ s < 240) := by
  obtain ⟨⟨a1, a2, a3, a4, a5, a6, a7, a8, a9, a10⟩, _⟩ := h.A
  have h1 := a6.2.1
  have h2 := a6.2.2.1
  have h3 := a1.1
  have h4 := a3.1
  refine ⟨?_, ?_, ?_⟩ <;> omega
theorem J_nhk {n : Nat} {s : SG} {k : KG} (h : JI n s k) : ∀ j, j < ns_ s → kp_ s j = true → nh_ s < 240 := by
  intro j hj hk
  have h1 := (J_nh h).1
  have h2 : 0 < thereN s := cntN_pos.mpr (anyN_t hj hk)
  omega
theorem J_nhd {n : Nat} {s : SG} {k : KG} (h : JI n s k) : nh_ s < 240 ∨ ∀ j, j < ns_ s → kp_ s j = false := by
  by_cases e : nh_ s < 240
  · exact Or.inl e
  · refine Or.inr (fun j hj => ?_)
    cases q : kp_ s j
    · rfl
    · exact absurd (J_nhk h j hj q) e
theorem J_cl {n : Nat} {s : SG} {k : KG} (h : JI n s k) : clOk s := by
  obtain ⟨⟨a1, a2, a3, a4, a5, a6, a7, a8, a9, a10, a11, a12⟩, _⟩ := h.A
  exact ⟨fun j h1 h2 i h3 => (a10.1 j h1 h2 i h3).1, a10.2.1, fun j h1 h2 => ⟨(a4 j h1).1, fun i h3 => ⟨(a4 j h1).2.2.1 i h3, (a10.2.2 j h1 h2 i h3).1⟩⟩⟩
theorem J_pl {n : Nat} {s : SG} {k : KG} (h : JI n s k) : PlOk s k := by
  obtain ⟨⟨a1, a2, a3, a4, a5, a6, a7, a8, a9, a10, a11, v1, v2, v3, v4⟩, hK, _⟩ := h.A
  refine ⟨fun i h1 h2 => ?_, v3, fun p hp => ?_⟩
  · have e := (hK (pk_ s i) (v1 i h1).1).1
    rw [(v2 i h1 h2).1, if_neg (by decide)] at e
    have h3 := (v4 (pk_ s i) (v1 i h1).1).1
    have h4 := a1.2.2.2.1
    rw [e]
    exact ⟨(v1 i h1).1, (v2 i h1 h2).1, (v2 i h1 h2).2, by omega⟩
  · obtain ⟨e1, e2⟩ := hK p hp
    have e3 : sumN (fun j => if liesB s j (nI p) then sz_ s j else 0) (nb_ s) = byN s p := rfl
    rw [e1, e2, e3]
    by_cases g : gn_ s p = true
    · rw [if_pos g, if_pos g]
      have e4 : byN s p = 0 := by
        refine sumN_0 (fun j hj => ?_)
        refine if_neg (fun q => ?_)
        unfold liesB at q
        rw [Bool.and_eq_true] at q
        have q1 := nI_eq' (by have := (v1 j hj).1; have := a1.2.1; omega) (by have := a1.2.1; omega) (of_decide_eq_true q.2)
        have q2 := (v2 j hj q.1).1
        rw [q1, g] at q2
        exact Bool.noConfusion q2
      omega
    · rw [if_neg g, if_neg g]
      have := (v4 p hp).2
      omega
theorem J_nx {n : Nat} {s : SG} {k : KG} (h : JI n s k) : 2 ≤ ph_ s → nx_ k = nI (cl_ (nx_ k)) := by
  intro h2
  obtain ⟨m, ⟨a, g3, x, hK, hm⟩, v⟩ := h
  obtain ⟨a1, a2, a3, a4, a5, a6, a7, a8, a9, a10, a11, a12⟩ := a
  have hp : ph_ s = 2 ∨ ph_ s = 3 ∨ ph_ s = 4 := by have := a1.2.2.2.2.2; omega
  have key : ∀ b, b < 2 ^ 31 → nx_ k = nI b → nx_ k = nI (cl_ (nx_ k)) := by
    intro b hb e
    rw [e]
    show nI b = nI (nI b).toNatClampNeg
    rw [nI_clamp hb]
  rcases hp with e | e | e
  · have h1 := a11 (Or.inr (Or.inl e))
    have h3 := x.1 e
    have h4 := a1.1
    exact key m (by omega) h3.1
  · have h1 := a11 (Or.inr (Or.inr e))
    have h3 := x.2.1 e
    have h4 := a1.1
    have h5 := v.2.2.1 e
    obtain ⟨b, rfl⟩ : ∃ b, m = b + 1 := ⟨m - 1, by omega⟩
    exact key b (by omega) (by rw [h3.1, nI_pred])
  · obtain ⟨h3, q, h5, h6, h7⟩ := x.2.2 e
    have h4 := a1.2.1
    exact key m (by omega) h3
