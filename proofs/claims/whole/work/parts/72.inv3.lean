/-! WHAT HOLDS BETWEEN CALLS, 3: the sweep -/
theorem mkr_2 {s : SG} {c : Nat} (h : mkr s c) (e : rt_ s ≤ rf_ s ∨ ph_ s ≠ 1) : mk_ s c = true := by
  rcases h with h | ⟨h1, q, h2, h3, _⟩
  · exact h
  · rcases e with e | e
    · omega
    · exact absurd h1 e
theorem J_st1 {n : Nat} {s : SG} {k : KG} {m : Nat} (h : JP n s k m) : ∃ m', JP n (st1 (s, k)).1 (st1 (s, k)).2 m' ∧ (ph_ (st1 (s, k)).1 = 1 → rf_ (st1 (s, k)).1 < rt_ (st1 (s, k)).1) := by
  unfold st1
  by_cases e : ph_ s = 1 ∧ rt_ s ≤ rf_ s
  · rw [if_pos e]
    obtain ⟨⟨a1, a2, a3, a4, a5, a6, a7, a8, a9, a10, a11, a12⟩, b1, b2, b3, b4⟩ := h
    have hm : ∀ c, mkr s c → mkr (sN s 10 2) c := fun c x => Or.inl (mkr_2 (s := s) x (Or.inl e.2))
    obtain ⟨q1, q2, q3, q4⟩ := a11 (Or.inl e.1)
    refine ⟨0, ⟨⟨⟨a1.1, a1.2.1, a1.2.2.1, a1.2.2.2.1, a1.2.2.2.2.1, by show 2 ≤ 4; decide⟩, a2, a3, a4, a5, a6, a7, a8, ⟨a9.1, a9.2.1, a9.2.2.1, fun _ => Nat.le_antisymm e.2 a9.1⟩, a10, fun _ => ⟨q1, fun b hb x i hi hl => hm _ (q2 b hb x i hi hl), fun b hb x i hi hl => hm _ (q3 b hb x i hi hl), fun b hb x i hi hl => hm _ (q4 b hb x i hi hl)⟩, a12⟩, ⟨fun _ => b1.1 (Or.inl e.1), fun _ b hb => absurd hb (Nat.not_lt_zero _), fun x => absurd (show (2 : Nat) = 3 from x) (by decide)⟩, ⟨fun _ => ⟨rfl, Nat.zero_le _⟩, fun x => absurd (show (2 : Nat) = 3 from x) (by decide), fun x => absurd (show (2 : Nat) = 4 from x) (by decide)⟩, b3, mirOk_kk (mirOk_r b4 rfl rfl rfl rfl) ⟨rfl, rfl⟩⟩, fun x => absurd (show (2 : Nat) = 1 from x) (by decide)⟩
  · rw [if_neg e]
    exact ⟨m, h, fun x => by have : ph_ s = 1 := x; show rf_ s < rt_ s; have : ¬ rt_ s ≤ rf_ s := fun y => e ⟨x, y⟩; omega⟩
theorem J_st2 {n : Nat} {s : SG} {k : KG} {m : Nat} (h : JP n s k m) (h1 : ph_ s = 1 → rf_ s < rt_ s) : ∃ m', JP n (st2 (s, k)).1 (st2 (s, k)).2 m' ∧ (ph_ (st2 (s, k)).1 = 1 → rf_ (st2 (s, k)).1 < rt_ (st2 (s, k)).1) ∧ (ph_ (st2 (s, k)).1 = 2 → m' < end_ (st2 (s, k)).1) := by
  unfold st2
  obtain ⟨⟨a1, a2, a3, a4, a5, a6, a7, a8, a9, a10, a11, a12⟩, b1, b2, b3, b4⟩ := h
  by_cases e : ph_ s = 2 ∧ nI (end_ s) ≤ nx_ k
  · rw [if_pos e]
    have hm : ∀ c, mkr s c → mkr (sN s 10 3) c := fun c x => Or.inl (mkr_2 (s := s) x (Or.inr (by rw [e.1]; decide)))
    obtain ⟨q1, q2, q3, q4⟩ := a11 (Or.inr (Or.inl e.1))
    refine ⟨end_ s, ⟨⟨⟨a1.1, a1.2.1, a1.2.2.1, a1.2.2.2.1, a1.2.2.2.2.1, by show 3 ≤ 4; decide⟩, a2, a3, a4, a5, a6, a7, a8, ⟨a9.1, a9.2.1, a9.2.2.1, fun _ => a9.2.2.2 (by rw [e.1]; decide)⟩, a10, fun _ => ⟨q1, fun b hb x i hi hl => hm _ (q2 b hb x i hi hl), fun b hb x i hi hl => hm _ (q3 b hb x i hi hl), fun b hb x i hi hl => hm _ (q4 b hb x i hi hl)⟩, a12⟩, ⟨fun x => x.elim (fun y => absurd (show (3 : Nat) = 1 from y) (by decide)) (fun y => absurd (show (3 : Nat) = 2 from y) (by decide)), fun x => absurd (show (3 : Nat) = 2 from x) (by decide), fun _ => ⟨fun b x y => absurd (show b < end_ s from y) (by omega), fun b hb => (b1.1 (Or.inr e.1)).2 b (Nat.lt_of_lt_of_le hb q1)⟩⟩, ⟨fun x => absurd (show (3 : Nat) = 2 from x) (by decide), fun _ => ⟨rfl, Nat.le_refl _⟩, fun x => absurd (show (3 : Nat) = 4 from x) (by decide)⟩, b3, mirOk_kk (mirOk_r b4 rfl rfl rfl rfl) ⟨rfl, rfl⟩⟩, fun x => absurd (show (3 : Nat) = 1 from x) (by decide), fun x => absurd (show (3 : Nat) = 2 from x) (by decide)⟩
  · rw [if_neg e]
    refine ⟨m, ⟨⟨a1, a2, a3, a4, a5, a6, a7, a8, a9, a10, a11, a12⟩, b1, b2, b3, b4⟩, h1, fun x => ?_⟩
    have x : ph_ s = 2 := x
    show m < end_ s
    obtain ⟨y1, y2⟩ := b2.1 x
    have hend := (a11 (Or.inr (Or.inl x))).1
    have hnb := a1.1
    have : ¬ end_ s ≤ m := fun y => e ⟨x, by rw [y1]; exact nI_le y (by omega)⟩
    omega
theorem nI_m1neg {m : Nat} (h : m < 2 ^ 30) : nI m - 1 < 0 ↔ m = 0 := by
  constructor
  · intro x
    cases m with
    | zero => rfl
    | succ m => rw [nI_pred] at x; exact absurd x (nI_pos (by omega))
  · intro x; subst x; decide
theorem J_st34 {n : Nat} {s : SG} {k : KG} {m : Nat} (h : JP n s k m) (h1 : ph_ s = 1 → rf_ s < rt_ s) (h2 : ph_ s = 2 → m < end_ s) : JI n (st4 (st3 (s, k))).1 (st4 (st3 (s, k))).2 := by
  obtain ⟨⟨a1, a2, a3, a4, a5, a6, a7, a8, a9, a10, a11, a12⟩, b1, b2, b3, b4⟩ := h
  have z : ∀ {a b : Nat} {P : Prop}, a ≠ b → a = b → P := fun x y => absurd y x
  -- a state in phase 0
  have h0 : ∀ k' : KG, kb_ k' = kb_ k ∧ dn2_ k' = dn2_ k → kn_ k' = kn_ k → JI n (sN s 10 0) k' := by
    intro k' e1 e2
    refine ⟨0, ⟨⟨⟨a1.1, a1.2.1, a1.2.2.1, a1.2.2.2.1, a1.2.2.2.2.1, Nat.zero_le _⟩, a2, a3, a4, a5, a6, a7, a8, ⟨a9.1, a9.2.1, a9.2.2.1, fun e => absurd (show 2 ≤ 0 from e) (by decide)⟩, a10, fun e => ?_, a12⟩, ⟨fun e => ?_, fun e => z (by decide) (show 0 = 2 from e), fun e => z (by decide) (show 0 = 3 from e)⟩, ⟨fun e => z (by decide) (show 0 = 2 from e), fun e => z (by decide) (show 0 = 3 from e), fun e => z (by decide) (show 0 = 4 from e)⟩, ?_, mirOk_kk (mirOk_r b4 rfl rfl rfl rfl) e1⟩, ⟨fun e => z (by decide) (show 0 = 1 from e), fun e => z (by decide) (show 0 = 2 from e), fun e => z (by decide) (show 0 = 3 from e), fun e => z (by decide) (show 0 = 4 from e)⟩⟩
    · rcases e with e | e | e
      · exact z (by decide) (show 0 = 1 from e)
      · exact z (by decide) (show 0 = 2 from e)
      · exact z (by decide) (show 0 = 3 from e)
    · rcases e with e | e
      · exact z (by decide) (show 0 = 1 from e)
      · exact z (by decide) (show 0 = 2 from e)
    · intro p hp
      show kn_ k' 1 p = _ ∧ kn_ k' 0 p = _
      rw [e2]
      exact b3 p hp
  by_cases e : ph_ s = 3 ∧ nx_ k < 0
  · rw [show st3 (s, k) = (sN s 10 4, kX (kX k 0 0) 1 (nI (np_ s))) from if_pos e]
    by_cases e2 : nI (np_ s) ≤ 0
    · rw [show st4 (sN s 10 4, kX (kX k 0 0) 1 (nI (np_ s))) = (sN (sN s 10 4) 10 0, kX (kX k 0 0) 1 (nI (np_ s))) from if_pos ⟨rfl, e2⟩, sN2]
      exact h0 _ ⟨rfl, rfl⟩ rfl
    · rw [show st4 (sN s 10 4, kX (kX k 0 0) 1 (nI (np_ s))) = (sN s 10 4, kX (kX k 0 0) 1 (nI (np_ s))) from if_neg (fun x => e2 x.2)]
      have hp0 : 0 < np_ s := Nat.pos_of_ne_zero (fun x => e2 (by rw [x]; decide))
      refine ⟨0, ⟨⟨⟨a1.1, a1.2.1, a1.2.2.1, a1.2.2.2.1, a1.2.2.2.2.1, Nat.le_refl _⟩, a2, a3, a4, a5, a6, a7, a8, ⟨a9.1, a9.2.1, a9.2.2.1, fun _ => a9.2.2.2 (by rw [e.1]; decide)⟩, a10, fun e => ?_, a12⟩, ⟨fun e => ?_, fun e => z (by decide) (show 4 = 2 from e), fun e => z (by decide) (show 4 = 3 from e)⟩, ⟨fun e => z (by decide) (show 4 = 2 from e), fun e => z (by decide) (show 4 = 3 from e), fun e => ⟨rfl, np_ s, rfl, Nat.zero_le _, Nat.le_refl _⟩⟩, b3, mirOk_kk (mirOk_r b4 rfl rfl rfl rfl) ⟨rfl, rfl⟩⟩, ⟨fun e => z (by decide) (show 4 = 1 from e), fun e => z (by decide) (show 4 = 2 from e), fun e => z (by decide) (show 4 = 3 from e), fun e => ⟨np_ s, rfl, hp0, Nat.le_refl _⟩⟩⟩
      · rcases e with e | e | e
        · exact z (by decide) (show 4 = 1 from e)
        · exact z (by decide) (show 4 = 2 from e)
        · exact z (by decide) (show 4 = 3 from e)
      · rcases e with e | e
        · exact z (by decide) (show 4 = 1 from e)
        · exact z (by decide) (show 4 = 2 from e)
  · rw [show st3 (s, k) = (s, k) from if_neg e]
    by_cases e2 : ph_ s = 4 ∧ pe_ k ≤ nx_ k
    · rw [show st4 (s, k) = (sN s 10 0, k) from if_pos e2]
      exact h0 k ⟨rfl, rfl⟩ rfl
    · rw [show st4 (s, k) = (s, k) from if_neg e2]
      refine ⟨m, ⟨⟨a1, a2, a3, a4, a5, a6, a7, a8, a9, a10, a11, a12⟩, b1, b2, b3, b4⟩, h1, h2, fun x => ?_, fun x => ?_⟩
      · obtain ⟨y1, y2⟩ := b2.2.1 x
        have hend := (a11 (Or.inr (Or.inr x))).1
        have hnb := a1.1
        refine Nat.pos_of_ne_zero (fun y => e ⟨x, ?_⟩)
        rw [y1, y]; decide
      · obtain ⟨y1, q, y2, y3, y4⟩ := b2.2.2 x
        have hnp := a1.2.1
        refine ⟨q, y2, ?_, y4⟩
        have : ¬ q ≤ m := fun y => e2 ⟨x, by rw [y1, y2]; exact nI_le y (by omega)⟩
        omega
theorem J_settle {n : Nat} {s : SG} {k : KG} {m : Nat} (h : JP n s k m) : JI n (settleF (s, k)).1 (settleF (s, k)).2 := by
  obtain ⟨m1, g1, g2⟩ := J_st1 h
  obtain ⟨m2, g3, g4, g5⟩ := J_st2 (s := (st1 (s, k)).1) (k := (st1 (s, k)).2) g1 g2
  exact J_st34 (s := (st2 (st1 (s, k))).1) (k := (st2 (st1 (s, k))).2) g3 g4 g5
theorem gone_ph (s : SG) (v : Nat) : s_gone (sN s 10 v) = s_gone s := sN2 (sGb s 4 (rnone 4 (sv_ s))) 10 v 0
theorem st_gone (x : SG × KG) : s_gone (settleF x).1 = s_gone x.1 := by
  have h1 : ∀ x, s_gone (st1 x).1 = s_gone x.1 := fun x => by
    unfold st1
    split
    · exact gone_ph _ _
    · rfl
  have h2 : ∀ x, s_gone (st2 x).1 = s_gone x.1 := fun x => by
    unfold st2
    split
    · exact gone_ph _ _
    · rfl
  have h3 : ∀ x, s_gone (st3 x).1 = s_gone x.1 := fun x => by
    unfold st3
    split
    · exact gone_ph _ _
    · rfl
  have h4 : ∀ x, s_gone (st4 x).1 = s_gone x.1 := fun x => by
    unfold st4
    split
    · exact gone_ph _ _
    · rfl
  exact (h4 _).trans ((h3 _).trans ((h2 _).trans (h1 _)))
/-- the row's tail -/
theorem lines_rw (s : SG) (f : Nat → Nat) : ∀ n q, rw_ (s_lines s f n) q = if rt_ s ≤ q ∧ q < rt_ s + n then f (q - rt_ s) else rw_ s q := by
  intro n
  induction n with
  | zero => intro q; rw [if_neg (by omega)]; rfl
  | succ n ih =>
    intro q
    show va_up (rw_ (s_lines s f n)) (rt_ (s_lines s f n)) (f n) q = _
    rw [s_lines_rt]
    by_cases e : q = rt_ s + n
    · rw [e, va_s, if_pos (by omega)]
      congr 1
      omega
    · rw [va_n _ _ e, ih]
      by_cases e2 : rt_ s ≤ q ∧ q < rt_ s + n
      · rw [if_pos e2, if_pos (by omega)]
      · rw [if_neg e2, if_neg (by omega)]
theorem lines_rest (s : SG) (f : Nat → Nat) (n : Nat) : ∃ u1 f5, s_lines s f n = (u1, s.2.1, s.2.2.1, s.2.2.2.1, f5, s.2.2.2.2.2) ∧ (∀ i, i ≠ 12 → u1 i = s.1 i) ∧ u1 12 = rt_ s + n ∧ (∀ i, i ≠ 19 → f5 i = fs_ s i) ∧ ∀ q, f5 19 q = if rt_ s ≤ q ∧ q < rt_ s + n then f (q - rt_ s) else rw_ s q := by
  refine ⟨(s_lines s f n).1, fs_ (s_lines s f n), ?_, fun i hi => s_lines_1 s f i hi n, s_lines_rt s f n, fun i hi => s_lines_f s f i hi n, lines_rw s f n⟩
  have h : (s_lines s f n).2.1 = s.2.1 ∧ (s_lines s f n).2.2.1 = s.2.2.1 ∧ (s_lines s f n).2.2.2.1 = s.2.2.2.1 := s_lines_pres (P := fun t => t.2.1 = s.2.1 ∧ t.2.2.1 = s.2.2.1 ∧ t.2.2.2.1 = s.2.2.2.1) (fun t b x => x) s f n ⟨rfl, rfl, rfl⟩
  have h2 := s_lines_ff s f n
  exact Prod.ext rfl (Prod.ext h.1 (Prod.ext h.2.1 (Prod.ext h.2.2 (Prod.ext rfl h2))))
theorem J_mark {n : Nat} {s : SG} {k : KG} {m : Nat} (h : JP n s k m) (hph : ph_ s = 1) (hrf : rf_ s < rt_ s) : JP n (s_mark1 s) k m := by
  obtain ⟨⟨a1, a2, a3, a4, a5, a6, a7, a8, a9, a10, a11, a12⟩, b1, b2, b3, b4⟩ := h
  obtain ⟨q1, q2, q3, q4⟩ := a11 (Or.inl hph)
  have z : ∀ {a b : Nat} {P : Prop}, a ≠ b → a = b → P := fun x y => absurd y x
  have n2 : ph_ s ≠ 2 := by omega
  have n3 : ph_ s ≠ 3 := by omega
  have n4 : ph_ s ≠ 4 := by omega
  unfold s_mark1
  by_cases e : mk_ s (rw_ s (rf_ s)) = true
  · rw [if_pos e]
    have hm : ∀ c, mkr s c → mkr (sN s 11 (rf_ s + 1)) c := by
      intro c x
      rcases x with x | ⟨x1, q, x2, x3, x4⟩
      · exact Or.inl x
      · by_cases e2 : q = rf_ s
        · exact Or.inl (by show mk_ s c = true; rw [← x4, e2]; exact e)
        · exact Or.inr ⟨x1, q, by show rf_ s + 1 ≤ q; omega, x3, x4⟩
    exact ⟨⟨a1, a2, a3, a4, a5, a6, a7, a8, ⟨hrf, a9.2.1, a9.2.2.1, fun x => by have x : 2 ≤ ph_ s := x; omega⟩, a10, fun _ => ⟨q1, fun b hb x i hi hl => hm _ (q2 b hb x i hi hl), fun b hb x i hi hl => hm _ (q3 b hb x i hi hl), fun b hb x i hi hl => hm _ (q4 b hb x i hi hl)⟩, a12⟩, b1, b2, b3, mirOk_r b4 rfl rfl rfl rfl⟩
  · rw [if_neg e]
    obtain ⟨b, hb⟩ : ∃ b, b = rw_ s (rf_ s) := ⟨_, rfl⟩
    rw [← hb] at e ⊢
    have hbn : b < nb_ s := by rw [hb]; exact a9.2.2.1 _ hrf
    have eb : mk_ s b = false := by cases x : mk_ s b with | false => rfl | true => exact absurd x e
    obtain ⟨u1, f5, er, r1, r2, r3, r4⟩ := lines_rest (s_mark0 s b) (ch_ s b) (cm_ s b)
    rw [er]
    have r2 : u1 12 = rt_ s + cm_ s b := r2
    have r4 : ∀ q, f5 19 q = if rt_ s ≤ q ∧ q < rt_ s + cm_ s b then ch_ s b (q - rt_ s) else rw_ s q := r4
    have u : ∀ i, i ≠ 12 → i ≠ 11 → u1 i = s.1 i := fun i x y => (r1 i x).trans (va_n _ _ y)
    have u11 : u1 11 = rf_ s + 1 := r1 11 (by decide)
    have u1' : u1 1 = nb_ s := u 1 (by decide) (by decide)
    have u10 : u1 10 = ph_ s := u 10 (by decide) (by decide)
    have u13 : u1 13 = end_ s := u 13 (by decide) (by decide)
    have u9 : u1 9 = nsw_ s := u 9 (by decide) (by decide)
    have u7 : u1 7 = ns_ s := u 7 (by decide) (by decide)
    have u4 : u1 4 = np_ s := u 4 (by decide) (by decide)
    have u2 : u1 2 = nfr_ s := u 2 (by decide) (by decide)
    have u8 : u1 8 = nh_ s := u 8 (by decide) (by decide)
    have u5 : u1 5 = nan_ s := u 5 (by decide) (by decide)
    have u0 : u1 0 = cap_ s := u 0 (by decide) (by decide)
    have u6 : u1 6 = shr_ s := u 6 (by decide) (by decide)
    have g : ∀ i, i ≠ 19 → f5 i = fs_ s i := r3
    obtain ⟨S, hS⟩ : ∃ S : SG, S = (u1, (s_mark0 s b).2.1, (s_mark0 s b).2.2.1, (s_mark0 s b).2.2.2.1, f5, (s_mark0 s b).2.2.2.2.2) := ⟨_, rfl⟩
    rw [← hS]
    have s1 : nb_ S = nb_ s := by rw [hS]; exact u1'
    have s10 : ph_ S = ph_ s := by rw [hS]; exact u10
    have s13 : end_ S = end_ s := by rw [hS]; exact u13
    have s9 : nsw_ S = nsw_ s := by rw [hS]; exact u9
    have s7 : ns_ S = ns_ s := by rw [hS]; exact u7
    have s4 : np_ S = np_ s := by rw [hS]; exact u4
    have s2 : nfr_ S = nfr_ s := by rw [hS]; exact u2
    have s8 : nh_ S = nh_ s := by rw [hS]; exact u8
    have s5 : nan_ S = nan_ s := by rw [hS]; exact u5
    have s0 : cap_ S = cap_ s := by rw [hS]; exact u0
    have s6 : shr_ S = shr_ s := by rw [hS]; exact u6
    have s11 : rf_ S = rf_ s + 1 := by rw [hS]; exact u11
    have s12 : rt_ S = rt_ s + cm_ s b := by rw [hS]; exact r2
    have srw : ∀ q, rw_ S q = if rt_ s ≤ q ∧ q < rt_ s + cm_ s b then ch_ s b (q - rt_ s) else rw_ s q := by rw [hS]; exact r4
    have sf : ∀ i, i ≠ 19 → fs_ S i = fs_ s i := by rw [hS]; exact g
    have smk : mk_ S = va_up (mk_ s) b true := by rw [hS]; rfl
    have sg : ∀ i, i ≠ 1 → gs_ S i = gs_ s i := by rw [hS]; intro i hi; exact va_n _ _ hi
    have sff : ff_ S = ff_ s := by rw [hS]; rfl
    have sys : ys_ S = ys_ s := by rw [hS]; rfl
    have snow : now_ S = now_ s := by rw [hS]; rfl
    have c1 : cm_ S = cm_ s := sf 1 (by decide)
    have c3 : pk_ S = pk_ s := sf 3 (by decide)
    have c4 : pp_ S = pp_ s := sf 4 (by decide)
    have c5 : wt_ S = wt_ s := sf 5 (by decide)
    have c6 : al_ S = al_ s := sf 6 (by decide)
    have c0 : sz_ S = sz_ s := sf 0 (by decide)
    have c8 : rm_ S = rm_ s := sf 8 (by decide)
    have c14 : um_ S = um_ s := sf 14 (by decide)
    have c16 : km_ S = km_ s := sf 16 (by decide)
    have c13 : le_ S = le_ s := sf 13 (by decide)
    have c18 : ru_ S = ru_ s := sf 18 (by decide)
    have th1 : th_ S = th_ s := sg 0 (by decide)
    have gn1 : gn_ S = gn_ s := sg 2 (by decide)
    have kp1 : kp_ S = kp_ s := sg 3 (by decide)
    have sv1 : sv_ S = sv_ s := sg 4 (by decide)
    have ch1 : ch_ S = ch_ s := congrFun sff 0
    have ro1 : ro_ S = ro_ s := congrFun sff 1
    have us1 : us_ S = us_ s := congrFun sff 2
    have ks1 : ks_ S = ks_ s := congrFun sff 3
    have tm1 : tm_ S = tm_ s := congrFun sys 1
    have hm : ∀ c, mkr s c → mkr S c := by
      intro c x
      unfold mkr
      rw [smk, s10, s11, s12]
      rcases x with x | ⟨x1, q, x2, x3, x4⟩
      · refine Or.inl ?_
        by_cases e2 : c = b
        · rw [e2, va_s]
        · rw [va_n _ _ e2]; exact x
      · by_cases e2 : q = rf_ s
        · refine Or.inl ?_
          rw [e2, ← hb] at x4
          rw [← x4, va_s]
        · refine Or.inr ⟨x1, q, by omega, by omega, ?_⟩
          rw [srw, if_neg (by omega)]
          exact x4
    have hcb : ∀ i, i < cm_ s b → mkr S (ch_ s b i) := by
      intro i hi
      refine Or.inr ⟨by rw [s10]; exact hph, rt_ s + i, by rw [s11]; omega, by rw [s12]; omega, ?_⟩
      rw [srw, if_pos (by omega)]
      congr 1
      omega
    have hkb := a2 b hbn
    refine ⟨⟨?_, ?_, ?_, ?_, ?_, ?_, ?_, ?_, ?_, ?_, ?_, ?_⟩, ?_, ?_, ?_, ?_⟩
    · unfold V1; rw [s1, s4, s0, s6, s10]; exact a1
    · unfold kidsOk; rw [s1, c1, ch1]; exact a2
    · unfold rootOk; rw [s7, c8, ro1, s1]; exact a3
    · unfold V4; rw [c14, c16, us1, ks1, s1]; exact a4
    · unfold V5 tmOk tmB; rw [snow, sv1, c13, s7, tm1, c18]; exact a5
    · have h10 : hk_ S = hk_ s := sf 10 (by decide)
      have h11 : hw_ S = hw_ s := sf 11 (by decide)
      unfold V6 histOk thereN hB
      rw [s8, h10, h11, kp1, s7, s1, s2, th1]
      exact a6
    · unfold V7; rw [s5, gn1, s4]; exact a7
    · refine ⟨by rw [s9, s1]; exact a8.1, by rw [c5, th1, s9]; exact a8.2.1, fun c hc => ?_⟩
      rw [s1] at hc
      rw [smk, va_n _ _ (by omega)]
      exact a8.2.2 c hc
    · refine ⟨by rw [s11, s12]; omega, ?_, fun q hq => ?_, fun x => by rw [s10] at x; omega⟩
      · rw [s12, s1, smk, cntN_set eb hbn]
        have := a9.2.1
        omega
      · rw [s12] at hq
        rw [srw, s1]
        split
        · have := hkb.2 (q - rt_ s) (by omega)
          omega
        · exact a9.2.2.1 q (by omega)
    · unfold VG1; rw [s1, th1, c1, ch1, c5, s7, kp1, c8, ro1, sv1, c14, us1]; exact a10
    · intro _
      rw [s1, s13, smk, c1, ch1, s7, kp1, c8, ro1, sv1, c14, us1]
      refine ⟨q1, fun b' hb' x i hi hl => ?_, fun b hb x i hi hl => hm _ (q3 b hb x i hi hl), fun b hb x i hi hl => hm _ (q4 b hb x i hi hl)⟩
      by_cases e2 : b' = b
      · rw [e2] at hi ⊢; exact hcb i hi
      · rw [va_n _ _ e2] at x; exact hm _ (q2 b' hb' x i hi hl)
    · unfold VP byN liesB; rw [s1, s4, s0, c3, c0, c4, c6, th1, gn1]; exact a12
    · unfold VG3; rw [s10, s9, s1, c5, th1, s13]; exact ⟨b1.1, fun x => absurd x n2, fun x => absurd x n3⟩
    · unfold VX; rw [s10, s13, s4]; exact b2
    · unfold VK byN liesB; rw [s4, gn1, c6, s1, c3, c0, th1]; exact b3
    · exact mirOk_r b4 (sf 12 (by decide)) s8 (sf 10 (by decide)) (sf 11 (by decide))
theorem JP_raw {n : Nat} {s : SG} {k : KG} {m : Nat} (X : Nat → Int32) (b : Bool) (h : JP n s k m) : JP n (s.1, X, s.2.2.1, b, s.2.2.2.2) k m := by
  obtain ⟨a, b, c, d, e⟩ := h
  exact ⟨a, b, c, d, mirOk_r e rfl rfl rfl rfl⟩
theorem JP_kx {n : Nat} {s : SG} {k : KG} {m m' : Nat} (h : JP n s k m) (v : Int32) (h1 : VG3 s m') (h2 : VX s (kX k 0 v) m') : JP n s (kX k 0 v) m' := by
  obtain ⟨a, b, c, d, e⟩ := h
  exact ⟨a, h1, h2, d, mirOk_kk e ⟨rfl, rfl⟩⟩
/-- a block's waiting set to w -/
theorem JA_w {n : Nat} {s : SG} (h : JA n s) {b w : Nat} (X : Nat → Int32) (hw : w ≤ nsw_ s) (hth : th_ s b = false → w = 0) (h1 : 0 < w → (∀ p, p < nb_ s → th_ s p = true → ∀ i, i < cm_ s p → ch_ s p i = b → p ≠ b → 0 < wt_ s p ∧ wt_ s p ≤ w) ∧ ∀ j, j < 4 → sv_ s j = true → ∀ i, i < um_ s j → us_ s j i ≠ b) (h2 : b < nb_ s → ∀ i, i < cm_ s b → wt_ s (ch_ s b i) = 0) : JA n (s.1, X, s.2.2.1, s.2.2.2.1, va_up s.2.2.2.2.1 5 (va_up (wt_ s) b w), s.2.2.2.2.2) := by
  obtain ⟨a1, a2, a3, a4, a5, a6, a7, a8, a9, a10, a11, a12⟩ := h
  refine ⟨a1, a2, a3, a4, a5, a6, a7, ⟨a8.1, fun c => ?_, a8.2.2⟩, a9, ⟨fun p hp ht i hi => ⟨(a10.1 p hp ht i hi).1, ?_⟩, a10.2.1, fun j hj hs i hi => ⟨(a10.2.2 j hj hs i hi).1, ?_⟩⟩, a11, a12⟩
  · show va_up (wt_ s) b w c ≤ nsw_ s ∧ (th_ s c = false → va_up (wt_ s) b w c = 0)
    by_cases e : c = b
    · rw [e, va_s]; exact ⟨hw, hth⟩
    · rw [va_n _ _ e]; exact a8.2.1 c
  · show 0 < va_up (wt_ s) b w (ch_ s p i) → 0 < va_up (wt_ s) b w p ∧ va_up (wt_ s) b w p ≤ va_up (wt_ s) b w (ch_ s p i)
    have hc : ch_ s p i < p := (a2 p hp).2 i hi
    have hp' : p < nb_ s := hp
    by_cases e : ch_ s p i = b
    · rw [e, va_s]
      intro x
      rw [va_n _ _ (by omega)]
      exact (h1 x).1 p hp ht i hi e (by omega)
    · rw [va_n _ _ e]
      intro x
      by_cases e2 : p = b
      · subst e2
        have := h2 hp i hi
        omega
      · rw [va_n _ _ e2]
        exact (a10.1 p hp ht i hi).2 x
  · show va_up (wt_ s) b w (us_ s j i) = 0
    by_cases e : us_ s j i = b
    · rw [e, va_s]
      exact Nat.eq_zero_of_not_pos (fun x => (h1 x).2 j hj hs i hi e)
    · rw [va_n _ _ e]
      exact (a10.2.2 j hj hs i hi).2
theorem JA_raw {n : Nat} {s : SG} (X : Nat → Int32) (b : Bool) (h : JA n s) : JA n (s.1, X, s.2.2.1, b, s.2.2.2.2) := h
theorem J_clear {n : Nat} {s : SG} {k : KG} {m : Nat} (h : JP n s k m) (hph : ph_ s = 2) (hm : m < end_ s) : ((clearF s m).1 = true → JP n (clearF s m).2 (kX k 0 (nI (m + 1))) (m + 1)) ∧ ((clearF s m).1 = false → ∃ X b, (clearF s m).2 = (s.1, X, s.2.2.1, b, s.2.2.2.2)) := by
  have h0 := h
  obtain ⟨⟨a1, a2, a3, a4, a5, a6, a7, a8, a9, a10, a11, a12⟩, b1, b2, b3, b4⟩ := h
  obtain ⟨q1, q2, q3, q4⟩ := a11 (Or.inr (Or.inl hph))
  have n1 : ph_ s ≠ 1 := by omega
  have n3 : ph_ s ≠ 3 := by omega
  have n4 : ph_ s ≠ 4 := by omega
  have hx : VX s (kX k 0 (nI (m + 1))) (m + 1) := ⟨fun _ => ⟨rfl, hm⟩, fun x => absurd x n3, fun x => absurd x n4⟩
  unfold clearF
  by_cases e : mk_ s m = true ∧ wt_ s m ≠ 0
  · rw [if_pos e]
    by_cases hc : cut_ s = 0
    · rw [if_pos hc]
      exact ⟨fun x => Bool.noConfusion (show false = true from x), fun _ => ⟨va_up s.2.1 0 (-1), true, rfl⟩⟩
    · rw [if_neg hc]
      refine ⟨fun _ => ?_, fun x => Bool.noConfusion (show true = false from x)⟩
      have hkids : ∀ i, i < cm_ s m → wt_ s (ch_ s m i) = 0 := by
        intro i hi
        have hc := (a2 m (by omega)).2 i hi
        exact b1.2.1 hph _ hc (mkr_2 (q2 m (by omega) (Or.inl e.1) i hi (by omega)) (Or.inr n1))
      obtain ⟨X, eX⟩ := w1_e s
      have hw := JA_w h0.1 (b := m) (w := 0) X (Nat.zero_le _) (fun _ => rfl) (fun x => absurd x (Nat.lt_irrefl _)) (fun _ => hkids)
      have es : s_await s m 0 = (s.1, X, s.2.2.1, s.2.2.2.1, va_up s.2.2.2.2.1 5 (va_up (wt_ s) m 0), s.2.2.2.2.2) := by unfold s_await; rw [eX]
      show JP n (s_await s m 0) _ _
      rw [es]
      refine ⟨hw, ⟨fun _ => ⟨(b1.1 (Or.inr hph)).1, fun b hb => ?_⟩, fun _ b hb hmk => ?_, fun x => absurd x n3⟩, hx, b3, mirOk_kk (mirOk_r b4 rfl rfl rfl rfl) ⟨rfl, rfl⟩⟩
      · show va_up (wt_ s) m 0 b < nsw_ s
        by_cases e2 : b = m
        · rw [e2, va_s]; exact (b1.1 (Or.inr hph)).1
        · rw [va_n _ _ e2]; exact (b1.1 (Or.inr hph)).2 b hb
      · show va_up (wt_ s) m 0 b = 0
        by_cases e2 : b = m
        · rw [e2, va_s]
        · rw [va_n _ _ e2]; exact b1.2.1 hph b (by omega) hmk
  · rw [if_neg e]
    refine ⟨fun _ => ?_, fun x => Bool.noConfusion (show true = false from x)⟩
    refine JP_kx h0 _ ⟨b1.1, fun _ b hb hmk => ?_, fun x => absurd x n3⟩ hx
    by_cases e2 : b = m
    · rw [e2]
      exact Classical.byContradiction (fun y => e ⟨by rw [← e2]; exact hmk, y⟩)
    · exact b1.2.1 hph b (by omega) hmk
/-- in phase 3 the block before m that nothing has marked is no child of what is there, no root, no saver's -/
theorem no_par {n : Nat} {s : SG} {m : Nat} (a : JA n s) (b1 : VG3 s (m + 1)) (hph : ph_ s = 3) (hm : m < end_ s) (hmk : mk_ s m = false) : (∀ p, p < nb_ s → th_ s p = true → ∀ i, i < cm_ s p → ch_ s p i = m → wt_ s p = nsw_ s ∧ p ≠ m) ∧ (∀ j, j < ns_ s → kp_ s j = true → ∀ i, i < rm_ s j → ro_ s j i ≠ m) ∧ ∀ j, j < 4 → sv_ s j = true → ∀ i, i < um_ s j → us_ s j i ≠ m := by
  obtain ⟨a1, a2, a3, a4, a5, a6, a7, a8, a9, a10, a11, a12⟩ := a
  obtain ⟨q1, q2, q3, q4⟩ := a11 (Or.inr (Or.inr hph))
  have n1 : ph_ s ≠ 1 := by omega
  have hno : mkr s m → False := fun x => by rw [mkr_2 x (Or.inr n1)] at hmk; cases hmk
  refine ⟨fun p hp ht i hi e => ?_, fun j hj hk i hi e => ?_, fun j hj hk i hi e => ?_⟩
  · have hc := (a2 p hp).2 i hi
    have hpe : ¬ (mk_ s p = true ∨ end_ s ≤ p) := fun x => hno (by have := q2 p hp x i hi (by omega); rw [e] at this; exact this)
    refine ⟨(b1.2.2 hph).1 p (by omega) (by have : ¬ end_ s ≤ p := fun x => hpe (Or.inr x); omega) ht ?_, by omega⟩
    cases x : mk_ s p with
    | false => rfl
    | true => exact absurd (Or.inl x) hpe
  · exact hno (by have := q3 j hj hk i hi (by omega); rw [e] at this; exact this)
  · exact hno (by have := q4 j hj hk i hi (by omega); rw [e] at this; exact this)
theorem by_free {s : SG} {b : Nat} (hb : b < nb_ s) (ht : th_ s b = true) (p : Nat) : bySum (nb_ s) (va_up (th_ s) b false) (pk_ s) (sz_ s) p + (if nI (pk_ s b) = nI p then sz_ s b else 0) = byN s p := by
  have := sumN_upd (f := fun j => if va_up (th_ s) b false j && decide (nI (pk_ s j) = nI p) then sz_ s j else 0) (g := fun j => if th_ s j && decide (nI (pk_ s j) = nI p) then sz_ s j else 0) (b := b) (fun j hj => by rw [va_n _ _ hj]) hb
  have e1 : (if va_up (th_ s) b false b && decide (nI (pk_ s b) = nI p) then sz_ s b else 0) = 0 := by rw [va_s]; rfl
  have e2 : (if th_ s b && decide (nI (pk_ s b) = nI p) then sz_ s b else 0) = if nI (pk_ s b) = nI p then sz_ s b else 0 := by rw [ht, Bool.true_and]; simp only [decide_eq_true_iff]
  rw [e1, e2] at this
  rw [byN_e]
  unfold bySum
  omega
theorem VP_free {s : SG} {b : Nat} (h : VP s) (hb : b < nb_ s) (ht : th_ s b = true) : VP (sGb s 0 (va_up (th_ s) b false)) := by
  obtain ⟨h1, h2, h3, h4⟩ := h
  refine ⟨h1, fun c hc x => h2 c hc (up_f x), fun i j hij hj xi xj => h3 i j hij hj (up_f xi) (up_f xj), fun p hp => ⟨(h4 p hp).1, ?_⟩⟩
  have := by_free hb ht p
  have := (h4 p hp).2
  show bySum (nb_ s) (va_up (th_ s) b false) (pk_ s) (sz_ s) p ≤ al_ s p
  omega
theorem J_choose {n : Nat} {s : SG} {k : KG} {m : Nat} (h : JP n s k (m + 1)) (hph : ph_ s = 3) : ((chooseF s m).1 = true → JP n (chooseF s m).2 (kX (chooseK s k m) 0 (nI m - 1)) m) ∧ ((chooseF s m).1 = false → (∃ X b, (chooseF s m).2 = (s.1, X, s.2.2.1, b, s.2.2.2.2)) ∧ chooseK s k m = k) := by
  have h0 := h
  obtain ⟨⟨a1, a2, a3, a4, a5, a6, a7, a8, a9, a10, a11, a12⟩, b1, b2, b3, b4⟩ := h
  obtain ⟨q1, q2, q3, q4⟩ := a11 (Or.inr (Or.inr hph))
  have n1 : ph_ s ≠ 1 := by omega
  have n2 : ph_ s ≠ 2 := by omega
  have n4 : ph_ s ≠ 4 := by omega
  have hme : m < end_ s := (b2.2.1 hph).2
  have hmn : m < nb_ s := by omega
  have hx : ∀ k' : KG, VX s (kX k' 0 (nI m - 1)) m := fun k' => ⟨fun x => absurd x n2, fun _ => ⟨rfl, by omega⟩, fun x => absurd x n4⟩
  have hwm : wt_ s m < nsw_ s := (b1.2.2 hph).2 m (Nat.lt_succ_self _)
  unfold chooseF chooseK
  by_cases e : th_ s m = true ∧ mk_ s m = false
  · rw [if_pos e]
    obtain ⟨np1, np2, np3⟩ := no_par h0.1 b1 hph hme e.2
    by_cases hc : cut_ s = 0
    · rw [if_pos hc]
      exact ⟨fun x => Bool.noConfusion (show false = true from x), fun _ => ⟨⟨va_up s.2.1 0 (-1), true, rfl⟩, if_neg (fun x => x.2.2.1 hc)⟩⟩
    · rw [if_neg hc]
      obtain ⟨X, eX⟩ := w1_e s
      by_cases hw : 0 < wt_ s m
      · rw [if_pos hw, if_pos ⟨e.1, e.2, hc, hw⟩]
        refine ⟨fun _ => ?_, fun x => Bool.noConfusion (show true = false from x)⟩
        show JP n (s_free s m) (kX (k_free s k m) 0 (nI m - 1)) m
        have noP : ∀ p, p < nb_ s → th_ s p = true → ∀ i, i < cm_ s p → ch_ s p i ≠ m := by
          intro p hp ht i hi x
          have y := (np1 p hp ht i hi x).1
          have y2 := ((a10.1 p hp ht i hi).2 (by rw [x]; exact hw)).2
          rw [x] at y2
          omega
        have hcnt := cntN_clr (p := th_ s) e.1 hmn
        have hh : nh_ s < 240 := by
          have h1 : nh_ s + thereN s = nb_ s + nfr_ s + 2 * ns_ s := a6.2.1
          have h2 : nfr_ s + cntN (th_ s) (nb_ s) = nb_ s := a6.2.2.1
          have h4 : nb_ s ≤ 80 := a1.1
          have h5 : ns_ s ≤ 40 := a3.1
          omega
        unfold s_free s_free1
        rw [eX]
        have hb80 : m < 80 := by have := a1.1; omega
        refine ⟨⟨a1, a2, a3, a4, a5, ⟨hist_ev a6.1 hh (e := 1) (b := m) (by decide) (fun _ => hb80) (fun x => absurd x (by decide)), ?_, ?_, a6.2.2.2.1, hB_ev (e := 1) (b := m) a6.2.2.2.2 (Nat.le_refl _) (Nat.le_refl _) (fun _ => hmn) (fun q => absurd q (by decide))⟩, a7, ⟨a8.1, fun c => ?_, a8.2.2⟩, a9, ⟨fun p hp ht i hi => ?_, fun j hj hk i hi => ?_, fun j hj hk i hi => ?_⟩, fun _ => ⟨q1, q2, q3, q4⟩, VP_free a12 hmn e.1⟩, ⟨fun x => absurd (x.elim n1 n2) (fun y => y.elim), fun x => absurd x n2, fun _ => ⟨fun b h1 h2 h3 h4 => ?_, fun b hb => ?_⟩⟩, hx _, fun p hp => ?_, mirOk_kk (mirOk_r (mir_ev b4 1 m) rfl rfl rfl rfl) ⟨rfl, rfl⟩⟩
        · show nh_ s + 1 + thereN s = nb_ s + (nfr_ s + 1) + 2 * ns_ s
          have h1 : nh_ s + thereN s = nb_ s + nfr_ s + 2 * ns_ s := a6.2.1
          omega
        · show nfr_ s + 1 + cntN (va_up (th_ s) m false) (nb_ s) = nb_ s
          have h2 : nfr_ s + cntN (th_ s) (nb_ s) = nb_ s := a6.2.2.1
          omega
        · show va_up (wt_ s) m 0 c ≤ nsw_ s ∧ (va_up (th_ s) m false c = false → va_up (wt_ s) m 0 c = 0)
          by_cases e2 : c = m
          · rw [e2, va_s, va_s]; exact ⟨Nat.zero_le _, fun _ => rfl⟩
          · rw [va_n _ _ e2, va_n _ _ e2]; exact a8.2.1 c
        · have ht : va_up (th_ s) m false p = true := ht
          have ht2 := up_f ht
          show va_up (th_ s) m false (ch_ s p i) = true ∧ (0 < va_up (wt_ s) m 0 (ch_ s p i) → 0 < va_up (wt_ s) m 0 p ∧ va_up (wt_ s) m 0 p ≤ va_up (wt_ s) m 0 (ch_ s p i))
          have hpm : p ≠ m := fun x => by rw [x, va_s] at ht; cases ht
          rw [va_n _ _ (noP p hp ht2 i hi), va_n _ _ (noP p hp ht2 i hi), va_n _ _ hpm]
          exact a10.1 p hp ht2 i hi
        · show va_up (th_ s) m false (ro_ s j i) = true
          rw [va_n _ _ (np2 j hj hk i hi)]
          exact a10.2.1 j hj hk i hi
        · show va_up (th_ s) m false (us_ s j i) = true ∧ va_up (wt_ s) m 0 (us_ s j i) = 0
          rw [va_n _ _ (np3 j hj hk i hi), va_n _ _ (np3 j hj hk i hi)]
          exact a10.2.2 j hj hk i hi
        · have h3 : va_up (th_ s) m false b = true := h3
          have hbm : b ≠ m := fun x => by rw [x, va_s] at h3; cases h3
          show va_up (wt_ s) m 0 b = nsw_ s
          rw [va_n _ _ hbm]
          exact (b1.2.2 hph).1 b (by omega) h2 (up_f h3) h4
        · show va_up (wt_ s) m 0 b < nsw_ s
          rw [va_n _ _ (by omega)]
          exact (b1.2.2 hph).2 b (by omega)
        · have y := b3 p hp
          have y2 := by_free hmn e.1 p
          have hpkm : pk_ s m < np_ s := (a12.1 m hmn).1
          have hnp := a1.2.1
          have y3 := (a12.2.2.2 p hp).2
          show ac_ k p = (if gn_ s p = true then 0 else al_ s p) ∧ va_up (ho_ k) (pk_ s m) (ho_ k (pk_ s m) + sz_ s m) p = if gn_ s p = true then 0 else al_ s p - bySum (nb_ s) (va_up (th_ s) m false) (pk_ s) (sz_ s) p
          refine ⟨y.1, ?_⟩
          have hp' : p < np_ s := hp
          by_cases e2 : p = pk_ s m
          · rw [e2] at y2 y3 ⊢
            rw [va_s]
            rw [if_pos rfl] at y2
            have y' := (b3 (pk_ s m) hpkm).2
            have hg := (a12.2.1 m hmn e.1).1
            rw [hg] at y' ⊢
            rw [if_neg (by decide)] at y' ⊢
            rw [y']
            omega
          · rw [va_n _ _ e2, y.2]
            rw [if_neg (fun x => e2 (nI_eq' (by omega) (by omega) x).symm)] at y2
            rw [← y2]
            rfl
      · rw [if_neg hw, if_neg (fun x => hw x.2.2.2)]
        refine ⟨fun _ => ?_, fun x => Bool.noConfusion (show true = false from x)⟩
        show JP n (s_await s m (nsw_ s)) (kX k 0 (nI m - 1)) m
        have es : s_await s m (nsw_ s) = (s.1, X, s.2.2.1, s.2.2.2.1, va_up s.2.2.2.2.1 5 (va_up (wt_ s) m (nsw_ s)), s.2.2.2.2.2) := by unfold s_await; rw [eX]
        rw [es]
        have hw2 := JA_w h0.1 (b := m) (w := nsw_ s) X (Nat.le_refl _) (fun x => by rw [e.1] at x; cases x) (fun x => ⟨fun p hp ht i hi y _ => by rw [(np1 p hp ht i hi y).1]; exact ⟨x, Nat.le_refl _⟩, np3⟩) (fun _ i hi => Nat.eq_zero_of_not_pos (fun y => hw ((a10.1 m hmn e.1 i hi).2 y).1))
        refine ⟨hw2, ⟨fun x => absurd (x.elim n1 n2) (fun y => y.elim), fun x => absurd x n2, fun _ => ⟨fun b h1 h2 h3 h4 => ?_, fun b hb => ?_⟩⟩, hx _, b3, mirOk_kk (mirOk_r b4 rfl rfl rfl rfl) ⟨rfl, rfl⟩⟩
        · show va_up (wt_ s) m (nsw_ s) b = nsw_ s
          by_cases e2 : b = m
          · rw [e2, va_s]
          · rw [va_n _ _ e2]; exact (b1.2.2 hph).1 b (by omega) h2 h3 h4
        · show va_up (wt_ s) m (nsw_ s) b < nsw_ s
          rw [va_n _ _ (by omega)]
          exact (b1.2.2 hph).2 b (by omega)
  · rw [if_neg e, if_neg (fun x => e ⟨x.1, x.2.1⟩)]
    refine ⟨fun _ => ?_, fun x => Bool.noConfusion (show true = false from x)⟩
    refine JP_kx h0 _ ⟨fun x => absurd (x.elim n1 n2) (fun y => y.elim), fun x => absurd x n2, fun _ => ⟨fun b h1 h2 h3 h4 => ?_, fun b hb => (b1.2.2 hph).2 b (by omega)⟩⟩ (hx _)
    by_cases e2 : b = m
    · subst e2; exact absurd ⟨h3, h4⟩ e
    · exact (b1.2.2 hph).1 b (by omega) h2 h3 h4
