/-! WHAT HOLDS BETWEEN CALLS, 4: packing, steps, sweep, mirrors, the beginning -/
theorem lies_e {s : SG} (h : ∀ b, b < nb_ s → pk_ s b < 2 ^ 31) {b p : Nat} (hb : b < nb_ s) (hp : p < 2 ^ 31) : liesB s b (nI p) = true ↔ (th_ s b = true ∧ pk_ s b = p) := by
  unfold liesB
  rw [Bool.and_eq_true, decide_eq_true_iff, nI_eq (h b hb) hp]
theorem dis_ok {s : SG} (h : VP s) (hnp : np_ s ≤ 40) {p : Nat} (hp : p < 2 ^ 31) : disOk s p := by
  obtain ⟨h1, h2, h3, h4⟩ := h
  have hl : ∀ b, b < nb_ s → pk_ s b < 2 ^ 31 := fun b hb => by have := (h1 b hb).1; omega
  intro a b ha hb hne la lb e
  rw [lies_e hl ha hp] at la
  rw [lies_e hl hb hp] at lb
  have za := (h1 a ha).2.1
  have zb := (h1 b hb).2.1
  rcases Nat.lt_or_gt_of_ne hne with x | x
  · have := h3 a b x hb la.1 lb.1 (by rw [la.2, lb.2])
    omega
  · have := h3 b a x ha lb.1 la.1 (by rw [la.2, lb.2])
    omega
theorem full_le {s : SG} {k : KG} (h : VP s) (hK : VK s k) (p : Int32) : fullS s k p ≤ cap_ s := by
  unfold fullS
  split
  · exact Nat.le_refl _
  · rename_i x
    have h0 : np_ s ≠ 0 := fun y => x (Or.inl y)
    have hg : ¬ gn_ s (np_ s - 1) = true := fun y => x (Or.inr (Or.inr y))
    have := (hK (np_ s - 1) (by omega)).1
    rw [if_neg hg] at this
    rw [this]
    exact (h.2.2.2 (np_ s - 1) (by omega)).1
theorem pk_ok {n : Nat} {s : SG} {k : KG} (a : JA n s) (hK : VK s k) {p : Nat} (hp : p < np_ s) : pkOk s k p := by
  obtain ⟨a1, a2, a3, a4, a5, a6, a7, a8, a9, a10, a11, a12⟩ := a
  refine ⟨a3.1, a1.2.1, a1.2.2.2.1, hp, dis_ok a12 a1.2.1 (by have := a1.2.1; omega), fun j hj => ?_, full_le a12 hK _⟩
  obtain ⟨x1, x2, x3, x4⟩ := a12.1 j hj
  exact ⟨by omega, x3⟩
theorem VQ_of {t : SG} (h : VP t) (b : Nat) (hb : b < nb_ t) : VQ t b := by
  obtain ⟨h1, h2, h3, h4⟩ := h
  refine ⟨fun c hc _ => h1 c hc, fun c hc _ => h2 c hc, fun i j hij hj _ _ => h3 i j hij hj, fun p hp => ⟨(h4 p hp).1, Nat.le_trans ?_ (h4 p hp).2⟩⟩
  rw [byN_e]
  refine sumN_le (fun j hj => ?_)
  by_cases e : j = b
  · rw [e, va_s]; exact Nat.zero_le _
  · rw [va_n _ _ e]; exact Nat.le_refl _
theorem by_other {t : SG} {b q : Nat} (h : nI (pk_ t b) ≠ nI q) : bySum (nb_ t) (va_up (th_ t) b false) (pk_ t) (sz_ t) q = byN t q := by
  rw [byN_e]
  refine sumN_congr (fun j hj => ?_)
  by_cases e : j = b
  · rw [e, va_s, decide_eq_false h, Bool.false_and, Bool.and_false]
  · rw [va_n _ _ e]
theorem aS_rest (f : Nat → Nat) (pl : Nat → Nat × Nat) (t : SG) : ∀ i, ∃ u1 g6 f5, aS f pl t i = (u1, t.2.1, t.2.2.1, t.2.2.2.1, f5, g6, t.2.2.2.2.2.2) ∧ (∀ i, i ≠ 4 → u1 i = t.1 i) ∧ (∀ i, i ≠ 2 → g6 i = gs_ t i) ∧ ∀ i, i ≠ 3 → i ≠ 4 → i ≠ 6 → f5 i = fs_ t i := by
  intro i
  induction i with
  | zero => exact ⟨t.1, gs_ t, fs_ t, rfl, fun _ _ => rfl, fun _ _ => rfl, fun _ _ _ _ => rfl⟩
  | succ i ih =>
    obtain ⟨u1, g6, f5, e, r1, r2, r3⟩ := ih
    obtain ⟨v1, h6, j5, e', s1, s2, s3⟩ := aLay_rest (aS f pl t i) (f i) (pl i).1 (pl i).2
    rw [e] at s1 s2 s3
    refine ⟨v1, h6, j5, ?_, fun i hi => (s1 i hi).trans (r1 i hi), fun i hi => (s2 i hi).trans (r2 i hi), fun i h3 h4 h6 => (s3 i h3 h4 h6).trans (r3 i h3 h4 h6)⟩
    show aLay (aS f pl t i) (f i) (pl i).1 (pl i).2 = _
    rw [e', e]
def PkInv (s : SG) (p : Nat) (f : Nat → Nat) (x0 : Nat × Nat) (t : SG) (κ : KG) (i : Nat) : Prop := VP t ∧ VKx t κ p ∧ (plT s f x0 i).1 + 1 = np_ t ∧ ((plT s f x0 i).2 = cap_ s ∨ ((plT s f x0 i).1 ≠ p ∧ gn_ t (plT s f x0 i).1 = false ∧ al_ t (plT s f x0 i).1 = (plT s f x0 i).2)) ∧ nan_ s + cntN (fun j => !gn_ t j) (np_ t) = np_ t ∧ (gn_ t p = false ∧ p < np_ t) ∧ (∀ b, (∀ q, q < i → f q ≠ b) → pk_ t b = pk_ s b) ∧ ∀ q, q < i → pk_ t (f q) ≠ p
theorem Pk_step {s : SG} {p : Nat} {f : Nat → Nat} {x0 : Nat × Nat} {t : SG} {κ : KG} {i : Nat} (h : PkInv s p f x0 t κ i) (hnb : nb_ t = nb_ s) (hth : th_ t = th_ s) (hsz : sz_ t = sz_ s) (hcap : cap_ t = cap_ s) (hcl : cap_ s ≤ 1000) (hfi : f i < nb_ s) (hti : th_ s (f i) = true) (hpi : pk_ s (f i) = p) (hinj : ∀ q, q < i → f q ≠ f i) (hz : 1 ≤ sz_ s (f i) ∧ sz_ s (f i) ≤ cap_ s) (h40 : (plT s f x0 (i + 1)).1 + 1 ≤ 40) : PkInv s p f x0 (aLay t (f i) (plP s f x0 i).1 (plP s f x0 i).2) (kLay t κ (f i) (plP s f x0 i).1 (plP s f x0 i).2) (i + 1) := by
  obtain ⟨v1, v2, v3, v4, v5, v6, v7, v8⟩ := h
  have hmono : (plT s f x0 i).1 ≤ (plT s f x0 (i + 1)).1 := plT_mono s f x0 i 1
  have hnp : np_ t ≤ 40 := by omega
  have hput : putOk t (f i) (plP s f x0 i).1 (plP s f x0 i).2 ∧ (plP s f x0 i).1 ≠ p ∧ ((plP s f x0 i).1 < np_ t → (plP s f x0 i).1 + 1 = np_ t) := by
    unfold putOk plP plA
    rw [hsz, hcap]
    by_cases e : (plT s f x0 i).2 + sz_ s (f i) ≤ cap_ s
    · rw [if_pos e]
      have := v4.resolve_left (by omega)
      exact ⟨⟨Or.inl ⟨by omega, this.2.1, this.2.2⟩, e⟩, this.1, fun _ => v3⟩
    · rw [if_neg e]
      exact ⟨⟨Or.inr ⟨v3, rfl⟩, by show 0 + sz_ s (f i) ≤ _; omega⟩, by show (plT s f x0 i).1 + 1 ≠ p; omega, fun x => absurd (show (plT s f x0 i).1 + 1 < np_ t from x) (by omega)⟩
  obtain ⟨hput, hPp, hPl⟩ := hput
  have hVQ := VQ_of v1 (f i) (by rw [hnb]; exact hfi)
  have hpkt : pk_ t (f i) = p := by rw [v7 (f i) hinj]; exact hpi
  obtain ⟨w1, w2⟩ := VP_lay hVQ (by rw [hnb]; exact hfi) (by rw [hth]; exact hti) (by rw [hsz]; exact hz.1) (by rw [hcap]; exact hcl) hnp hput
  have hK := VKx_lay (k := κ) (p0 := p) hVQ (by rw [hnb]; exact hfi) (by rw [hth]; exact hti) (by rw [hsz]; exact hz.1) (by rw [hcap]; exact hcl) hnp hput (fun q hq hqp => by
    rw [by_other (by rw [hpkt]; exact fun x => hqp (nI_eq' (by omega) (by omega) x).symm)]
    exact v2 q hq hqp) hPp
  obtain ⟨e1, e2, e3, e4, e5, e6, e7, e8, e9⟩ := aLay_e t (f i) (plP s f x0 i).1 (plP s f x0 i).2 (hput.1.elim (fun x => Or.inl x.1) (fun x => Or.inr x.1))
  have hgP : gn_ (aLay t (f i) (plP s f x0 i).1 (plP s f x0 i).2) (plP s f x0 i).1 = false := by
    rw [e9]
    rcases hput.1 with x | x
    · rw [if_pos x.1]; exact x.2.1
    · rw [if_neg (by omega), if_pos rfl]
  refine ⟨w1, hK, ?_, ?_, ?_, ?_, ?_, ?_⟩
  · rw [e8]
    show (plP s f x0 i).1 + 1 = _
    split
    · exact hPl (by assumption)
    · have := hput.1.resolve_left (fun x => by have := x.1; omega)
      omega
  · refine Or.inr ⟨hPp, hgP, ?_⟩
    rw [e7]
    show va_up (al_ t) (plP s f x0 i).1 _ (plP s f x0 i).1 = (plP s f x0 i).2 + sz_ s (f i)
    rw [va_s, hsz]
  · rw [e8]
    by_cases x : (plP s f x0 i).1 < np_ t
    · rw [if_pos x, cntN_congr (q := fun j => !gn_ t j) (fun j _ => by rw [e9, if_pos x])]
      exact v5
    · have xe : (plP s f x0 i).1 = np_ t := (hput.1.resolve_left (fun y => x y.1)).1
      rw [if_neg x, cntN, cntN_congr (q := fun j => !gn_ t j) (fun j hj => by rw [e9, if_neg x, if_neg (by omega)]), e9, if_neg x, if_pos xe.symm]
      show nan_ s + (cntN (fun j => !gn_ t j) (np_ t) + 1) = np_ t + 1
      omega
  · refine ⟨?_, ?_⟩
    · rw [e9]
      split
      · exact v6.1
      · rw [if_neg (fun x => hPp x.symm)]; exact v6.1
    · have := v6.2
      rw [e8]
      split <;> omega
  · intro b hb
    rw [e5, va_n _ _ (fun x => hb i (Nat.lt_succ_self _) x.symm)]
    exact v7 b (fun q hq => hb q (by omega))
  · intro q hq
    rw [e5]
    by_cases e : f q = f i
    · rw [e, va_s]; exact hPp
    · rw [va_n _ _ e]
      exact v8 q (by
        by_cases x : q = i
        · subst x; exact absurd rfl e
        · omega)
theorem wrL_e : ∀ (n : Nat) (s : SG), ∃ X b, (wrL n s).2 = (s.1, X, s.2.2.1, b, s.2.2.2.2) ∧ ((wrL n s).1 = true → b = dn_ s) := by
  intro n
  induction n with
  | zero => intro s; exact ⟨s.2.1, dn_ s, rfl, fun _ => rfl⟩
  | succ n ih =>
    intro s
    rw [wrL]
    split
    · exact ⟨va_up s.2.1 0 (-1), true, rfl, fun x => Bool.noConfusion (show false = true from x)⟩
    · obtain ⟨X, b, e1, e2⟩ := ih (s_w1 s)
      obtain ⟨Y, eY⟩ := w1_e s
      rw [eY] at e1 e2
      rw [eY]
      exact ⟨X, b, e1, e2⟩
theorem Pk_all {n : Nat} {s : SG} {k : KG} (a : JA n s) (hK : VK s k) {p : Nat} (hp : p < np_ s) (hg : gn_ s p = false) (h40 : pkTo s k p < 40) (X : Nat → Int32) (db : Bool) : ∀ i, i ≤ lieN s (nI p) → PkInv s p (mvO s p) (pkx0 s k p) (aS (mvO s p) (plP s (mvO s p) (pkx0 s k p)) (s.1, X, s.2.2.1, db, s.2.2.2.2) i) (kS (mvO s p) (plP s (mvO s p) (pkx0 s k p)) (s.1, X, s.2.2.1, db, s.2.2.2.2) k i) i := by
  obtain ⟨a1, a2, a3, a4, a5, a6, a7, a8, a9, a10, a11, a12⟩ := a
  have hp31 : p < 2 ^ 31 := by have := a1.2.1; omega
  have hplan := mvO_plan (dis_ok a12 a1.2.1 hp31)
  have hl : ∀ b, b < nb_ s → pk_ s b < 2 ^ 31 := fun b hb => by have := (a12.1 b hb).1; have := a1.2.1; omega
  intro i
  induction i with
  | zero =>
    intro _
    refine ⟨a12, fun q hq _ => hK q hq, ?_, ?_, a7, ⟨hg, hp⟩, fun _ _ => rfl, fun q hq => absurd hq (Nat.not_lt_zero _)⟩
    · show np_ s - 1 + 1 = np_ s
      omega
    · show fullS s k (nI p) = cap_ s ∨ (np_ s - 1 ≠ p ∧ gn_ s (np_ s - 1) = false ∧ al_ s (np_ s - 1) = fullS s k (nI p))
      unfold fullS
      split
      · exact Or.inl rfl
      · rename_i x
        have hgn : gn_ s (np_ s - 1) = false := by cases y : gn_ s (np_ s - 1) with | false => rfl | true => exact absurd (Or.inr (Or.inr y)) x
        refine Or.inr ⟨fun y => x (Or.inr (Or.inl (by rw [y]))), hgn, ?_⟩
        have := (hK (np_ s - 1) (by omega)).1
        rw [hgn, if_neg (by decide)] at this
        exact this.symm
  | succ i ih =>
    intro hi
    have h := ih (by omega)
    obtain ⟨u1, g6, f5, er, r1, r2, r3⟩ := aS_rest (mvO s p) (plP s (mvO s p) (pkx0 s k p)) (s.1, X, s.2.2.1, db, s.2.2.2.2) i
    obtain ⟨l1, l2⟩ := hplan.1 i (by omega)
    rw [lies_e hl l1 hp31] at l2
    refine Pk_step h ?_ ?_ ?_ ?_ a1.2.2.2.1 l1 l2.1 l2.2 (fun q hq x => ?_) ⟨(a12.1 _ l1).2.1, (a12.1 _ l1).2.2.1⟩ ?_
    · rw [er]; exact r1 1 (by decide)
    · rw [er]; exact r2 0 (by decide)
    · rw [er]; exact r3 0 (by decide) (by decide) (by decide)
    · rw [er]; exact r1 0 (by decide)
    · have := hplan.2.1 q i hq (by omega)
      rw [x] at this
      exact absurd this (Nat.lt_irrefl _)
    · have hm := plT_mono s (mvO s p) (pkx0 s k p) (i + 1) (lieN s (nI p) - (i + 1))
      rw [show i + 1 + (lieN s (nI p) - (i + 1)) = lieN s (nI p) by omega] at hm
      have h40 : (plT s (mvO s p) (pkx0 s k p) (lieN s (nI p))).1 < 40 := h40
      omega
theorem kS_2 (f : Nat → Nat) (pl : Nat → Nat × Nat) (t : SG) (k : KG) : ∀ i, kb_ (kS f pl t k i) = kb_ k ∧ dn2_ (kS f pl t k i) = dn2_ k := by
  intro i
  induction i with
  | zero => exact ⟨rfl, rfl⟩
  | succ i ih =>
    have := kLay_2 (aS f pl t i) (kS f pl t k i) (f i) (pl i).1 (pl i).2
    exact ⟨this.1.trans ih.1, this.2.trans ih.2⟩
theorem J_packd {n : Nat} {s : SG} {k : KG} {m : Nat} (h : JP n s k m) (hph : ph_ s = 4) {q0 : Nat} (hq : pe_ k = nI q0) (hm : m < q0) (hq2 : q0 ≤ np_ s) : ((pkNF s k m).1 = true → JP n (pkNF s k m).2.1 (pkNF s k m).2.2 (m + 1)) ∧ ((pkNF s k m).1 = false → (∃ X b, (pkNF s k m).2.1 = (s.1, X, s.2.2.1, b, s.2.2.2.2)) ∧ (pkNF s k m).2.2 = kX k 0 (nI (m + 1))) := by
  have h0 := h
  obtain ⟨⟨a1, a2, a3, a4, a5, a6, a7, a8, a9, a10, a11, a12⟩, b1, b2, b3, b4⟩ := h
  have n1 : ph_ s ≠ 1 := by omega
  have n2 : ph_ s ≠ 2 := by omega
  have n3 : ph_ s ≠ 3 := by omega
  have hg3 : ∀ t : SG, ph_ t = ph_ s → VG3 t (m + 1) := fun t e => ⟨fun x => by rw [e] at x; omega, fun x => by rw [e] at x; omega, fun x => by rw [e] at x; omega⟩
  have hx : VX s (kX k 0 (nI (m + 1))) (m + 1) := ⟨fun x => absurd x n2, fun x => absurd x n3, fun _ => ⟨rfl, q0, hq, hm, hq2⟩⟩
  have hstay : JP n s (kX k 0 (nI (m + 1))) (m + 1) := JP_kx h0 _ (hg3 s rfl) hx
  unfold pkNF
  by_cases hd : dueB s k m = true
  · rw [if_pos hd]
    have hgm : gn_ s m = false := by
      unfold dueB at hd
      rw [Bool.and_eq_true, Bool.and_eq_true] at hd
      cases x : gn_ s m with
      | false => rfl
      | true => rw [x] at hd; exact absurd hd.2.1 (by decide)
    obtain ⟨k', hk'⟩ : ∃ k', k' = kX k 0 (nI (m + 1)) := ⟨_, rfl⟩
    rw [← hk'] at hx hstay ⊢
    have hK' : VK s k' := hstay.2.2.2.1
    unfold pkF
    by_cases h40 : pkTo s k' m < 40
    · rw [if_pos h40]
      obtain ⟨X, b, eW, eB⟩ := wrL_e (lieN s (nI m) + 1) s
      by_cases hw : (wrL (lieN s (nI m) + 1) s).1 = true
      · rw [if_pos hw]
        refine ⟨fun _ => ?_, fun x => Bool.noConfusion (show true = false from x)⟩
        show JP n (pkS s k' m (wrL (lieN s (nI m) + 1) s).2) (pkK s k' m (wrL (lieN s (nI m) + 1) s).2) (m + 1)
        have eW2 : (wrL (lieN s (nI m) + 1) s).2 = (s.1, X, s.2.2.1, b, s.2.2.2.2) := eW
        rw [eW2]
        have hall := Pk_all h0.1 hK' (p := m) (by omega) hgm h40 X b (lieN s (nI m)) (Nat.le_refl _)
        unfold pkS pkK
        obtain ⟨u1, g6, f5, er, r1, r2, r3⟩ := aS_rest (mvO s m) (plP s (mvO s m) (pkx0 s k' m)) (s.1, X, s.2.2.1, b, s.2.2.2.2) (lieN s (nI m))
        have hk1 := (kS_1 (mvO s m) (plP s (mvO s m) (pkx0 s k' m)) (s.1, X, s.2.2.1, b, s.2.2.2.2) k' (lieN s (nI m))).1
        have hk2 := kS_2 (mvO s m) (plP s (mvO s m) (pkx0 s k' m)) (s.1, X, s.2.2.1, b, s.2.2.2.2) k' (lieN s (nI m))
        obtain ⟨t, ht⟩ : ∃ t, t = aS (mvO s m) (plP s (mvO s m) (pkx0 s k' m)) (s.1, X, s.2.2.1, b, s.2.2.2.2) (lieN s (nI m)) := ⟨_, rfl⟩
        obtain ⟨κ, hκ⟩ : ∃ κ, κ = kS (mvO s m) (plP s (mvO s m) (pkx0 s k' m)) (s.1, X, s.2.2.1, b, s.2.2.2.2) k' (lieN s (nI m)) := ⟨_, rfl⟩
        rw [← ht, ← hκ] at hall ⊢
        rw [← hκ] at hk1 hk2
        rw [← ht] at er
        obtain ⟨v1, v2, v3, v4, v5, v6, v7, v8⟩ := hall
        have U : ∀ i, i ≠ 4 → t.1 i = s.1 i := fun i hi => by rw [er]; exact r1 i hi
        have F : ∀ i, i ≠ 3 → i ≠ 4 → i ≠ 6 → fs_ t i = fs_ s i := fun i x y z => by rw [er]; exact r3 i x y z
        have Gs : ∀ i, i ≠ 2 → gs_ t i = gs_ s i := fun i hi => by rw [er]; exact r2 i hi
        have Ff : ff_ t = ff_ s := by rw [er]
        have Ys : ys_ t = ys_ s := by rw [er]
        have Nw : now_ t = now_ s := by rw [er]
        have s1 : nb_ t = nb_ s := U 1 (by decide)
        have s10 : ph_ t = ph_ s := U 10 (by decide)
        have s13 : end_ t = end_ s := U 13 (by decide)
        have s9 : nsw_ t = nsw_ s := U 9 (by decide)
        have s7 : ns_ t = ns_ s := U 7 (by decide)
        have s2 : nfr_ t = nfr_ s := U 2 (by decide)
        have s8 : nh_ t = nh_ s := U 8 (by decide)
        have s5 : nan_ t = nan_ s := U 5 (by decide)
        have s0 : cap_ t = cap_ s := U 0 (by decide)
        have s6 : shr_ t = shr_ s := U 6 (by decide)
        have s11 : rf_ t = rf_ s := U 11 (by decide)
        have s12 : rt_ t = rt_ s := U 12 (by decide)
        have c1 : cm_ t = cm_ s := F 1 (by decide) (by decide) (by decide)
        have c5 : wt_ t = wt_ s := F 5 (by decide) (by decide) (by decide)
        have c8 : rm_ t = rm_ s := F 8 (by decide) (by decide) (by decide)
        have c14 : um_ t = um_ s := F 14 (by decide) (by decide) (by decide)
        have c16 : km_ t = km_ s := F 16 (by decide) (by decide) (by decide)
        have c13 : le_ t = le_ s := F 13 (by decide) (by decide) (by decide)
        have c18 : ru_ t = ru_ s := F 18 (by decide) (by decide) (by decide)
        have c19 : rw_ t = rw_ s := F 19 (by decide) (by decide) (by decide)
        have c10 : hk_ t = hk_ s := F 10 (by decide) (by decide) (by decide)
        have c11 : hw_ t = hw_ s := F 11 (by decide) (by decide) (by decide)
        have th1 : th_ t = th_ s := Gs 0 (by decide)
        have mk1 : mk_ t = mk_ s := Gs 1 (by decide)
        have kp1 : kp_ t = kp_ s := Gs 3 (by decide)
        have sv1 : sv_ t = sv_ s := Gs 4 (by decide)
        have ch1 : ch_ t = ch_ s := congrFun Ff 0
        have ro1 : ro_ t = ro_ s := congrFun Ff 1
        have us1 : us_ t = us_ s := congrFun Ff 2
        have ks1 : ks_ t = ks_ s := congrFun Ff 3
        have tm1 : tm_ t = tm_ s := congrFun Ys 1
        have hp31 : m < 2 ^ 31 := by have := a1.2.1; omega
        have hplan := mvO_plan (dis_ok a12 a1.2.1 hp31)
        have hl : ∀ b, b < nb_ s → pk_ s b < 2 ^ 31 := fun b hb => by have := (a12.1 b hb).1; have := a1.2.1; omega
        have hnot : ∀ c, c < nb_ s → th_ s c = true → pk_ t c ≠ m := by
          intro c hc hth x
          by_cases y : ∃ q, q < lieN s (nI m) ∧ mvO s m q = c
          · obtain ⟨q, y1, y2⟩ := y
            exact v8 q y1 (by rw [y2]; exact x)
          · have y2 := v7 c (fun q hq z => y ⟨q, hq, z⟩)
            rw [x] at y2
            exact y (hplan.2.2 c hc ((lies_e hl hc hp31).mpr ⟨hth, y2.symm⟩))
        have hnpt : np_ s ≤ np_ t ∧ np_ t ≤ 40 := by
          have hmo := plT_mono s (mvO s m) (pkx0 s k' m) 0 (lieN s (nI m))
          rw [Nat.zero_add] at hmo
          have hmo : np_ s - 1 ≤ (plT s (mvO s m) (pkx0 s k' m) (lieN s (nI m))).1 := hmo
          have h40 : (plT s (mvO s m) (pkx0 s k' m) (lieN s (nI m))).1 < 40 := h40
          omega
        refine ⟨⟨?_, ?_, ?_, ?_, ?_, ?_, ?_, ?_, ?_, ?_, ?_, ?_⟩, hg3 _ s10, ?_, ?_, ?_⟩
        · show nb_ t ≤ 80 ∧ np_ t ≤ 40 ∧ 20 ≤ cap_ t ∧ cap_ t ≤ 1000 ∧ shr_ t ≤ 100 ∧ ph_ t ≤ 4
          rw [s1, s0, s6, s10]
          exact ⟨a1.1, hnpt.2, a1.2.2⟩
        · have : kidsOk t := by unfold kidsOk; rw [s1, c1, ch1]; exact a2
          exact this
        · have : rootOk t := by unfold rootOk; rw [s7, c8, ro1, s1]; exact a3
          exact this
        · have : V4 t := by unfold V4; rw [c14, c16, us1, ks1, s1]; exact a4
          exact this
        · have : V5 t := by unfold V5 tmOk tmB; rw [Nw, sv1, c13, s7, tm1, c18]; exact a5
          exact this
        · have : V6 t := by unfold V6 histOk thereN hB; rw [s8, c10, c11, kp1, s7, s1, s2, th1]; exact a6
          exact this
        · show nan_ t + 1 + cntN (fun j => !va_up (gn_ t) m true j) (np_ t) = np_ t
          have e : (fun j => !va_up (gn_ t) m true j) = va_up (fun j => !gn_ t j) m false := by
            funext j
            by_cases x : j = m
            · rw [x, va_s, va_s]; rfl
            · rw [va_n _ _ x, va_n _ _ x]
          rw [e]
          have := cntN_clr (p := fun j => !gn_ t j) (b := m) (by show (!gn_ t m) = true; rw [v6.1]; rfl) v6.2
          rw [s5]
          omega
        · have : V8 n t := by unfold V8; rw [s9, c5, th1, s1, mk1]; exact a8
          exact this
        · have : V9 n t := by unfold V9; rw [s11, s12, mk1, s1, c19, s10]; exact a9
          exact this
        · have : VG1 t := by unfold VG1; rw [s1, th1, c1, ch1, c5, s7, kp1, c8, ro1, sv1, c14, us1]; exact a10
          exact this
        · intro x
          have x : ph_ t = 1 ∨ ph_ t = 2 ∨ ph_ t = 3 := x
          rw [s10] at x
          omega
        · obtain ⟨w1, w2, w3, w4⟩ := v1
          refine ⟨w1, fun c hc hth => ⟨?_, (w2 c hc hth).2⟩, w3, w4⟩
          show va_up (gn_ t) m true (pk_ t c) = false
          have hc : c < nb_ t := hc
          have hth' : th_ t c = true := hth
          rw [va_n _ _ (hnot c (by rw [← s1]; exact hc) (by rw [← th1]; exact hth'))]
          exact (w2 c hc hth).1
        · refine ⟨fun x => absurd (s10.symm.trans x) n2, fun x => absurd (s10.symm.trans x) n3, fun _ => ⟨?_, q0, ?_, hm, Nat.le_trans hq2 hnpt.1⟩⟩
          · show κ.1 0 = _
            rw [hk1, hk']; rfl
          · show κ.1 1 = _
            rw [hk1, hk']; exact hq
        · intro p hp
          have hp : p < np_ t := hp
          show va_up (ac_ κ) m 0 p = (if va_up (gn_ t) m true p = true then 0 else al_ t p) ∧ va_up (ho_ κ) m 0 p = if va_up (gn_ t) m true p = true then 0 else al_ t p - byN t p
          by_cases x : p = m
          · rw [x, va_s, va_s, va_s]; exact ⟨rfl, rfl⟩
          · rw [va_n _ _ x, va_n _ _ x, va_n _ _ x]
            exact v2 p hp x
        · refine mirOk_kk (k := κ) ?_ ⟨rfl, rfl⟩
          refine mirOk_kk (k := k') ?_ hk2
          rw [hk']
          refine mirOk_kk (k := k) ?_ ⟨rfl, rfl⟩
          exact mirOk_r b4 (F 12 (by decide) (by decide) (by decide)) s8 c10 c11
      · rw [if_neg hw]
        exact ⟨fun x => Bool.noConfusion (show false = true from x), fun _ => ⟨⟨X, b, eW⟩, rfl⟩⟩
    · rw [if_neg h40]
      exact ⟨fun _ => hstay, fun x => Bool.noConfusion (show true = false from x)⟩
  · rw [if_neg hd]
    exact ⟨fun _ => hstay, fun x => Bool.noConfusion (show true = false from x)⟩
theorem st_k2 (x : SG × KG) : (settleF x).2.2 = x.2.2 := by
  have h1 : ∀ x, (st1 x).2.2 = x.2.2 := fun x => by
    unfold st1
    split <;> rfl
  have h2 : ∀ x, (st2 x).2.2 = x.2.2 := fun x => by
    unfold st2
    split <;> rfl
  have h3 : ∀ x, (st3 x).2.2 = x.2.2 := fun x => by
    unfold st3
    split <;> rfl
  have h4 : ∀ x, (st4 x).2.2 = x.2.2 := fun x => by
    unfold st4
    split <;> rfl
  exact (h4 _).trans ((h3 _).trans ((h2 _).trans (h1 _)))
theorem JI_lostk {n : Nat} {s : SG} {k : KG} (a : JA n s) (hK : VK s k) (hm : mirOk s k) {x : SG × KG} {X : Nat → Int32} {b : Bool} (e : x.1 = (s.1, X, s.2.2.1, b, s.2.2.2.2)) (e2 : x.2.2 = k.2) : JI n (s_gone (settleF x).1) (settleF x).2 := by
  rw [st_gone, e]
  have ek : (settleF x).2.2 = k.2 := (st_k2 x).trans e2
  refine JI_gone (JA_raw X b a) (fun p hp => ?_) (mirOk_kk (mirOk_r hm rfl rfl rfl rfl) ⟨by rw [kb_, ek], by rw [dn2_, kn_, ek]⟩)
  show kn_ (settleF x).2 1 p = _ ∧ kn_ (settleF x).2 0 p = _
  rw [kn_, ek]
  exact hK p hp
theorem adv_J {n : Nat} {s : SG} {k : KG} (hn : n ≤ 511) (h : JI n s k) (h0 : ph_ s ≠ 0) : advOk s k ∧ ((advF s k).1 = true → JI n (advF s k).2.1 (advF s k).2.2) ∧ ((advF s k).1 = false → JI n (s_gone (advF s k).2.1) (advF s k).2.2) := by
  obtain ⟨m, hP, hS⟩ := h
  have hJ := hP
  obtain ⟨a, b1, b2, b3, b4⟩ := hP
  obtain ⟨a1, a2, a3, a4, a5, a6, a7, a8, a9, a10, a11, a12⟩ := a
  have hcm : cntN (mk_ s) (nb_ s) ≤ nb_ s := cntN_le _
  have hrt : rt_ s + 4 ≤ 944 := by have := a9.2.1; have := a1.1; omega
  have hrf : rf_ s ≤ 944 := by have := a9.1; omega
  have hph := a1.2.2.2.2.2
  have nh240 : ∀ b, b < nb_ s → th_ s b = true → nh_ s < 240 := by
    intro b hb ht
    have h1 : nh_ s + thereN s = nb_ s + nfr_ s + 2 * ns_ s := a6.2.1
    have h2 : nfr_ s + cntN (th_ s) (nb_ s) = nb_ s := a6.2.2.1
    have h3 := cntN_clr (p := th_ s) ht hb
    have h4 := a1.1
    have h5 := a3.1
    omega
  have wt31 : ∀ b, wt_ s b < 2 ^ 31 := fun b => by have := (a8.2.1 b).1; have := a8.1; omega
  unfold advF advF0
  by_cases p1 : ph_ s = 1
  · rw [if_pos p1]
    have hlt := hS.1 p1
    exact ⟨⟨a1.1, a1.2.1, a2, hph, by omega, hrf, fun _ => ⟨by omega, a9.2.2.1 _ hlt, hrt⟩, fun x => by omega, fun x => by omega⟩, fun _ => J_settle (J_mark hJ p1 hlt), fun x => Bool.noConfusion (show true = false from x)⟩
  · rw [if_neg p1]
    by_cases p2 : ph_ s = 2
    · rw [if_pos p2]
      obtain ⟨x1, x2⟩ := b2.1 p2
      have hend := (a11 (Or.inr (Or.inl p2))).1
      have hlt := hS.2.1 p2
      have ecl : cl_ (nx_ k) = m := by rw [x1]; exact nI_clamp (by have := a1.1; omega)
      rw [ecl]
      obtain ⟨c1, c2⟩ := J_clear hJ p2 hlt
      refine ⟨⟨a1.1, a1.2.1, a2, hph, by omega, hrf, fun x => by omega, fun _ => ⟨m, x1, by omega, wt31 m, (a12.1 m (by omega)).1, nh240 m (by omega)⟩, fun x => by omega⟩, fun x => J_settle (c1 x), fun x => ?_⟩
      obtain ⟨X, b, e⟩ := c2 x
      exact JI_lostk hJ.1 b3 b4 (x := ((clearF s m).2, kX k 0 (nI (m + 1)))) e rfl
    · rw [if_neg p2]
      by_cases p3 : ph_ s = 3
      · rw [if_pos p3]
        obtain ⟨x1, x2⟩ := b2.2.1 p3
        have hend := (a11 (Or.inr (Or.inr p3))).1
        have hlt := hS.2.2.1 p3
        obtain ⟨m', rfl⟩ : ∃ m', m = m' + 1 := ⟨m - 1, by omega⟩
        rw [nI_pred] at x1
        have ecl : cl_ (nx_ k) = m' := by rw [x1]; exact nI_clamp (by have := a1.1; omega)
        rw [ecl]
        obtain ⟨c1, c2⟩ := J_choose hJ p3
        refine ⟨⟨a1.1, a1.2.1, a2, hph, by omega, hrf, fun x => by omega, fun _ => ⟨m', x1, by omega, wt31 m', (a12.1 m' (by omega)).1, nh240 m' (by omega)⟩, fun x => by omega⟩, fun x => J_settle (c1 x), fun x => ?_⟩
        obtain ⟨⟨X, b, e⟩, ek⟩ := c2 x
        exact JI_lostk hJ.1 b3 b4 (x := ((chooseF s m').2, kX (chooseK s k m') 0 (nI m' - 1))) e (by rw [ek])
      · rw [if_neg p3]
        have p4 : ph_ s = 4 := by omega
        obtain ⟨x1, _⟩ := b2.2.2 p4
        obtain ⟨q, y1, y2, y3⟩ := hS.2.2.2 p4
        have hnp := a1.2.1
        have ecl : cl_ (nx_ k) = m := by rw [x1]; exact nI_clamp (by omega)
        rw [ecl]
        obtain ⟨c1, c2⟩ := J_packd hJ p4 y1 y2 y3
        have hK := b3 m (by omega)
        have hal := (a12.2.2.2 m (by omega)).1
        have hcap := a1.2.2.2.1
        refine ⟨⟨a1.1, a1.2.1, a2, hph, by omega, hrf, fun x => by omega, fun x => by omega, fun _ => ⟨m, x1, pk_ok hJ.1 b3 (by omega), a1.2.2.2.2.1, ?_, ?_⟩⟩, fun x => J_settle (s := (pkNF s k m).2.1) (k := (pkNF s k m).2.2) (c1 x), fun x => ?_⟩
        · rw [hK.2]; split <;> omega
        · rw [hK.1]; split <;> omega
        · obtain ⟨⟨X, b, e⟩, ek⟩ := c2 x
          exact JI_lostk hJ.1 b3 b4 (x := (pkNF s k m).2) e (by rw [ek])
theorem JI_stepF {n : Nat} (hn : n ≤ 511) : ∀ (N : Nat) (s : SG) (k : KG) (d : Nat), JI n s k → JI n (stepF N s k d).2.1 (stepF N s k d).2.2 := by
  intro N
  induction N with
  | zero => intro s k d h; exact h
  | succ N ih =>
    intro s k d h
    rw [stepF]
    split
    · exact h
    · rename_i h0
      obtain ⟨_, c1, c2⟩ := adv_J hn h h0
      split
      · rename_i x; exact ih _ _ _ (c1 x)
      · rename_i x; exact c2 (by cases y : (advF s k).1 with | false => rfl | true => exact absurd y x)
theorem JI_step {n : Nat} (hn : n ≤ 511) {s : SG} {k : KG} (h : JI n s k) (x : Int32) : JI n (c_step s k x).2.1 (c_step s k x).2.2 := by
  unfold c_step
  split
  · exact h
  · split
    · exact h
    · split
      · exact h
      · exact JI_stepF hn _ _ _ _ h
/-- the row holds c -/
def rHas (t : SG) (c : Nat) : Prop := ∃ q, q < rt_ t ∧ rw_ t q = c
theorem rHas_line {t : SG} {c : Nat} (b : Nat) (h : rHas t c ∨ b = c) : rHas (s_line t b) c := by
  rcases h with ⟨q, h1, h2⟩ | h
  · refine ⟨q, Nat.lt_succ_of_lt h1, ?_⟩
    show va_up (rw_ t) (rt_ t) b q = c
    rw [va_n _ _ (by omega)]
    exact h2
  · refine ⟨rt_ t, Nat.lt_succ_self _, ?_⟩
    show va_up (rw_ t) (rt_ t) b (rt_ t) = c
    rw [va_s]
    exact h
theorem rHas_lines {t : SG} {c : Nat} {f : Nat → Nat} : ∀ n, (rHas t c ∨ ∃ i, i < n ∧ f i = c) → rHas (s_lines t f n) c := by
  intro n
  induction n with
  | zero => intro h; exact h.elim (fun x => x) (fun ⟨i, hi, _⟩ => absurd hi (Nat.not_lt_zero _))
  | succ n ih =>
    intro h
    show rHas (s_line (s_lines t f n) (f n)) c
    rcases h with h | ⟨i, hi, e⟩
    · exact rHas_line _ (Or.inl (ih (Or.inl h)))
    · by_cases x : i = n
      · exact rHas_line _ (Or.inr (by rw [← x]; exact e))
      · exact rHas_line _ (Or.inl (ih (Or.inr ⟨i, by omega, e⟩)))
theorem rHas_Sn {s : SG} {c : Nat} : ∀ n, (rHas s c ∨ ∃ j, j < n ∧ kp_ s j = true ∧ ∃ i, i < rm_ s j ∧ ro_ s j i = c) → rHas (rowSn s n) c := by
  intro n
  induction n with
  | zero => intro h; exact h.elim (fun x => x) (fun ⟨j, hj, _⟩ => absurd hj (Nat.not_lt_zero _))
  | succ n ih =>
    intro h
    rw [rowSn]
    rcases h with h | ⟨j, hj, hk, i, hi, e⟩
    · split
      · exact rHas_lines _ (Or.inl (ih (Or.inl h)))
      · exact ih (Or.inl h)
    · by_cases x : j = n
      · subst x
        rw [if_pos hk]
        exact rHas_lines _ (Or.inr ⟨i, hi, e⟩)
      · have := ih (Or.inr ⟨j, by omega, hk, i, hi, e⟩)
        split
        · exact rHas_lines _ (Or.inl this)
        · exact this
/-- entries below N -/
def rBel (N : Nat) (t : SG) : Prop := ∀ q, q < rt_ t → rw_ t q < N
theorem rBel_line {N : Nat} {t : SG} (h : rBel N t) {b : Nat} (hb : b < N) : rBel N (s_line t b) := by
  intro q hq
  have hq : q < rt_ t + 1 := hq
  show va_up (rw_ t) (rt_ t) b q < N
  by_cases e : q = rt_ t
  · rw [e, va_s]; exact hb
  · rw [va_n _ _ e]; exact h q (by omega)
theorem rBel_lines {N : Nat} {t : SG} (h : rBel N t) {f : Nat → Nat} : ∀ n, (∀ i, i < n → f i < N) → rBel N (s_lines t f n) := by
  intro n
  induction n with
  | zero => intro _; exact h
  | succ n ih => intro hf; exact rBel_line (ih (fun i hi => hf i (by omega))) (hf n (by omega))
theorem rBel_Sn {N : Nat} {s : SG} (h : rBel N s) (hr : ∀ j, j < ns_ s → ∀ i, i < rm_ s j → ro_ s j i < N) : ∀ n, n ≤ ns_ s → rBel N (rowSn s n) := by
  intro n
  induction n with
  | zero => intro _; exact h
  | succ n ih =>
    intro hn
    rw [rowSn]
    split
    · exact rBel_lines (ih (by omega)) _ (hr n (by omega))
    · exact ih (by omega)
theorem Sv_fix (s : SG) (n : Nat) : us_ (rowSv s n) = us_ s ∧ um_ (rowSv s n) = um_ s ∧ un_ (rowSv s n) = un_ s ∧ now_ (rowSv s n) = now_ s := rowSv_pres (P := fun t => us_ t = us_ s ∧ um_ t = um_ s ∧ un_ t = un_ s ∧ now_ t = now_ s) (fun t b h => ⟨h.1, h.2.1, h.2.2.1, h.2.2.2⟩) (fun t j h => h) s n ⟨rfl, rfl, rfl, rfl⟩
theorem Sv_dead (s : SG) (n j : Nat) : dead_ (rowSv s n) j = dead_ s j := by unfold dead_; rw [(Sv_fix s n).2.2.1, (Sv_fix s n).2.2.2]
theorem Sv_sv (s : SG) : ∀ n j, sv_ (rowSv s n) j = if j < n then (sv_ s j && !dead_ s j) else sv_ s j := by
  intro n
  induction n with
  | zero => intro j; rfl
  | succ n ih =>
    intro j
    show sv_ (svOne (rowSv s n) n) j = _
    have e1 : sv_ (rowSv s n) n = sv_ s n := by rw [ih]; exact if_neg (Nat.lt_irrefl _)
    have e2 := Sv_dead s n n
    have eL : ∀ f m, sv_ (s_lines (rowSv s n) f m) = sv_ (rowSv s n) := fun f m => congrFun (congrArg (fun x : (Nat → Nat → Bool) × (Nat → Nat → Int64) × (Nat → Nat → Nat → Nat) => x.1) (s_lines_ff (rowSv s n) f m)) 4
    unfold svOne
    rw [e1, e2]
    by_cases x : j = n
    · subst x
      rw [if_pos (Nat.lt_succ_self _)]
      cases h1 : sv_ s j with
      | false => rw [if_neg (by decide), e1, h1]; rfl
      | true =>
        rw [if_pos rfl]
        cases h2 : dead_ s j with
        | true =>
          rw [if_pos rfl]
          exact va_s _ _ _
        | false => rw [if_neg (by decide), eL, e1, h1]; rfl
    · have hx : (if j < n + 1 then (sv_ s j && !dead_ s j) else sv_ s j) = if j < n then (sv_ s j && !dead_ s j) else sv_ s j := by
        by_cases y : j < n
        · rw [if_pos y, if_pos (by omega)]
        · rw [if_neg y, if_neg (by omega)]
      rw [hx, ← ih]
      split
      · split
        · exact va_n _ _ x
        · rw [eL]
      · rfl
theorem rHas_Sv {s : SG} {c : Nat} : ∀ n, (rHas s c ∨ ∃ j, j < n ∧ sv_ s j = true ∧ dead_ s j = false ∧ ∃ i, i < um_ s j ∧ us_ s j i = c) → rHas (rowSv s n) c := by
  intro n
  induction n with
  | zero => intro h; exact h.elim (fun x => x) (fun ⟨j, hj, _⟩ => absurd hj (Nat.not_lt_zero _))
  | succ n ih =>
    intro h
    show rHas (svOne (rowSv s n) n) c
    have e1 : sv_ (rowSv s n) n = sv_ s n := by rw [Sv_sv]; exact if_neg (Nat.lt_irrefl _)
    have e2 := Sv_dead s n n
    obtain ⟨f1, f2, f3, f4⟩ := Sv_fix s n
    unfold svOne
    rw [e1, e2, f1, f2]
    by_cases hr : rHas (rowSv s n) c
    · split
      · split
        · exact hr
        · exact rHas_lines _ (Or.inl hr)
      · exact hr
    · rcases h with h | ⟨j, hj, hs, hd, i, hi, e⟩
      · exact absurd (ih (Or.inl h)) hr
      · by_cases x : j = n
        · subst x
          rw [if_pos hs, if_neg (by rw [hd]; decide)]
          exact rHas_lines _ (Or.inr ⟨i, hi, e⟩)
        · exact absurd (ih (Or.inr ⟨j, by omega, hs, hd, i, hi, e⟩)) hr
theorem rBel_Sv {N : Nat} {s : SG} (h : rBel N s) (hr : ∀ j, j < 4 → ∀ i, i < um_ s j → us_ s j i < N) : ∀ n, n ≤ 4 → rBel N (rowSv s n) := by
  intro n
  induction n with
  | zero => intro _; exact h
  | succ n ih =>
    intro hn
    show rBel N (svOne (rowSv s n) n)
    obtain ⟨f1, f2, f3, f4⟩ := Sv_fix s n
    unfold svOne
    rw [f1, f2]
    split
    · split
      · exact ih (by omega)
      · exact rBel_lines (ih (by omega)) _ (hr n (by omega))
    · exact ih (by omega)
theorem JI_swS {n : Nat} {s : SG} {k : KG} (h : JI n s k) (hph : ph_ s = 0) : JP (n + 1) (swS s) k 0 := by
  obtain ⟨a, hK, hM⟩ := (JI_w1 h).A
  unfold swS
  obtain ⟨X, eX⟩ := w1_e s
  rw [eX] at a hK hM ⊢
  obtain ⟨a1, a2, a3, a4, a5, a6, a7, a8, a9, a10, a11, a12⟩ := a
  obtain ⟨P, hP⟩ : ∃ P, P = s_prep (s.1, X, s.2.2) := ⟨_, rfl⟩
  rw [← hP]
  obtain ⟨R, hR⟩ : ∃ R, R = rowSn P (ns_ s) := ⟨_, rfl⟩
  rw [← hR]
  obtain ⟨T, hT⟩ : ∃ T, T = rowSv R 4 := ⟨_, rfl⟩
  rw [← hT]
  have P1 : ∀ i, i ≠ 9 → i ≠ 10 → i ≠ 11 → i ≠ 12 → i ≠ 13 → P.1 i = s.1 i := by
    intro i h1 h2 h3 h4 h5
    rw [hP]
    show va_up (va_up (va_up (va_up (va_up s.1 9 _) 10 _) 11 _) 12 _) 13 _ i = _
    rw [va_n _ _ h5, va_n _ _ h4, va_n _ _ h3, va_n _ _ h2, va_n _ _ h1]
  have Pf : fs_ P = fs_ s := by rw [hP]; rfl
  have Pg : ∀ i, i ≠ 1 → gs_ P i = gs_ s i := by rw [hP]; intro i hi; exact va_n _ _ hi
  have Pm : mk_ P = rnone (nb_ s) (mk_ s) := by rw [hP]; rfl
  have Pns : ns_ P = ns_ s := P1 7 (by decide) (by decide) (by decide) (by decide) (by decide)
  have Prt : rt_ P = 0 := by rw [hP]; rfl
  have R1 : ∀ i, i ≠ 12 → R.1 i = P.1 i := fun i hi => by rw [hR]; exact rowSn_1 P _ i hi
  have Rf : ∀ i, i ≠ 19 → fs_ R i = fs_ P i := fun i hi => by rw [hR]; exact rowSn_f P _ i hi
  have Rg : R.2.2.2.2.2 = P.2.2.2.2.2 := by rw [hR]; exact rowSn_g P _
  have Rn : R.2.2.1 = P.2.2.1 := by rw [hR]; exact rowSn_pres (P := fun t => t.2.2.1 = P.2.2.1) (fun _ _ h => h) P _ rfl
  have T1 : ∀ i, i ≠ 12 → T.1 i = R.1 i := fun i hi => by rw [hT]; exact rowSv_1 R 4 i hi
  have Tf : ∀ i, i ≠ 19 → fs_ T i = fs_ R i := fun i hi => by rw [hT]; exact rowSv_f R 4 i hi
  have Tg : ∀ i, i ≠ 4 → gs_ T i = gs_ R i := fun i hi => by rw [hT]; exact rowSv_pres (P := fun t => gs_ t i = gs_ R i) (fun _ _ h => h) (fun t j h => (va_n _ _ hi).trans h) R 4 rfl
  have Ty : T.2.2.2.2.2.2 = R.2.2.2.2.2.2 := by rw [hT]; exact rowSv_pres (P := fun t => t.2.2.2.2.2.2 = R.2.2.2.2.2.2) (fun _ _ h => h) (fun t j h => h) R 4 rfl
  have Tn : T.2.2.1 = R.2.2.1 := by rw [hT]; exact rowSv_pres (P := fun t => t.2.2.1 = R.2.2.1) (fun _ _ h => h) (fun t j h => h) R 4 rfl
  have u : ∀ i, i ≠ 9 → i ≠ 10 → i ≠ 11 → i ≠ 12 → i ≠ 13 → T.1 i = s.1 i := fun i h1 h2 h3 h4 h5 => (T1 i h4).trans ((R1 i h4).trans (P1 i h1 h2 h3 h4 h5))
  have s1 : nb_ T = nb_ s := u 1 (by decide) (by decide) (by decide) (by decide) (by decide)
  have s7 : ns_ T = ns_ s := u 7 (by decide) (by decide) (by decide) (by decide) (by decide)
  have s4 : np_ T = np_ s := u 4 (by decide) (by decide) (by decide) (by decide) (by decide)
  have s2 : nfr_ T = nfr_ s := u 2 (by decide) (by decide) (by decide) (by decide) (by decide)
  have s8 : nh_ T = nh_ s := u 8 (by decide) (by decide) (by decide) (by decide) (by decide)
  have s5 : nan_ T = nan_ s := u 5 (by decide) (by decide) (by decide) (by decide) (by decide)
  have s0 : cap_ T = cap_ s := u 0 (by decide) (by decide) (by decide) (by decide) (by decide)
  have s6 : shr_ T = shr_ s := u 6 (by decide) (by decide) (by decide) (by decide) (by decide)
  have s9 : nsw_ T = nsw_ s + 1 := (T1 9 (by decide)).trans ((R1 9 (by decide)).trans (by rw [hP]; rfl))
  have s10 : ph_ T = 1 := (T1 10 (by decide)).trans ((R1 10 (by decide)).trans (by rw [hP]; rfl))
  have s11 : rf_ T = 0 := (T1 11 (by decide)).trans ((R1 11 (by decide)).trans (by rw [hP]; rfl))
  have s13 : end_ T = nb_ s := (T1 13 (by decide)).trans ((R1 13 (by decide)).trans (by rw [hP]; rfl))
  have f : ∀ i, i ≠ 19 → fs_ T i = fs_ s i := fun i hi => (Tf i hi).trans ((Rf i hi).trans (by rw [Pf]))
  have c0 : sz_ T = sz_ s := f 0 (by decide)
  have c1 : cm_ T = cm_ s := f 1 (by decide)
  have c3 : pk_ T = pk_ s := f 3 (by decide)
  have c4 : pp_ T = pp_ s := f 4 (by decide)
  have c5 : wt_ T = wt_ s := f 5 (by decide)
  have c6 : al_ T = al_ s := f 6 (by decide)
  have c8 : rm_ T = rm_ s := f 8 (by decide)
  have c10 : hk_ T = hk_ s := f 10 (by decide)
  have c11 : hw_ T = hw_ s := f 11 (by decide)
  have c13 : le_ T = le_ s := f 13 (by decide)
  have c14 : um_ T = um_ s := f 14 (by decide)
  have c16 : km_ T = km_ s := f 16 (by decide)
  have c18 : ru_ T = ru_ s := f 18 (by decide)
  have rg : ∀ i, i ≠ 1 → gs_ R i = gs_ s i := fun i hi => by rw [gs_, Rg]; exact Pg i hi
  have g : ∀ i, i ≠ 1 → i ≠ 4 → gs_ T i = gs_ s i := fun i h1 h4 => (Tg i h4).trans (rg i h1)
  have th1 : th_ T = th_ s := g 0 (by decide) (by decide)
  have gn1 : gn_ T = gn_ s := g 2 (by decide) (by decide)
  have kp1 : kp_ T = kp_ s := g 3 (by decide) (by decide)
  have mk1 : mk_ T = rnone (nb_ s) (mk_ s) := (Tg 1 (by decide)).trans (by rw [gs_, Rg]; exact Pm)
  have yR : R.2.2.2.2.2.2 = s.2.2.2.2.2.2 := by rw [Rg, hP]; rfl
  have yT : T.2.2.2.2.2.2 = s.2.2.2.2.2.2 := Ty.trans yR
  have ff1 : ff_ T = ff_ s := by rw [ff_, yT]
  have ffR : ff_ R = ff_ s := by rw [ff_, yR]
  have ch1 : ch_ T = ch_ s := congrFun ff1 0
  have ro1 : ro_ T = ro_ s := congrFun ff1 1
  have us1 : us_ T = us_ s := congrFun ff1 2
  have ks1 : ks_ T = ks_ s := congrFun ff1 3
  have tm1 : tm_ T = tm_ s := by rw [tm_, ys_, yT]
  have now1 : now_ T = now_ s := Tn.trans (Rn.trans (by rw [hP]; rfl))
  have sv1 : ∀ j, j < 4 → sv_ T j = (sv_ s j && !dead_ R j) := by
    intro j hj
    rw [hT, Sv_sv, if_pos hj]
    rw [show sv_ R = sv_ s from rg 4 (by decide)]
  have svs : ∀ j, j < 4 → sv_ T j = true → sv_ s j = true ∧ dead_ R j = false := by
    intro j hj x
    rw [sv1 j hj, Bool.and_eq_true] at x
    refine ⟨x.1, ?_⟩
    cases y : dead_ R j with
    | false => rfl
    | true => rw [y] at x; exact absurd x.2 (by decide)
  have hrt : rt_ T ≤ 112 := by
    have r1 := rowSn_rt P (by rw [Pns, show rm_ P = rm_ s from congrFun Pf 8]; exact fun j hj => (a3.2 j hj).1) (ns_ s) (by rw [Pns]; exact Nat.le_refl _)
    have r2 := rowSv_rt R (by rw [show um_ R = um_ s from (Rf 14 (by decide)).trans (congrFun Pf 14)]; exact fun j hj => (a4 j hj).1) 4 (Nat.le_refl _)
    rw [← hT] at r2
    rw [← hR, Prt, show kp_ P = kp_ s from Pg 3 (by decide)] at r1
    have r3 : cntN (fun j => kp_ s j) (ns_ s) ≤ 10 := a6.2.2.2.1
    omega
  have hroot : ∀ j, j < ns_ s → kp_ s j = true → ∀ i, i < rm_ s j → rHas T (ro_ s j i) := by
    intro j hj hk i hi
    rw [hT]
    refine rHas_Sv 4 (Or.inl ?_)
    rw [hR]
    refine rHas_Sn (ns_ s) (Or.inr ⟨j, hj, by rw [show kp_ P = kp_ s from Pg 3 (by decide)]; exact hk, i, by rw [show rm_ P = rm_ s from congrFun Pf 8]; exact hi, ?_⟩)
    rw [hP]; rfl
  have huse : ∀ j, j < 4 → sv_ T j = true → ∀ i, i < um_ s j → rHas T (us_ s j i) := by
    intro j hj hk i hi
    obtain ⟨x1, x2⟩ := svs j hj hk
    rw [hT]
    refine rHas_Sv 4 (Or.inr ⟨j, hj, by rw [show sv_ R = sv_ s from rg 4 (by decide)]; exact x1, x2, i, by rw [show um_ R = um_ s from (Rf 14 (by decide)).trans (congrFun Pf 14)]; exact hi, ?_⟩)
    rw [us_, ffR]
  have hbel : rBel (nb_ s) T := by
    rw [hT]
    refine rBel_Sv ?_ (fun j hj i hi => ?_) 4 (Nat.le_refl _)
    · rw [hR]
      refine rBel_Sn (fun q hq => by rw [Prt] at hq; exact absurd hq (Nat.not_lt_zero _)) (fun j hj i hi => ?_) _ (by rw [Pns]; exact Nat.le_refl _)
      rw [Pns] at hj
      rw [show rm_ P = rm_ s from congrFun Pf 8] at hi
      rw [show ro_ P = ro_ s by rw [hP]; rfl]
      exact (a3.2 j hj).2 i hi
    · rw [show um_ R = um_ s from (Rf 14 (by decide)).trans (congrFun Pf 14)] at hi
      rw [us_, ffR]
      exact (a4 j hj).2.2.1 i hi
  have mkF : ∀ b, mk_ T b = false := by
    intro b
    rw [mk1]
    unfold rnone
    split
    · rfl
    · exact a8.2.2 b (by show nb_ s ≤ b; omega)
  have hmr : ∀ c, rHas T c → mkr T c := fun c ⟨q, h1, h2⟩ => Or.inr ⟨s10, q, by rw [s11]; exact Nat.zero_le _, h1, h2⟩
  have h8 : nsw_ s + nb_ s ≤ n := a8.1
  refine ⟨⟨?_, ?_, ?_, ?_, ?_, ?_, ?_, ?_, ?_, ?_, ?_, ?_⟩, ?_, ?_, ?_, ?_⟩
  · unfold V1; rw [s1, s4, s0, s6, s10]; exact ⟨a1.1, a1.2.1, a1.2.2.1, a1.2.2.2.1, a1.2.2.2.2.1, by decide⟩
  · unfold kidsOk; rw [s1, c1, ch1]; exact a2
  · unfold rootOk; rw [s7, c8, ro1, s1]; exact a3
  · unfold V4; rw [c14, c16, us1, ks1, s1]; exact a4
  · unfold V5 tmOk tmB
    rw [now1, c13, s7, tm1, c18]
    exact ⟨⟨a5.1.1, fun j hj x => a5.1.2 j hj (svs j hj x).1⟩, a5.2⟩
  · unfold V6 histOk thereN hB
    rw [s8, c10, c11, kp1, s7, s1, s2, th1]
    exact a6
  · unfold V7; rw [s5, gn1, s4]; exact a7
  · refine ⟨by rw [s9, s1]; omega, fun b => ?_, fun b _ => mkF b⟩
    rw [c5, th1, s9]
    exact ⟨Nat.le_succ_of_le (a8.2.1 b).1, (a8.2.1 b).2⟩
  · refine ⟨by rw [s11]; exact Nat.zero_le _, by rw [s1]; omega, fun q hq => by rw [s1]; exact hbel q hq, fun x => by rw [s10] at x; omega⟩
  · refine ⟨?_, ?_, ?_⟩
    · rw [s1, th1, c1, ch1, c5]; exact a10.1
    · rw [s7, kp1, c8, ro1, th1]; exact a10.2.1
    · rw [c14, us1, th1, c5]; exact fun j hj x => a10.2.2 j hj (svs j hj x).1
  · intro _
    rw [s1, s13, s7, c8, ro1, c14, us1, kp1]
    refine ⟨Nat.le_refl _, fun b hb x => ?_, fun j hj hk i hi _ => hmr _ (hroot j hj hk i hi), fun j hj hk i hi _ => hmr _ (huse j hj hk i hi)⟩
    rw [mkF b] at x
    exact absurd (x.resolve_left (by decide)) (by omega)
  · unfold VP byN liesB; rw [s1, s4, s0, c3, c0, c4, c6, th1, gn1]; exact a12
  · unfold VG3
    rw [s10, s9, c5]
    exact ⟨fun _ => ⟨Nat.succ_pos _, fun b _ => Nat.lt_succ_of_le (a8.2.1 b).1⟩, fun x => absurd x (by decide), fun x => absurd x (by decide)⟩
  · unfold VX
    rw [s10]
    exact ⟨fun x => absurd x (by decide), fun x => absurd x (by decide), fun x => absurd x (by decide)⟩
  · unfold VK byN liesB; rw [s4, gn1, c6, s1, c3, c0, th1]; exact hK
  · exact mirOk_r hM (f 12 (by decide)) s8 c10 c11
theorem JI_sweep {n : Nat} {s : SG} {k : KG} (h : JI n s k) : JI (n + 1) (c_sweep s k).2.1 (c_sweep s k).2.2 := by
  unfold c_sweep
  split
  · exact h.mono
  · split
    · rename_i h2
      split
      · exact (JI_lost h).mono
      · exact J_settle (JI_swS h h2)
    · exact h.mono
theorem mrep_add (s : SG) : ∀ (a b j : Nat) (m : (Nat → Bool) × (Nat → Bool)), mrep s (a + b) j m = mrep s b (j + a) (mrep s a j m) := by
  intro a
  induction a with
  | zero => intro b j m; rw [Nat.zero_add]; rfl
  | succ a ih =>
    intro b j m
    rw [show a + 1 + b = (a + b) + 1 by omega]
    show mrep s (a + b) (j + 1) (mone s j m) = mrep s b (j + (a + 1)) (mrep s a (j + 1) (mone s j m))
    rw [ih, show j + 1 + a = j + (a + 1) by omega]
theorem JI_follow {n : Nat} {s : SG} {k : KG} (h : JI n s k) {i x : Nat} (hi : i < 2) : JI n (sF s 12 (va_up (md_ s) i (min (nh_ s) (md_ s i + x)))) (kRep s k i x) := by
  obtain ⟨m, ⟨⟨a1, a2, a3, a4, a5, a6, a7, a8, a9, a10, a11, a12⟩, b1, b2, b3, b4⟩, c⟩ := h
  refine ⟨m, ⟨⟨a1, a2, a3, a4, a5, a6, a7, a8, a9, a10, a11, a12⟩, b1, b2, b3, ?_⟩, c⟩
  intro q hq
  obtain ⟨⟨d1, d2⟩, d3, d4⟩ := b4 q hq
  have ed : dn2_ (kRep s k i x) q = va_up (dn2_ k) i (min (nh_ s) (dn2_ k i + x)) q := rfl
  have em : mirS (sF s 12 (va_up (md_ s) i (min (nh_ s) (md_ s i + x)))) q = mrep s (va_up (md_ s) i (min (nh_ s) (md_ s i + x)) q) 0 (fun _ => false, fun _ => false) := mrep_c _ _ _ (fun _ _ _ => ⟨rfl, rfl⟩)
  rw [em, ed]
  show (_ = va_up (md_ s) i (min (nh_ s) (md_ s i + x)) q ∧ va_up (md_ s) i (min (nh_ s) (md_ s i + x)) q ≤ nh_ s) ∧ _
  by_cases e : q = i
  · subst e
    rw [va_s, va_s, d1]
    refine ⟨⟨rfl, Nat.min_le_left _ _⟩, ?_⟩
    have hle : md_ s q ≤ min (nh_ s) (md_ s q + x) := by omega
    obtain ⟨d, hd⟩ : ∃ d, min (nh_ s) (md_ s q + x) = md_ s q + d := ⟨_, (Nat.add_sub_cancel' hle).symm⟩
    have e1 : kRep s k q x = kN (kMM k q (mrep s d (md_ s q) (kb_ k (1 + q), kb_ k (4 + q))).1 (mrep s d (md_ s q) (kb_ k (1 + q), kb_ k (4 + q))).2) 2 (va_up (dn2_ k) q (min (nh_ s) (dn2_ k q + x))) := by
      unfold kRep
      rw [d1, hd, Nat.add_sub_cancel_left]
    have e2 : kb_ (kRep s k q x) = kb_ (kMM k q (mrep s d (md_ s q) (kb_ k (1 + q), kb_ k (4 + q))).1 (mrep s d (md_ s q) (kb_ k (1 + q), kb_ k (4 + q))).2) := by rw [e1]
    rw [e2, kMM_b k (by omega), kMM_s, hd, mrep_add, Nat.zero_add]
    exact mrep_congr s d (md_ s q) _ _ d3 d4
  · rw [va_n _ _ e, va_n _ _ e]
    have e2 : kb_ (kRep s k i x) (1 + q) = kb_ k (1 + q) ∧ kb_ (kRep s k i x) (4 + q) = kb_ k (4 + q) := by
      unfold kRep
      refine ⟨?_, ?_⟩
      · show va_up (va_up (kb_ k) (1 + i) _) (4 + i) _ (1 + q) = _
        rw [va_n _ _ (by omega), va_n _ _ (by omega)]
      · show va_up (va_up (kb_ k) (1 + i) _) (4 + i) _ (4 + q) = _
        rw [va_n _ _ (by omega), va_n _ _ (by omega)]
    rw [e2.1, e2.2]
    exact ⟨⟨d1, d2⟩, d3, d4⟩
theorem JI_0 {c : Nat} (h1 : 20 ≤ c) (h2 : c ≤ 1000) : JI 0 (s_0 c) k_0 := by
  have z : ∀ {a b : Nat} {P : Prop}, a ≠ b → a = b → P := fun x y => absurd y x
  refine ⟨0, ⟨⟨⟨Nat.zero_le _, Nat.zero_le _, h1, h2, by show 50 ≤ 100; decide, Nat.zero_le _⟩, fun i hi => absurd hi (Nat.not_lt_zero _), ⟨Nat.zero_le _, fun i hi => absurd hi (Nat.not_lt_zero _)⟩, fun i hi => ⟨Nat.zero_le _, Nat.zero_le _, fun q hq => absurd hq (Nat.not_lt_zero _), fun q hq => absurd hq (Nat.not_lt_zero _)⟩, ⟨⟨by show -10000000000 ≤ (-10000000000 : Int64).toInt ∧ (-10000000000 : Int64).toInt ≤ 1000000000000; decide, fun j hj e => by cases e⟩, fun i hi => absurd hi (Nat.not_lt_zero _), fun i hi => Nat.zero_le _⟩, ⟨⟨Nat.zero_le _, fun i hi => absurd hi (Nat.not_lt_zero _)⟩, rfl, rfl, Nat.zero_le _, fun j hj => absurd hj (Nat.not_lt_zero _)⟩, rfl, ⟨Nat.le_refl _, fun b => ⟨Nat.le_refl _, fun _ => rfl⟩, fun b _ => rfl⟩, ⟨Nat.le_refl _, Nat.zero_le _, fun q hq => absurd hq (Nat.not_lt_zero _), fun _ => rfl⟩, ⟨fun i hi => absurd hi (Nat.not_lt_zero _), fun i hi => absurd hi (Nat.not_lt_zero _), fun j hj e => by cases e⟩, fun e => ?_, ⟨fun i hi => absurd hi (Nat.not_lt_zero _), fun i hi => absurd hi (Nat.not_lt_zero _), fun i j _ hi => absurd hi (Nat.not_lt_zero _), fun i hi => absurd hi (Nat.not_lt_zero _)⟩⟩, ⟨fun e => ?_, fun e => z (by decide) (show 0 = 2 from e), fun e => z (by decide) (show 0 = 3 from e)⟩, ⟨fun e => z (by decide) (show 0 = 2 from e), fun e => z (by decide) (show 0 = 3 from e), fun e => z (by decide) (show 0 = 4 from e)⟩, fun i hi => absurd hi (Nat.not_lt_zero _), fun m hm => ⟨⟨rfl, Nat.le_refl _⟩, fun _ _ => rfl, fun _ _ => rfl⟩⟩, ⟨fun e => z (by decide) (show 0 = 1 from e), fun e => z (by decide) (show 0 = 2 from e), fun e => z (by decide) (show 0 = 3 from e), fun e => z (by decide) (show 0 = 4 from e)⟩⟩
  · rcases e with e | e | e
    · exact z (by decide) (show 0 = 1 from e)
    · exact z (by decide) (show 0 = 2 from e)
    · exact z (by decide) (show 0 = 3 from e)
  · rcases e with e | e
    · exact z (by decide) (show 0 = 1 from e)
    · exact z (by decide) (show 0 = 2 from e)
