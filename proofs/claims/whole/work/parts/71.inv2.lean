/-! WHAT HOLDS BETWEEN CALLS, 2: places -/
theorem va_s {α : Type} (f : Nat → α) (k : Nat) (v : α) : va_up f k v k = v := if_pos rfl
theorem va_n {α : Type} (f : Nat → α) {j k : Nat} (v : α) (h : j ≠ k) : va_up f k v j = f j := if_neg h
def bySum (N : Nat) (th : Nat → Bool) (pk sz : Nat → Nat) (p : Nat) : Nat := sumN (fun j => if th j && decide (nI (pk j) = nI p) then sz j else 0) N
theorem byN_e (s : SG) (p : Nat) : byN s p = bySum (nb_ s) (th_ s) (pk_ s) (sz_ s) p := rfl
theorem sumN_upd {f g : Nat → Nat} {b : Nat} (h : ∀ j, j ≠ b → f j = g j) : ∀ {N : Nat}, b < N → sumN f N + g b = sumN g N + f b := by
  intro N
  induction N with
  | zero => intro hb; exact absurd hb (Nat.not_lt_zero _)
  | succ N ih =>
    intro hb
    rw [sumN, sumN]
    by_cases e : b = N
    · subst e
      rw [sumN_congr (q := g) (fun j hj => h j (by omega))]
      omega
    · have := ih (by omega)
      rw [h N (by omega)]
      omega
theorem sumN_0 {f : Nat → Nat} : ∀ {N : Nat}, (∀ j, j < N → f j = 0) → sumN f N = 0 := by
  intro N
  induction N with
  | zero => intro _; rfl
  | succ N ih => intro h; rw [sumN, ih (fun j hj => h j (by omega)), h N (by omega)]
theorem sumN_le {f g : Nat → Nat} : ∀ {N : Nat}, (∀ j, j < N → f j ≤ g j) → sumN f N ≤ sumN g N := by
  intro N
  induction N with
  | zero => intro _; exact Nat.le_refl _
  | succ N ih => intro h; have := ih (fun j hj => h j (by omega)); have := h N (by omega); rw [sumN, sumN]; omega
theorem bySum_put {N b P q : Nat} {th : Nat → Bool} {pk sz : Nat → Nat} (hb : b < N) (hP : P < 2 ^ 31) (hq : q < 2 ^ 31) (ht : th b = true) : bySum N th (va_up pk b P) sz q = bySum N (va_up th b false) pk sz q + (if q = P then sz b else 0) := by
  have := sumN_upd (f := fun j => if th j && decide (nI (va_up pk b P j) = nI q) then sz j else 0) (g := fun j => if va_up th b false j && decide (nI (pk j) = nI q) then sz j else 0) (b := b) (fun j hj => by rw [va_n _ _ hj, va_n _ _ hj]) hb
  have e1 : (if va_up th b false b && decide (nI (pk b) = nI q) then sz b else 0) = 0 := by simp [va_up]
  have e2 : (if th b && decide (nI (va_up pk b P b) = nI q) then sz b else 0) = if q = P then sz b else 0 := by
    rw [ht, Bool.true_and, va_s]
    simp only [decide_eq_true_iff]
    by_cases e : q = P
    · rw [if_pos e, if_pos (by rw [e])]
    · rw [if_neg e, if_neg (fun x => e ((nI_eq hP hq).mp x).symm)]
  rw [e1, e2] at this
  unfold bySum
  omega
/-- places as they should be, but for the block b -/
def VQ (T : SG) (b : Nat) : Prop := (∀ c, c < nb_ T → c ≠ b → pk_ T c < np_ T ∧ 1 ≤ sz_ T c ∧ sz_ T c ≤ cap_ T ∧ pp_ T c ≤ 1000) ∧ (∀ c, c < nb_ T → c ≠ b → th_ T c = true → gn_ T (pk_ T c) = false ∧ pp_ T c + sz_ T c ≤ al_ T (pk_ T c)) ∧ (∀ i j, i < j → j < nb_ T → i ≠ b → j ≠ b → th_ T i = true → th_ T j = true → pk_ T i = pk_ T j → pp_ T i + sz_ T i ≤ pp_ T j ∨ pp_ T j + sz_ T j ≤ pp_ T i) ∧ ∀ p, p < np_ T → al_ T p ≤ cap_ T ∧ bySum (nb_ T) (va_up (th_ T) b false) (pk_ T) (sz_ T) p ≤ al_ T p
def putOk (T : SG) (b P O : Nat) : Prop := ((P < np_ T ∧ gn_ T P = false ∧ al_ T P = O) ∨ (P = np_ T ∧ O = 0)) ∧ O + sz_ T b ≤ cap_ T
theorem byX_new {T : SG} {b : Nat} (h : VQ T b) (hnp : np_ T ≤ 40) : bySum (nb_ T) (va_up (th_ T) b false) (pk_ T) (sz_ T) (np_ T) = 0 := sumN_0 (fun j hj => by
  show (if va_up (th_ T) b false j && decide (nI (pk_ T j) = nI (np_ T)) then sz_ T j else 0) = 0
  by_cases e : j = b
  · simp only [va_up, if_pos e]; rfl
  · have := (h.1 j hj e).1
    rw [decide_eq_false (fun x => by have := (nI_eq (by omega) (by omega)).mp x; omega), Bool.and_false]
    rfl)
theorem aLay_e (T : SG) (b P O : Nat) (hP : P < np_ T ∨ P = np_ T) : nb_ (aLay T b P O) = nb_ T ∧ th_ (aLay T b P O) = th_ T ∧ sz_ (aLay T b P O) = sz_ T ∧ cap_ (aLay T b P O) = cap_ T ∧ pk_ (aLay T b P O) = va_up (pk_ T) b P ∧ pp_ (aLay T b P O) = va_up (pp_ T) b O ∧ al_ (aLay T b P O) = va_up (al_ T) P (O + sz_ T b) ∧ (np_ (aLay T b P O) = if P < np_ T then np_ T else np_ T + 1) ∧ (∀ q, gn_ (aLay T b P O) q = if P < np_ T then gn_ T q else if q = P then false else gn_ T q) := by
  unfold aLay
  split
  · exact ⟨rfl, rfl, rfl, rfl, rfl, rfl, rfl, rfl, fun q => rfl⟩
  · rename_i h
    have e : P = np_ T := by omega
    subst e
    exact ⟨rfl, rfl, rfl, rfl, rfl, rfl, rfl, rfl, fun q => rfl⟩
theorem VP_lay {T : SG} {b P O : Nat} (h : VQ T b) (hb : b < nb_ T) (hth : th_ T b = true) (hz : 1 ≤ sz_ T b) (hcap : cap_ T ≤ 1000) (hnp : np_ T ≤ 40) (hP : putOk T b P O) : VP (aLay T b P O) ∧ ∀ q, q < 2 ^ 31 → byN (aLay T b P O) q = bySum (nb_ T) (va_up (th_ T) b false) (pk_ T) (sz_ T) q + if q = P then sz_ T b else 0 := by
  obtain ⟨h1, h2, h3, h4⟩ := h
  obtain ⟨hPO, hfit⟩ := hP
  obtain ⟨e1, e2, e3, e4, e5, e6, e7, e8, e9⟩ := aLay_e T b P O (hPO.elim (fun x => Or.inl x.1) (fun x => Or.inr x.1))
  have hPl : P ≤ 40 := by omega
  have hby : ∀ q, q < 2 ^ 31 → byN (aLay T b P O) q = bySum (nb_ T) (va_up (th_ T) b false) (pk_ T) (sz_ T) q + if q = P then sz_ T b else 0 := by
    intro q hq
    rw [byN_e, e1, e2, e3, e5]
    exact bySum_put hb (by omega) hq hth
  have hs : bySum (nb_ T) (va_up (th_ T) b false) (pk_ T) (sz_ T) P ≤ O := by
    rcases hPO with x | x
    · rw [← x.2.2]; exact (h4 P x.1).2
    · rw [x.1, byX_new ⟨h1, h2, h3, h4⟩ hnp]; exact Nat.zero_le _
  have gP : gn_ (aLay T b P O) P = false := by
    rw [e9]
    rcases hPO with x | x
    · rw [if_pos x.1]; exact x.2.1
    · rw [if_neg (by omega), if_pos rfl]
  have gq : ∀ q, q ≠ P → gn_ (aLay T b P O) q = gn_ T q := fun q hq => by rw [e9]; split <;> simp [hq]
  have npP : P < np_ (aLay T b P O) ∧ np_ T ≤ np_ (aLay T b P O) ∧ ∀ q, q < np_ (aLay T b P O) → q < np_ T ∨ q = P := by
    rw [e8]
    split
    · exact ⟨by assumption, Nat.le_refl _, fun q hq => Or.inl hq⟩
    · exact ⟨by omega, Nat.le_succ _, fun q hq => by omega⟩
  refine ⟨⟨?_, ?_, ?_, ?_⟩, hby⟩
  · intro c hc
    rw [e1] at hc
    rw [e3, e4, e5, e6]
    simp only [va_up]
    by_cases e : c = b
    · rw [if_pos e, if_pos e, e]; exact ⟨npP.1, hz, by omega, by omega⟩
    · rw [if_neg e, if_neg e]
      obtain ⟨x1, x2⟩ := h1 c hc e
      exact ⟨by omega, x2⟩
  · intro c hc ht
    rw [e1] at hc
    rw [e2] at ht
    rw [e3, e5, e6, e7]
    by_cases e : c = b
    · rw [e, va_s, va_s, va_s]; exact ⟨gP, Nat.le_refl _⟩
    · rw [va_n _ _ e, va_n _ _ e]
      obtain ⟨x1, x2⟩ := h2 c hc e ht
      by_cases eP : pk_ T c = P
      · rw [eP, va_s]
        rw [eP] at x2
        have hlt := (h1 c hc e).1
        rcases hPO with x | x
        · exact ⟨gP, by omega⟩
        · omega
      · rw [va_n _ _ eP]
        exact ⟨by rw [gq _ eP]; exact x1, x2⟩
  · intro i j hij hj ti tj
    rw [e1] at hj
    rw [e2] at ti tj
    rw [e3, e5, e6]
    simp only [va_up]
    have key : ∀ c, c < nb_ T → c ≠ b → th_ T c = true → pk_ T c = P → pp_ T c + sz_ T c ≤ O := by
      intro c hc e ht x
      obtain ⟨x1, x2⟩ := h2 c hc e ht
      have hlt := (h1 c hc e).1
      rw [x] at x2 hlt
      rcases hPO with y | y
      · omega
      · omega
    by_cases ei : i = b
    · rw [if_pos ei, if_pos ei, if_neg (by omega), if_neg (by omega)]
      intro x
      exact Or.inr (key j hj (by omega) tj x.symm)
    · rw [if_neg ei, if_neg ei]
      by_cases ej : j = b
      · rw [if_pos ej, if_pos ej]
        intro x
        exact Or.inl (key i (by omega) ei ti x)
      · rw [if_neg ej, if_neg ej]
        exact h3 i j hij hj ei ej ti tj
  · intro p hp
    rw [hby p (by rw [e8] at hp; split at hp <;> omega), e4, e7]
    simp only [va_up]
    by_cases e : p = P
    · rw [if_pos e, if_pos e, e]; exact ⟨hfit, by omega⟩
    · rw [if_neg e, if_neg e]
      exact h4 p ((npP.2.2 p hp).resolve_right e)
/-- what the packs' words say, but for the pack p0 -/
def VKx (s : SG) (k : KG) (p0 : Nat) : Prop := ∀ p, p < np_ s → p ≠ p0 → ac_ k p = (if gn_ s p = true then 0 else al_ s p) ∧ ho_ k p = if gn_ s p = true then 0 else al_ s p - byN s p
theorem VKx_lay {T : SG} {k : KG} {b P O p0 : Nat} (h : VQ T b) (hb : b < nb_ T) (hth : th_ T b = true) (hz : 1 ≤ sz_ T b) (hcap : cap_ T ≤ 1000) (hnp : np_ T ≤ 40) (hP : putOk T b P O) (hK : ∀ p, p < np_ T → p ≠ p0 → ac_ k p = (if gn_ T p = true then 0 else al_ T p) ∧ ho_ k p = if gn_ T p = true then 0 else al_ T p - bySum (nb_ T) (va_up (th_ T) b false) (pk_ T) (sz_ T) p) (hP0 : P ≠ p0) : VKx (aLay T b P O) (kLay T k b P O) p0 := by
  obtain ⟨v1, v2⟩ := VP_lay h hb hth hz hcap hnp hP
  have hnew := byX_new h hnp
  obtain ⟨hPO, hfit⟩ := hP
  obtain ⟨e1, e2, e3, e4, e5, e6, e7, e8, e9⟩ := aLay_e T b P O (hPO.elim (fun x => Or.inl x.1) (fun x => Or.inr x.1))
  intro p hp hp0
  have hp41 : p < 2 ^ 31 := by rw [e8] at hp; split at hp <;> omega
  rw [v2 p hp41, e7, e9]
  rw [e8] at hp
  unfold kLay
  rcases hPO with x | x
  · rw [if_pos x.1] at hp ⊢
    show va_up (ac_ k) P (O + sz_ T b) p = _ ∧ ho_ k p = _
    obtain ⟨y1, y2⟩ := hK p hp hp0
    rw [y2]
    rw [if_pos x.1]
    simp only [va_up]
    by_cases e : p = P
    · rw [if_pos e, if_pos e, if_pos e, e, x.2.1]
      refine ⟨rfl, ?_⟩
      have := (h.2.2.2 P x.1).2
      show al_ T P - _ = O + sz_ T b - _
      omega
    · rw [if_neg e, if_neg e, if_neg e]
      exact ⟨y1, rfl⟩
  · have hn : ¬ P < np_ T := by omega
    rw [if_neg hn] at hp ⊢
    rw [if_neg hn]
    show va_up (va_up (ac_ k) (np_ T) 0) P (O + sz_ T b) p = _ ∧ va_up (ho_ k) (np_ T) 0 p = _
    by_cases e : p = P
    · rw [e, va_s, va_s, if_pos rfl, if_pos rfl, x.1, va_s, hnew]
      refine ⟨rfl, ?_⟩
      show 0 = O + sz_ T b - (0 + sz_ T b)
      omega
    · have e' : p ≠ np_ T := by omega
      rw [va_n (va_up (ac_ k) (np_ T) 0) _ e, va_n (ac_ k) _ e', va_n (al_ T) _ e, va_n (ho_ k) _ e', if_neg e, if_neg e, Nat.add_zero]
      exact hK p (by omega) hp0
abbrev blkT (t : SG) (key : Int64) (z n : Nat) (f : Nat → Nat) : SG := s_blk (s_ev t 0 (nb_ t)) key z n f
theorem blk_by (t : SG) (key : Int64) (z n : Nat) (f : Nat → Nat) (p : Nat) : bySum (nb_ t + 1) (va_up (va_up (th_ t) (nb_ t) true) (nb_ t) false) (va_up (pk_ t) (nb_ t) 0) (va_up (sz_ t) (nb_ t) z) p = byN t p := by
  rw [byN_e]
  unfold bySum
  rw [sumN, va_up2, va_s, Bool.false_and]
  rw [sumN_congr (q := fun j => if th_ t j && decide (nI (pk_ t j) = nI p) then sz_ t j else 0) (fun j hj => by rw [va_n _ _ (by omega), va_n _ _ (by omega), va_n _ _ (by omega)])]
  rfl
theorem VQ_blk {t : SG} (h : VP t) (key : Int64) (z n : Nat) (f : Nat → Nat) : VQ (blkT t key z n f) (nb_ t) := by
  obtain ⟨h1, h2, h3, h4⟩ := h
  refine ⟨?_, ?_, ?_, ?_⟩
  · intro c hc e
    have hc : c < nb_ t + 1 := hc
    show va_up (pk_ t) (nb_ t) 0 c < np_ t ∧ 1 ≤ va_up (sz_ t) (nb_ t) z c ∧ va_up (sz_ t) (nb_ t) z c ≤ cap_ t ∧ va_up (pp_ t) (nb_ t) 0 c ≤ 1000
    rw [va_n _ _ e, va_n _ _ e, va_n _ _ e]
    exact h1 c (by omega)
  · intro c hc e
    have hc : c < nb_ t + 1 := hc
    show va_up (th_ t) (nb_ t) true c = true → gn_ t (va_up (pk_ t) (nb_ t) 0 c) = false ∧ va_up (pp_ t) (nb_ t) 0 c + va_up (sz_ t) (nb_ t) z c ≤ al_ t (va_up (pk_ t) (nb_ t) 0 c)
    rw [va_n _ _ e, va_n _ _ e, va_n _ _ e, va_n _ _ e]
    exact h2 c (by omega)
  · intro i j hij hj ei ej
    have hj : j < nb_ t + 1 := hj
    show va_up (th_ t) (nb_ t) true i = true → va_up (th_ t) (nb_ t) true j = true → va_up (pk_ t) (nb_ t) 0 i = va_up (pk_ t) (nb_ t) 0 j → va_up (pp_ t) (nb_ t) 0 i + va_up (sz_ t) (nb_ t) z i ≤ va_up (pp_ t) (nb_ t) 0 j ∨ va_up (pp_ t) (nb_ t) 0 j + va_up (sz_ t) (nb_ t) z j ≤ va_up (pp_ t) (nb_ t) 0 i
    rw [va_n _ _ ei, va_n _ _ ei, va_n _ _ ei, va_n _ _ ei, va_n _ _ ej, va_n _ _ ej, va_n _ _ ej, va_n _ _ ej]
    exact h3 i j hij (by omega)
  · intro p hp
    show al_ t p ≤ cap_ t ∧ bySum (nb_ t + 1) (va_up (va_up (th_ t) (nb_ t) true) (nb_ t) false) (va_up (pk_ t) (nb_ t) 0) (va_up (sz_ t) (nb_ t) z) p ≤ al_ t p
    rw [blk_by t key z n f p]
    exact h4 p hp
theorem newP_ok {t : SG} {z : Nat} (hc : cap_ t ≤ 1000) (hz : z ≤ cap_ t) (key : Int64) (n : Nat) (f : Nat → Nat) : putOk (blkT t key z n f) (nb_ t) (newP t z).1 (newP t z).2 := by
  have e : sz_ (blkT t key z n f) (nb_ t) = z := va_s _ _ _
  unfold putOk
  rw [e]
  by_cases h : fitB t z = true
  · rw [show newP t z = (np_ t - 1, al_ t (np_ t - 1)) from if_pos h]
    unfold fitB at h
    rw [Bool.and_eq_true, Bool.and_eq_true] at h
    have h1 := of_decide_eq_true h.1
    have h2 : gn_ t (np_ t - 1) = false := by cases e : gn_ t (np_ t - 1) with | false => rfl | true => rw [e] at h; exact absurd h.2.1 (by decide)
    exact ⟨Or.inl ⟨by show np_ t - 1 < np_ t; omega, h2, rfl⟩, of_decide_eq_true h.2.2⟩
  · rw [show newP t z = (np_ t, 0) from if_neg h]
    exact ⟨Or.inr ⟨rfl, rfl⟩, by show 0 + z ≤ cap_ t; omega⟩
theorem aLay_rest (T : SG) (b P O : Nat) : ∃ u1 g6 f5, aLay T b P O = (u1, T.2.1, T.2.2.1, T.2.2.2.1, f5, g6, T.2.2.2.2.2.2) ∧ (∀ i, i ≠ 4 → u1 i = T.1 i) ∧ (∀ i, i ≠ 2 → g6 i = gs_ T i) ∧ ∀ i, i ≠ 3 → i ≠ 4 → i ≠ 6 → f5 i = fs_ T i := by
  unfold aLay
  split
  · refine ⟨_, _, _, rfl, fun _ _ => rfl, fun _ _ => rfl, fun i h3 h4 h6 => ?_⟩
    show va_up (va_up (va_up (fs_ T) 3 _) 4 _) 6 _ i = _
    rw [va_n _ _ h6, va_n _ _ h4, va_n _ _ h3]
  · refine ⟨_, _, _, rfl, fun i h => ?_, fun i h => ?_, fun i h3 h4 h6 => ?_⟩
    · exact va_n _ _ h
    · exact va_n _ _ h
    · show va_up (va_up (va_up (fs_ T) 3 _) 4 _) 6 _ i = _
      rw [va_n _ _ h6, va_n _ _ h4, va_n _ _ h3]
theorem cnt_new {p : Nat → Bool} {n : Nat} {v : Bool} : cntN (va_up p n v) (n + 1) = cntN p n + if v then 1 else 0 := by rw [cntN, cntN_out (Nat.le_refl _), va_s]
theorem kLay_2 (T : SG) (k : KG) (b P O : Nat) : kb_ (kLay T k b P O) = kb_ k ∧ dn2_ (kLay T k b P O) = dn2_ k := by
  unfold kLay
  split <;> exact ⟨rfl, rfl⟩
theorem mirOk_kk {s : SG} {k kk : KG} (h : mirOk s k) (e : kb_ kk = kb_ k ∧ dn2_ kk = dn2_ k) : mirOk s kk := by
  intro m hm
  rw [e.1, e.2]
  exact h m hm
theorem JI_add {n : Nat} {t : SG} {k : KG} (h : JI n t k) (key : Int64) {z nn : Nat} {f : Nat → Nat} (hb : nb_ t < 80) (hz : 1 ≤ z) (hz2 : z ≤ cap_ t) (hr : fitB t z = true ∨ np_ t < 40) (hn4 : nn ≤ 4) (hf : ∀ i, i < nn → f i < nb_ t ∧ th_ t (f i) = true ∧ wt_ t (f i) = 0 ∧ (ph_ t = 1 ∨ ph_ t = 2 ∨ ph_ t = 3 → f i < end_ t → mkr t (f i))) : JI (n + 1) (a_addA t key z nn f) (kLay (blkT t key z nn f) k (nb_ t) (newP t z).1 (newP t z).2) := by
  obtain ⟨m, ⟨⟨a1, a2, a3, a4, a5, a6, a7, a8, a9, a10, a11, a12⟩, b1, b2, b3, b4⟩, c⟩ := h
  have hput := newP_ok (t := t) (z := z) a1.2.2.2.1 hz2 key nn f
  have hthT : th_ (blkT t key z nn f) (nb_ t) = true := va_s _ _ _
  have hzT : 1 ≤ sz_ (blkT t key z nn f) (nb_ t) := by rw [show sz_ (blkT t key z nn f) (nb_ t) = z from va_s _ _ _]; exact hz
  obtain ⟨v1, v2⟩ := VP_lay (VQ_blk a12 key z nn f) (Nat.lt_succ_self _) hthT hzT a1.2.2.2.1 a1.2.1 hput
  have hVK := VKx_lay (k := k) (p0 := 100) (VQ_blk a12 key z nn f) (Nat.lt_succ_self _) hthT hzT a1.2.2.2.1 a1.2.1 hput (by
    intro p hp _
    have := b3 p hp
    show ac_ k p = (if gn_ t p = true then 0 else al_ t p) ∧ ho_ k p = if gn_ t p = true then 0 else al_ t p - bySum (nb_ t + 1) (va_up (va_up (th_ t) (nb_ t) true) (nb_ t) false) (va_up (pk_ t) (nb_ t) 0) (va_up (sz_ t) (nb_ t) z) p
    rw [blk_by t key z nn f p]
    exact this) (by have : (newP t z).1 ≤ np_ t := by { unfold newP; split <;> simp }
                    have := a1.2.1
                    omega)
  have hPl : (newP t z).1 < np_ t ∨ (newP t z).1 = np_ t := hput.1.elim (fun x => Or.inl x.1) (fun x => Or.inr x.1)
  obtain ⟨e1, e2, e3, e4, e5, e6, e7, e8, e9⟩ := aLay_e (blkT t key z nn f) (nb_ t) (newP t z).1 (newP t z).2 hPl
  obtain ⟨u1, g6, f5, er, r1, r2, r3⟩ := aLay_rest (blkT t key z nn f) (nb_ t) (newP t z).1 (newP t z).2
  have hA : a_addA t key z nn f = aLay (blkT t key z nn f) (nb_ t) (newP t z).1 (newP t z).2 := rfl
  obtain ⟨kk, hkk⟩ : ∃ kk, kk = kLay (blkT t key z nn f) k (nb_ t) (newP t z).1 (newP t z).2 := ⟨_, rfl⟩
  have hk1 : kk.1 = k.1 := by rw [hkk]; exact (kLay_1 _ _ _ _ _).1
  have hk2 : kb_ kk = kb_ k ∧ dn2_ kk = dn2_ k := by rw [hkk]; exact kLay_2 _ _ _ _ _
  have hnpA : np_ t ≤ np_ (a_addA t key z nn f) ∧ np_ (a_addA t key z nn f) ≤ 40 ∧ nan_ t + cntN (fun j => !gn_ (a_addA t key z nn f) j) (np_ (a_addA t key z nn f)) = np_ (a_addA t key z nn f) := by
    rw [hA, e8]
    by_cases q : (newP t z).1 < np_ t
    · rw [if_pos (show (newP t z).1 < np_ (blkT t key z nn f) from q)]
      refine ⟨Nat.le_refl _, a1.2.1, ?_⟩
      rw [cntN_congr (q := fun j => !gn_ t j) (fun j _ => by rw [e9, if_pos (show (newP t z).1 < np_ (blkT t key z nn f) from q)]; rfl)]
      exact a7
    · rw [if_neg (show ¬ (newP t z).1 < np_ (blkT t key z nn f) from q)]
      have e : (newP t z).1 = np_ t := hPl.resolve_left q
      have hnf : ¬ fitB t z = true := fun x => q (by rw [show newP t z = (np_ t - 1, al_ t (np_ t - 1)) from if_pos x]; unfold fitB at x; rw [Bool.and_eq_true] at x; have := of_decide_eq_true x.1; show np_ t - 1 < np_ t; omega)
      refine ⟨Nat.le_succ _, hr.resolve_left hnf, ?_⟩
      show nan_ t + cntN _ (np_ t + 1) = np_ t + 1
      rw [cntN, cntN_congr (q := fun j => !gn_ t j) (fun j hj => by rw [e9, if_neg (show ¬ (newP t z).1 < np_ (blkT t key z nn f) from q), if_neg (by omega)]; rfl), e9, if_neg (show ¬ (newP t z).1 < np_ (blkT t key z nn f) from q), if_pos e.symm]
      have h7 : nan_ t + cntN (fun j => !gn_ t j) (np_ t) = np_ t := a7
      show nan_ t + (cntN (fun j => !gn_ t j) (np_ t) + 1) = np_ t + 1
      omega
  rw [← hkk] at hVK ⊢
  rw [← hA] at e1 e2 e3 e4 e5 e6 e7 e8 e9 er v1 v2 hVK
  obtain ⟨A, hAA⟩ : ∃ A, A = a_addA t key z nn f := ⟨_, rfl⟩
  rw [← hAA] at e1 e2 e3 e4 e5 e6 e7 e8 e9 er v1 v2 hVK hnpA ⊢
  have n1 : ∀ i, i ≠ 4 → A.1 i = (blkT t key z nn f).1 i := fun i hi => by rw [er]; exact r1 i hi
  have nb1 : nb_ A = nb_ t + 1 := e1
  have nh1 : nh_ A = nh_ t + 1 := n1 8 (by decide)
  have fsA : ∀ i, i ≠ 3 → i ≠ 4 → i ≠ 6 → fs_ A i = fs_ (blkT t key z nn f) i := fun i p q r => by rw [er]; exact r3 i p q r
  have gsA : ∀ i, i ≠ 2 → gs_ A i = gs_ (blkT t key z nn f) i := fun i p => by rw [er]; exact r2 i p
  have ysA : ys_ A = ys_ (blkT t key z nn f) := by rw [er]
  have ffA : ff_ A = ff_ (blkT t key z nn f) := by rw [er]
  have cmA : cm_ A = va_up (cm_ t) (nb_ t) nn := fsA 1 (by decide) (by decide) (by decide)
  have wtA : wt_ A = va_up (wt_ t) (nb_ t) 0 := fsA 5 (by decide) (by decide) (by decide)
  have rmA : rm_ A = rm_ t := fsA 8 (by decide) (by decide) (by decide)
  have umA : um_ A = um_ t := fsA 14 (by decide) (by decide) (by decide)
  have kmA : km_ A = km_ t := fsA 16 (by decide) (by decide) (by decide)
  have rwA : rw_ A = rw_ t := fsA 19 (by decide) (by decide) (by decide)
  have leA : le_ A = le_ t := fsA 13 (by decide) (by decide) (by decide)
  have ruA : ru_ A = ru_ t := fsA 18 (by decide) (by decide) (by decide)
  have thA : th_ A = va_up (th_ t) (nb_ t) true := e2
  have mkA : mk_ A = va_up (mk_ t) (nb_ t) false := gsA 1 (by decide)
  have kpA : kp_ A = kp_ t := gsA 3 (by decide)
  have svA : sv_ A = sv_ t := gsA 4 (by decide)
  have chA : ch_ A = va_up (ch_ t) (nb_ t) f := by rw [show ch_ A = ff_ A 0 from rfl, ffA]; rfl
  have roA : ro_ A = ro_ t := by rw [show ro_ A = ff_ A 1 from rfl, ffA]; rfl
  have usA : us_ A = us_ t := by rw [show us_ A = ff_ A 2 from rfl, ffA]; rfl
  have ksA : ks_ A = ks_ t := by rw [show ks_ A = ff_ A 3 from rfl, ffA]; rfl
  have tmA : tm_ A = tm_ t := by rw [show tm_ A = ys_ A 1 from rfl, ysA]; rfl
  have nowA : now_ A = now_ t := by rw [er]; rfl
  have nsA : ns_ A = ns_ t := n1 7 (by decide)
  have nfrA : nfr_ A = nfr_ t := n1 2 (by decide)
  have nanA : nan_ A = nan_ t := n1 5 (by decide)
  have nswA : nsw_ A = nsw_ t := n1 9 (by decide)
  have phA : ph_ A = ph_ t := n1 10 (by decide)
  have rfA : rf_ A = rf_ t := n1 11 (by decide)
  have rtA : rt_ A = rt_ t := n1 12 (by decide)
  have endA : end_ A = end_ t := n1 13 (by decide)
  have shrA : shr_ A = shr_ t := n1 6 (by decide)
  have capA : cap_ A = cap_ t := n1 0 (by decide)
  have hkid : ∀ b, b < nb_ t → cm_ t b ≤ 4 ∧ ∀ i, i < cm_ t b → ch_ t b i < b := a2
  have hmr : ∀ c, c < nb_ t → mkr t c → mkr A c := by
    intro c hc e
    unfold mkr
    rw [mkA, phA, rfA, rtA, rwA, va_n _ _ (by omega)]
    exact e
  refine ⟨m, ⟨⟨?_, ?_, ?_, ?_, ?_, ?_, ?_, ?_, ?_, ?_, ?_, v1⟩, ?_, ?_, ?_, ?_⟩, ?_⟩
  · refine ⟨by rw [nb1]; omega, hnpA.2.1, ?_⟩
    rw [capA, shrA, phA]
    exact a1.2.2
  · intro i hi
    rw [cmA, chA]
    rw [nb1] at hi
    by_cases e : i = nb_ t
    · rw [e, va_s, va_s]; exact ⟨hn4, fun j hj => (hf j hj).1⟩
    · rw [va_n _ _ e, va_n _ _ e]; exact a2 i (by omega)
  · refine ⟨by rw [nsA]; exact a3.1, fun j hj => ?_⟩
    rw [nsA] at hj
    rw [rmA, roA, nb1]
    obtain ⟨x1, x2⟩ := a3.2 j hj
    exact ⟨x1, fun i hi => Nat.lt_succ_of_lt (x2 i hi)⟩
  · intro i hi
    rw [umA, kmA, usA, ksA, nb1]
    obtain ⟨x1, x2, x3, x4⟩ := a4 i hi
    exact ⟨x1, x2, fun q hq => Nat.lt_succ_of_lt (x3 q hq), x4⟩
  · refine ⟨?_, ?_, ?_⟩
    · unfold tmOk
      rw [nowA, svA, leA]
      exact a5.1
    · unfold tmB
      rw [nsA, tmA]
      exact a5.2.1
    · rw [ruA]; exact a5.2.2
  · have h1 : nh_ t + thereN t = nb_ t + nfr_ t + 2 * ns_ t := a6.2.1
    have h2 : nfr_ t + cntN (fun j => th_ t j) (nb_ t) = nb_ t := a6.2.2.1
    have h3 := a3.1
    have hh : nh_ t < 240 := by omega
    have hth : thereN A = thereN t := by unfold thereN; rw [kpA, nsA]
    have hist := hist_ev a6.1 hh (e := 0) (b := nb_ t) (by decide) (fun _ => hb) (fun x => absurd x (by decide))
    have hkA : hk_ A = hk_ (s_ev t 0 (nb_ t)) := fsA 10 (by decide) (by decide) (by decide)
    have hwA : hw_ A = hw_ (s_ev t 0 (nb_ t)) := fsA 11 (by decide) (by decide) (by decide)
    refine ⟨?_, ?_, ?_, ?_⟩
    · unfold histOk
      rw [hkA, hwA, nh1]
      exact hist
    · rw [nh1, hth, nb1, nfrA, nsA]; omega
    · rw [nfrA, thA, nb1]
      have := cnt_new (p := th_ t) (n := nb_ t) (v := true)
      show nfr_ t + cntN (va_up (th_ t) (nb_ t) true) (nb_ t + 1) = _
      rw [this, if_pos rfl]
      have h2 : nfr_ t + cntN (th_ t) (nb_ t) = nb_ t := h2
      omega
    · refine ⟨by rw [hth]; exact a6.2.2.2.1, ?_⟩
      have hb9 := hB_ev (e := 0) (b := nb_ t) (nb' := nb_ t + 1) (ns' := ns_ t) a6.2.2.2.2 (Nat.le_succ _) (Nat.le_refl _) (fun _ => Nat.lt_succ_self _) (fun q => absurd q (by decide))
      unfold hB
      rw [hkA, hwA, nh1, nb1, nsA]
      exact hb9
  · unfold V7
    rw [nanA]
    exact hnpA.2.2
  · refine ⟨by rw [nswA, nb1]; have := a8.1; omega, fun b => ?_, fun b hb2 => ?_⟩
    · rw [wtA, thA, nswA]
      by_cases e : b = nb_ t
      · rw [e, va_s, va_s]; exact ⟨Nat.zero_le _, fun _ => rfl⟩
      · rw [va_n _ _ e, va_n _ _ e]; exact a8.2.1 b
    · rw [nb1] at hb2
      rw [mkA, va_n _ _ (by omega)]
      exact a8.2.2 b (by omega)
  · refine ⟨by rw [rfA, rtA]; exact a9.1, ?_, fun q hq => ?_, ?_⟩
    · rw [rtA, mkA, nb1, cnt_new]
      have := a9.2.1
      show rt_ t + (nb_ t + 1) ≤ 112 + 4 * (cntN (mk_ t) (nb_ t) + 0) + (n + 1)
      omega
    · rw [rtA] at hq
      rw [rwA, nb1]
      exact Nat.lt_succ_of_lt (a9.2.2.1 q hq)
    · rw [phA, rtA, rfA]; exact a9.2.2.2
  · refine ⟨fun p hp => ?_, ?_, ?_⟩
    · rw [nb1] at hp
      rw [thA, cmA, chA, wtA]
      by_cases e : p = nb_ t
      · rw [e, va_s, va_s, va_s, va_s]
        intro _ i hi
        obtain ⟨x1, x2, x3, x4⟩ := hf i hi
        rw [va_n _ _ (by omega), va_n _ _ (by omega)]
        exact ⟨x2, fun x => by omega⟩
      · rw [va_n _ _ e, va_n _ _ e, va_n _ _ e, va_n _ _ e]
        intro ht i hi
        have := (hkid p (by omega)).2 i hi
        rw [va_n _ _ (by omega), va_n _ _ (by omega)]
        exact a10.1 p (by omega) ht i hi
    · rw [nsA, kpA, rmA, roA, thA]
      intro j hj hk i hi
      have := (a3.2 j hj).2 i hi
      rw [va_n _ _ (by omega)]
      exact a10.2.1 j hj hk i hi
    · rw [svA, umA, usA, thA, wtA]
      intro j hj hk i hi
      have := (a4 j hj).2.2.1 i hi
      rw [va_n _ _ (by omega), va_n _ _ (by omega)]
      exact a10.2.2 j hj hk i hi
  · intro e9
    rw [phA] at e9
    obtain ⟨q1, q2, q3, q4⟩ := a11 e9
    rw [endA, nb1, mkA, cmA, chA, nsA, kpA, rmA, roA, svA, umA, usA]
    refine ⟨by omega, fun b hb2 e i hi hl => ?_, fun j hj hk i hi hl => hmr _ ((a3.2 j hj).2 i hi) (q3 j hj hk i hi hl), fun j hj hk i hi hl => hmr _ ((a4 j hj).2.2.1 i hi) (q4 j hj hk i hi hl)⟩
    by_cases eb : b = nb_ t
    · rw [eb, va_s] at hi hl ⊢
      exact hmr _ (hf i hi).1 ((hf i hi).2.2.2 e9 hl)
    · rw [va_n _ _ eb] at hi hl ⊢
      rw [va_n _ _ eb] at e
      have := (hkid b (by omega)).2 i hi
      exact hmr _ (by omega) (q2 b (by omega) e i hi hl)
  · unfold VG3
    rw [phA, nb1, nswA, wtA, mkA, thA, endA]
    refine ⟨fun e => ⟨(b1.1 e).1, fun b hb2 => ?_⟩, fun e b hb2 => ?_, fun e => ⟨fun b h1 h2 => ?_, fun b hb2 => ?_⟩⟩
    · by_cases eb : b = nb_ t
      · rw [eb, va_s]; exact (b1.1 e).1
      · rw [va_n _ _ eb]; exact (b1.1 e).2 b (by omega)
    · by_cases eb : b = nb_ t
      · rw [eb, va_s, va_s]; exact fun x => by cases x
      · rw [va_n _ _ eb, va_n _ _ eb]; exact b1.2.1 e b hb2
    · have := (a11 (Or.inr (Or.inr e))).1
      have h2 : b < end_ t := h2
      rw [va_n _ _ (by omega), va_n _ _ (by omega), va_n _ _ (by omega)]
      exact (b1.2.2 e).1 b h1 h2
    · have := (a11 (Or.inr (Or.inr e))).1
      have := (b2.2.1 e).2
      rw [va_n _ _ (by omega)]
      exact (b1.2.2 e).2 b hb2
  · unfold VX
    rw [phA, endA, show nx_ kk = nx_ k by rw [nx_, hk1], show pe_ kk = pe_ k by rw [pe_, hk1]]
    refine ⟨b2.1, b2.2.1, fun e => ⟨(b2.2.2 e).1, ?_⟩⟩
    obtain ⟨q, x1, x2, x3⟩ := (b2.2.2 e).2
    exact ⟨q, x1, x2, Nat.le_trans x3 hnpA.1⟩
  · intro p hp
    exact hVK p hp (by have := hnpA.2.1; omega)
  · refine mirOk_kk ?_ hk2
    have hkA : hk_ A = hk_ (s_ev t 0 (nb_ t)) := fsA 10 (by decide) (by decide) (by decide)
    have hwA : hw_ A = hw_ (s_ev t 0 (nb_ t)) := fsA 11 (by decide) (by decide) (by decide)
    exact mirOk_r (mir_ev b4 0 (nb_ t)) (fsA 12 (by decide) (by decide) (by decide)) nh1 hkA hwA
  · unfold VS
    rw [phA, rfA, rtA, endA, show pe_ kk = pe_ k by rw [pe_, hk1]]
    refine ⟨c.1, c.2.1, c.2.2.1, fun e => ?_⟩
    obtain ⟨q, x1, x2, x3⟩ := c.2.2.2 e
    exact ⟨q, x1, x2, Nat.le_trans x3 hnpA.1⟩
theorem add_e (t : SG) (key : Int64) (z nn : Nat) (f : Nat → Nat) : nb_ (a_addA t key z nn f) = nb_ t + 1 ∧ th_ (a_addA t key z nn f) (nb_ t) = true ∧ wt_ (a_addA t key z nn f) (nb_ t) = 0 ∧ ph_ (a_addA t key z nn f) = ph_ t ∧ end_ (a_addA t key z nn f) = end_ t := by
  obtain ⟨u1, g6, f5, er, r1, r2, r3⟩ := aLay_rest (blkT t key z nn f) (nb_ t) (newP t z).1 (newP t z).2
  have hA : a_addA t key z nn f = aLay (blkT t key z nn f) (nb_ t) (newP t z).1 (newP t z).2 := rfl
  rw [hA, er]
  refine ⟨r1 1 (by decide), ?_, ?_, r1 10 (by decide), r1 13 (by decide)⟩
  · show g6 0 (nb_ t) = true
    rw [r2 0 (by decide)]
    exact va_s _ _ _
  · show f5 5 (nb_ t) = 0
    rw [r3 5 (by decide) (by decide) (by decide)]
    exact va_s _ _ _
abbrev kNw (t : SG) (k : KG) (j : Nat) (key : Int64) (z : Nat) : KG := kLay (blkT t key z (km_ t j) (ks_ t j)) k (nb_ t) (newP t z).1 (newP t z).2
theorem JI_new {n : Nat} {t : SG} {k : KG} (h : JI n t k) {j : Nat} (key : Int64) {z : Nat} (hj : j < 4) (hs : sv_ t j = true) (hb : nb_ t < 80) (hz : 1 ≤ z) (hz2 : z ≤ cap_ t) (hr : fitB t z = true ∨ np_ t < 40) : JI (n + 1) (a_new t j key z) (kNw t k j key z) := by
  have hA := h.A.1
  obtain ⟨a1, a2, a3, a4, a5, a6, a7, a8, a9, a10, a11, a12⟩ := hA
  have ha := JI_add h key (z := z) (nn := km_ t j) (f := ks_ t j) hb hz hz2 hr (a4 j hj).2.1 (fun i hi => by
    obtain ⟨r, hr, e⟩ := (a4 j hj).2.2.2 i hi
    rw [← e]
    exact ⟨(a4 j hj).2.2.1 r hr, (a10.2.2 j hj hs r hr).1, (a10.2.2 j hj hs r hr).2, fun e9 hl => (a11 e9).2.2.2 j hj hs r hr hl⟩)
  obtain ⟨x1, x2, x3, x4, x5⟩ := add_e t key z (km_ t j) (ks_ t j)
  refine JI_km0 (JI_use ha hj (by rw [x1]; exact Nat.lt_succ_self _) x2 x3 (fun e9 hl => ?_)) j
  rw [x5] at hl
  rw [x4] at e9
  have := (a11 e9).1
  omega
theorem fit_full {t : SG} {k : KG} (hK : VK t k) (hnp : np_ t ≤ 40) {z : Nat} (hz : 1 ≤ z) : (fullS t k (-1) + z ≤ cap_ t ↔ fitB t z = true) ∧ (fitB t z = true → fullS t k (-1) = al_ t (np_ t - 1) ∧ 0 < np_ t) := by
  unfold fullS fitB
  by_cases h0 : np_ t = 0
  · rw [if_pos (Or.inl h0), decide_eq_false (by omega : ¬ 0 < np_ t)]
    exact ⟨⟨fun x => by omega, fun x => by cases x⟩, fun x => by cases x⟩
  · rw [decide_eq_true (show 0 < np_ t by omega)]
    have hm1 : ¬ nI (np_ t - 1) = -1 := nI_m1 (by omega)
    cases hg : gn_ t (np_ t - 1) with
    | true =>
      rw [if_pos (Or.inr (Or.inr rfl))]
      exact ⟨⟨fun x => by omega, fun x => by cases x⟩, fun x => by cases x⟩
    | false =>
      rw [if_neg (fun x => x.elim h0 (fun y => y.elim hm1 (fun w => by cases w)))]
      have := (hK (np_ t - 1) (by omega)).1
      rw [hg, if_neg (by decide)] at this
      rw [this]
      simp only [Bool.not_false, Bool.true_and, decide_eq_true_iff]
      exact ⟨trivial, fun _ => ⟨trivial, by omega⟩⟩
theorem room_e {t : SG} {k : KG} (hK : VK t k) (hnp : np_ t ≤ 40) {z : Nat} (hz : 1 ≤ z) : roomS t k z = true ↔ (nb_ t < 80 ∧ (fitB t z = true ∨ np_ t < 40)) := by
  unfold roomS
  rw [Bool.and_eq_true, Bool.or_eq_true, decide_eq_true_iff, decide_eq_true_iff, decide_eq_true_iff, (fit_full hK hnp hz).1]
theorem k_add_e {t : SG} {k : KG} (hK : VK t k) (hnp : np_ t ≤ 40) {z : Nat} (hz : 1 ≤ z) (key : Int64) (j : Nat) : k_add t k key z (km_ t j) (ks_ t j) = kNw t k j key z := by
  obtain ⟨f1, f2⟩ := fit_full hK hnp hz
  have es : sz_ (blkT t key z (km_ t j) (ks_ t j)) (nb_ t) = z := va_s _ _ _
  unfold k_add kNw kLay
  rw [es]
  by_cases h : fitB t z = true
  · rw [if_pos (f1.mpr h), show newP t z = (np_ t - 1, al_ t (np_ t - 1)) from if_pos h, (f2 h).1]
    have := (f2 h).2
    exact (if_pos (show np_ t - 1 < np_ t by omega)).symm
  · rw [if_neg (fun x => h (f1.mp x)), show newP t z = (np_ t, 0) from if_neg h]
    refine Eq.trans ?_ (if_neg (Nat.lt_irrefl (np_ t))).symm
    have e : np_ (s_add1 t key z (km_ t j) (ks_ t j)) = np_ t := by
      show np_ (s_w1 t) = np_ t
      exact congrFun (s_w1_1 t) 4
    unfold k_np
    rw [e]
    rfl
theorem w1_kNw (t : SG) (k : KG) (j : Nat) (key : Int64) (z : Nat) : kNw (s_w1 t) k j key z = kNw t k j key z := by
  obtain ⟨X, e⟩ := w1_e t
  rw [e]
  rfl
theorem JI_save {n : Nat} {s : SG} {k : KG} (h : JI n s k) (x : Int32) (key : Int64) (w : Int32) : JI (n + 1) (a_save s x key w).2 (ck_save s k x key w) := by
  unfold a_save ck_save
  by_cases h1 : dn_ s = true
  · rw [if_pos h1, if_pos h1]; exact h.mono
  · rw [if_neg h1, if_neg h1]
    by_cases h2 : svOk s x = true
    · rw [if_pos h2, if_pos h2]
      obtain ⟨e1, e2, e3⟩ := sv_ok h2
      have hr := JI_rn h (cl_ x)
      by_cases h3 : w < 1 ∨ nI (cap_ s) < w
      · rw [if_pos h3, if_pos h3]; exact hr.mono
      · rw [if_neg h3, if_neg h3]
        have hz := cl_b (x := w) (a := 1) (b := cap_ s) (fun q => h3 (Or.inl q)) (fun q => h3 (Or.inr q)) (by decide) (by have := h.A.1.1.2.2.2.1; omega)
        by_cases h4 : dead_ s (cl_ x) = true
        · rw [if_pos h4, if_pos h4]; exact hr.mono
        · rw [if_neg h4, if_neg h4]
          obtain ⟨y, ey, _, _⟩ := s_rn_e s (cl_ x)
          by_cases h5 : findS s (cl_ x) key (cl_ w) = -1
          · rw [if_pos h5, if_pos h5]
            obtain ⟨t, ht⟩ : ∃ t, t = s_rn s (cl_ x) := ⟨_, rfl⟩
            rw [← ht] at hr ⊢
            have c1 : um_ t = um_ s := by rw [ht, ey]
            have c2 : nb_ t = nb_ s := by rw [ht, ey]
            have c3 : np_ t = np_ s := by rw [ht, ey]
            have c4 : fitB t (cl_ w) = fitB s (cl_ w) := by rw [ht, ey]; rfl
            have c5 : cut_ t = cut_ s := by rw [ht, ey]
            have c6 : sv_ t = sv_ s := by rw [ht, ey]
            have c7 : cap_ t = cap_ s := by rw [ht, ey]
            unfold ck_new
            rw [← c1, ← c2, ← c3, ← c4, ← c5]
            have hnp : np_ t ≤ 40 := hr.A.1.1.2.1
            by_cases h6 : um_ t (cl_ x) < 8 ∧ nb_ t < 80 ∧ (fitB t (cl_ w) = true ∨ np_ t < 40)
            · rw [if_pos h6]
              by_cases h7 : cut_ t = 0
              · rw [if_pos h7, if_neg (fun q => q.2.2 h7)]
                exact (JI_lost hr).mono
              · rw [if_neg h7, if_pos ⟨h6.1, (room_e hr.A.2.1 hnp hz.1).mpr h6.2, h7⟩, k_add_e hr.A.2.1 hnp hz.1, ← w1_kNw]
                obtain ⟨X, eX⟩ := w1_e t
                refine JI_new (JI_w1 hr) key e1 ?_ ?_ hz.1 ?_ ?_
                · rw [eX]; show sv_ t (cl_ x) = true; rw [c6]; exact e3
                · rw [eX]; exact h6.2.1
                · rw [eX]; show cl_ w ≤ cap_ t; rw [c7]; exact hz.2
                · rw [eX]; exact h6.2.2
            · rw [if_neg h6, if_neg (fun q => h6 ⟨q.1, (room_e hr.A.2.1 hnp hz.1).mp q.2.1⟩)]
              exact hr.mono
          · rw [if_neg h5, if_neg h5]
            rcases findF_cases (fun i => th_ s i && likeB s i (cl_ x) key (cl_ w)) (nb_ s) 0 with q | ⟨b, q1, q2, q3, q4⟩
            · exact absurd q.1 h5
            · have eb : findS s (cl_ x) key (cl_ w) = nI b := q4
              rw [Bool.and_eq_true] at q3
              have hb : b < nb_ s := by omega
              have ecl : cl_ (nI b) = b := nI_clamp (by have := h.A.1.1.1; omega)
              rw [eb, ecl]
              have htk := JI_tk hr e1 (b := b) (by rw [ey]; exact hb) (by rw [ey]; exact q3.1)
              split
              · split
                · exact JI_km0 htk _
                · exact htk
              · exact hr.mono
    · rw [if_neg h2, if_neg h2]; exact h.mono
