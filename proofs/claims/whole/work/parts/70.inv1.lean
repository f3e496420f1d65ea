/-! WHAT HOLDS BETWEEN CALLS, 1 -/
theorem w1_e (s : SG) : ∃ X, s_w1 s = (s.1, X, s.2.2) := by
  unfold s_w1
  split
  · exact ⟨_, rfl⟩
  · exact ⟨_, rfl⟩
/-- in the row that waits, or marked -/
def mkr (s : SG) (c : Nat) : Prop := mk_ s c = true ∨ (ph_ s = 1 ∧ ∃ q, rf_ s ≤ q ∧ q < rt_ s ∧ rw_ s q = c)
def V1 (s : SG) : Prop := nb_ s ≤ 80 ∧ np_ s ≤ 40 ∧ 20 ≤ cap_ s ∧ cap_ s ≤ 1000 ∧ shr_ s ≤ 100 ∧ ph_ s ≤ 4
def V4 (s : SG) : Prop := ∀ i, i < 4 → um_ s i ≤ 8 ∧ km_ s i ≤ 4 ∧ (∀ q, q < um_ s i → us_ s i q < nb_ s) ∧ ∀ q, q < km_ s i → ∃ r, r < um_ s i ∧ us_ s i r = ks_ s i q
def V5 (s : SG) : Prop := tmOk s ∧ tmB s ∧ ∀ i, i < 6 → ru_ s i ≤ 100
/-- the history tells of blocks below nb, of snapshots below ns -/
def hB (nb ns : Nat) (s : SG) : Prop := ∀ j, j < nh_ s → (hk_ s j ≤ 1 → hw_ s j < nb) ∧ (2 ≤ hk_ s j → hw_ s j < ns)
def V6 (s : SG) : Prop := histOk s ∧ nh_ s + thereN s = nb_ s + nfr_ s + 2 * ns_ s ∧ nfr_ s + cntN (fun j => th_ s j) (nb_ s) = nb_ s ∧ thereN s ≤ 10 ∧ hB (nb_ s) (ns_ s) s
def V7 (s : SG) : Prop := nan_ s + cntN (fun j => !gn_ s j) (np_ s) = np_ s
def V8 (n : Nat) (s : SG) : Prop := nsw_ s + nb_ s ≤ n ∧ (∀ b, wt_ s b ≤ nsw_ s ∧ (th_ s b = false → wt_ s b = 0)) ∧ ∀ b, nb_ s ≤ b → mk_ s b = false
def V9 (n : Nat) (s : SG) : Prop := rf_ s ≤ rt_ s ∧ rt_ s + nb_ s ≤ 112 + 4 * cntN (mk_ s) (nb_ s) + n ∧ (∀ q, q < rt_ s → rw_ s q < nb_ s) ∧ (2 ≤ ph_ s → rt_ s = rf_ s)
def VG1 (s : SG) : Prop := (∀ p, p < nb_ s → th_ s p = true → ∀ i, i < cm_ s p → th_ s (ch_ s p i) = true ∧ (0 < wt_ s (ch_ s p i) → 0 < wt_ s p ∧ wt_ s p ≤ wt_ s (ch_ s p i))) ∧ (∀ j, j < ns_ s → kp_ s j = true → ∀ i, i < rm_ s j → th_ s (ro_ s j i) = true) ∧ ∀ j, j < 4 → sv_ s j = true → ∀ i, i < um_ s j → th_ s (us_ s j i) = true ∧ wt_ s (us_ s j i) = 0
def VG2 (s : SG) : Prop := ph_ s = 1 ∨ ph_ s = 2 ∨ ph_ s = 3 → end_ s ≤ nb_ s ∧ (∀ b, b < nb_ s → (mk_ s b = true ∨ end_ s ≤ b) → ∀ i, i < cm_ s b → ch_ s b i < end_ s → mkr s (ch_ s b i)) ∧ (∀ j, j < ns_ s → kp_ s j = true → ∀ i, i < rm_ s j → ro_ s j i < end_ s → mkr s (ro_ s j i)) ∧ ∀ j, j < 4 → sv_ s j = true → ∀ i, i < um_ s j → us_ s j i < end_ s → mkr s (us_ s j i)
def VG3 (s : SG) (m : Nat) : Prop := (ph_ s = 1 ∨ ph_ s = 2 → 0 < nsw_ s ∧ ∀ b, b < nb_ s → wt_ s b < nsw_ s) ∧ (ph_ s = 2 → ∀ b, b < m → mk_ s b = true → wt_ s b = 0) ∧ (ph_ s = 3 → (∀ b, m ≤ b → b < end_ s → th_ s b = true → mk_ s b = false → wt_ s b = nsw_ s) ∧ ∀ b, b < m → wt_ s b < nsw_ s)
def VX (s : SG) (k : KG) (m : Nat) : Prop := (ph_ s = 2 → nx_ k = nI m ∧ m ≤ end_ s) ∧ (ph_ s = 3 → nx_ k = nI m - 1 ∧ m ≤ end_ s) ∧ (ph_ s = 4 → nx_ k = nI m ∧ ∃ q, pe_ k = nI q ∧ m ≤ q ∧ q ≤ np_ s)
def VS (s : SG) (k : KG) (m : Nat) : Prop := (ph_ s = 1 → rf_ s < rt_ s) ∧ (ph_ s = 2 → m < end_ s) ∧ (ph_ s = 3 → 0 < m) ∧ (ph_ s = 4 → ∃ q, pe_ k = nI q ∧ m < q ∧ q ≤ np_ s)
def VP (s : SG) : Prop := (∀ b, b < nb_ s → pk_ s b < np_ s ∧ 1 ≤ sz_ s b ∧ sz_ s b ≤ cap_ s ∧ pp_ s b ≤ 1000) ∧ (∀ b, b < nb_ s → th_ s b = true → gn_ s (pk_ s b) = false ∧ pp_ s b + sz_ s b ≤ al_ s (pk_ s b)) ∧ (∀ i j, i < j → j < nb_ s → th_ s i = true → th_ s j = true → pk_ s i = pk_ s j → pp_ s i + sz_ s i ≤ pp_ s j ∨ pp_ s j + sz_ s j ≤ pp_ s i) ∧ ∀ p, p < np_ s → al_ s p ≤ cap_ s ∧ byN s p ≤ al_ s p
def VK (s : SG) (k : KG) : Prop := ∀ p, p < np_ s → ac_ k p = (if gn_ s p = true then 0 else al_ s p) ∧ ho_ k p = if gn_ s p = true then 0 else al_ s p - byN s p
def JA (n : Nat) (s : SG) : Prop := V1 s ∧ kidsOk s ∧ rootOk s ∧ V4 s ∧ V5 s ∧ V6 s ∧ V7 s ∧ V8 n s ∧ V9 n s ∧ VG1 s ∧ VG2 s ∧ VP s
def JP (n : Nat) (s : SG) (k : KG) (m : Nat) : Prop := JA n s ∧ VG3 s m ∧ VX s k m ∧ VK s k ∧ mirOk s k
def JI (n : Nat) (s : SG) (k : KG) : Prop := ∃ m, JP n s k m ∧ VS s k m
theorem JA.mono {n : Nat} {s : SG} (h : JA n s) : JA (n + 1) s := by
  obtain ⟨a1, a2, a3, a4, a5, a6, a7, a8, a9, a10, a11, a12⟩ := h
  exact ⟨a1, a2, a3, a4, a5, a6, a7, ⟨Nat.le_succ_of_le a8.1, a8.2⟩, ⟨a9.1, by have := a9.2.1; omega, a9.2.2⟩, a10, a11, a12⟩
theorem JI.mono {n : Nat} {s : SG} {k : KG} (h : JI n s k) : JI (n + 1) s k := by
  obtain ⟨m, ⟨a, b⟩, c⟩ := h
  exact ⟨m, ⟨a.mono, b⟩, c⟩
theorem mrep_c {s t : SG} : ∀ (n j : Nat) (m : (Nat → Bool) × (Nat → Bool)), (∀ q, j ≤ q → q < j + n → hk_ t q = hk_ s q ∧ hw_ t q = hw_ s q) → mrep t n j m = mrep s n j m := by
  intro n
  induction n with
  | zero => intro j m _; rfl
  | succ n ih =>
    intro j m h
    show mrep t n (j + 1) (mone t j m) = mrep s n (j + 1) (mone s j m)
    have e := h j (Nat.le_refl _) (by omega)
    have e2 : mone t j m = mone s j m := by unfold mone; rw [e.1, e.2]
    rw [e2]
    exact ih (j + 1) _ (fun q h1 h2 => h q (by omega) (by omega))
theorem mirOk_c {s t : SG} {k : KG} (h : mirOk s k) (e1 : md_ t = md_ s) (e2 : nh_ s ≤ nh_ t) (e3 : ∀ q, q < nh_ s → hk_ t q = hk_ s q ∧ hw_ t q = hw_ s q) : mirOk t k := by
  intro m hm
  obtain ⟨⟨a, b⟩, c, d⟩ := h m hm
  have e : mirS t m = mirS s m := by
    unfold mirS
    rw [e1]
    exact mrep_c _ _ _ (fun q _ h2 => e3 q (by omega))
  rw [e, e1]
  exact ⟨⟨a, Nat.le_trans b e2⟩, c, d⟩
theorem mirOk_r {s t : SG} {k : KG} (h : mirOk s k) (e1 : md_ t = md_ s) (e2 : nh_ t = nh_ s) (e3 : hk_ t = hk_ s) (e4 : hw_ t = hw_ s) : mirOk t k := mirOk_c h e1 (Nat.le_of_eq e2.symm) (fun q _ => by rw [e3, e4]; exact ⟨rfl, rfl⟩)
theorem JI_raw {n : Nat} {s : SG} {k : KG} (X : Nat → Int32) (b : Bool) (h : JI n s k) : JI n (s.1, X, s.2.2.1, b, s.2.2.2.2) k := by
  obtain ⟨m, ⟨a, b, c, d, e⟩, f⟩ := h
  exact ⟨m, ⟨a, b, c, d, mirOk_r e rfl rfl rfl rfl⟩, f⟩
theorem JI_w1 {n : Nat} {s : SG} {k : KG} (h : JI n s k) : JI n (s_w1 s) k := by
  obtain ⟨X, e⟩ := w1_e s
  rw [e]
  exact JI_raw X (dn_ s) h
theorem JI_rn {n : Nat} {s : SG} {k : KG} (h : JI n s k) (j : Nat) : JI n (s_rn s j) k := by
  obtain ⟨y, e, e0, e1⟩ := s_rn_e s j
  rw [e]
  obtain ⟨m, ⟨⟨a1, a2, a3, a4, a5, a6, a7, a8, a9, a10, a11, a12⟩, b1, b2, b3, b4⟩, c⟩ := h
  refine ⟨m, ⟨⟨a1, a2, a3, a4, ⟨a5.1, ?_, a5.2.2⟩, a6, a7, a8, a9, a10, a11, a12⟩, b1, b2, b3, mirOk_r b4 rfl rfl rfl rfl⟩, c⟩
  intro i hi
  show -1000000000000 ≤ (y 1 i).toInt ∧ (y 1 i).toInt ≤ 1000000000000
  rw [e1]
  exact a5.2.1 i hi
theorem cntN_out {p : Nat → Bool} {b n : Nat} {v : Bool} (h : n ≤ b) : cntN (va_up p b v) n = cntN p n := cntN_congr (fun j hj => by simp only [va_up]; rw [if_neg (by omega)])
theorem cntN_clr {p : Nat → Bool} {b : Nat} (h : p b = true) : ∀ {n : Nat}, b < n → cntN (va_up p b false) n + 1 = cntN p n := by
  intro n
  induction n with
  | zero => intro hb; exact absurd hb (Nat.not_lt_zero _)
  | succ n ih =>
    intro hb
    by_cases e : b = n
    · subst e
      rw [cntN, cntN, cntN_out (Nat.le_refl _), h]
      simp [va_up]
    · have := ih (by omega)
      rw [cntN, cntN, show va_up p b false n = p n by simp only [va_up]; rw [if_neg (by omega)]]
      omega
theorem cntN_set {p : Nat → Bool} {b : Nat} (h : p b = false) : ∀ {n : Nat}, b < n → cntN (va_up p b true) n = cntN p n + 1 := by
  intro n
  induction n with
  | zero => intro hb; exact absurd hb (Nat.not_lt_zero _)
  | succ n ih =>
    intro hb
    by_cases e : b = n
    · subst e
      rw [cntN, cntN, cntN_out (Nat.le_refl _), h]
      simp [va_up]
    · have := ih (by omega)
      rw [cntN, cntN, show va_up p b true n = p n by simp only [va_up]; rw [if_neg (by omega)]]
      omega
theorem JI_gone {n : Nat} {s : SG} {k : KG} (a : JA n s) (c : VK s k) (d : mirOk s k) : JI n (s_gone s) k := by
  obtain ⟨a1, a2, a3, a4, a5, a6, a7, a8, a9, a10, a11, a12⟩ := a
  have hz : ∀ j, j < 4 → sv_ (s_gone s) j = true → False := by
    intro j hj e
    have e : rnone 4 (sv_ s) j = true := e
    rw [rnone, if_pos hj] at e
    cases e
  have z : ∀ i : Nat, i ≠ 0 → ph_ (s_gone s) = i → False := fun i hi e => hi (show i = 0 from (show 0 = i from e).symm)
  refine ⟨0, ⟨⟨⟨a1.1, a1.2.1, a1.2.2.1, a1.2.2.2.1, a1.2.2.2.2.1, Nat.zero_le _⟩, a2, a3, a4, ⟨⟨a5.1.1, fun j hj e => (hz j hj e).elim⟩, a5.2⟩, a6, a7, a8, ⟨a9.1, a9.2.1, a9.2.2.1, fun e => absurd (show 2 ≤ 0 from e) (by decide)⟩, ⟨a10.1, a10.2.1, fun j hj e => (hz j hj e).elim⟩, fun e => ?_, a12⟩, ⟨fun e => ?_, fun e => (z 2 (by decide) e).elim, fun e => (z 3 (by decide) e).elim⟩, ⟨fun e => (z 2 (by decide) e).elim, fun e => (z 3 (by decide) e).elim, fun e => (z 4 (by decide) e).elim⟩, c, mirOk_r d rfl rfl rfl rfl⟩, ⟨fun e => (z 1 (by decide) e).elim, fun e => (z 2 (by decide) e).elim, fun e => (z 3 (by decide) e).elim, fun e => (z 4 (by decide) e).elim⟩⟩
  · rcases e with e | e | e
    · exact (z 1 (by decide) e).elim
    · exact (z 2 (by decide) e).elim
    · exact (z 3 (by decide) e).elim
  · rcases e with e | e
    · exact (z 1 (by decide) e).elim
    · exact (z 2 (by decide) e).elim
theorem JI.A {n : Nat} {s : SG} {k : KG} (h : JI n s k) : JA n s ∧ VK s k ∧ mirOk s k := by
  obtain ⟨m, ⟨a, b, c, d, e⟩, f⟩ := h
  exact ⟨a, d, e⟩
theorem JI_lost {n : Nat} {s : SG} {k : KG} (h : JI n s k) : JI n (s_lost s) k := by
  have h' : JI n (s_w0 s) k := JI_raw (s := s) (va_up s.2.1 0 (-1)) true h
  exact JI_gone h'.A.1 h'.A.2.1 h'.A.2.2
theorem JI_kc {n : Nat} {s : SG} {k k' : KG} (h : JI n s k) (e0 : nx_ k' = nx_ k) (e1 : pe_ k' = pe_ k) (e2 : kn_ k' 0 = kn_ k 0) (e3 : kn_ k' 1 = kn_ k 1) (e4 : ∀ i, i = 1 ∨ i = 2 ∨ i = 4 ∨ i = 5 → kb_ k' i = kb_ k i) (e5 : ∀ m, m < 2 → dn2_ k' m = dn2_ k m) : JI n s k' := by
  obtain ⟨m, ⟨a, b, c, d, e⟩, f⟩ := h
  refine ⟨m, ⟨a, b, ?_, ?_, ?_⟩, ?_⟩
  · unfold VX at c ⊢; rw [e0, e1]; exact c
  · intro p hp
    have := d p hp
    show kn_ k' 1 p = _ ∧ kn_ k' 0 p = _
    rw [e2, e3]; exact this
  · intro q hq
    obtain ⟨x, y, z⟩ := e q hq
    rw [e5 q hq]
    refine ⟨x, ?_, ?_⟩
    · rw [e4 (1 + q) (by omega)]; exact y
    · rw [e4 (4 + q) (by omega)]; exact z
  · unfold VS at f ⊢; rw [e1]; exact f
theorem JI_b0 {n : Nat} {s : SG} {k : KG} (h : JI n s k) (q : Nat → Bool) : JI n s (kB k 0 q) := JI_kc h rfl rfl rfl rfl (fun i hi => by rcases hi with rfl | rfl | rfl | rfl <;> rfl) (fun _ _ => rfl)
theorem JI_kSim {n : Nat} {s : SG} {k k' : KG} (h : JI n s k) (e : kSim k' k) : JI n s k' := JI_kc h (by rw [nx_, e.1]) (by rw [pe_, e.1]) e.2.2.2.1 e.2.2.2.2.1 e.2.2.1 e.2.2.2.2.2
theorem JI_kEq {n : Nat} {s : SG} {k k' : KG} (h : JI n s k) (e : kEq k' k) : JI n s k' := JI_kc h e.1 e.2.1 (by rw [kn_, e.2.2]) (by rw [kn_, e.2.2]) (fun i _ => by rw [kb_, e.2.2]) (fun m _ => by rw [dn2_, kn_, e.2.2])
theorem JI_at {n : Nat} {s : SG} {k : KG} (h : JI n s k) (t : Int64) : JI n (a_at s t).2 k := by
  unfold a_at
  split
  · exact h
  · split
    · exact h
    · rename_i h1 h2
      obtain ⟨m, ⟨⟨a1, a2, a3, a4, a5, a6, a7, a8, a9, a10, a11, a12⟩, b1, b2, b3, b4⟩, c⟩ := h
      refine ⟨m, ⟨⟨a1, a2, a3, a4, ⟨⟨?_, a5.1.2⟩, a5.2⟩, a6, a7, a8, a9, a10, a11, a12⟩, b1, b2, b3, mirOk_r b4 rfl rfl rfl rfl⟩, c⟩
      have h3 : ¬ t < now_ s := fun q => h2 (Or.inl q)
      have h4 : ¬ 1000000000000 < t := fun q => h2 (Or.inr q)
      rw [Int64.lt_iff_toInt_lt] at h3 h4
      have := a5.1.1
      show -10000000000 ≤ t.toInt ∧ t.toInt ≤ 1000000000000
      have e : (1000000000000 : Int64).toInt = 1000000000000 := by decide
      rw [e] at h4
      omega
theorem cl_b {x : Int32} {a b : Nat} (h1 : ¬ x < Int32.ofNat a) (h2 : ¬ Int32.ofNat b < x) (ha : a < 2 ^ 31) (hb : b < 2 ^ 31) : a ≤ cl_ x ∧ cl_ x ≤ b := by
  rw [Int32.lt_iff_toInt_lt] at h1 h2
  have e1 : (Int32.ofNat a).toInt = a := nI_toInt ha
  have e2 : (Int32.ofNat b).toInt = b := nI_toInt hb
  rw [e1] at h1
  rw [e2] at h2
  have : cl_ x = x.toInt.toNat := rfl
  rw [this]
  omega
theorem JI_begin {n : Nat} {s : SG} {k : KG} (h : JI n s k) (x : Int32) : JI n (a_begin s x).2 k := by
  unfold a_begin
  split
  · exact h
  · split
    · exact h
    · rename_i h1 h2
      split
      · exact h
      · obtain ⟨m, ⟨⟨a1, a2, a3, a4, a5, a6, a7, a8, a9, a10, a11, a12⟩, b1, b2, b3, b4⟩, c⟩ := h
        have hx := cl_b (a := 1) (b := 1000000) (fun q => h2 (Or.inl q)) (fun q => h2 (Or.inr q)) (by decide) (by decide)
        refine ⟨m, ⟨⟨a1, a2, a3, ?_, ⟨⟨a5.1.1, ?_⟩, a5.2⟩, a6, a7, a8, a9, ⟨a10.1, a10.2.1, ?_⟩, ?_, a12⟩, b1, b2, b3, mirOk_r b4 rfl rfl rfl rfl⟩, c⟩
        · intro i hi
          show va_up (um_ s) (frS s) 0 i ≤ 8 ∧ va_up (km_ s) (frS s) 0 i ≤ 4 ∧ (∀ q, q < va_up (um_ s) (frS s) 0 i → us_ s i q < nb_ s) ∧ ∀ q, q < va_up (km_ s) (frS s) 0 i → ∃ r, r < va_up (um_ s) (frS s) 0 i ∧ us_ s i r = ks_ s i q
          simp only [va_up]
          split
          · exact ⟨Nat.zero_le _, Nat.zero_le _, fun q hq => absurd hq (Nat.not_lt_zero _), fun q hq => absurd hq (Nat.not_lt_zero _)⟩
          · exact a4 i hi
        · intro j hj
          show va_up (sv_ s) (frS s) true j = true → 1 ≤ va_up (le_ s) (frS s) (cl_ x) j ∧ va_up (le_ s) (frS s) (cl_ x) j ≤ 1000000
          simp only [va_up]
          split
          · exact fun _ => hx
          · exact a5.1.2 j hj
        · intro j hj
          show va_up (sv_ s) (frS s) true j = true → ∀ i, i < va_up (um_ s) (frS s) 0 j → th_ s (us_ s j i) = true ∧ wt_ s (us_ s j i) = 0
          simp only [va_up]
          split
          · exact fun _ i hi => absurd hi (Nat.not_lt_zero _)
          · exact a10.2.2 j hj
        · intro e
          obtain ⟨p1, p2, p3, p4⟩ := a11 e
          refine ⟨p1, p2, p3, ?_⟩
          intro j hj
          show va_up (sv_ s) (frS s) true j = true → ∀ i, i < va_up (um_ s) (frS s) 0 j → us_ s j i < end_ s → mkr s (us_ s j i)
          simp only [va_up]
          split
          · exact fun _ i hi => absurd hi (Nat.not_lt_zero _)
          · exact p4 j hj
theorem uses_ex {s : SG} {j : Nat} {b : Nat} (hb : b < 2 ^ 31) (hu : ∀ q, q < um_ s j → us_ s j q < 2 ^ 31) (h : usesB s j (nI b) = true) : ∃ r, r < um_ s j ∧ us_ s j r = b := by
  obtain ⟨r, hr, e⟩ := anyN_iff.mp h
  exact ⟨r, hr, nI_eq' (hu r hr) hb (of_decide_eq_true e)⟩
theorem JI_kid {n : Nat} {s : SG} {k : KG} (h : JI n s k) {j b : Nat} (hj : j < 4) (hk : km_ s j < 4) (hb : b < 2 ^ 31) (hu : usesB s j (nI b) = true) : JI n (s_kid s j b) k := by
  obtain ⟨m, ⟨⟨a1, a2, a3, a4, a5, a6, a7, a8, a9, a10, a11, a12⟩, b1, b2, b3, b4⟩, c⟩ := h
  refine ⟨m, ⟨⟨a1, a2, a3, ?_, a5, a6, a7, a8, a9, a10, a11, a12⟩, b1, b2, b3, mirOk_r b4 rfl rfl rfl rfl⟩, c⟩
  intro i hi
  obtain ⟨c1, c2, c3, c4⟩ := a4 i hi
  show um_ s i ≤ 8 ∧ va_up (km_ s) j (km_ s j + 1) i ≤ 4 ∧ (∀ q, q < um_ s i → us_ s i q < nb_ s) ∧ ∀ q, q < va_up (km_ s) j (km_ s j + 1) i → ∃ r, r < um_ s i ∧ us_ s i r = va_up (ks_ s) j (va_up (ks_ s j) (km_ s j) b) i q
  by_cases e : i = j
  · subst e
    simp only [va_up, if_true]
    refine ⟨c1, hk, c3, fun q hq => ?_⟩
    by_cases e2 : q = km_ s i
    · rw [if_pos e2]
      exact uses_ex hb (fun q hq => by have := c3 q hq; have := a1.1; omega) hu
    · rw [if_neg e2]
      exact c4 q (by omega)
  · simp only [va_up]
    rw [if_neg e, if_neg e]
    exact ⟨c1, c2, c3, c4⟩
theorem JI_push {n : Nat} {s : SG} {k : KG} (h : JI n s k) {j b : Nat} (hj : j < 4) (hu : um_ s j < 8) (hb : b < nb_ s) (h1 : th_ s b = true) (h2 : wt_ s b = 0) (h3 : ph_ s = 1 ∨ ph_ s = 2 ∨ ph_ s = 3 → b < end_ s → mkr s b) : JI n (s_push s j b) k := by
  obtain ⟨m, ⟨⟨a1, a2, a3, a4, a5, a6, a7, a8, a9, a10, a11, a12⟩, b1, b2, b3, b4⟩, c⟩ := h
  refine ⟨m, ⟨⟨a1, a2, a3, ?_, a5, a6, a7, a8, a9, ⟨a10.1, a10.2.1, ?_⟩, ?_, a12⟩, b1, b2, b3, mirOk_r b4 rfl rfl rfl rfl⟩, c⟩
  · intro i hi
    obtain ⟨c1, c2, c3, c4⟩ := a4 i hi
    show va_up (um_ s) j (um_ s j + 1) i ≤ 8 ∧ km_ s i ≤ 4 ∧ (∀ q, q < va_up (um_ s) j (um_ s j + 1) i → va_up (us_ s) j (va_up (us_ s j) (um_ s j) b) i q < nb_ s) ∧ ∀ q, q < km_ s i → ∃ r, r < va_up (um_ s) j (um_ s j + 1) i ∧ va_up (us_ s) j (va_up (us_ s j) (um_ s j) b) i r = ks_ s i q
    by_cases e : i = j
    · subst e
      simp only [va_up, if_true]
      refine ⟨hu, c2, fun q hq => ?_, fun q hq => ?_⟩
      · by_cases e2 : q = um_ s i
        · rw [if_pos e2]; exact hb
        · rw [if_neg e2]; exact c3 q (by omega)
      · obtain ⟨r, hr, e⟩ := c4 q hq
        exact ⟨r, by omega, by rw [if_neg (by omega)]; exact e⟩
    · simp only [va_up]
      rw [if_neg e, if_neg e]
      exact ⟨c1, c2, c3, c4⟩
  · intro i hi
    show sv_ s i = true → ∀ q, q < va_up (um_ s) j (um_ s j + 1) i → th_ s (va_up (us_ s) j (va_up (us_ s j) (um_ s j) b) i q) = true ∧ wt_ s (va_up (us_ s) j (va_up (us_ s j) (um_ s j) b) i q) = 0
    intro hs
    by_cases e : i = j
    · subst e
      simp only [va_up, if_true]
      intro q hq
      by_cases e2 : q = um_ s i
      · rw [if_pos e2]; exact ⟨h1, h2⟩
      · rw [if_neg e2]; exact a10.2.2 i hi hs q (by omega)
    · simp only [va_up]
      rw [if_neg e, if_neg e]
      exact a10.2.2 i hi hs
  · intro e9
    obtain ⟨p1, p2, p3, p4⟩ := a11 e9
    refine ⟨p1, p2, p3, ?_⟩
    intro i hi
    show sv_ s i = true → ∀ q, q < va_up (um_ s) j (um_ s j + 1) i → va_up (us_ s) j (va_up (us_ s j) (um_ s j) b) i q < end_ s → mkr s (va_up (us_ s) j (va_up (us_ s j) (um_ s j) b) i q)
    intro hs
    by_cases e : i = j
    · subst e
      simp only [va_up, if_true]
      intro q hq
      by_cases e2 : q = um_ s i
      · rw [if_pos e2]; exact h3 e9
      · rw [if_neg e2]; exact p4 i hi hs q (by omega)
    · simp only [va_up]
      rw [if_neg e, if_neg e]
      exact p4 i hi hs
theorem JI_use {n : Nat} {s : SG} {k : KG} (h : JI n s k) {j b : Nat} (hj : j < 4) (hb : b < nb_ s) (h1 : th_ s b = true) (h2 : wt_ s b = 0) (h3 : ph_ s = 1 ∨ ph_ s = 2 ∨ ph_ s = 3 → b < end_ s → mkr s b) : JI n (s_use s j b) k := by
  unfold s_use
  split
  · rename_i e
    exact JI_push h hj e.1 hb h1 h2 h3
  · exact h
theorem JI_km0 {n : Nat} {s : SG} {k : KG} (h : JI n s k) (j : Nat) : JI n (s_km0 s j) k := by
  obtain ⟨m, ⟨⟨a1, a2, a3, a4, a5, a6, a7, a8, a9, a10, a11, a12⟩, b1, b2, b3, b4⟩, c⟩ := h
  refine ⟨m, ⟨⟨a1, a2, a3, ?_, a5, a6, a7, a8, a9, a10, a11, a12⟩, b1, b2, b3, mirOk_r b4 rfl rfl rfl rfl⟩, c⟩
  intro i hi
  obtain ⟨c1, c2, c3, c4⟩ := a4 i hi
  show um_ s i ≤ 8 ∧ va_up (km_ s) j 0 i ≤ 4 ∧ (∀ q, q < um_ s i → us_ s i q < nb_ s) ∧ ∀ q, q < va_up (km_ s) j 0 i → ∃ r, r < um_ s i ∧ us_ s i r = ks_ s i q
  simp only [va_up]
  split
  · exact ⟨c1, Nat.zero_le _, c3, fun q hq => absurd hq (Nat.not_lt_zero _)⟩
  · exact ⟨c1, c2, c3, c4⟩
theorem JI_sv {n : Nat} {s : SG} {k : KG} (h : JI n s k) (g : Nat → Bool) (hg : ∀ i, g i = true → sv_ s i = true) : JI n (sGb s 4 g) k := by
  obtain ⟨m, ⟨⟨a1, a2, a3, a4, a5, a6, a7, a8, a9, a10, a11, a12⟩, b1, b2, b3, b4⟩, c⟩ := h
  refine ⟨m, ⟨⟨a1, a2, a3, a4, ⟨⟨a5.1.1, fun j hj e => a5.1.2 j hj (hg j e)⟩, a5.2⟩, a6, a7, a8, a9, ⟨a10.1, a10.2.1, fun j hj e => a10.2.2 j hj (hg j e)⟩, fun e9 => ?_, a12⟩, b1, b2, b3, mirOk_r b4 rfl rfl rfl rfl⟩, c⟩
  obtain ⟨p1, p2, p3, p4⟩ := a11 e9
  exact ⟨p1, p2, p3, fun j hj e => p4 j hj (hg j e)⟩
theorem up_f {g : Nat → Bool} {j i : Nat} (h : va_up g j false i = true) : g i = true := by
  simp only [va_up] at h
  split at h
  · cases h
  · exact h
theorem JI_give {n : Nat} {s : SG} {k : KG} (h : JI n s k) (x : Int32) : JI n (a_give s x).2 k := by
  unfold a_give
  split
  · exact h
  · split
    · exact JI_sv h _ (fun i e => up_f e)
    · exact h
theorem JI_cut {n : Nat} {s : SG} {k : KG} (h : JI n s k) (x : Int32) : JI n (a_cut s x).2 k := by
  unfold a_cut
  split
  · exact h
  · split
    · exact h
    · exact JI_raw (s := s) (va_up s.2.1 0 x) (dn_ s) h
theorem JI_open {n : Nat} {s : SG} {k : KG} (h : JI n s k) : JI n (a_open s).2 k := by
  unfold a_open
  split
  · exact JI_raw (s := s) s.2.1 false h
  · exact h
theorem JI_share {n : Nat} {s : SG} {k : KG} (h : JI n s k) (x : Int32) : JI n (a_share s x).2 k := by
  unfold a_share
  split
  · exact h
  · split
    · exact h
    · rename_i h1 h2
      have hx := cl_b (a := 0) (b := 100) (fun q => h2 (Or.inl q)) (fun q => h2 (Or.inr q)) (by decide) (by decide)
      obtain ⟨m, ⟨⟨a1, a2, a3, a4, a5, a6, a7, a8, a9, a10, a11, a12⟩, b1, b2, b3, b4⟩, c⟩ := h
      exact ⟨m, ⟨⟨⟨a1.1, a1.2.1, a1.2.2.1, a1.2.2.2.1, hx.2, a1.2.2.2.2.2⟩, a2, a3, a4, a5, a6, a7, a8, a9, a10, a11, a12⟩, b1, b2, b3, mirOk_r b4 rfl rfl rfl rfl⟩, c⟩
theorem JI_rule {n : Nat} {s : SG} {k : KG} (h : JI n s k) (x y : Int32) : JI n (a_rule s x y).2 k := by
  unfold a_rule
  split
  · exact h
  · split
    · exact h
    · rename_i h1 h2
      have hg : gr_ x ≤ 100 := by unfold gr_; split <;> decide
      have hx := cl_b (x := y) (a := 0) (b := 100) (fun q => h2 (Or.inr (Or.inr (Or.inl q)))) (fun q => h2 (Or.inr (Or.inr (Or.inr (Int32.lt_of_le_of_lt hg q))))) (by decide) (by decide)
      obtain ⟨m, ⟨⟨a1, a2, a3, a4, a5, a6, a7, a8, a9, a10, a11, a12⟩, b1, b2, b3, b4⟩, c⟩ := h
      refine ⟨m, ⟨⟨a1, a2, a3, a4, ⟨a5.1, a5.2.1, fun i hi => ?_⟩, a6, a7, a8, a9, a10, a11, a12⟩, b1, b2, b3, mirOk_r b4 rfl rfl rfl rfl⟩, c⟩
      show va_up (ru_ s) (cl_ x) (cl_ y) i ≤ 100
      simp only [va_up]
      split
      · exact hx.2
      · exact a5.2.2 i hi
theorem hist_ev {s : SG} (h : histOk s) (hn : nh_ s < 240) {e b : Nat} (he : e ≤ 3) (h1 : e ≤ 1 → b < 80) (h2 : 2 ≤ e → b < 40) : histOk (s_ev s e b) := by
  refine ⟨hn, fun j hj => ?_⟩
  have hj : j < nh_ s + 1 := hj
  show va_up (hk_ s) (nh_ s) e j ≤ 3 ∧ (va_up (hk_ s) (nh_ s) e j ≤ 1 → va_up (hw_ s) (nh_ s) b j < 80) ∧ (2 ≤ va_up (hk_ s) (nh_ s) e j → va_up (hw_ s) (nh_ s) b j < 40)
  simp only [va_up]
  by_cases q : j = nh_ s
  · rw [if_pos q, if_pos q]; exact ⟨he, h1, h2⟩
  · rw [if_neg q, if_neg q]; exact h.2 j (by omega)
theorem mir_ev {s : SG} {k : KG} (h : mirOk s k) (e b : Nat) : mirOk (s_ev s e b) k := mirOk_c h rfl (Nat.le_succ _) (fun q hq => by
  show va_up (hk_ s) (nh_ s) e q = hk_ s q ∧ va_up (hw_ s) (nh_ s) b q = hw_ s q
  simp only [va_up]
  rw [if_neg (by omega), if_neg (by omega)]
  exact ⟨rfl, rfl⟩)
theorem hB_ev {s : SG} {nb ns nb' ns' e b : Nat} (h : hB nb ns s) (h1 : nb ≤ nb') (h2 : ns ≤ ns') (h3 : e ≤ 1 → b < nb') (h4 : 2 ≤ e → b < ns') : hB nb' ns' (s_ev s e b) := by
  intro j hj
  have hj : j < nh_ s + 1 := hj
  show (va_up (hk_ s) (nh_ s) e j ≤ 1 → va_up (hw_ s) (nh_ s) b j < nb') ∧ (2 ≤ va_up (hk_ s) (nh_ s) e j → va_up (hw_ s) (nh_ s) b j < ns')
  simp only [va_up]
  by_cases q : j = nh_ s
  · rw [if_pos q, if_pos q]; exact ⟨h3, h4⟩
  · rw [if_neg q, if_neg q]
    obtain ⟨x, y⟩ := h j (by omega)
    exact ⟨fun z => Nat.lt_of_lt_of_le (x z) h1, fun z => Nat.lt_of_lt_of_le (y z) h2⟩
theorem JI_rmv {n : Nat} {s : SG} {k : KG} (h : JI n s k) {b : Nat} (hb : b < ns_ s) (hk : kp_ s b = true) : JI n (s_rmv s b) k := by
  have h := JI_w1 h
  obtain ⟨X, e⟩ := w1_e s
  unfold s_rmv
  rw [e] at h ⊢
  obtain ⟨m, ⟨⟨a1, a2, a3, a4, a5, a6, a7, a8, a9, a10, a11, a12⟩, b1, b2, b3, b4⟩, c⟩ := h
  have hc := cntN_clr (p := kp_ s) hk hb
  have hh : nh_ s < 240 := by
    have h1 : nh_ s + thereN s = nb_ s + nfr_ s + 2 * ns_ s := a6.2.1
    have h2 : nfr_ s + cntN (fun j => th_ s j) (nb_ s) = nb_ s := a6.2.2.1
    have h3 : thereN s = cntN (kp_ s) (ns_ s) := rfl
    have h4 : nb_ s ≤ 80 := a1.1
    have h5 : ns_ s ≤ 40 := a3.1
    omega
  refine ⟨m, ⟨⟨a1, a2, a3, a4, a5, ⟨hist_ev a6.1 hh (by decide) (fun q => absurd q (by decide)) (fun _ => Nat.lt_of_lt_of_le hb a3.1), ?_, a6.2.2.1, ?_⟩, a7, a8, a9, ⟨a10.1, ?_, a10.2.2⟩, ?_, a12⟩, b1, b2, b3, mirOk_r (mir_ev b4 3 b) rfl rfl rfl rfl⟩, c⟩
  · show nh_ s + 1 + cntN (va_up (kp_ s) b false) (ns_ s) = nb_ s + nfr_ s + 2 * ns_ s
    have h1 : nh_ s + cntN (kp_ s) (ns_ s) = nb_ s + nfr_ s + 2 * ns_ s := a6.2.1
    omega
  · refine ⟨?_, hB_ev (e := 3) (b := b) a6.2.2.2.2 (Nat.le_refl _) (Nat.le_refl _) (fun q => absurd q (by decide)) (fun _ => hb)⟩
    show cntN (va_up (kp_ s) b false) (ns_ s) ≤ 10
    have h1 : cntN (kp_ s) (ns_ s) ≤ 10 := a6.2.2.2.1
    omega
  · exact fun j hj q => a10.2.1 j hj (up_f q)
  · intro e9
    obtain ⟨p1, p2, p3, p4⟩ := a11 e9
    exact ⟨p1, p2, fun j hj q => p3 j hj (up_f q), p4⟩
theorem JI_drop {n : Nat} {s : SG} {k : KG} (h : JI n s k) (x : Int32) : JI n (a_drop s x).2 k := by
  unfold a_drop
  split
  · exact h
  · split
    · rename_i h1 h2
      split
      · exact JI_lost h
      · obtain ⟨j, hj, e⟩ := anyN_iff.mp h2
        rw [Bool.and_eq_true] at e
        have e1 : x = nI j := of_decide_eq_true e.1
        have e2 : cl_ x = j := by rw [e1]; exact nI_clamp (by have := h.A.1.2.2.1.1; omega)
        show JI n (s_rmv s (cl_ x)) k
        rw [e2]
        exact JI_rmv h hj e.2
    · exact h
theorem JI_prL {n : Nat} {k : KG} {g : Nat → Bool} {N : Nat} : ∀ (m i : Nat) (s : SG), JI n s k → ns_ s = N → i + m ≤ N → (∀ j, i ≤ j → j < N → g j = true → kp_ s j = true) → ((prL g m i s).1 = true → JI n (prL g m i s).2 k) ∧ ((prL g m i s).1 = false → JI n (s_gone (prL g m i s).2) k) := by
  intro m
  induction m with
  | zero => intro i s h _ _ _; exact ⟨fun _ => h, fun e => by cases e⟩
  | succ m ih =>
    intro i s h hN hi hg
    rw [prL]
    split
    · rename_i h1
      split
      · exact ⟨fun e => (Bool.noConfusion (show false = true from e)), fun _ => JI_lost h⟩
      · refine ih (i + 1) _ (JI_rmv h (by omega) (hg i (Nat.le_refl _) (by omega) h1)) ?_ (by omega) (fun j hj hj2 e => ?_)
        · rw [← hN]; exact s_rmv_1 s i 7 (by decide)
        · show va_up (kp_ s) i false j = true
          simp only [va_up]
          rw [if_neg (by omega)]
          exact hg j (by omega) hj2 e
    · exact ih (i + 1) s h hN (by omega) (fun j hj hj2 e => hg j (by omega) hj2 e)
theorem JI_prune {n : Nat} {s : SG} {k : KG} (h : JI n s k) (w : Bool) : JI n (a_prune s w).2 k := by
  unfold a_prune
  have e := JI_prL (g := unkB s) (ns_ s) 0 s h rfl (by omega) (fun j _ _ q => by unfold unkB at q; rw [Bool.and_eq_true] at q; exact q.1)
  split
  · exact h
  · split
    · exact h
    · split
      · rename_i q; exact e.1 q
      · rename_i q; exact e.2 (by revert q; cases (prL (unkB s) (ns_ s) 0 s).1 <;> simp)
theorem sv_ok {s : SG} {x : Int32} (h : svOk s x = true) : cl_ x < 4 ∧ x = nI (cl_ x) ∧ sv_ s (cl_ x) = true := by
  obtain ⟨j, hj, e⟩ := anyN_iff.mp h
  rw [Bool.and_eq_true] at e
  have e1 : x = nI j := of_decide_eq_true e.1
  have e2 : cl_ x = j := by rw [e1]; exact nI_clamp (by omega)
  rw [e2]
  exact ⟨hj, e1, e.2⟩
theorem JI_com {n : Nat} {s : SG} {k : KG} (h : JI n s k) {j g : Nat} (hj : j < 4) (hs : sv_ s j = true) (hns : ns_ s < 40) (h10 : thereN s < 10) : JI n (s_com s j g) k := by
  have h := JI_w1 h
  obtain ⟨X, e⟩ := w1_e s
  unfold s_com
  rw [e] at h ⊢
  obtain ⟨m, ⟨⟨a1, a2, a3, a4, a5, a6, a7, a8, a9, a10, a11, a12⟩, b1, b2, b3, b4⟩, c⟩ := h
  have hc : cntN (va_up (kp_ s) (ns_ s) true) (ns_ s + 1) = cntN (kp_ s) (ns_ s) + 1 := by
    rw [cntN, cntN_out (Nat.le_refl _)]
    simp [va_up]
  have hh : nh_ s < 240 := by
    have h1 : nh_ s + thereN s = nb_ s + nfr_ s + 2 * ns_ s := a6.2.1
    have h2 : nfr_ s + cntN (fun j => th_ s j) (nb_ s) = nb_ s := a6.2.2.1
    have h4 : nb_ s ≤ 80 := a1.1
    omega
  have hu : um_ s j ≤ 8 ∧ ∀ q, q < um_ s j → us_ s j q < nb_ s := ⟨(a4 j hj).1, (a4 j hj).2.2.1⟩
  have hus := a10.2.2 j hj hs
  have hnow := a5.1.1
  refine ⟨m, ⟨⟨a1, a2, ⟨hns, ?_⟩, a4, ⟨⟨a5.1.1, fun i hi q => a5.1.2 i hi (up_f q)⟩, ?_, a5.2.2⟩, ⟨hist_ev a6.1 hh (by decide) (fun q => absurd q (by decide)) (fun _ => hns), ?_, a6.2.2.1, ?_⟩, a7, a8, a9, ⟨a10.1, ?_, fun i hi q => a10.2.2 i hi (up_f q)⟩, ?_, a12⟩, b1, b2, b3, mirOk_r (mir_ev b4 2 (ns_ s)) rfl rfl rfl rfl⟩, c⟩
  · intro i hi
    have hi : i < ns_ s + 1 := hi
    show va_up (rm_ s) (ns_ s) (um_ s j) i ≤ 8 ∧ ∀ q, q < va_up (rm_ s) (ns_ s) (um_ s j) i → va_up (ro_ s) (ns_ s) (us_ s j) i q < nb_ s
    simp only [va_up]
    by_cases q : i = ns_ s
    · rw [if_pos q, if_pos q]; exact hu
    · rw [if_neg q, if_neg q]; exact a3.2 i (by show i < ns_ s; omega)
  · intro i hi
    have hi : i < ns_ s + 1 := hi
    show -1000000000000 ≤ (va_up (tm_ s) (ns_ s) (now_ s) i).toInt ∧ (va_up (tm_ s) (ns_ s) (now_ s) i).toInt ≤ 1000000000000
    simp only [va_up]
    by_cases q : i = ns_ s
    · rw [if_pos q]
      have h1 : -10000000000 ≤ (now_ s).toInt := hnow.1
      have h2 : (now_ s).toInt ≤ 1000000000000 := hnow.2
      omega
    · rw [if_neg q]; exact a5.2.1 i (by show i < ns_ s; omega)
  · show nh_ s + 1 + cntN (va_up (kp_ s) (ns_ s) true) (ns_ s + 1) = nb_ s + nfr_ s + 2 * (ns_ s + 1)
    have h1 : nh_ s + cntN (kp_ s) (ns_ s) = nb_ s + nfr_ s + 2 * ns_ s := a6.2.1
    omega
  · refine ⟨?_, hB_ev (e := 2) (b := ns_ s) a6.2.2.2.2 (Nat.le_refl _) (Nat.le_succ _) (fun q => absurd q (by decide)) (fun _ => Nat.lt_succ_self _)⟩
    show cntN (va_up (kp_ s) (ns_ s) true) (ns_ s + 1) ≤ 10
    rw [hc]
    exact h10
  · intro i hi
    have hi : i < ns_ s + 1 := hi
    show va_up (kp_ s) (ns_ s) true i = true → ∀ q, q < va_up (rm_ s) (ns_ s) (um_ s j) i → th_ s (va_up (ro_ s) (ns_ s) (us_ s j) i q) = true
    simp only [va_up]
    by_cases q : i = ns_ s
    · rw [if_pos q, if_pos q, if_pos q]; exact fun _ i hi => (hus i hi).1
    · rw [if_neg q, if_neg q, if_neg q]; exact a10.2.1 i (by show i < ns_ s; omega)
  · intro e9
    obtain ⟨p1, p2, p3, p4⟩ := a11 e9
    refine ⟨p1, p2, ?_, fun i hi q => p4 i hi (up_f q)⟩
    intro i hi
    have hi : i < ns_ s + 1 := hi
    show va_up (kp_ s) (ns_ s) true i = true → ∀ q, q < va_up (rm_ s) (ns_ s) (um_ s j) i → va_up (ro_ s) (ns_ s) (us_ s j) i q < end_ s → mkr s (va_up (ro_ s) (ns_ s) (us_ s j) i q)
    simp only [va_up]
    by_cases q : i = ns_ s
    · rw [if_pos q, if_pos q, if_pos q]; exact fun _ => p4 j hj hs
    · rw [if_neg q, if_neg q, if_neg q]; exact p3 i (by show i < ns_ s; omega)
theorem JI_commit {n : Nat} {s : SG} {k : KG} (h : JI n s k) (x g : Int32) : JI n (a_commit s x g).2 k := by
  unfold a_commit
  split
  · exact h
  · split
    · rename_i h1 h2
      split
      · exact h
      · split
        · exact h
        · split
          · exact h
          · rename_i h3
            split
            · exact JI_lost h
            · obtain ⟨e1, e2, e3⟩ := sv_ok h2
              exact JI_com h e1 e3 (by omega) (by omega)
    · exact h
theorem rcK_hi {s : SG} {i q : Nat} {r : Nat → Bool} (hk : ∀ j, j < cm_ s i → ch_ s i j < i) (h : i ≤ q) : rcK s i r q = r q := by
  unfold rcK rcP
  rw [anyN_f (fun j hj => decide_eq_false (fun e => by have := hk j hj; omega)), Bool.or_false]
theorem rdown_hi {s : SG} (hkd : kidsOk s) : ∀ (n : Nat) (r : Nat → Bool) (q : Nat), n ≤ nb_ s → n ≤ q + 1 → rdown s n r q = r q := by
  intro n
  induction n with
  | zero => intro r q _ _; rfl
  | succ n ih =>
    intro r q hn hq
    rw [rdown, ih _ q (by omega) (by omega)]
    split
    · exact rcK_hi (hkd n (by omega)).2 (by omega)
    · rfl
theorem rdown_mono {s : SG} : ∀ (n : Nat) (r : Nat → Bool) (q : Nat), r q = true → rdown s n r q = true := by
  intro n
  induction n with
  | zero => intro r q h; exact h
  | succ n ih =>
    intro r q h
    rw [rdown]
    refine ih _ q ?_
    split
    · unfold rcK rcP; rw [h]; rfl
    · exact h
theorem rdown_cl {s : SG} (hkd : kidsOk s) : ∀ (n : Nat) (r : Nat → Bool) (q : Nat), n ≤ nb_ s → q < n → rdown s n r q = true → ∀ i, i < cm_ s q → rdown s n r (ch_ s q i) = true := by
  intro n
  induction n with
  | zero => intro r q _ hq; exact absurd hq (Nat.not_lt_zero _)
  | succ n ih =>
    intro r q hn hq h i hi
    rw [rdown] at h ⊢
    by_cases e : q = n
    · subst e
      rw [rdown_hi hkd _ _ q (by omega) (by omega)] at h
      have h2 : r q = true := by
        split at h
        · exact h |> fun x => by rw [rcK_hi (hkd q (by omega)).2 (Nat.le_refl _)] at x; exact x
        · exact h
      refine rdown_mono _ _ _ ?_
      rw [if_pos h2]
      unfold rcK rcP
      rw [anyN_t hi (decide_eq_true rfl), Bool.or_true]
    · exact ih _ q (by omega) (by omega) h i hi
theorem rC_self (s : SG) (b : Nat) : rC s b b = true := rdown_mono _ _ _ (by simp [va_up])
theorem rC_cl {s : SG} {b : Nat} (hkd : kidsOk s) (hb : b < nb_ s) {q : Nat} (h : rC s b q = true) {i : Nat} (hi : i < cm_ s q) : rC s b (ch_ s q i) = true := rdown_cl hkd (b + 1) _ q hb (by have := rC_sub hkd hb q h; omega) h i hi
theorem rC_th {s : SG} {b : Nat} (hkd : kidsOk s) (hb : b < nb_ s) (ht : ∀ p, p < nb_ s → th_ s p = true → ∀ i, i < cm_ s p → th_ s (ch_ s p i) = true) (h : th_ s b = true) : ∀ q, rC s b q = true → th_ s q = true := rfrom_sub s hb ht h (fun q e => by cases e)
theorem revL_e (r : Nat → Bool) : ∀ (n j : Nat) (s : SG) (c : Nat), ∃ X d v w, j ≤ w ∧ w ≤ j + n ∧ ((revL r n j s c).1 = true → w = j + n) ∧ (revL r n j s c).2.1 = (va_up s.1 3 v, X, s.2.2.1, d, va_up s.2.2.2.2.1 5 (fun q => if j ≤ q ∧ q < w ∧ r q = true then 0 else wt_ s q), s.2.2.2.2.2) := by
  intro n
  induction n with
  | zero =>
    intro j s c
    refine ⟨s.2.1, s.2.2.2.1, s.1 3, j, Nat.le_refl _, Nat.le_refl _, fun _ => rfl, ?_⟩
    rw [va_up_id, show (fun q => if j ≤ q ∧ q < j ∧ r q = true then 0 else wt_ s q) = s.2.2.2.2.1 5 from funext (fun q => if_neg (by omega)), va_up_id]
    rfl
  | succ n ih =>
    intro j s c
    rw [revL]
    split
    · rename_i h
      rw [Bool.and_eq_true] at h
      split
      · refine ⟨va_up s.2.1 0 (-1), true, s.1 3, j, Nat.le_refl _, by omega, fun e => (Bool.noConfusion (show false = true from e)), ?_⟩
        rw [va_up_id, show (fun q => if j ≤ q ∧ q < j ∧ r q = true then 0 else wt_ s q) = s.2.2.2.2.1 5 from funext (fun q => if_neg (by omega)), va_up_id]
        rfl
      · obtain ⟨X, d, v, w, h1, h2, h3, h4⟩ := ih (j + 1) (s_rev1 s j) (c + 1)
        refine ⟨X, d, v, w, by omega, by omega, fun e => by have := h3 e; omega, ?_⟩
        rw [h4]
        obtain ⟨Y, e⟩ := w1_e s
        have e3 : s_rev1 s j = (va_up s.1 3 (nrv_ s + 1), Y, s.2.2.1, s.2.2.2.1, va_up s.2.2.2.2.1 5 (va_up (wt_ s) j 0), s.2.2.2.2.2) := by unfold s_rev1 s_await; rw [e]
        rw [e3]
        dsimp only
        rw [va_up2, va_up2]
        refine congrArg (fun f => (va_up s.1 3 v, X, s.2.2.1, d, va_up s.2.2.2.2.1 5 f, s.2.2.2.2.2)) (funext (fun q => ?_))
        show (if j + 1 ≤ q ∧ q < w ∧ r q = true then 0 else va_up (wt_ s) j 0 q) = _
        simp only [va_up]
        by_cases e1 : q = j
        · subst e1
          rw [if_neg (by omega), if_pos rfl, if_pos ⟨Nat.le_refl _, by omega, h.1⟩]
        · rw [if_neg e1]
          by_cases e2 : j + 1 ≤ q ∧ q < w ∧ r q = true
          · rw [if_pos e2, if_pos ⟨by omega, e2.2⟩]
          · rw [if_neg e2, if_neg (fun x => e2 ⟨by omega, x.2⟩)]
    · rename_i h
      obtain ⟨X, d, v, w, h1, h2, h3, h4⟩ := ih (j + 1) s c
      refine ⟨X, d, v, w, by omega, by omega, fun e => by have := h3 e; omega, ?_⟩
      rw [h4]
      refine congrArg (fun f => (va_up s.1 3 v, X, s.2.2.1, d, va_up s.2.2.2.2.1 5 f, s.2.2.2.2.2)) (funext (fun q => ?_))
      by_cases e1 : q = j
      · subst e1
        rw [if_neg (by omega)]
        by_cases e2 : r q = true
        · have : wt_ s q = 0 := by
            rw [e2, Bool.true_and] at h
            have := of_decide_eq_false (Bool.eq_false_iff.mpr h)
            omega
          rw [this]; split <;> rfl
        · rw [if_neg (fun x => e2 x.2.2)]
      · by_cases e2 : j + 1 ≤ q ∧ q < w ∧ r q = true
        · rw [if_pos e2, if_pos ⟨by omega, e2.2⟩]
        · rw [if_neg e2, if_neg (fun x => e2 ⟨by omega, x.2⟩)]
/-- some blocks' waiting ends: with each, its children's -/
abbrev s_wk (s : SG) (X : Nat → Int32) (d : Bool) (v : Nat) (g : Nat → Nat) : SG := (va_up s.1 3 v, X, s.2.2.1, d, va_up s.2.2.2.2.1 5 g, s.2.2.2.2.2)
theorem JA_wk {n : Nat} {s : SG} (h : JA n s) {r : Nat → Bool} {w : Nat} (hr : ∀ q, q < nb_ s → r q = true → ∀ i, i < cm_ s q → r (ch_ s q i) = true) (X : Nat → Int32) (d : Bool) (v : Nat) : JA n (s_wk s X d v (fun q => if 0 ≤ q ∧ q < w ∧ r q = true then 0 else wt_ s q)) := by
  obtain ⟨a1, a2, a3, a4, a5, a6, a7, a8, a9, a10, a11, a12⟩ := h
  refine ⟨a1, a2, a3, a4, a5, a6, a7, ⟨a8.1, fun b => ?_, a8.2.2⟩, a9, ⟨fun p hp ht i hi => ⟨(a10.1 p hp ht i hi).1, ?_⟩, a10.2.1, fun j hj hs i hi => ⟨(a10.2.2 j hj hs i hi).1, ?_⟩⟩, a11, a12⟩
  · show (if 0 ≤ b ∧ b < w ∧ r b = true then 0 else wt_ s b) ≤ nsw_ s ∧ (th_ s b = false → (if 0 ≤ b ∧ b < w ∧ r b = true then 0 else wt_ s b) = 0)
    split
    · exact ⟨Nat.zero_le _, fun _ => rfl⟩
    · exact a8.2.1 b
  · show 0 < (if 0 ≤ ch_ s p i ∧ ch_ s p i < w ∧ r (ch_ s p i) = true then 0 else wt_ s (ch_ s p i)) → 0 < (if 0 ≤ p ∧ p < w ∧ r p = true then 0 else wt_ s p) ∧ (if 0 ≤ p ∧ p < w ∧ r p = true then 0 else wt_ s p) ≤ (if 0 ≤ ch_ s p i ∧ ch_ s p i < w ∧ r (ch_ s p i) = true then 0 else wt_ s (ch_ s p i))
    have hc := (a2 p hp).2 i hi
    by_cases e : 0 ≤ ch_ s p i ∧ ch_ s p i < w ∧ r (ch_ s p i) = true
    · rw [if_pos e]; intro x; omega
    · rw [if_neg e, if_neg (fun x => e ⟨Nat.zero_le _, by omega, hr p hp x.2.2 i hi⟩)]
      exact (a10.1 p hp ht i hi).2
  · show (if 0 ≤ us_ s j i ∧ us_ s j i < w ∧ r (us_ s j i) = true then 0 else wt_ s (us_ s j i)) = 0
    have := (a10.2.2 j hj hs i hi).2
    rw [this]
    split <;> rfl
theorem cntN_imp {p q : Nat → Bool} {n : Nat} (h : ∀ i, p i = true → q i = true) : cntN p n ≤ cntN q n := cntN_sub h
theorem JI_tk {n : Nat} {s : SG} {k : KG} (h : JI n s k) {j b : Nat} (hj : j < 4) (hb : b < nb_ s) (hth : th_ s b = true) : JI (n + 1) (a_tk s j b).2 k := by
  have hA := h.A
  obtain ⟨X, d, v, w, h1, h2, h3, h4⟩ := revL_e (rC s b) (nb_ s) 0 s 0
  have hkd := hA.1.2.1
  have hr : ∀ q, q < nb_ s → rC s b q = true → ∀ i, i < cm_ s q → rC s b (ch_ s q i) = true := fun q _ e i hi => rC_cl hkd hb e hi
  have hJA := JA_wk hA.1 (w := w) hr X d v
  have eT : (tkS s b).2.1 = s_wk s X d v (fun q => if 0 ≤ q ∧ q < w ∧ rC s b q = true then 0 else wt_ s q) := h4
  unfold a_tk
  by_cases hok : (tkS s b).1 = true
  · rw [if_pos hok]
    have ew : w = 0 + nb_ s := h3 hok
    obtain ⟨m, ⟨a, b1, b2, b3, b4⟩, c⟩ := h
    show JI (n + 1) (s_use (s_sp (tkS s b).2.1 (rC s b) b) j b) k
    rw [eT]
    obtain ⟨W, hW⟩ : ∃ W, W = (fun q => if 0 ≤ q ∧ q < w ∧ rC s b q = true then 0 else wt_ s q) := ⟨_, rfl⟩
    rw [← hW] at hJA ⊢
    have W1 : ∀ q, q < nb_ s → rC s b q = true → W q = 0 := fun q hq e => by rw [hW]; exact if_pos ⟨Nat.zero_le _, by omega, e⟩
    have W2 : ∀ q, W q ≤ wt_ s q := fun q => by rw [hW]; show (if _ then _ else _) ≤ _; split <;> omega
    have W3 : ∀ q, rC s b q = false → W q = wt_ s q := fun q e => by rw [hW]; exact if_neg (fun x => by rw [e] at x; exact absurd x.2.2 (by decide))
    have hbW : W b = 0 := W1 b hb (rC_self s b)
    obtain ⟨a1, a2, a3, a4, a5, a6, a7, a8, a9, a10, a11, a12⟩ := hJA
    have hVK : VK (s_wk s X d v W) k := b3
    have hM : mirOk (s_wk s X d v W) k := mirOk_r b4 rfl rfl rfl rfl
    have g1 : ph_ s = 1 ∨ ph_ s = 2 → 0 < nsw_ s ∧ ∀ q, q < nb_ s → W q < nsw_ s := fun e => ⟨(b1.1 e).1, fun q hq => Nat.lt_of_le_of_lt (W2 q) ((b1.1 e).2 q hq)⟩
    unfold s_sp
    by_cases p23 : ph_ s = 2 ∨ ph_ s = 3
    · rw [if_pos (show ph_ (s_wk s X d v W) = 2 ∨ ph_ (s_wk s X d v W) = 3 from p23)]
      obtain ⟨M, hM2⟩ : ∃ M, M = mkP (s_wk s X d v W) (rC s b) (nb_ s) := ⟨_, rfl⟩
      have hp1 : ph_ s ≠ 1 := by omega
      have M1 : ∀ q, M q = true ↔ (mk_ s q = true ∨ (q < nb_ s ∧ rC s b q = true)) := by
        intro q
        rw [hM2]
        show (mk_ s q || (decide (q < nb_ s) && rC s b q)) = true ↔ _
        rw [Bool.or_eq_true, Bool.and_eq_true, decide_eq_true_iff]
      have mk1 : ∀ c, mkr s c → M c = true := fun c e => (M1 c).mpr (e.elim Or.inl (fun x => absurd x.1 hp1))
      have hmr : ∀ c, mkr s c → mkr (sGb (s_wk s X d v W) 1 M) c := fun c e => Or.inl (mk1 c e)
      show JI (n + 1) (s_use (sGb (s_wk s X d v W) 1 (mkP (s_wk s X d v W) (rC s b) (nb_ s))) j b) k
      rw [← hM2]
      have hJ : JI (n + 1) (sGb (s_wk s X d v W) 1 M) k := by
        refine ⟨m, ⟨⟨a1, a2, a3, a4, a5, a6, a7, ⟨Nat.le_succ_of_le a8.1, a8.2.1, fun q hq => ?_⟩, ⟨a9.1, ?_, a9.2.2⟩, a10, fun e9 => ?_, a12⟩, ⟨g1, fun e q hq hq2 => ?_, fun e => ⟨fun q h1 h2 h3 h4 => ?_, fun q hq => Nat.lt_of_le_of_lt (W2 q) ((b1.2.2 e).2 q hq)⟩⟩, b2, hVK, mirOk_r hM rfl rfl rfl rfl⟩, c⟩
        · have hq : nb_ s ≤ q := hq
          show M q = false
          cases e : M q with
          | false => rfl
          | true => exact ((M1 q).mp e).elim (fun x => by rw [a8.2.2 q hq] at x; cases x) (fun x => absurd x.1 (by omega))
        · have h9 : rt_ s + nb_ s ≤ 112 + 4 * cntN (mk_ s) (nb_ s) + n := a9.2.1
          have h10 : cntN (mk_ s) (nb_ s) ≤ cntN M (nb_ s) := cntN_sub (fun i e => (M1 i).mpr (Or.inl e))
          show rt_ s + nb_ s ≤ 112 + 4 * cntN M (nb_ s) + (n + 1)
          omega
        · obtain ⟨q1, q2, q3, q4⟩ := a11 e9
          refine ⟨q1, fun c hc e i hi hl => ?_, fun c hc e i hi hl => hmr _ (q3 c hc e i hi hl), fun c hc e i hi hl => hmr _ (q4 c hc e i hi hl)⟩
          have e : M c = true ∨ end_ s ≤ c := e
          by_cases e2 : mk_ s c = true ∨ end_ s ≤ c
          · exact hmr _ (q2 c hc e2 i hi hl)
          · have e3 : M c = true := e.elim (fun x => x) (fun x => absurd (Or.inr x) e2)
            have e4 := ((M1 c).mp e3).elim (fun x => absurd (Or.inl x) e2) (fun x => x)
            exact Or.inl ((M1 _).mpr (Or.inr ⟨by have := (hkd c hc).2 i hi; show ch_ s c i < nb_ s; have hc : c < nb_ s := hc; omega, rC_cl hkd hb e4.2 hi⟩))
        · have hq2 : M q = true := hq2
          show W q = 0
          rcases (M1 q).mp hq2 with x | x
          · have := b1.2.1 e q hq x
            have := W2 q
            omega
          · exact W1 q x.1 x.2
        · have h4 : M q = false := h4
          have e5 : mk_ s q = false := by cases e : mk_ s q with | false => rfl | true => rw [(M1 q).mpr (Or.inl e)] at h4; cases h4
          have hqn : q < nb_ s := Nat.lt_of_lt_of_le h2 (a11 (Or.inr (Or.inr e))).1
          have e6 : rC s b q = false := by cases e : rC s b q with | false => rfl | true => rw [(M1 q).mpr (Or.inr ⟨hqn, e⟩)] at h4; cases h4
          show W q = nsw_ s
          rw [W3 q e6]
          exact (b1.2.2 e).1 q h1 h2 h3 e5
      exact JI_use hJ hj hb hth hbW (fun _ _ => Or.inl ((M1 b).mpr (Or.inr ⟨hb, rC_self s b⟩)))
    · rw [if_neg (show ¬ (ph_ (s_wk s X d v W) = 2 ∨ ph_ (s_wk s X d v W) = 3) from p23)]
      have g2 : VG3 (s_wk s X d v W) m := ⟨g1, fun e => absurd (Or.inl e) p23, fun e => absurd (Or.inr e) p23⟩
      by_cases p1 : ph_ s = 1 ∧ mk_ s b = false
      · rw [if_pos (show ph_ (s_wk s X d v W) = 1 ∧ mk_ (s_wk s X d v W) b = false from p1)]
        have hmr : ∀ c, mkr s c → mkr (s_line (s_wk s X d v W) b) c := by
          intro c e
          rcases e with e | ⟨e, q, q1, q2, q3⟩
          · exact Or.inl e
          · refine Or.inr ⟨e, q, q1, Nat.lt_succ_of_lt q2, ?_⟩
            show va_up (rw_ s) (rt_ s) b q = c
            simp only [va_up]
            rw [if_neg (by omega)]
            exact q3
        have hJ : JI (n + 1) (s_line (s_wk s X d v W) b) k := by
          refine ⟨m, ⟨⟨a1, a2, a3, a4, a5, a6, a7, ⟨Nat.le_succ_of_le a8.1, a8.2⟩, ⟨Nat.le_succ_of_le a9.1, ?_, fun q hq => ?_, fun e => ?_⟩, a10, fun e9 => ?_, a12⟩, g2, b2, hVK, mirOk_r hM rfl rfl rfl rfl⟩, ⟨fun e => Nat.lt_succ_of_lt (c.1 e), c.2⟩⟩
          · have h9 : rt_ s + nb_ s ≤ 112 + 4 * cntN (mk_ s) (nb_ s) + n := a9.2.1
            show rt_ s + 1 + nb_ s ≤ 112 + 4 * cntN (mk_ s) (nb_ s) + (n + 1)
            omega
          · have hq : q < rt_ s + 1 := hq
            show va_up (rw_ s) (rt_ s) b q < nb_ s
            simp only [va_up]
            split
            · exact hb
            · exact a9.2.2.1 q (by show q < rt_ s; omega)
          · have e : 2 ≤ ph_ s := e
            omega
          · obtain ⟨q1, q2, q3, q4⟩ := a11 e9
            exact ⟨q1, fun c hc e i hi hl => hmr _ (q2 c hc e i hi hl), fun c hc e i hi hl => hmr _ (q3 c hc e i hi hl), fun c hc e i hi hl => hmr _ (q4 c hc e i hi hl)⟩
        refine JI_use hJ hj hb hth hbW (fun _ _ => Or.inr ⟨p1.1, rt_ s, a9.1, Nat.lt_succ_self _, ?_⟩)
        show va_up (rw_ s) (rt_ s) b (rt_ s) = b
        simp only [va_up, if_true]
      · rw [if_neg (show ¬ (ph_ (s_wk s X d v W) = 1 ∧ mk_ (s_wk s X d v W) b = false) from p1)]
        have hJ : JI n (s_wk s X d v W) k := ⟨m, ⟨⟨a1, a2, a3, a4, a5, a6, a7, a8, a9, a10, a11, a12⟩, g2, b2, hVK, hM⟩, c⟩
        refine JI_use hJ.mono hj hb hth hbW (fun e _ => ?_)
        have e : ph_ s = 1 ∨ ph_ s = 2 ∨ ph_ s = 3 := e
        have e1 : ph_ s = 1 := by omega
        refine Or.inl ?_
        cases e2 : mk_ s b with
        | true => rfl
        | false => exact absurd ⟨e1, e2⟩ p1
  · rw [if_neg hok]
    show JI (n + 1) (s_gone (tkS s b).2.1) k
    rw [eT]
    exact (JI_gone hJA hA.2.1 (mirOk_r hA.2.2 rfl rfl rfl rfl)).mono
theorem holds_ok {s : SG} {x : Int32} (hb : nb_ s ≤ 80) (h : holdsB s x = true) : cl_ x < nb_ s ∧ x = nI (cl_ x) ∧ th_ s (cl_ x) = true := by
  obtain ⟨j, hj, e⟩ := anyN_iff.mp h
  rw [Bool.and_eq_true] at e
  have e1 : x = nI j := of_decide_eq_true e.1
  have e2 : cl_ x = j := by rw [e1]; exact nI_clamp (by omega)
  rw [e2]
  exact ⟨hj, e1, e.2⟩
theorem JI_take {n : Nat} {s : SG} {k : KG} (h : JI n s k) (x b : Int32) : JI (n + 1) (a_take s x b).2 k := by
  unfold a_take
  split
  · exact h.mono
  · split
    · rename_i h1 h2
      split
      · rename_i h3
        split
        · exact (JI_rn h _).mono
        · split
          · obtain ⟨e1, e2, e3⟩ := sv_ok h2
            obtain ⟨f1, f2, f3⟩ := holds_ok h.A.1.1.1 h3
            obtain ⟨y, ey, _, _⟩ := s_rn_e s (cl_ x)
            have := JI_tk (JI_rn h (cl_ x)) e1 (b := cl_ b) (by rw [ey]; exact f1) (by rw [ey]; exact f3)
            split
            · exact this
            · exact this
          · exact (JI_rn h _).mono
      · exact (JI_rn h _).mono
    · exact h.mono
theorem JI_child {n : Nat} {s : SG} {k : KG} (h : JI n s k) (x b : Int32) : JI n (a_child s x b).2 k := by
  unfold a_child
  split
  · exact h
  · split
    · rename_i h1 h2
      split
      · rename_i h3
        split
        · exact JI_rn h _
        · rename_i h4
          split
          · rename_i h5
            obtain ⟨e1, e2, e3⟩ := sv_ok h2
            obtain ⟨f1, f2, f3⟩ := holds_ok h.A.1.1.1 h3
            have hj := JI_rn h (cl_ x)
            obtain ⟨y, ey, _, _⟩ := s_rn_e s (cl_ x)
            refine JI_kid hj e1 (by rw [ey]; exact h5) (by have := h.A.1.1.1; omega) ?_
            rw [ey]
            show usesB s (cl_ x) (nI (cl_ b)) = true
            rw [← f2]
            cases e : usesB s (cl_ x) b with
            | true => rfl
            | false => exact absurd (Or.inr e) h4
          · exact JI_rn h _
      · exact JI_rn h _
    · exact h
