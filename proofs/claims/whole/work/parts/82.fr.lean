/-! CALLS THAT MAKE CELLS: WHAT LIES BESIDE STAYS -/
theorem kw_P.toQ {l : Launch} {y : MethodName} {cc : ByteArray} {nL : Nat} {ret : Option FieldType} {R : Room} {As : List PV} {h : PH} {P : Option PV → PH → Prop} (hM : kw_P l y cc nL ret R As h P) : kw_Q l y cc nL ret R As h P := by
  intro D ad sz p e ha hc hk s m args below hf happ hpc ht
  obtain ⟨t, o, a1, a2, a3, ⟨⟨r, ad', h', b1, ⟨b2, b3⟩, b4⟩, b5⟩, b6⟩ := hM D ad sz p e ha hc hk s m args below hf happ hpc ht
  exact ⟨t, o, a1, a2, a3, ⟨⟨r, ad', h', b1, ⟨fun _ _ => by rw [b2], b3⟩, b4⟩, b5⟩, b6⟩
theorem kw_Q.imp {l : Launch} {y : MethodName} {cc : ByteArray} {nL : Nat} {ret : Option FieldType} {R : Room} {As : List PV} {h : PH} {P P' : Option PV → PH → Prop} (hM : kw_Q l y cc nL ret R As h P) (hp : ∀ r h', P r h' → P' r h') : kw_Q l y cc nL ret R As h P' := by
  intro D ad sz p e ha hc hk s m args below hf happ hpc ht
  obtain ⟨t, o, a1, a2, a3, ⟨⟨r, ad', h', b1, ⟨b2, b3⟩, b4⟩, b5⟩, b6⟩ := hM D ad sz p e ha hc hk s m args below hf happ hpc ht
  exact ⟨t, o, a1, a2, a3, ⟨⟨r, ad', h', b1, ⟨b2, hp r h' b3⟩, b4⟩, b5⟩, b6⟩
/-- g's keys lie where they lay, all others where ad' says -/
def kw_mix (g : PH) (ad ad' : KK → Nat) : KK → Nat := fun k => match g k with
  | some _ => ad k
  | none => ad' k
theorem kw_mix_g {g : PH} {ad ad' : KK → Nat} {k : KK} (h : g k ≠ none) : kw_mix g ad ad' k = ad k := by
  unfold kw_mix
  cases e : g k with
  | none => exact absurd e h
  | some c => rfl
theorem kw_mix_n {g : PH} {ad ad' : KK → Nat} {k : KK} (h : g k = none) : kw_mix g ad ad' k = ad' k := by
  unfold kw_mix
  rw [h]
theorem kw_v_mix {g : PH} {ad ad' : KK → Nat} {v : PV} (hv : ∀ k, g k ≠ none → kw_nmv k v) : kw_v (kw_mix g ad ad') v = kw_v ad' v := by
  rcases v with x | x | x
  · rfl
  · rfl
  · cases x with
    | none => rfl
    | some k =>
      refine congrArg Value.ref (kw_mix_n ?_)
      cases e : g k with
      | none => rfl
      | some c => exact absurd rfl (hv k (by rw [e]; exact fun z => by cases z))
theorem kw_at.mix {D : va_G} {U : State} {H : Heap} {g : PH} {ad ad' : KK → Nat} {k : KK} {c : PC} (hn : g k = none) (hc : ∀ k2, g k2 ≠ none → kw_nmc k2 c) (x : kw_at D U H ad' k c) : kw_at D U H (kw_mix g ad ad') k c := by
  match c, hc, x with
  | .inr (ci, fs), hc, x =>
    have e : fs.map (kw_v (kw_mix g ad ad')) = fs.map (kw_v ad') := List.map_congr_left (fun v hv => kw_v_mix (fun k2 h2 => hc k2 h2 v hv))
    show va_at D vwCl (kw_mix g ad ad' k, .inr (ci, fs.map (kw_v (kw_mix g ad ad')))) H
    rw [e, kw_mix_n hn]
    exact x
  | .inl (ty, n, .inl f), _, x =>
    obtain ⟨cA, h1, h2⟩ := x
    refine ⟨cA, ?_, h2⟩
    rw [kw_mix_n hn]
    exact h1
  | .inl (ty, n, .inr (.inl f)), _, x =>
    obtain ⟨cA, h1, h2⟩ := x
    refine ⟨cA, ?_, h2⟩
    rw [kw_mix_n hn]
    exact h1
  | .inl (ty, n, .inr (.inr f)), hc, x =>
    obtain ⟨cA, h1, h2⟩ := x
    refine ⟨cA, ?_, h2⟩
    rw [kw_mix_n hn]
    show H[ad' k]? = some (vp_cell cA (n, .inr (.inr (.inr (.inr (fun j => (f j).map (kw_mix g ad ad')))))))
    have h1 : H[ad' k]? = some (vp_cell cA (n, .inr (.inr (.inr (.inr (fun j => (f j).map ad')))))) := h1
    rw [h1, vp_cell_q, vp_cell_q]
    congr 1
    unfold arrV
    congr 1
    apply Array.ext
    · simp
    · intro j hj hj2
      simp only [Array.getElem_ofFn]
      have hjn : j < n := by simpa using hj
      congr 1
      cases hf : f j with
      | none => rfl
      | some q =>
        show some (ad' q) = some (kw_mix g ad ad' q)
        rw [kw_mix_n]
        cases e : g q with
        | none => rfl
        | some c2 => exact absurd hf (hc q (by rw [e]; exact fun z => by cases z) j hjn)
/-- g's own cells name only g's keys: they lie as before -/
theorem kw_at.mixg {D : va_G} {U : State} {H : Heap} {g : PH} {ad ad' : KK → Nat} {k : KK} {c : PC} (hn : g k ≠ none) (hc : ∀ k2, g k2 = none → kw_nmc k2 c) (x : kw_at D U H ad k c) : kw_at D U H (kw_mix g ad ad') k c := by
  have hv : ∀ v : PV, (∀ k2, g k2 = none → kw_nmv k2 v) → kw_v (kw_mix g ad ad') v = kw_v ad v := by
    intro v h
    rcases v with x | x | x
    · rfl
    · rfl
    · cases x with
      | none => rfl
      | some q =>
        refine congrArg Value.ref (kw_mix_g (fun e => ?_))
        exact h q e rfl
  match c, hc, x with
  | .inr (ci, fs), hc, x =>
    have e : fs.map (kw_v (kw_mix g ad ad')) = fs.map (kw_v ad) := List.map_congr_left (fun v hvv => hv v (fun k2 h2 => hc k2 h2 v hvv))
    show va_at D vwCl (kw_mix g ad ad' k, .inr (ci, fs.map (kw_v (kw_mix g ad ad')))) H
    rw [e, kw_mix_g hn]
    exact x
  | .inl (ty, n, .inl f), _, x =>
    obtain ⟨cA, h1, h2⟩ := x
    refine ⟨cA, ?_, h2⟩
    rw [kw_mix_g hn]
    exact h1
  | .inl (ty, n, .inr (.inl f)), _, x =>
    obtain ⟨cA, h1, h2⟩ := x
    refine ⟨cA, ?_, h2⟩
    rw [kw_mix_g hn]
    exact h1
  | .inl (ty, n, .inr (.inr f)), hc, x =>
    obtain ⟨cA, h1, h2⟩ := x
    refine ⟨cA, ?_, h2⟩
    rw [kw_mix_g hn]
    show H[ad k]? = some (vp_cell cA (n, .inr (.inr (.inr (.inr (fun j => (f j).map (kw_mix g ad ad')))))))
    have h1 : H[ad k]? = some (vp_cell cA (n, .inr (.inr (.inr (.inr (fun j => (f j).map ad)))))) := h1
    rw [h1, vp_cell_q, vp_cell_q]
    congr 1
    unfold arrV
    congr 1
    apply Array.ext
    · simp
    · intro j hj hj2
      simp only [Array.getElem_ofFn]
      have hjn : j < n := by simpa using hj
      congr 1
      cases hf : f j with
      | none => rfl
      | some q =>
        show some (ad q) = some (kw_mix g ad ad' q)
        rw [kw_mix_g (fun e => hc q e j hjn hf)]
theorem kw_Q.fr {l : Launch} {y : MethodName} {cc : ByteArray} {nL : Nat} {ret : Option FieldType} {R : Room} {As : List PV} {h g : PH} {P : Option PV → PH → Prop} (hM : kw_Q l y cc nL ret R As h P) (hd : kw_dj h g) (hg : ∀ k c, g k = some c → ∀ k2, g k2 = none → kw_nmc k2 c) (hd' : ∀ r h', P r h' → kw_dj h' g ∧ (∀ k c, h' k = some c → ∀ k2, g k2 ≠ none → kw_nmc k2 c) ∧ ∀ k2, g k2 ≠ none → kw_all (kw_nmv k2) r.toList) : kw_Q l y cc nL ret R As (kw_un h g) (fun r h'' => ∃ h', P r h' ∧ h'' = kw_un h' g) := by
  intro D ad sz p e ha hc hk s m args below hf happ hpc ht
  obtain ⟨hpc1, hpc2, hH, hN⟩ := hpc
  obtain ⟨t, o, a1, a2, a3, ⟨⟨r, ad', h', b1, ⟨b2, b3⟩, b4, b5⟩, b6⟩, L, b7, b8⟩ := hM D ad sz p e ha hc hk s m args below hf happ ⟨hpc1, hpc2, hH.left, hN⟩ ht
  have hal := b7.2.1.alike
  obtain ⟨hd2, hn2, hr2⟩ := hd' r h' b3
  have nin : ∀ k c, g k = some c → ad k < s.heap.size ∧ ¬ kw_A ad h sz (ad k) := by
    intro k c hk
    have hl := (hH.2.1 k c (kw_un_g hd hk)).lt
    refine ⟨hl, ?_⟩
    rintro (⟨k2, h1, h2⟩ | h1)
    · have hu : kw_un h g k2 ≠ none := by
        cases e : h k2 with
        | none => exact absurd e h1
        | some c2 => rw [kw_un_l e]; exact fun q => by cases q
      have := hH.2.2 k k2 (by rw [kw_un_g hd hk]; exact fun q => by cases q) hu h2
      subst this
      have := hd k h1
      rw [hk] at this; cases this
    · omega
  have sub : ∀ q, kw_A ad h sz q → kw_A ad (kw_un h g) sz q := by
    rintro q (⟨k, h1, h2⟩ | h1)
    · refine Or.inl ⟨k, ?_, h2⟩
      cases e : h k with
      | none => exact absurd e h1
      | some c2 => rw [kw_un_l e]; exact fun q => by cases q
    · exact Or.inr h1
  have gn : ∀ k, h' k ≠ none → g k = none := hd2
  have gat := fun k c (hk : g k = some c) => (((hH.2.1 k c (kw_un_g hd hk)).kept (b6.2 _ (nin k c hk).1 (nin k c hk).2)).moved hal).mixg (ad' := ad') (g := g) (by rw [hk]; exact fun z => by cases z) (hg k c hk)
  have gne : ∀ k, g k ≠ none → ∃ c, g k = some c := fun k hk => by
    cases e : g k with
    | none => exact absurd e hk
    | some c => exact ⟨c, rfl⟩
  refine ⟨t, o, a1, a2, a3, ⟨⟨r, kw_mix g ad ad', kw_un h' g, ?_, ⟨fun k hk => ?_, h', b3, rfl⟩, ⟨b4.1, fun k c hk => ?_, fun k1 k2 h1 h2 he => ?_⟩, fun k hk => ?_⟩, ⟨b6.1, fun q h1 h2 => b6.2 q h1 (fun z => h2 (sub q z))⟩⟩, L, b7, fun q hq => sub _ (b8 q hq)⟩
  · rw [b1]
    cases r with
    | none => rfl
    | some v =>
      show Outcome.returned (some (kw_v ad' v)) = Outcome.returned (some (kw_v (kw_mix g ad ad') v))
      rw [kw_v_mix (fun k hk => (hr2 k hk).1)]
  · rcases kw_un_n hk with p1 | p1
    · rw [kw_mix_n (hd k p1)]; exact b2 k p1
    · exact kw_mix_g p1
  · cases e : h' k with
    | none => rw [kw_un_r e] at hk; exact gat k c hk
    | some c2 =>
      rw [kw_un_l e] at hk
      cases hk
      exact (b4.2.1 k c e).mix (gn k (by rw [e]; exact fun z => by cases z)) (hn2 k c e)
  · have key : ∀ k1 k2, h' k1 ≠ none → g k2 ≠ none → ad' k1 = ad k2 → k1 = k2 := by
      intro k1 k2 h1 h2 he
      exfalso
      obtain ⟨c2, e⟩ := gne k2 h2
      exact (nin k2 c2 e).2 (he ▸ b5 k1 h1)
    rcases kw_un_n h1 with p1 | p1 <;> rcases kw_un_n h2 with p2 | p2
    · rw [kw_mix_n (gn k1 p1), kw_mix_n (gn k2 p2)] at he
      exact b4.2.2 k1 k2 p1 p2 he
    · rw [kw_mix_n (gn k1 p1), kw_mix_g p2] at he
      exact key k1 k2 p1 p2 he
    · rw [kw_mix_g p1, kw_mix_n (gn k2 p2)] at he
      exact (key k2 k1 p2 p1 he.symm).symm
    · rw [kw_mix_g p1, kw_mix_g p2] at he
      have f : ∀ k, g k ≠ none → kw_un h g k ≠ none := by
        intro k hk
        obtain ⟨c2, e⟩ := gne k hk
        rw [kw_un_g hd e]; exact fun q => by cases q
      exact hH.2.2 k1 k2 (f k1 p1) (f k2 p2) he
  · rcases kw_un_n hk with p1 | p1
    · rw [kw_mix_n (gn k p1)]; exact sub _ (b5 k p1)
    · rw [kw_mix_g p1]
      refine Or.inl ⟨k, ?_, rfl⟩
      obtain ⟨c2, e⟩ := gne k p1
      rw [kw_un_g hd e]; exact fun q => by cases q
theorem kw_un_comm {a b : PH} (h : kw_dj a b) : kw_un a b = kw_un b a := by
  funext k
  cases e : a k with
  | none =>
    rw [kw_un_r e]
    cases e2 : b k with
    | none => rw [kw_un_r e2, e]
    | some c => rw [kw_un_l e2]
  | some c =>
    rw [kw_un_l e]
    have := h k (by rw [e]; exact fun z => by cases z)
    rw [kw_un_r this, e]
theorem kw_dj.sym {a b : PH} (h : kw_dj a b) : kw_dj b a := by
  intro k hk
  cases e : a k with
  | none => rfl
  | some c => exact absurd (h k (by rw [e]; exact fun z => by cases z)) hk
/-- the two worlds: their keys -/
theorem hC_key {s : SG} {k : KG} {q : KK} (h : hC s k q ≠ none) : q.1 < 22 := by
  obtain ⟨a, b⟩ := q
  apply Nat.lt_of_not_le
  intro ha
  apply h
  obtain ⟨n, rfl⟩ : ∃ n, a = n + 22 := ⟨a - 22, by have : 22 ≤ a := ha; omega⟩
  rfl
theorem hM_key {s : SG} {k : KG} {q : KK} (h : hM s k q ≠ none) : q.1 = 40 ∨ q.1 = 41 := by
  obtain ⟨a, b⟩ := q
  by_cases h1 : a = 40
  · exact Or.inl h1
  · by_cases h2 : a = 41
    · exact Or.inr h2
    · exfalso
      apply h
      unfold hM
      match a, h1, h2 with
      | 0, _, _ => rfl
      | 1, _, _ => rfl
      | 2, _, _ => rfl
      | 3, _, _ => rfl
      | 4, _, _ => rfl
      | 5, _, _ => rfl
      | 6, _, _ => rfl
      | 7, _, _ => rfl
      | 8, _, _ => rfl
      | 9, _, _ => rfl
      | 10, _, _ => rfl
      | 11, _, _ => rfl
      | 12, _, _ => rfl
      | 13, _, _ => rfl
      | 14, _, _ => rfl
      | 15, _, _ => rfl
      | 16, _, _ => rfl
      | 17, _, _ => rfl
      | 18, _, _ => rfl
      | 19, _, _ => rfl
      | 20, _, _ => rfl
      | 21, _, _ => rfl
      | 22, _, _ => rfl
      | 23, _, _ => rfl
      | 24, _, _ => rfl
      | 25, _, _ => rfl
      | 26, _, _ => rfl
      | 27, _, _ => rfl
      | 28, _, _ => rfl
      | 29, _, _ => rfl
      | 30, _, _ => rfl
      | 31, _, _ => rfl
      | 32, _, _ => rfl
      | 33, _, _ => rfl
      | 34, _, _ => rfl
      | 35, _, _ => rfl
      | 36, _, _ => rfl
      | 37, _, _ => rfl
      | 38, _, _ => rfl
      | 39, _, _ => rfl
      | 40, h, _ => exact absurd rfl h
      | 41, _, h => exact absurd rfl h
      | n + 42, _, _ => rfl
theorem dj_CM (s s' : SG) (k k' : KG) : kw_dj (hC s k) (hM s' k') := by
  intro q hq
  cases e : hM s' k' q with
  | none => rfl
  | some c =>
    have h1 := hC_key hq
    have h2 := hM_key (s := s') (k := k') (q := q) (by rw [e]; exact fun z => by cases z)
    omega
/-- the model's cells name the model's keys alone -/
theorem hM_nm {s : SG} {k : KG} {key : KK} (hkey : hM s k key = none) : ∀ q c, hM s k q = some c → kw_nmc key c := by
  intro q c e
  have hk := hM_key (s := s) (k := k) (q := q) (by rw [e]; exact fun z => by cases z)
  obtain ⟨a, b⟩ := q
  rcases hk with h | h
  · have h : a = 40 := h
    subst h
    have hb : b = 0 := Classical.byContradiction (fun z => by
      have : hM s k (40, b) = none := if_neg z
      rw [this] at e; cases e)
    subst hb
    have e : some (c_mod s k) = some c := e
    cases e
    have ne : ∀ j, j < 33 → (41, j) ≠ key := fun j hj z => by
      rw [← z] at hkey
      have : hMa s k j = none := hkey
      revert this
      match j, hj with
      | 0, _ => exact fun z => by cases z
      | 1, _ => exact fun z => by cases z
      | 2, _ => exact fun z => by cases z
      | 3, _ => exact fun z => by cases z
      | 4, _ => exact fun z => by cases z
      | 5, _ => exact fun z => by cases z
      | 6, _ => exact fun z => by cases z
      | 7, _ => exact fun z => by cases z
      | 8, _ => exact fun z => by cases z
      | 9, _ => exact fun z => by cases z
      | 10, _ => exact fun z => by cases z
      | 11, _ => exact fun z => by cases z
      | 12, _ => exact fun z => by cases z
      | 13, _ => exact fun z => by cases z
      | 14, _ => exact fun z => by cases z
      | 15, _ => exact fun z => by cases z
      | 16, _ => exact fun z => by cases z
      | 17, _ => exact fun z => by cases z
      | 18, _ => exact fun z => by cases z
      | 19, _ => exact fun z => by cases z
      | 20, _ => exact fun z => by cases z
      | 21, _ => exact fun z => by cases z
      | 22, _ => exact fun z => by cases z
      | 23, _ => exact fun z => by cases z
      | 24, _ => exact fun z => by cases z
      | 25, _ => exact fun z => by cases z
      | 26, _ => exact fun z => by cases z
      | 27, _ => exact fun z => by cases z
      | 28, _ => exact fun z => by cases z
      | 29, _ => exact fun z => by cases z
      | 30, _ => exact fun z => by cases z
      | 31, _ => exact fun z => by cases z
      | 32, _ => exact fun z => by cases z
      | n + 33, h => exact absurd h (by omega)
    refine nmc_o ?_
    simp only [kw_all, kw_nmv, and_true, true_and]
    exact ⟨ne 0 (by decide), ne 1 (by decide), ne 2 (by decide), ne 3 (by decide), ne 4 (by decide), ne 5 (by decide), ne 6 (by decide), ne 7 (by decide), ne 8 (by decide), ne 9 (by decide), ne 10 (by decide), ne 11 (by decide), ne 12 (by decide), ne 13 (by decide), ne 14 (by decide), ne 15 (by decide), ne 16 (by decide), ne 17 (by decide), ne 18 (by decide), ne 19 (by decide), ne 20 (by decide), ne 21 (by decide), ne 22 (by decide), ne 23 (by decide), ne 24 (by decide), ne 25 (by decide), ne 26 (by decide), ne 27 (by decide), ne 28 (by decide), ne 29 (by decide), ne 30 (by decide), ne 31 (by decide), ne 32 (by decide)⟩
  · have h : a = 41 := h
    subst h
    exact hMa_nm key s k b c e
