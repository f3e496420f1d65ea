/-! WHAT LIES BESIDE A WORLD STAYS -/
def kw_un (h g : PH) : PH := fun k => match h k with
  | some c => some c
  | none => g k
def kw_dj (h g : PH) : Prop := ∀ k, h k ≠ none → g k = none
theorem kw_un_l {h g : PH} {k : KK} {c : PC} (hk : h k = some c) : kw_un h g k = some c := by simp [kw_un, hk]
theorem kw_un_r {h g : PH} {k : KK} (hk : h k = none) : kw_un h g k = g k := by simp [kw_un, hk]
theorem kw_un_g {h g : PH} (hd : kw_dj h g) {k : KK} {c : PC} (hk : g k = some c) : kw_un h g k = some c := by
  cases e : h k with
  | none => rw [kw_un_r e]; exact hk
  | some c' => have := hd k (by rw [e]; exact fun q => by cases q); rw [hk] at this; cases this
theorem kw_un_n {h g : PH} {k : KK} (hn : kw_un h g k ≠ none) : h k ≠ none ∨ g k ≠ none := by
  cases e : h k with
  | none => right; rw [kw_un_r e] at hn; exact hn
  | some c => left; exact fun q => by cases q
theorem kw_H.left {D : va_G} {U : State} {H : Heap} {ad : KK → Nat} {h g : PH} (x : kw_H D U H ad (kw_un h g)) : kw_H D U H ad h :=
  ⟨x.1, fun k c hk => x.2.1 k c (kw_un_l hk), fun a b ha hb => x.2.2 a b (by cases e : h a with | none => exact absurd e ha | some c => rw [kw_un_l e]; exact fun q => by cases q) (by cases e : h b with | none => exact absurd e hb | some c => rw [kw_un_l e]; exact fun q => by cases q)⟩
theorem kw_P.fr {l : Launch} {y : MethodName} {cc : ByteArray} {nL : Nat} {ret : Option FieldType} {R : Room} {As : List PV} {h g : PH} {P : Option PV → PH → Prop} (hM : kw_P l y cc nL ret R As h P) (hd : kw_dj h g) (hd' : ∀ r h', P r h' → kw_dj h' g) : kw_P l y cc nL ret R As (kw_un h g) (fun r h'' => ∃ h', P r h' ∧ h'' = kw_un h' g) := by
  intro D ad sz p e ha hc hk s m args below hf happ hpc ht
  obtain ⟨hpc1, hpc2, hH, hN⟩ := hpc
  obtain ⟨t, o, a1, a2, a3, ⟨⟨r, ad', h', b1, ⟨b2, b3⟩, b4, b5⟩, b6⟩, L, b7, b8⟩ := hM D ad sz p e ha hc hk s m args below hf happ ⟨hpc1, hpc2, hH.left, hN⟩ ht
  subst b2
  have hal := b7.2.1.alike
  have nin : ∀ k c, g k = some c → ad' k < s.heap.size ∧ ¬ kw_A ad' h sz (ad' k) := by
    intro k c hk
    have hl := (hH.2.1 k c (kw_un_g hd hk)).lt
    refine ⟨hl, ?_⟩
    rintro (⟨k2, h1, h2⟩ | h1)
    · have hu : kw_un h g k2 ≠ none := by
        cases e : h k2 with
        | none => exact absurd e h1
        | some c2 => rw [kw_un_l e]; exact fun q => by cases q
      have := hH.2.2 k k2 (by rw [kw_un_g hd hk]; exact fun q => by cases q) hu h2
      subst this
      have := hd k h1
      rw [hk] at this; cases this
    · omega
  have sub : ∀ q, kw_A ad' h sz q → kw_A ad' (kw_un h g) sz q := by
    rintro q (⟨k, h1, h2⟩ | h1)
    · refine Or.inl ⟨k, ?_, h2⟩
      cases e : h k with
      | none => exact absurd e h1
      | some c2 => rw [kw_un_l e]; exact fun q => by cases q
    · exact Or.inr h1
  have hd2 := hd' r h' b3
  have gat := fun k c (hk : g k = some c) => ((hH.2.1 k c (kw_un_g hd hk)).kept (b6.2 _ (nin k c hk).1 (nin k c hk).2)).moved hal
  refine ⟨t, o, a1, a2, a3, ⟨⟨r, ad', kw_un h' g, b1, ⟨rfl, h', b3, rfl⟩, ⟨b4.1, fun k c hk => ?_, fun k1 k2 h1 h2 he => ?_⟩, fun k hk => ?_⟩, ⟨b6.1, fun q h1 h2 => b6.2 q h1 (fun z => h2 (sub q z))⟩⟩, L, b7, fun q hq => sub _ (b8 q hq)⟩
  · cases e : h' k with
    | none => rw [kw_un_r e] at hk; exact gat k c hk
    | some c2 => rw [kw_un_l e] at hk; cases hk; exact b4.2.1 k c e
  · have key : ∀ k1 k2, h' k1 ≠ none → g k2 ≠ none → ad' k1 = ad' k2 → k1 = k2 := by
      intro k1 k2 h1 h2 he
      exfalso
      cases e : g k2 with
      | none => exact h2 e
      | some c2 => exact (nin k2 c2 e).2 (he ▸ b5 k1 h1)
    rcases kw_un_n h1 with p1 | p1 <;> rcases kw_un_n h2 with p2 | p2
    · exact b4.2.2 k1 k2 p1 p2 he
    · exact key k1 k2 p1 p2 he
    · exact (key k2 k1 p2 p1 he.symm).symm
    · have f : ∀ k, g k ≠ none → kw_un h g k ≠ none := by
        intro k hk
        cases e : g k with
        | none => exact absurd e hk
        | some c2 => rw [kw_un_g hd e]; exact fun q => by cases q
      exact hH.2.2 k1 k2 (f k1 p1) (f k2 p2) he
  · rcases kw_un_n hk with p1 | p1
    · exact sub _ (b5 k p1)
    · refine Or.inl ⟨k, ?_, rfl⟩
      cases e : g k with
      | none => exact absurd e p1
      | some c2 => rw [kw_un_g hd e]; exact fun q => by cases q
theorem kw_F.fr {l : Launch} {y : MethodName} {cc : ByteArray} {nL : Nat} {ret : Option FieldType} {R : Room} {As : List PV} {h g h0 : PH} {r0 : Option PV} (hM : kw_F l y cc nL ret R As h r0 h0) (hd : kw_dj h g) (hd' : kw_dj h0 g) : kw_F l y cc nL ret R As (kw_un h g) r0 (kw_un h0 g) := by
  refine (kw_P.fr hM hd (fun r h' q => by rw [q.2]; exact hd')).imp ?_
  rintro r h'' ⟨h', ⟨q1, q2⟩, q3⟩
  exact ⟨q1, by rw [q3, q2]⟩
