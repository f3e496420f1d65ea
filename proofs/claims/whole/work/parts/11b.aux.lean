/-! helpers: loops, ends, sums -/
section KwAux
variable {l : Launch} {D : va_G} {cc : ByteArray} {own : String} {ret : Option FieldType} {nm : String} {R : Room} {A : Nat → Prop} {K : Option PV → (KK → Nat) → PH → Prop} {ad : KK → Nat} {h : PH} {cells slots pc : Nat} {lv : List (Option PV)} {st : List PV}
theorem kw_Kgen (k : ∀ K' : Option PV → (KK → Nat) → PH → Prop, (∀ r ad' h', K r ad' h' → K' r ad' h') → kw_G l D cc own ret nm R A K' ad h cells slots pc lv st) : kw_G l D cc own ret nm R A K ad h cells slots pc lv st := k K (fun _ _ _ q => q)
/-- what lies behind an array's end is nobody's -/
def kw_ceq (c c' : PC) : Prop := match c, c' with
  | .inl (t, n, .inl f), .inl (t', n', .inl f') => t = t' ∧ n = n' ∧ ∀ j, j < n → f j = f' j
  | .inl (t, n, .inr (.inl f)), .inl (t', n', .inr (.inl f')) => t = t' ∧ n = n' ∧ ∀ j, j < n → f j = f' j
  | .inl (t, n, .inr (.inr f)), .inl (t', n', .inr (.inr f')) => t = t' ∧ n = n' ∧ ∀ j, j < n → f j = f' j
  | .inr o, .inr o' => o = o'
  | _, _ => False
theorem arrV_ext {c : ClassId} {n : Nat} {f g : Nat → Value} (h : ∀ j, j < n → f j = g j) : arrV c n f = arrV c n g := by
  unfold arrV
  congr 1
  apply Array.ext
  · simp
  · intro j hj hj2
    simp only [Array.getElem_ofFn]
    exact h j (by simpa using hj)
theorem kw_at.ext {U : State} {H : Heap} {k : KK} {c c' : PC} (e : kw_ceq c c') (x : kw_at D U H ad k c) : kw_at D U H ad k c' := by
  match c, c', e, x with
  | .inl (t, n, .inl f), .inl (t', n', .inl f'), e, x =>
    obtain ⟨rfl, rfl, e⟩ := e
    obtain ⟨cA, h1, h2⟩ := x
    refine ⟨cA, ?_, h2⟩
    have h1 : H[ad k]? = some (arrV cA n (fun j => .int (f j))) := h1
    show H[ad k]? = some (arrV cA n (fun j => .int (f' j)))
    rw [h1, arrV_ext (fun j hj => by rw [e j hj])]
  | .inl (t, n, .inr (.inl f)), .inl (t', n', .inr (.inl f')), e, x =>
    obtain ⟨rfl, rfl, e⟩ := e
    obtain ⟨cA, h1, h2⟩ := x
    refine ⟨cA, ?_, h2⟩
    have h1 : H[ad k]? = some (arrV cA n (fun j => .long (f j))) := h1
    show H[ad k]? = some (arrV cA n (fun j => .long (f' j)))
    rw [h1, arrV_ext (fun j hj => by rw [e j hj])]
  | .inl (t, n, .inr (.inr f)), .inl (t', n', .inr (.inr f')), e, x =>
    obtain ⟨rfl, rfl, e⟩ := e
    obtain ⟨cA, h1, h2⟩ := x
    refine ⟨cA, ?_, h2⟩
    have h1 : H[ad k]? = some (arrV cA n (fun j => va_rf ((f j).map ad))) := h1
    show H[ad k]? = some (arrV cA n (fun j => va_rf ((f' j).map ad)))
    rw [h1, arrV_ext (fun j hj => by rw [e j hj])]
  | .inr o, .inr o', e, x => cases e; exact x
def kw_heqv (h h' : PH) : Prop := ∀ k, match h k, h' k with
  | some c, some c' => kw_ceq c c'
  | none, none => True
  | _, _ => False
theorem kw_H.ext {U : State} {H : Heap} {h h' : PH} (e : kw_heqv h h') (x : kw_H D U H ad h) : kw_H D U H ad h' := by
  have al : ∀ k, h' k ≠ none → h k ≠ none := by
    intro k h1 h2
    have := e k
    rw [h2] at this
    cases h3 : h' k with
    | none => exact h1 h3
    | some c => rw [h3] at this; exact this
  refine ⟨x.1, fun k c' hk => ?_, fun a b ha hb => x.2.2 a b (al a ha) (al b hb)⟩
  have e1 := e k
  rw [hk] at e1
  cases h3 : h k with
  | none => rw [h3] at e1; exact absurd e1 id
  | some c => rw [h3] at e1; exact (x.2.1 k c h3).ext e1
theorem kw_ext {h' : PH} (e : kw_heqv h h') (k : kw_G l D cc own ret nm R A K ad h' cells slots pc lv st) : kw_G l D cc own ret nm R A K ad h cells slots pc lv st := by
  intro p e1 s m args below meth c H locs ls E hH hA hS hB hl
  refine k p e1 s m args below meth c H locs ls E (hH.ext e) (fun q hq => hA q ?_) hS hB hl
  intro h2
  have := e q
  rw [h2] at this
  cases h3 : h' q with
  | none => exact hq h3
  | some c => rw [h3] at this; exact this
end KwAux
theorem kw_le_0 : kw_le [] [] := trivial
theorem kw_le_n {a : Option PV} {t t' : List (Option PV)} (q : kw_le t t') : kw_le (a :: t) (none :: t') := q
theorem kw_le_s {b : PV} {t t' : List (Option PV)} (q : kw_le t t') : kw_le (some b :: t) (some b :: t') := ⟨rfl, q⟩
/-- is there one below n; how many; the sum -/
def anyN (p : Nat → Bool) : Nat → Bool
  | 0 => false
  | n + 1 => anyN p n || p n
def cntN (p : Nat → Bool) : Nat → Nat
  | 0 => 0
  | n + 1 => cntN p n + (if p n then 1 else 0)
def sumN (f : Nat → Nat) : Nat → Nat
  | 0 => 0
  | n + 1 => sumN f n + f n
theorem anyN_iff {p : Nat → Bool} : ∀ {n : Nat}, anyN p n = true ↔ ∃ j, j < n ∧ p j = true
  | 0 => by simp [anyN]
  | n + 1 => by
    rw [anyN, Bool.or_eq_true, anyN_iff]
    constructor
    · rintro (⟨j, h1, h2⟩ | h)
      · exact ⟨j, by omega, h2⟩
      · exact ⟨n, by omega, h⟩
    · rintro ⟨j, h1, h2⟩
      by_cases e : j = n
      · subst e; exact Or.inr h2
      · exact Or.inl ⟨j, by omega, h2⟩
theorem anyN_f {p : Nat → Bool} {n : Nat} (h : ∀ j, j < n → p j = false) : anyN p n = false := by
  cases e : anyN p n with
  | false => rfl
  | true =>
    obtain ⟨j, h1, h2⟩ := anyN_iff.mp e
    rw [h j h1] at h2; cases h2
theorem anyN_t {p : Nat → Bool} {n j : Nat} (hj : j < n) (h : p j = true) : anyN p n = true := anyN_iff.mpr ⟨j, hj, h⟩
theorem anyN_congr {p q : Nat → Bool} {n : Nat} (h : ∀ j, j < n → p j = q j) : anyN p n = anyN q n := by
  induction n with
  | zero => rfl
  | succ n ih => rw [anyN, anyN, ih (fun j hj => h j (by omega)), h n (by omega)]
theorem cntN_le {p : Nat → Bool} : ∀ n, cntN p n ≤ n
  | 0 => Nat.le_refl 0
  | n + 1 => by rw [cntN]; have := cntN_le (p := p) n; split <;> omega
theorem cntN_congr {p q : Nat → Bool} {n : Nat} (h : ∀ j, j < n → p j = q j) : cntN p n = cntN q n := by
  induction n with
  | zero => rfl
  | succ n ih => rw [cntN, cntN, ih (fun j hj => h j (by omega)), h n (by omega)]
theorem sumN_congr {p q : Nat → Nat} {n : Nat} (h : ∀ j, j < n → p j = q j) : sumN p n = sumN q n := by
  induction n with
  | zero => rfl
  | succ n ih => rw [sumN, sumN, ih (fun j hj => h j (by omega)), h n (by omega)]
theorem nI_i (n : Nat) : nI n + Int32.ofInt 1 = nI (n + 1) := nI_1 n
/-- what a branch on numbers says -/
theorem nI_lt' {a b : Nat} (ha : a < 2 ^ 31) (hb : b < 2 ^ 31) (h : nI a < nI b) : a < b := (nI_ltI ha hb).mp h
theorem nI_nlt' {a b : Nat} (ha : a < 2 ^ 31) (hb : b < 2 ^ 31) (h : ¬ nI a < nI b) : b ≤ a := Nat.not_lt.mp (fun q => h ((nI_ltI ha hb).mpr q))
theorem nI_le' {a b : Nat} (ha : a < 2 ^ 31) (hb : b < 2 ^ 31) (h : nI a ≤ nI b) : a ≤ b := (nI_leI ha hb).mp h
theorem nI_nle' {a b : Nat} (ha : a < 2 ^ 31) (hb : b < 2 ^ 31) (h : ¬ nI a ≤ nI b) : b < a := Nat.not_le.mp (fun q => h ((nI_leI ha hb).mpr q))
theorem nI_eq' {a b : Nat} (ha : a < 2 ^ 31) (hb : b < 2 ^ 31) (h : nI a = nI b) : a = b := (nI_eq ha hb).mp h
theorem nI_ne' {a b : Nat} (ha : a < 2 ^ 31) (hb : b < 2 ^ 31) (h : ¬ nI a = nI b) : a ≠ b := fun q => h (by rw [q])
/-! the class's cells by their keys -/
theorem hC_bl {s : SG} {k : KG} {i : Nat} (hi : i < nb_ s) : hC s k (5, i) = some (c_bl s i) := if_pos hi
theorem hC_ch {s : SG} {k : KG} {i : Nat} (hi : i < nb_ s) : hC s k (6, i) = some (ri_ (cm_ s i) (ch_ s i)) := if_pos hi
theorem hC_pa {s : SG} {k : KG} {i : Nat} (hi : i < np_ s) : hC s k (7, i) = some (c_pa s k i) := if_pos hi
theorem hC_sa {s : SG} {k : KG} {i : Nat} (hi : i < 4) : hC s k (12, i) = some (c_sa s i) := if_pos hi
theorem hC_us {s : SG} {k : KG} {i : Nat} (hi : i < 4) : hC s k (13, i) = some (ri_ 8 (us_ s i)) := if_pos hi
theorem hC_kd {s : SG} {k : KG} {i : Nat} (hi : i < 4) : hC s k (14, i) = some (ri_ 4 (ks_ s i)) := if_pos hi
theorem hC_sn {s : SG} {k : KG} {i : Nat} (hi : i < ns_ s) : hC s k (16, i) = some (c_sn s i) := if_pos hi
theorem hC_rt {s : SG} {k : KG} {i : Nat} (hi : i < ns_ s) : hC s k (17, i) = some (ri_ (rm_ s i) (ro_ s i)) := if_pos hi
theorem hC_mi {s : SG} {k : KG} {i : Nat} (hi : i < 3) : hC s k (19, i) = some (c_mi k i) := if_pos hi
theorem hC_mb {s : SG} {k : KG} {i : Nat} (hi : i < 3) : hC s k (20, i) = some (rb_ 80 (kb_ k (1 + i))) := if_pos hi
theorem hC_ms {s : SG} {k : KG} {i : Nat} (hi : i < 3) : hC s k (21, i) = some (rb_ 40 (kb_ k (4 + i))) := if_pos hi
