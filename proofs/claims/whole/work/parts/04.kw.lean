/-! KEYED WORLDS: a world is a map from keys to cells; ad says where each key lies. -/
abbrev KK : Type := Nat × Nat
abbrev PV : Type := Int32 ⊕ Int64 ⊕ Option KK
abbrev pi_ (x : Int32) : PV := .inl x
abbrev pl_ (x : Int64) : PV := .inr (.inl x)
abbrev pr_ (k : KK) : PV := .inr (.inr (some k))
abbrev pn_ : PV := .inr (.inr none)
def kw_v (ad : KK → Nat) (v : PV) : Value := match v with
  | .inl x => .int x
  | .inr (.inl x) => .long x
  | .inr (.inr none) => .null
  | .inr (.inr (some k)) => .ref (ad k)
abbrev PX : Type := (Nat → Int32) ⊕ (Nat → Int64) ⊕ (Nat → Option KK)
abbrev PC : Type := (FieldType × Nat × PX) ⊕ (Nat × List PV)
abbrev PH : Type := KK → Option PC
def kw_x (ad : KK → Nat) (x : PX) : (Nat → Int32) ⊕ (Nat → Int64) ⊕ (Nat → UInt32) ⊕ (Nat → UInt64) ⊕ (Nat → Option Nat) := match x with
  | .inl f => .inl f
  | .inr (.inl f) => .inr (.inl f)
  | .inr (.inr f) => .inr (.inr (.inr (.inr (fun j => (f j).map ad))))
def kw_at (D : va_G) (U : State) (H : Heap) (ad : KK → Nat) (k : KK) (c : PC) : Prop := match c with
  | .inl a => ∃ cA : ClassId, va_at D vwCl (ad k, .inl (cA, a.2.1, kw_x ad a.2.2)) H ∧ ArrOfT U cA a.1 ∧ va_RA U cA a.1
  | .inr o => va_at D vwCl (ad k, .inr (o.1, o.2.map (kw_v ad))) H
def kw_H (D : va_G) (U : State) (H : Heap) (ad : KK → Nat) (h : PH) : Prop :=
  va_K D vwCl [] U ∧ (∀ k c, h k = some c → kw_at D U H ad k c) ∧ ∀ k k', h k ≠ none → h k' ≠ none → ad k = ad k' → k = k'
def kw_up (h : PH) (k : KK) (c : PC) : PH := fun k' => if k' = k then some c else h k'
theorem kw_up_s (h : PH) (k : KK) (c : PC) : kw_up h k c k = some c := by simp [kw_up]
theorem kw_up_n (h : PH) {k k' : KK} (c : PC) (hn : k' ≠ k) : kw_up h k c k' = h k' := by simp [kw_up, hn]
theorem kw_at.kept {D : va_G} {U : State} {H H1 : Heap} {ad : KK → Nat} {k : KK} {c : PC} (h : kw_at D U H ad k c) (hq : H1[ad k]? = H[ad k]?) : kw_at D U H1 ad k c := by
  cases c with
  | inl a =>
    obtain ⟨cA, h1, h2⟩ := h
    exact ⟨cA, va_at.kept (q := (ad k, .inl (cA, a.2.1, kw_x ad a.2.2))) h1 hq, h2⟩
  | inr o => exact va_at.kept (q := (ad k, .inr (o.1, o.2.map (kw_v ad)))) h hq
theorem kw_at.lt {D : va_G} {U : State} {H : Heap} {ad : KK → Nat} {k : KK} {c : PC} (h : kw_at D U H ad k c) : ad k < H.size := by
  cases c with
  | inl a =>
    obtain ⟨cA, h1, h2⟩ := h
    exact va_at.lt (q := (ad k, .inl (cA, a.2.1, kw_x ad a.2.2))) h1
  | inr o => exact va_at.lt (q := (ad k, .inr (o.1, o.2.map (kw_v ad)))) h
theorem kw_at.moved {D : va_G} {u U : State} {H : Heap} {ad : KK → Nat} {k : KK} {c : PC} (hvm : u.vm.Alike U.vm) (h : kw_at D u H ad k c) : kw_at D U H ad k c := by
  cases c with
  | inl a =>
    obtain ⟨cA, h1, h2, h3⟩ := h
    exact ⟨cA, h1, arrOfT_moved hvm h2, h3.moved hvm⟩
  | inr o => exact h
theorem kw_H.moved {D : va_G} {u U : State} {H : Heap} {ad : KK → Nat} {h : PH} (hvm : u.vm.Alike U.vm) (x : kw_H D u H ad h) : kw_H D U H ad h :=
  ⟨x.1.moved hvm, fun k c hk => (x.2.1 k c hk).moved hvm, x.2.2⟩
/-- one cell is written anew -/
theorem kw_H.set {D : va_G} {U : State} {H H1 : Heap} {ad : KK → Nat} {h : PH} (x : kw_H D U H ad h) {k : KK} {c0 c : PC} (hk : h k = some c0) (hc : kw_at D U H1 ad k c) (oq : ∀ q : Nat, q ≠ ad k → H1[q]? = H[q]?) : kw_H D U H1 ad (kw_up h k c) := by
  have al : ∀ k', kw_up h k c k' ≠ none → h k' ≠ none := by
    intro k' h1
    by_cases e : k' = k
    · subst e; rw [hk]; exact fun q => by cases q
    · rw [kw_up_n _ _ e] at h1; exact h1
  refine ⟨x.1, fun k' c' h' => ?_, fun a b ha hb => x.2.2 a b (al a ha) (al b hb)⟩
  by_cases e : k' = k
  · subst e
    rw [kw_up_s] at h'
    cases h'
    exact hc
  · rw [kw_up_n _ _ e] at h'
    exact (x.2.1 k' c' h').kept (oq _ (fun q => e (x.2.2 k' k (by rw [h']; exact fun q => by cases q) (by rw [hk]; exact fun q => by cases q) q)))
/-! locals: by their places -/
def kw_L (ad : KK → Nat) (ls : Array Slot) (lv : List (Option PV)) : Prop := ls.size = lv.length ∧ lv_wf ls ∧ ∀ (i : Nat) (v : PV), lv[i]? = some (some v) → ls[i]? = some (.val (kw_v ad v))
def kw_cat (v : PV) : Nat := match v with
  | .inr (.inl _) => 2
  | _ => 1
theorem kw_cat_v (ad : KK → Nat) (v : PV) : (kw_v ad v).category = kw_cat v := by
  rcases v with x | x | x | x <;> rfl
def kw_keep (a : Option PV) : Option PV := match a with
  | some (.inr (.inl _)) => none
  | x => x
def kw_set1 : List (Option PV) → Nat → PV → List (Option PV)
  | [], _, _ => []
  | _ :: t, 0, v => some v :: t
  | a :: t, 1, v => kw_keep a :: kw_set1 t 0 v
  | a :: t, i + 2, v => a :: kw_set1 t (i + 1) v
def kw_set2 : List (Option PV) → Nat → PV → List (Option PV)
  | [], _, _ => []
  | [_], 0, v => [some v]
  | _ :: _ :: t, 0, v => some v :: none :: t
  | a :: t, 1, v => kw_keep a :: kw_set2 t 0 v
  | a :: t, i + 2, v => a :: kw_set2 t (i + 1) v
def kw_lst (ad : KK → Nat) (lv : List (Option PV)) : List (Nat × Value) := (List.range lv.length).filterMap (fun i => match lv[i]? with
  | some (some v) => some (i, kw_v ad v)
  | _ => none)
theorem kw_lst_mem (ad : KK → Nat) (lv : List (Option PV)) (i : Nat) (w : Value) : (i, w) ∈ kw_lst ad lv ↔ ∃ v, lv[i]? = some (some v) ∧ w = kw_v ad v := by
  unfold kw_lst
  rw [List.mem_filterMap]
  constructor
  · rintro ⟨j, hj, h⟩
    split at h
    next v hv =>
      cases h
      exact ⟨v, hv, rfl⟩
    next => cases h
  · rintro ⟨v, hv, rfl⟩
    refine ⟨i, List.mem_range.mpr (List.getElem?_eq_some_iff.mp hv).1, ?_⟩
    rw [hv]
theorem kw_L.has {ad : KK → Nat} {ls : Array Slot} {lv : List (Option PV)} (h : kw_L ad ls lv) : lv_has ls lv.length (kw_lst ad lv) := by
  refine ⟨h.1, h.2.1, fun q hq => ?_⟩
  obtain ⟨i, w⟩ := q
  obtain ⟨v, h1, rfl⟩ := (kw_lst_mem ad lv i w).mp hq
  exact h.2.2 i v h1
theorem kw_keep_some {a : Option PV} {w : PV} (h : kw_keep a = some w) : a = some w ∧ kw_cat w = 1 := by
  rcases a with _ | x | x | x
  · cases h
  · cases h; exact ⟨rfl, rfl⟩
  · cases h
  · cases h; exact ⟨rfl, rfl⟩
theorem kw_set1_get : ∀ (lv : List (Option PV)) (i : Nat) (v : PV) (j : Nat) (w : PV), (kw_set1 lv i v)[j]? = some (some w) → (j = i ∧ w = v) ∨ (j ≠ i ∧ lv[j]? = some (some w) ∧ ¬ (j + 1 = i ∧ kw_cat w = 2))
  | [], i, v, j, w, h => by simp [kw_set1] at h
  | a :: t, 0, v, 0, w, h => by simp [kw_set1] at h; exact Or.inl ⟨rfl, h.symm⟩
  | a :: t, 0, v, j + 1, w, h => by
    simp only [kw_set1, List.getElem?_cons_succ] at h
    exact Or.inr ⟨by omega, by simpa using h, by omega⟩
  | a :: t, 1, v, 0, w, h => by
    simp only [kw_set1, List.getElem?_cons_zero, Option.some.injEq] at h
    obtain ⟨h1, h2⟩ := kw_keep_some h
    exact Or.inr ⟨by omega, by simp [h1], by omega⟩
  | a :: t, 1, v, j + 1, w, h => by
    simp only [kw_set1, List.getElem?_cons_succ] at h
    rcases kw_set1_get t 0 v j w h with ⟨h1, h2⟩ | ⟨h1, h2, h3⟩
    · exact Or.inl ⟨by omega, h2⟩
    · exact Or.inr ⟨by omega, by simpa using h2, by omega⟩
  | a :: t, i + 2, v, 0, w, h => by
    simp only [kw_set1, List.getElem?_cons_zero, Option.some.injEq] at h
    exact Or.inr ⟨by omega, by simp [h], by omega⟩
  | a :: t, i + 2, v, j + 1, w, h => by
    simp only [kw_set1, List.getElem?_cons_succ] at h
    rcases kw_set1_get t (i + 1) v j w h with ⟨h1, h2⟩ | ⟨h1, h2, h3⟩
    · exact Or.inl ⟨by omega, h2⟩
    · exact Or.inr ⟨by omega, by simpa using h2, fun q => h3 ⟨by omega, q.2⟩⟩
theorem kw_set2_get : ∀ (lv : List (Option PV)) (i : Nat) (v : PV) (j : Nat) (w : PV), (kw_set2 lv i v)[j]? = some (some w) → (j = i ∧ w = v) ∨ (j ≠ i ∧ j ≠ i + 1 ∧ lv[j]? = some (some w) ∧ ¬ (j + 1 = i ∧ kw_cat w = 2))
  | [], i, v, j, w, h => by simp [kw_set2] at h
  | [a], 0, v, 0, w, h => by simp [kw_set2] at h; exact Or.inl ⟨rfl, h.symm⟩
  | [a], 0, v, j + 1, w, h => by simp [kw_set2] at h
  | a :: b :: t, 0, v, 0, w, h => by simp [kw_set2] at h; exact Or.inl ⟨rfl, h.symm⟩
  | a :: b :: t, 0, v, 1, w, h => by simp [kw_set2] at h
  | a :: b :: t, 0, v, j + 2, w, h => by
    simp only [kw_set2, List.getElem?_cons_succ] at h
    exact Or.inr ⟨by omega, by omega, by simpa using h, by omega⟩
  | a :: t, 1, v, 0, w, h => by
    simp only [kw_set2, List.getElem?_cons_zero, Option.some.injEq] at h
    obtain ⟨h1, h2⟩ := kw_keep_some h
    exact Or.inr ⟨by omega, by omega, by simp [h1], by omega⟩
  | a :: t, 1, v, j + 1, w, h => by
    simp only [kw_set2, List.getElem?_cons_succ] at h
    rcases kw_set2_get t 0 v j w h with ⟨h1, h2⟩ | ⟨h1, h2, h3, h4⟩
    · exact Or.inl ⟨by omega, h2⟩
    · exact Or.inr ⟨by omega, by omega, by simpa using h3, by omega⟩
  | a :: t, i + 2, v, 0, w, h => by
    simp only [kw_set2, List.getElem?_cons_zero, Option.some.injEq] at h
    exact Or.inr ⟨by omega, by omega, by simp [h], by omega⟩
  | a :: t, i + 2, v, j + 1, w, h => by
    simp only [kw_set2, List.getElem?_cons_succ] at h
    rcases kw_set2_get t (i + 1) v j w h with ⟨h1, h2⟩ | ⟨h1, h2, h3, h4⟩
    · exact Or.inl ⟨by omega, h2⟩
    · exact Or.inr ⟨by omega, by omega, by simpa using h3, fun q => h4 ⟨by omega, q.2⟩⟩
theorem kw_set1_len : ∀ (lv : List (Option PV)) (i : Nat) (v : PV), (kw_set1 lv i v).length = lv.length
  | [], i, v => rfl
  | a :: t, 0, v => rfl
  | a :: t, 1, v => by simp [kw_set1, kw_set1_len t 0 v]
  | a :: t, i + 2, v => by simp [kw_set1, kw_set1_len t (i + 1) v]
theorem kw_set2_len : ∀ (lv : List (Option PV)) (i : Nat) (v : PV), (kw_set2 lv i v).length = lv.length
  | [], i, v => rfl
  | [a], 0, v => rfl
  | a :: b :: t, 0, v => rfl
  | a :: t, 1, v => by simp [kw_set2, kw_set2_len t 0 v]
  | a :: t, i + 2, v => by simp [kw_set2, kw_set2_len t (i + 1) v]
theorem kw_L.of1 {ad : KK → Nat} {ls : Array Slot} {lv : List (Option PV)} {i : Nat} {v : PV} (h : lv_has ls lv.length ((i, kw_v ad v) :: (kw_lst ad lv).filter (fun q => !(q.1 == i) && !(q.1 + 1 == i && q.2.category == 2)))) : kw_L ad ls (kw_set1 lv i v) := by
  refine ⟨by rw [kw_set1_len]; exact h.1, h.2.1, fun j w hj => ?_⟩
  rcases kw_set1_get lv i v j w hj with ⟨h1, h2⟩ | ⟨h1, h2, h3⟩
  · subst h1; subst h2
    exact h.2.2 (j, kw_v ad w) List.mem_cons_self
  · refine h.2.2 (j, kw_v ad w) (List.mem_cons_of_mem _ (List.mem_filter.mpr ⟨(kw_lst_mem ad lv j _).mpr ⟨w, h2, rfl⟩, ?_⟩))
    simp only [kw_cat_v, Bool.and_eq_true, Bool.not_eq_true', beq_eq_false_iff_ne, ne_eq, h1, not_false_eq_true, true_and]
    cases hq : (j + 1 == i && kw_cat w == 2)
    · rfl
    · simp only [Bool.and_eq_true, beq_iff_eq] at hq
      exact absurd hq h3
theorem kw_L.of2 {ad : KK → Nat} {ls : Array Slot} {lv : List (Option PV)} {i : Nat} {v : PV} (h : lv_has ls lv.length ((i, kw_v ad v) :: (kw_lst ad lv).filter (fun q => !(q.1 == i) && (!(q.1 == i + 1) && !(q.1 + 1 == i && q.2.category == 2))))) : kw_L ad ls (kw_set2 lv i v) := by
  refine ⟨by rw [kw_set2_len]; exact h.1, h.2.1, fun j w hj => ?_⟩
  rcases kw_set2_get lv i v j w hj with ⟨h1, h2⟩ | ⟨h1, h2, h3, h4⟩
  · subst h1; subst h2
    exact h.2.2 (j, kw_v ad w) List.mem_cons_self
  · refine h.2.2 (j, kw_v ad w) (List.mem_cons_of_mem _ (List.mem_filter.mpr ⟨(kw_lst_mem ad lv j _).mpr ⟨w, h3, rfl⟩, ?_⟩))
    simp only [kw_cat_v, Bool.and_eq_true, Bool.not_eq_true', beq_eq_false_iff_ne, ne_eq, h1, h2, not_false_eq_true, true_and]
    cases hq : (j + 1 == i && kw_cat w == 2)
    · rfl
    · simp only [Bool.and_eq_true, beq_iff_eq] at hq
      exact absurd hq h4
/-- fewer known locals -/
def kw_le : List (Option PV) → List (Option PV) → Prop
  | [], [] => True
  | _ :: t, none :: t' => kw_le t t'
  | a :: t, some b :: t' => a = some b ∧ kw_le t t'
  | _, _ => False
theorem kw_le_len : ∀ (a b : List (Option PV)), kw_le a b → a.length = b.length
  | [], [], _ => rfl
  | _ :: t, none :: t', h => by simp [kw_le_len t t' h]
  | _ :: t, some b :: t', h => by simp [kw_le_len t t' h.2]
theorem kw_le_get : ∀ (a b : List (Option PV)), kw_le a b → ∀ (i : Nat) (v : PV), b[i]? = some (some v) → a[i]? = some (some v)
  | [], [], _, i, v, h => by simp at h
  | _ :: t, none :: t', q, 0, v, h => by simp at h
  | _ :: t, none :: t', q, i + 1, v, h => by
    simp only [List.getElem?_cons_succ] at h ⊢
    exact kw_le_get t t' q i v h
  | a :: t, some b :: t', q, 0, v, h => by
    simp only [List.getElem?_cons_zero] at h ⊢
    rw [q.1]; exact h
  | a :: t, some b :: t', q, i + 1, v, h => by
    simp only [List.getElem?_cons_succ] at h ⊢
    exact kw_le_get t t' q.2 i v h
theorem kw_L.le {ad : KK → Nat} {ls : Array Slot} {lv lv' : List (Option PV)} (h : kw_L ad ls lv) (q : kw_le lv lv') : kw_L ad ls lv' := ⟨h.1.trans (kw_le_len lv lv' q), h.2.1, fun i v hv => h.2.2 i v (kw_le_get lv lv' q i v hv)⟩
def kw_ent : List PV → List (Option PV)
  | [] => []
  | v :: t => if kw_cat v = 2 then some v :: none :: kw_ent t else some v :: kw_ent t
