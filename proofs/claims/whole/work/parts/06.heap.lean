/-! ROWS OF THE HEAP -/
/-- a class of the worlds, and its words -/
def kw_CD (ci : Nat) (C : String) (T : u_T) (N : Nat) (ty : Nat → FieldType) : Prop :=
  vwCl[ci]? = some (C, T, N) ∧ (∀ w ∈ u_ws C T N, w ∈ kw_tbl) ∧ (∀ k, k < N → parseFieldDescriptor (T k).2.2.1 = some (ty k)) ∧ (∀ a, a < N → ∀ b, b < N → a ≠ b → (T a).2.1 ≠ (T b).2.1) ∧ ∀ k, k < N → (T k).1 = C
/-- a field that an instruction names: the class by its number, the field by its place, its type, whether it is final -/
def kw_FL (own : String) (idx ci j : Nat) (ty : FieldType) (fin : Bool) : Prop :=
  ∃ (C : String) (T : u_T) (N : Nat) (tys : Nat → FieldType), kw_CD ci C T N tys ∧ j < N ∧ tys j = ty ∧ (T j).2.2.2 = fin ∧ Cond.fieldLink own idx C (T j).2.1 (T j).2.2.1 ∈ kw_tbl
/-- what a field or an array of this type may hold -/
def kw_ok (ty : FieldType) (v : PV) : Prop := ∀ ad : KK → Nat, narrow ty (kw_v ad v) = kw_v ad v ∧ fits ty (kw_v ad v) = true
theorem kw_ok_i (x : Int32) : kw_ok .int (pi_ x) := fun _ => ⟨rfl, rfl⟩
theorem kw_ok_l (x : Int64) : kw_ok .long (pl_ x) := fun _ => ⟨rfl, rfl⟩
theorem kw_ok_o (C : String) (x : Option KK) : kw_ok (.object C) (.inr (.inr x)) := fun _ => by cases x <;> exact ⟨rfl, rfl⟩
theorem kw_ok_a (t : FieldType) (x : Option KK) : kw_ok (.array t) (.inr (.inr x)) := fun _ => by cases x <;> exact ⟨rfl, rfl⟩
theorem kw_ok_z {x : Int32} (h : x = 0 ∨ x = 1) : kw_ok .boolean (pi_ x) := fun _ => by
  rcases h with rfl | rfl
  · exact (by decide : narrow .boolean (.int 0) = .int 0 ∧ fits .boolean (.int 0) = true)
  · exact (by decide : narrow .boolean (.int 1) = .int 1 ∧ fits .boolean (.int 1) = true)
def b2 (b : Bool) : Int32 := if b then 1 else 0
theorem b2_01 (b : Bool) : b2 b = 0 ∨ b2 b = 1 := by cases b <;> simp [b2]
theorem kw_ok_b (b : Bool) : kw_ok .boolean (pi_ (b2 b)) := kw_ok_z (b2_01 b)
theorem b2_nar (b : Bool) : narrow .boolean (.int (b2 b)) = .int (b2 b) := by cases b <;> decide
theorem b2_nar2 (b : Bool) : vp_nar .boolean (b2 b) = b2 b := by cases b <;> decide
section KwHeap
variable {l : Launch} {D : va_G} {cc : ByteArray} {own : String} {ret : Option FieldType} {nm : String} {R : Room} {A : Nat → Prop} {K : Option PV → (KK → Nat) → PH → Prop} {ad : KK → Nat} {h : PH} {cells slots pc : Nat} {lv : List (Option PV)} {st : List PV}
theorem kw_al {h : PH} {k : KK} {c : PC} (hk : h k = some c) : h k ≠ none := by rw [hk]; exact fun q => by cases q
theorem kw_hA {A : Nat → Prop} {ad : KK → Nat} {h : PH} {k : KK} {c0 c : PC} (hk : h k = some c0) (hA : ∀ k, h k ≠ none → A (ad k)) : ∀ k', kw_up h k c k' ≠ none → A (ad k') := by
  intro k' h1
  by_cases e : k' = k
  · subst e; exact hA _ (kw_al hk)
  · rw [kw_up_n _ _ e] at h1; exact hA _ h1
theorem kw_get {idx ci j : Nat} {ty : FieldType} {fin : Bool} {key : KK} {fs : List PV} {v : PV} (hd : decode cc pc = .ok (.getfield idx, 3)) (hf : kw_FL own idx ci j ty fin) (hk : h key = some (.inr (ci, fs))) (hv : fs[j]? = some v)
    (k : kw_G l D cc own ret nm R A K ad h cells slots (pc + 3) lv (v :: st)) : kw_G l D cc own ret nm R A K ad h cells slots pc lv (pr_ key :: st) := by
  intro p e s m args below meth c H locs ls E hH hA hS hB hl
  obtain ⟨C, T, N, tys, ⟨hc, hin, -, -, hown⟩, hj, -, -, hlink⟩ := hf
  refine va_get (ci := ci) E.1 E.2.1 E.2.2.2.2.1 hin E.2.2.2.1 hH.1 (ws := [(ad key, .inr (ci, fs.map (kw_v ad)))]) (fun i q hq => ?_) 0 rfl hc j hj (E.2.2.2.2.1 _ hlink) (fun x hx => by rw [hown j hj] at hx; exact hx) (v := kw_v ad v) (by rw [List.getElem?_map, hv]; rfl) hd (k p e s m args below meth c H locs ls E hH hA hS hB hl)
  have hz : i = 0 := by have := (List.getElem?_eq_some_iff.mp hq).1; simp at this; exact this
  subst hz
  cases hq
  exact hH.2.1 key _ hk
theorem kw_put {idx ci j : Nat} {ty : FieldType} {key : KK} {fs : List PV} {v : PV} (hd : decode cc pc = .ok (.putfield idx, 3)) (hf : kw_FL own idx ci j ty false) (hk : h key = some (.inr (ci, fs))) (hv : kw_ok ty v) (hlen : j < fs.length)
    (k : kw_G l D cc own ret nm R A K ad (kw_up h key (.inr (ci, fs.set j v))) cells slots (pc + 3) lv st) : kw_G l D cc own ret nm R A K ad h cells slots pc lv (v :: pr_ key :: st) := by
  intro p e s m args below meth c H locs ls E hH hA hS hB hl
  obtain ⟨C, T, N, tys, ⟨hc, hin, hty, hnm, hown⟩, hj, hty2, hfin, hlink⟩ := hf
  have hap := va_apart (own := own) E.2.2.2.2.1 hin tys hty hnm hH.1 hc
  obtain ⟨r, h1, cell, q1, q2, q3, q4⟩ := hH.2.1 key _ hk
  have hr : r = (C, T, N) := Option.some.inj (h1.symm.trans hc)
  subst hr
  obtain ⟨hSl, hfc, kC, hkC, hkind⟩ := hH.1.1 ci _ hc
  obtain ⟨cf, kf, fi, f, hi, hsl⟩ := hSl j hj
  have hlay := E.2.2.2.2.1 _ (hin _ (u_in_lay hj))
  unfold u_lay at hlay
  rw [if_neg (by rw [hfin]; decide)] at hlay
  have hst := (u_facts hfc hkC (u_lays E.2.2.2.2.1 hin hj) hi).1
  have hd2 : parseFieldDescriptor (T j).2.2.1 = some ty := by rw [hty j hj, hty2]
  have h6 := u_store hfc hkC hkind hlay hi hd2 (hv ad).1 (hv ad).2
  have hi2 : s.fieldFound? C (T j).2.1 (T j).2.2.1 = some (cf, kf, fi, f) := by rw [← hown j hj]; exact hi
  refine W.putK E.1 E.2.1 (f := f) ⟨E.2.2.2.1, E.2.2.2.2.1 _ hlink, ⟨_, _, _, hi2⟩, hst⟩ (by rw [q2]; exact h6) q1 q3 (by rw [hsl]; exact k2_hasslot (q4 j hj)) rfl rfl hd fun H' e1 e2 e3 => ?_
  rw [hsl] at e1 ⊢
  refine k p e s m args below meth c H' _ ls E (hH.set hk ?_ e3) (kw_hA hk hA) (hS.put e2 e3 (hA _ (kw_al hk))) hB hl
  refine ⟨_, hc, t_OB.to (V := updV (vp_V (fs.map (kw_v ad))) j (kw_v ad v)) ⟨_, e1, q2, q3, t_set q4 hap hj _⟩ (fun i _ => ?_)⟩
  rw [vp_updV_set (by rw [List.length_map]; exact hlen)]
  simp only [List.map_set]
theorem kw_putF {idx ci j : Nat} {ty : FieldType} {key : KK} {fs : List PV} {v : PV} (hd : decode cc pc = .ok (.putfield idx, 3)) (hf : kw_FL own idx ci j ty true) (hnm : nm = "<init>") (hdecl : ∀ C T N, vwCl[ci]? = some (C, T, N) → C = own) (hk : h key = some (.inr (ci, fs))) (hv : kw_ok ty v) (hlen : j < fs.length)
    (k : kw_G l D cc own ret nm R A K ad (kw_up h key (.inr (ci, fs.set j v))) cells slots (pc + 3) lv st) : kw_G l D cc own ret nm R A K ad h cells slots pc lv (v :: pr_ key :: st) := by
  intro p e s m args below meth c H locs ls E hH hA hS hB hl
  obtain ⟨C, T, N, tys, ⟨hc, hin, hty, hnm2, hown⟩, hj, hty2, hfin, hlink⟩ := hf
  have hap := va_apart (own := own) E.2.2.2.2.1 hin tys hty hnm2 hH.1 hc
  obtain ⟨r, h1, cell, q1, q2, q3, q4⟩ := hH.2.1 key _ hk
  have hr : r = (C, T, N) := Option.some.inj (h1.symm.trans hc)
  subst hr
  obtain ⟨hSl, hfc, kC, hkC, hkind⟩ := hH.1.1 ci _ hc
  obtain ⟨cf, kf, fi, f, hi, hsl⟩ := hSl j hj
  have hlay := E.2.2.2.2.1 _ (hin _ (u_in_lay hj))
  unfold u_lay at hlay
  rw [if_pos hfin] at hlay
  have hst := (u_facts hfc hkC (u_lays E.2.2.2.2.1 hin hj) hi).1
  have hd2 : parseFieldDescriptor (T j).2.2.1 = some ty := by rw [hty j hj, hty2]
  have hi2 : s.fieldFound? C (T j).2.1 (T j).2.2.1 = some (cf, kf, fi, f) := by rw [← hown j hj]; exact hi
  have hcf : m.cls = cf := by
    obtain ⟨_, _, c', _, _, _, -, -, hf', -, -, -, hown2, -⟩ := Cond.laysFinal_spec hlay
    have e1 : c' = cf := by have := hi.symm.trans hf'; simp at this; exact this.1.symm
    rw [hown j hj, hdecl _ _ _ hc] at hown2
    rw [← e1]; exact Option.some.inj (E.2.2.2.1.symm.trans hown2)
  have h6 := u_fits hfc hkC hkind (Or.inr hlay) hi hd2 (hv ad).1 (hv ad).2
  refine W.putFinK E.1 E.2.1 E.2.2.2.1 (E.2.2.2.2.1 _ hlink) hi2 hst hcf (by rw [E.2.2.2.2.2.2.2.1, hnm]) (by rw [q2]; exact h6) q1 q3 (by rw [hsl]; exact k2_hasslot (q4 j hj)) rfl rfl hd fun H' e1 e2 e3 => ?_
  rw [hsl] at e1 ⊢
  refine k p e s m args below meth c H' _ ls E (hH.set hk ?_ e3) (kw_hA hk hA) (hS.put e2 e3 (hA _ (kw_al hk))) hB hl
  refine ⟨_, hc, t_OB.to (V := updV (vp_V (fs.map (kw_v ad))) j (kw_v ad v)) ⟨_, e1, q2, q3, t_set q4 hap hj _⟩ (fun i _ => ?_)⟩
  rw [vp_updV_set (by rw [List.length_map]; exact hlen)]
  simp only [List.map_set]
/-! arrays: reads -/
theorem kw_iald {key : KK} {n : Nat} {f : Nat → Int32} {i : Int32} (hd : decode cc pc = .ok (.iaload, 1)) (hk : h key = some (.inl (.int, n, .inl f))) (hin : vp_in i n)
    (k : kw_G l D cc own ret nm R A K ad h cells slots (pc + 1) lv (pi_ (f i.toNatClampNeg) :: st)) : kw_G l D cc own ret nm R A K ad h cells slots pc lv (pi_ i :: pr_ key :: st) := by
  intro p e s m args below meth c H locs ls E hH hA hS hB hl
  obtain ⟨cA, h1, h2, h3⟩ := hH.2.1 key _ hk
  have hlt : i.toNatClampNeg < n := Nat.not_le.mp fun q => hin (Or.inr q)
  exact W.iald (v := .int (f i.toNatClampNeg)) E.1 E.2.1 h1 (h2 n (fun j => .int (f j))) (fun q => by cases q) (by show ¬ (i < 0 ∨ (arrV _ _ _).slots.size ≤ _); rw [arrV_size]; exact hin) (by show (arrV _ _ _).slots[_]? = _; rw [arrV_read _ _ hlt]) rfl rfl hd (k p e s m args below meth c H locs ls E hH hA hS hB hl)
theorem kw_zald {key : KK} {n : Nat} {f : Nat → Int32} {i : Int32} (hd : decode cc pc = .ok (.baload, 1)) (hk : h key = some (.inl (.boolean, n, .inl f))) (hin : vp_in i n)
    (k : kw_G l D cc own ret nm R A K ad h cells slots (pc + 1) lv (pi_ (f i.toNatClampNeg) :: st)) : kw_G l D cc own ret nm R A K ad h cells slots pc lv (pi_ i :: pr_ key :: st) := by
  intro p e s m args below meth c H locs ls E hH hA hS hB hl
  obtain ⟨cA, h1, h2, h3⟩ := hH.2.1 key _ hk
  have hlt : i.toNatClampNeg < n := Nat.not_le.mp fun q => hin (Or.inr q)
  exact W.zald (v := .int (f i.toNatClampNeg)) E.1 E.2.1 h1 (h2 n (fun j => .int (f j))) (fun q => by cases q) (by show ¬ (i < 0 ∨ (arrV _ _ _).slots.size ≤ _); rw [arrV_size]; exact hin) (by show (arrV _ _ _).slots[_]? = _; rw [arrV_read _ _ hlt]) rfl rfl hd (k p e s m args below meth c H locs ls E hH hA hS hB hl)
theorem kw_lald {key : KK} {n : Nat} {f : Nat → Int64} {i : Int32} (hd : decode cc pc = .ok (.laload, 1)) (hk : h key = some (.inl (.long, n, .inr (.inl f)))) (hin : vp_in i n)
    (k : kw_G l D cc own ret nm R A K ad h cells slots (pc + 1) lv (pl_ (f i.toNatClampNeg) :: st)) : kw_G l D cc own ret nm R A K ad h cells slots pc lv (pi_ i :: pr_ key :: st) := by
  intro p e s m args below meth c H locs ls E hH hA hS hB hl
  obtain ⟨cA, h1, h2, h3⟩ := hH.2.1 key _ hk
  have hlt : i.toNatClampNeg < n := Nat.not_le.mp fun q => hin (Or.inr q)
  exact W.lald (v := .long (f i.toNatClampNeg)) E.1 E.2.1 h1 (h2 n (fun j => .long (f j))) (fun q => by cases q) (by show ¬ (i < 0 ∨ (arrV _ _ _).slots.size ≤ _); rw [arrV_size]; exact hin) (by show (arrV _ _ _).slots[_]? = _; rw [arrV_read _ _ hlt]) rfl rfl hd (k p e s m args below meth c H locs ls E hH hA hS hB hl)
theorem kw_rf (ad : KK → Nat) (x : Option KK) : va_rf (x.map ad) = kw_v ad (.inr (.inr x)) := by cases x <;> rfl
theorem kw_aald {key : KK} {n : Nat} {C : String} {f : Nat → Option KK} {i : Int32} (hd : decode cc pc = .ok (.aaload, 1)) (hk : h key = some (.inl (.object C, n, .inr (.inr f)))) (hin : vp_in i n)
    (k : kw_G l D cc own ret nm R A K ad h cells slots (pc + 1) lv (.inr (.inr (f i.toNatClampNeg)) :: st)) : kw_G l D cc own ret nm R A K ad h cells slots pc lv (pi_ i :: pr_ key :: st) := by
  intro p e s m args below meth c H locs ls E hH hA hS hB hl
  obtain ⟨cA, h1, h2, h3⟩ := hH.2.1 key _ hk
  have hlt : i.toNatClampNeg < n := Nat.not_le.mp fun q => hin (Or.inr q)
  exact W.aald (v := kw_v ad (.inr (.inr (f i.toNatClampNeg)))) (ty := .object C) E.1 E.2.1 h1 (h2 n (fun j => va_rf ((f j).map ad))) rfl (fun q => by cases q) (by show ¬ (i < 0 ∨ (arrV _ _ _).slots.size ≤ _); rw [arrV_size]; exact hin) (by show (arrV _ _ _).slots[_]? = _; rw [arrV_read _ _ hlt, kw_rf]) rfl rfl hd (k p e s m args below meth c H locs ls E hH hA hS hB hl)
theorem kw_alen {key : KK} {a : FieldType × Nat × PX} (hd : decode cc pc = .ok (.arraylength, 1)) (hk : h key = some (.inl a))
    (k : kw_G l D cc own ret nm R A K ad h cells slots (pc + 1) lv (pi_ (nI a.2.1) :: st)) : kw_G l D cc own ret nm R A K ad h cells slots pc lv (pr_ key :: st) := by
  intro p e s m args below meth c H locs ls E hH hA hS hB hl
  obtain ⟨cA, h1, h2, h3⟩ := hH.2.1 key _ hk
  refine va_alen (D := D) (cl := vwCl) (tys := [(cA, a.1)]) (ws := [(ad key, .inl (cA, a.2.1, kw_x ad a.2.2))]) E.1 E.2.1 ⟨hH.1.1, fun i q hq => ?_⟩ (fun i q hq => ?_) 0 0 rfl rfl rfl hd (k p e s m args below meth c H locs ls E hH hA hS hB hl)
  · have hz : i = 0 := by have := (List.getElem?_eq_some_iff.mp hq).1; simp at this; exact this
    subst hz
    cases hq
    exact ⟨h2, h3⟩
  · have hz : i = 0 := by have := (List.getElem?_eq_some_iff.mp hq).1; simp at this; exact this
    subst hz
    cases hq
    exact h1
/-! arrays: writes -/
theorem kw_iast {key : KK} {n : Nat} {f : Nat → Int32} {i x : Int32} (hd : decode cc pc = .ok (.iastore, 1)) (hk : h key = some (.inl (.int, n, .inl f))) (hin : vp_in i n)
    (k : kw_G l D cc own ret nm R A K ad (kw_up h key (.inl (.int, n, .inl (upd f i.toNatClampNeg x)))) cells slots (pc + 1) lv st) : kw_G l D cc own ret nm R A K ad h cells slots pc lv (pi_ x :: pi_ i :: pr_ key :: st) := by
  intro p e s m args below meth c H locs ls E hH hA hS hB hl
  obtain ⟨cA, h1, h2, h3⟩ := hH.2.1 key _ hk
  refine W.iast E.1 E.2.1 h1 (h2 n (fun j => .int (f j))) (fun q => by cases q) (by show ¬ (i < 0 ∨ (arrV _ _ _).slots.size ≤ _); rw [arrV_size]; exact hin) rfl rfl hd fun H1 e0 z oq => ?_
  refine k p e s m args below meth c H1 _ ls E (hH.set hk ⟨cA, ?_, h2, h3⟩ oq) (kw_hA hk hA) (hS.put z oq (hA _ (kw_al hk))) hB hl
  show H1[ad key]? = some (vp_cell _ _)
  rw [e0]
  show some (Cell.setSlot (vp_cell cA (n, .inl f)) _ _) = some (vp_cell cA (n, .inl (upd f i.toNatClampNeg x)))
  rw [vp_cell_i, vp_cell_i, arrV_store]
  congr 2
  funext q
  by_cases hq : q = i.toNatClampNeg
  · subst hq
    simp [updV, upd]
  · simp [updV, upd, hq]
theorem kw_zast {key : KK} {n : Nat} {f : Nat → Int32} {i x : Int32} (hd : decode cc pc = .ok (.bastore, 1)) (hk : h key = some (.inl (.boolean, n, .inl f))) (hin : vp_in i n) (hx : x = 0 ∨ x = 1)
    (k : kw_G l D cc own ret nm R A K ad (kw_up h key (.inl (.boolean, n, .inl (upd f i.toNatClampNeg x)))) cells slots (pc + 1) lv st) : kw_G l D cc own ret nm R A K ad h cells slots pc lv (pi_ x :: pi_ i :: pr_ key :: st) := by
  intro p e s m args below meth c H locs ls E hH hA hS hB hl
  obtain ⟨cA, h1, h2, h3⟩ := hH.2.1 key _ hk
  have hnx : narrow .boolean (.int x) = .int x := by rcases hx with rfl | rfl <;> decide
  refine W.zast E.1 E.2.1 h1 (h2 n (fun j => .int (f j))) (fun q => by cases q) (by show ¬ (i < 0 ∨ (arrV _ _ _).slots.size ≤ _); rw [arrV_size]; exact hin) rfl rfl hd fun H1 e0 z oq => ?_
  refine k p e s m args below meth c H1 _ ls E (hH.set hk ⟨cA, ?_, h2, h3⟩ oq) (kw_hA hk hA) (hS.put z oq (hA _ (kw_al hk))) hB hl
  show H1[ad key]? = some (vp_cell _ _)
  rw [e0, hnx]
  show some (Cell.setSlot (vp_cell cA (n, .inl f)) _ _) = some (vp_cell cA (n, .inl (upd f i.toNatClampNeg x)))
  rw [vp_cell_i, vp_cell_i, arrV_store]
  congr 2
  funext q
  by_cases hq : q = i.toNatClampNeg
  · subst hq
    simp [updV, upd]
  · simp [updV, upd, hq]
theorem kw_last {key : KK} {n : Nat} {f : Nat → Int64} {i : Int32} {x : Int64} (hd : decode cc pc = .ok (.lastore, 1)) (hk : h key = some (.inl (.long, n, .inr (.inl f)))) (hin : vp_in i n)
    (k : kw_G l D cc own ret nm R A K ad (kw_up h key (.inl (.long, n, .inr (.inl (vp_updL f i.toNatClampNeg x))))) cells slots (pc + 1) lv st) : kw_G l D cc own ret nm R A K ad h cells slots pc lv (pl_ x :: pi_ i :: pr_ key :: st) := by
  intro p e s m args below meth c H locs ls E hH hA hS hB hl
  obtain ⟨cA, h1, h2, h3⟩ := hH.2.1 key _ hk
  refine W.last E.1 E.2.1 h1 (h2 n (fun j => .long (f j))) (fun q => by cases q) (by show ¬ (i < 0 ∨ (arrV _ _ _).slots.size ≤ _); rw [arrV_size]; exact hin) rfl rfl hd fun H1 e0 z oq => ?_
  refine k p e s m args below meth c H1 _ ls E (hH.set hk ⟨cA, ?_, h2, h3⟩ oq) (kw_hA hk hA) (hS.put z oq (hA _ (kw_al hk))) hB hl
  show H1[ad key]? = some (vp_cell _ _)
  rw [e0]
  show some (Cell.setSlot (vp_cell cA (n, .inr (.inl f))) _ _) = some (vp_cell cA (n, .inr (.inl (vp_updL f i.toNatClampNeg x))))
  rw [vp_cell_l, vp_cell_l, arrV_store]
  congr 2
  funext q
  by_cases hq : q = i.toNatClampNeg
  · subst hq
    simp [updV, vp_updL]
  · simp [updV, vp_updL, hq]
theorem kw_aast {key kv : KK} {n ci : Nat} {r : vw_C} {f : Nat → Option KK} {fs : List PV} {i : Int32} (hd : decode cc pc = .ok (.aastore, 1)) (hc : vwCl[ci]? = some r) (hk : h key = some (.inl (.object r.1, n, .inr (.inr f)))) (hv : h kv = some (.inr (ci, fs))) (hin : vp_in i n)
    (k : kw_G l D cc own ret nm R A K ad (kw_up h key (.inl (.object r.1, n, .inr (.inr (va_up f i.toNatClampNeg (some kv)))))) cells slots (pc + 1) lv st) : kw_G l D cc own ret nm R A K ad h cells slots pc lv (pr_ kv :: pi_ i :: pr_ key :: st) := by
  intro p e s m args below meth c H locs ls E hH hA hS hB hl
  obtain ⟨cA, h1, h2, h3⟩ := hH.2.1 key _ hk
  have hlt : i.toNatClampNeg < n := Nat.not_le.mp fun q => hin (Or.inr q)
  have h0 : ¬ i < 0 := fun q => hin (Or.inl q)
  obtain ⟨r', hr', cellV, g1, g2, g3, -⟩ := hH.2.1 kv _ hv
  have hcls := (hH.1.1 ci r hc).2
  obtain ⟨kA, comp, k1, k2, k3, -⟩ := id h3
  have hcomp : comp = D.1 ci := Option.some.inj (k3.symm.trans hcls.1)
  subst hcomp
  obtain ⟨kC, hkC, -⟩ := hcls.2
  refine W.aast E.1 E.2.1 h1 (fun q h => by cases h) (fun h => by cases h) k1 k2 rfl hkC ⟨h0, by show _ < (arrV _ _ _).slots.size; rw [arrV_size]; exact hlt⟩ g1 (fun q h => by rw [g3] at h; cases h) (by rw [g2]; exact hkC) (by rw [g2]; exact va_assign hcls) rfl rfl hd fun H1 e0 z oq => ?_
  refine k p e s m args below meth c H1 _ ls E (hH.set hk ⟨cA, ?_, h2, h3⟩ oq) (kw_hA hk hA) (hS.put z oq (hA _ (kw_al hk))) hB hl
  show H1[ad key]? = some (vp_cell _ _)
  rw [e0]
  show some (Cell.setSlot (vp_cell cA (n, .inr (.inr (.inr (.inr (fun j => (f j).map ad)))))) _ _) = some (vp_cell cA (n, .inr (.inr (.inr (.inr (fun j => (va_up f i.toNatClampNeg (some kv) j).map ad))))))
  rw [vp_cell_q, vp_cell_q, arrV_store]
  congr 2
  funext q
  by_cases hq : q = i.toNatClampNeg
  · subst hq
    simp [updV, va_up, va_rf]
  · simp [updV, va_up, hq]
end KwHeap
