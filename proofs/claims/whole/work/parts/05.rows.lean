def kw_nests : List (String × Nat × MethodName × String) := [("SafeSweeps", 9, ⟨"SafeSweeps$Journal", "<init>", "()V"⟩, "SafeSweeps"), ("SafeSweeps", 45, ⟨"SafeSweeps$Rules", "<init>", "()V"⟩, "SafeSweeps"), ("SafeSweeps", 56, ⟨"SafeSweeps$Saver", "<init>", "()V"⟩, "SafeSweeps"), ("SafeSweeps", 69, ⟨"SafeSweeps$Mirror", "<init>", "()V"⟩, "SafeSweeps"), ("SafeSweeps$Store", 81, ⟨"SafeSweeps$Pack", "<init>", "()V"⟩, "SafeSweeps")]
def kw_overs : List String := ["SafeSweeps$Block", "SafeSweeps$Pack", "SafeSweeps$Saver", "SafeSweeps$Snapshot", "SafeSweeps$Mirror"]
def kw_N (s : State) : Prop := (∀ q ∈ kw_nests, va_Nw (.methodLinkNest q.1 q.2.1 q.2.2.1 q.2.2.2) s) ∧ (∀ C ∈ kw_overs, va_AO C s) ∧ va_Nw (.castable "[I" "java/lang/Cloneable") s
theorem kw_N.warm {s U : State} (hW : s.WarmedH U.vm) (h : kw_N s) : kw_N U := ⟨fun q hq => va_Nw.warmM hW (h.1 q hq), fun C hC => (h.2.1 C hC).moved hW.alike, va_Nw.warmC hW h.2.2⟩
/-! THE JUDGEMENT: from the frame at pc, with the locals lv, the stack st, over the world h (keys at ad), the method comes to its end, with K of its answer, of the keys' places and of the world then. -/
def kw_Env (cc : ByteArray) (nL : Nat) (own : String) (ret : Option FieldType) (nm : String) (p : Program) (s : State) (m : MethodId) (args : Array Value) (meth : Method) (c : Code) : Prop :=
  p.tables.exec = Jvm.exec ∧ c.code = cc ∧ c.maxLocals = nL ∧ s.vm.findClass own = some m.cls ∧ (∀ w ∈ kw_tbl, w.before args s = true) ∧ meth.sig.returnType = ret ∧ meth.locks = false ∧ meth.name = nm ∧ kw_N s
def kw_Qc (D : va_G) (K : Option PV → (KK → Nat) → PH → Prop) (A : Nat → Prop) : Array Value → State → Outcome → State → Prop := fun _ st oc t =>
  (∃ (r : Option PV) (ad : KK → Nat) (h : PH), oc = .returned (r.map (kw_v ad)) ∧ K r ad h ∧ kw_H D t t.heap ad h ∧ ∀ k, h k ≠ none → A (ad k)) ∧ va_F A st t
def kw_G (l : Launch) (D : va_G) (cc : ByteArray) (own : String) (ret : Option FieldType) (nm : String) (R : Room) (A : Nat → Prop) (K : Option PV → (KK → Nat) → PH → Prop) (ad : KK → Nat) (h : PH) (cells slots : Nat) (pc : Nat) (lv : List (Option PV)) (st : List PV) : Prop :=
  ∀ (p : Program) (e : Env) (s : State) (m : MethodId) (args : Array Value) (below : List Frame) (meth : Method) (c : Code) (H : Heap) (locs : List Loc) (ls : Array Slot),
    kw_Env cc lv.length own ret nm p s m args meth c → kw_H D s H ad h → (∀ k, h k ≠ none → A (ad k)) → va_S A s.heap H locs → (∀ q, s.heap.size ≤ q → A q) → kw_L ad ls lv →
    W p l e R s m args below meth c H locs cells slots (MQ below (kw_Qc D K A) args s R.cells R.slots A) (F0 m pc ls (st.map (kw_v ad)))
section KwRows
variable {l : Launch} {D : va_G} {cc : ByteArray} {own : String} {ret : Option FieldType} {nm : String} {R : Room} {A : Nat → Prop} {K : Option PV → (KK → Nat) → PH → Prop} {ad : KK → Nat} {h : PH} {cells slots pc : Nat} {lv : List (Option PV)} {st : List PV}
/-- another text of the same world -/
theorem kw_heq {h' : PH} (e : h = h') (k : kw_G l D cc own ret nm R A K ad h' cells slots pc lv st) : kw_G l D cc own ret nm R A K ad h cells slots pc lv st := e ▸ k
theorem kw_steq {st' : List PV} (e : st = st') (k : kw_G l D cc own ret nm R A K ad h cells slots pc lv st') : kw_G l D cc own ret nm R A K ad h cells slots pc lv st := e ▸ k
theorem kw_top {v v' : PV} (e : v = v') (k : kw_G l D cc own ret nm R A K ad h cells slots pc lv (v' :: st)) : kw_G l D cc own ret nm R A K ad h cells slots pc lv (v :: st) := e ▸ k
theorem kw_top2 {u v v' : PV} (e : v = v') (k : kw_G l D cc own ret nm R A K ad h cells slots pc lv (u :: v' :: st)) : kw_G l D cc own ret nm R A K ad h cells slots pc lv (u :: v :: st) := e ▸ k
theorem kw_lveq {lv' : List (Option PV)} (e : lv = lv') (k : kw_G l D cc own ret nm R A K ad h cells slots pc lv' st) : kw_G l D cc own ret nm R A K ad h cells slots pc lv st := e ▸ k
theorem kw_lvle {lv' : List (Option PV)} (e : kw_le lv lv') (k : kw_G l D cc own ret nm R A K ad h cells slots pc lv' st) : kw_G l D cc own ret nm R A K ad h cells slots pc lv st := by
  intro p e1 s m args below meth c H locs ls E hH hA hS hB hl
  rw [kw_le_len _ _ e] at E
  exact k p e1 s m args below meth c H locs ls E hH hA hS hB (hl.le e)
theorem kw_wid {c2 s2 : Nat} (h1 : cells ≤ c2) (h2 : slots ≤ s2) (k : kw_G l D cc own ret nm R A K ad h c2 s2 pc lv st) : kw_G l D cc own ret nm R A K ad h cells slots pc lv st := by
  intro p e s m args below meth c H locs ls E hH hA hS hB hl
  exact W.widen h1 h2 (k p e s m args below meth c H locs ls E hH hA hS hB hl)
theorem kw_iconst {n : Int} {v : Int32} (hd : decode cc pc = .ok (.iconst n, 1)) (hv : Int32.ofInt n = v)
    (k : kw_G l D cc own ret nm R A K ad h cells slots (pc + 1) lv (pi_ v :: st)) : kw_G l D cc own ret nm R A K ad h cells slots pc lv st := by
  intro p e s m args below meth c H locs ls E hH hA hS hB hl
  exact lv_iconst E.1 E.2.1 hd hv (k p e s m args below meth c H locs ls E hH hA hS hB hl)
theorem kw_bipush {n : Int} {v : Int32} (hd : decode cc pc = .ok (.bipush n, 2)) (hv : (Int8.ofInt n).toInt32 = v)
    (k : kw_G l D cc own ret nm R A K ad h cells slots (pc + 2) lv (pi_ v :: st)) : kw_G l D cc own ret nm R A K ad h cells slots pc lv st := by
  intro p e s m args below meth c H locs ls E hH hA hS hB hl
  exact lv_bipush E.1 E.2.1 hd hv (k p e s m args below meth c H locs ls E hH hA hS hB hl)
theorem kw_sipush {n : Int} {v : Int32} (hd : decode cc pc = .ok (.sipush n, 3)) (hv : (Int16.ofInt n).toInt32 = v)
    (k : kw_G l D cc own ret nm R A K ad h cells slots (pc + 3) lv (pi_ v :: st)) : kw_G l D cc own ret nm R A K ad h cells slots pc lv st := by
  intro p e s m args below meth c H locs ls E hH hA hS hB hl
  exact lv_sipush E.1 E.2.1 hd hv (k p e s m args below meth c H locs ls E hH hA hS hB hl)
theorem kw_lconst {n : Fin 2} {v : Int64} (hd : decode cc pc = .ok (.lconst n, 1)) (hv : Int64.ofNat (n : Nat) = v)
    (k : kw_G l D cc own ret nm R A K ad h cells slots (pc + 1) lv (pl_ v :: st)) : kw_G l D cc own ret nm R A K ad h cells slots pc lv st := by
  intro p e s m args below meth c H locs ls E hH hA hS hB hl
  exact lv_lconst E.1 E.2.1 hd hv (k p e s m args below meth c H locs ls E hH hA hS hB hl)
theorem kw_ldc {i : Nat} {v : Int32} (hd : decode cc pc = .ok (.ldc i, 2)) (hc : Jvm.Cond.constant own i v ∈ kw_tbl)
    (k : kw_G l D cc own ret nm R A K ad h cells slots (pc + 2) lv (pi_ v :: st)) : kw_G l D cc own ret nm R A K ad h cells slots pc lv st := by
  intro p e s m args below meth c H locs ls E hH hA hS hB hl
  exact lv_ldc E.1 E.2.1 E.2.2.2.1 (E.2.2.2.2.1 _ hc) hd (k p e s m args below meth c H locs ls E hH hA hS hB hl)
theorem kw_ldc2 {i : Nat} {v : Int64} (hd : decode cc pc = .ok (.ldc2_w i, 3)) (hc : Jvm.Cond.constantLong own i v ∈ kw_tbl)
    (k : kw_G l D cc own ret nm R A K ad h cells slots (pc + 3) lv (pl_ v :: st)) : kw_G l D cc own ret nm R A K ad h cells slots pc lv st := by
  intro p e s m args below meth c H locs ls E hH hA hS hB hl
  exact lv_ldc2 E.1 E.2.1 E.2.2.2.1 (E.2.2.2.2.1 _ hc) hd (k p e s m args below meth c H locs ls E hH hA hS hB hl)
theorem kw_null  (hd : decode cc pc = .ok (.aconst_null, 1))
    (k : kw_G l D cc own ret nm R A K ad h cells slots (pc + 1) lv (pn_ :: st)) : kw_G l D cc own ret nm R A K ad h cells slots pc lv st := by
  intro p e s m args below meth c H locs ls E hH hA hS hB hl
  exact lv_null E.1 E.2.1 hd (k p e s m args below meth c H locs ls E hH hA hS hB hl)
theorem kw_iload_n {i : Fin 4} {x : Int32} (hd : decode cc pc = .ok (.iload_n i, 1)) (hv : lv[(i : Nat)]? = some (some (pi_ x)))
    (k : kw_G l D cc own ret nm R A K ad h cells slots (pc + 1) lv (pi_ x :: st)) : kw_G l D cc own ret nm R A K ad h cells slots pc lv st := by
  intro p e s m args below meth c H locs ls E hH hA hS hB hl
  exact lv_iload_n E.1 E.2.1 hd rfl (hl.2.2 _ _ hv) (k p e s m args below meth c H locs ls E hH hA hS hB hl)
theorem kw_iload {i : Nat} {x : Int32} (hd : decode cc pc = .ok (.iload i, 2)) (hv : lv[i]? = some (some (pi_ x)))
    (k : kw_G l D cc own ret nm R A K ad h cells slots (pc + 2) lv (pi_ x :: st)) : kw_G l D cc own ret nm R A K ad h cells slots pc lv st := by
  intro p e s m args below meth c H locs ls E hH hA hS hB hl
  exact lv_iload E.1 E.2.1 hd (hl.2.2 _ _ hv) (k p e s m args below meth c H locs ls E hH hA hS hB hl)
theorem kw_lload_n {i : Fin 4} {x : Int64} (hd : decode cc pc = .ok (.lload_n i, 1)) (hv : lv[(i : Nat)]? = some (some (pl_ x)))
    (k : kw_G l D cc own ret nm R A K ad h cells slots (pc + 1) lv (pl_ x :: st)) : kw_G l D cc own ret nm R A K ad h cells slots pc lv st := by
  intro p e s m args below meth c H locs ls E hH hA hS hB hl
  exact lv_lload_n E.1 E.2.1 hd rfl (hl.2.2 _ _ hv) (k p e s m args below meth c H locs ls E hH hA hS hB hl)
theorem kw_lload {i : Nat} {x : Int64} (hd : decode cc pc = .ok (.lload i, 2)) (hv : lv[i]? = some (some (pl_ x)))
    (k : kw_G l D cc own ret nm R A K ad h cells slots (pc + 2) lv (pl_ x :: st)) : kw_G l D cc own ret nm R A K ad h cells slots pc lv st := by
  intro p e s m args below meth c H locs ls E hH hA hS hB hl
  exact lv_lload E.1 E.2.1 hd (hl.2.2 _ _ hv) (k p e s m args below meth c H locs ls E hH hA hS hB hl)
theorem kw_aload_n {i : Fin 4} {x : Option KK} (hd : decode cc pc = .ok (.aload_n i, 1)) (hv : lv[(i : Nat)]? = some (some (.inr (.inr x))))
    (k : kw_G l D cc own ret nm R A K ad h cells slots (pc + 1) lv (.inr (.inr x) :: st)) : kw_G l D cc own ret nm R A K ad h cells slots pc lv st := by
  intro p e s m args below meth c H locs ls E hH hA hS hB hl
  have h1 := hl.2.2 _ _ hv
  have k1 := k p e s m args below meth c H locs ls E hH hA hS hB hl
  cases x with
  | none => exact lv_aload_nN E.1 E.2.1 hd rfl h1 k1
  | some x => exact lv_aload_n E.1 E.2.1 hd rfl h1 k1
theorem kw_aload {i : Nat} {x : Option KK} (hd : decode cc pc = .ok (.aload i, 2)) (hv : lv[i]? = some (some (.inr (.inr x))))
    (k : kw_G l D cc own ret nm R A K ad h cells slots (pc + 2) lv (.inr (.inr x) :: st)) : kw_G l D cc own ret nm R A K ad h cells slots pc lv st := by
  intro p e s m args below meth c H locs ls E hH hA hS hB hl
  have h1 := hl.2.2 _ _ hv
  have k1 := k p e s m args below meth c H locs ls E hH hA hS hB hl
  cases x with
  | none => exact lv_aloadN E.1 E.2.1 hd h1 k1
  | some x => exact lv_aload E.1 E.2.1 hd h1 k1
theorem kw_istore_n {i : Fin 4} {x : Int32} (hd : decode cc pc = .ok (.istore_n i, 1)) (hn : (i : Nat) < lv.length)
    (k : kw_G l D cc own ret nm R A K ad h cells slots (pc + 1) (kw_set1 lv (i : Nat) (pi_ x)) st) : kw_G l D cc own ret nm R A K ad h cells slots pc lv (pi_ x :: st) := by
  intro p e s m args below meth c H locs ls E hH hA hS hB hl
  exact lv_istore_n E.1 E.2.1 hd rfl hl.has hn rfl (fun ls' hl' => k p e s m args below meth c H locs ls' (by rw [kw_set1_len]; exact E) hH hA hS hB (kw_L.of1 hl'))
theorem kw_istore {i : Nat} {x : Int32} (hd : decode cc pc = .ok (.istore i, 2)) (hn : i < lv.length)
    (k : kw_G l D cc own ret nm R A K ad h cells slots (pc + 2) (kw_set1 lv i (pi_ x)) st) : kw_G l D cc own ret nm R A K ad h cells slots pc lv (pi_ x :: st) := by
  intro p e s m args below meth c H locs ls E hH hA hS hB hl
  exact lv_istore E.1 E.2.1 hd hl.has hn rfl (fun ls' hl' => k p e s m args below meth c H locs ls' (by rw [kw_set1_len]; exact E) hH hA hS hB (kw_L.of1 hl'))
theorem kw_lstore_n {i : Fin 4} {x : Int64} (hd : decode cc pc = .ok (.lstore_n i, 1)) (hn : (i : Nat) + 1 < lv.length)
    (k : kw_G l D cc own ret nm R A K ad h cells slots (pc + 1) (kw_set2 lv (i : Nat) (pl_ x)) st) : kw_G l D cc own ret nm R A K ad h cells slots pc lv (pl_ x :: st) := by
  intro p e s m args below meth c H locs ls E hH hA hS hB hl
  exact lv_lstore_n E.1 E.2.1 hd rfl hl.has hn rfl (fun ls' hl' => k p e s m args below meth c H locs ls' (by rw [kw_set2_len]; exact E) hH hA hS hB (kw_L.of2 hl'))
theorem kw_lstore {i : Nat} {x : Int64} (hd : decode cc pc = .ok (.lstore i, 2)) (hn : i + 1 < lv.length)
    (k : kw_G l D cc own ret nm R A K ad h cells slots (pc + 2) (kw_set2 lv i (pl_ x)) st) : kw_G l D cc own ret nm R A K ad h cells slots pc lv (pl_ x :: st) := by
  intro p e s m args below meth c H locs ls E hH hA hS hB hl
  exact lv_lstore E.1 E.2.1 hd hl.has hn rfl (fun ls' hl' => k p e s m args below meth c H locs ls' (by rw [kw_set2_len]; exact E) hH hA hS hB (kw_L.of2 hl'))
theorem kw_astore_n {i : Fin 4} {x : Option KK} (hd : decode cc pc = .ok (.astore_n i, 1)) (hn : (i : Nat) < lv.length)
    (k : kw_G l D cc own ret nm R A K ad h cells slots (pc + 1) (kw_set1 lv (i : Nat) (.inr (.inr x))) st) : kw_G l D cc own ret nm R A K ad h cells slots pc lv (.inr (.inr x) :: st) := by
  intro p e s m args below meth c H locs ls E hH hA hS hB hl
  cases x with
  | none => exact lv_astore_nN E.1 E.2.1 hd rfl hl.has hn rfl (fun ls' hl' => k p e s m args below meth c H locs ls' (by rw [kw_set1_len]; exact E) hH hA hS hB (kw_L.of1 hl'))
  | some x => exact lv_astore_n E.1 E.2.1 hd rfl hl.has hn rfl (fun ls' hl' => k p e s m args below meth c H locs ls' (by rw [kw_set1_len]; exact E) hH hA hS hB (kw_L.of1 hl'))
theorem kw_astore {i : Nat} {x : Option KK} (hd : decode cc pc = .ok (.astore i, 2)) (hn : i < lv.length)
    (k : kw_G l D cc own ret nm R A K ad h cells slots (pc + 2) (kw_set1 lv i (.inr (.inr x))) st) : kw_G l D cc own ret nm R A K ad h cells slots pc lv (.inr (.inr x) :: st) := by
  intro p e s m args below meth c H locs ls E hH hA hS hB hl
  cases x with
  | none => exact lv_astoreN E.1 E.2.1 hd hl.has hn rfl (fun ls' hl' => k p e s m args below meth c H locs ls' (by rw [kw_set1_len]; exact E) hH hA hS hB (kw_L.of1 hl'))
  | some x => exact lv_astore E.1 E.2.1 hd hl.has hn rfl (fun ls' hl' => k p e s m args below meth c H locs ls' (by rw [kw_set1_len]; exact E) hH hA hS hB (kw_L.of1 hl'))
theorem kw_iinc {i : Nat} {n : Int} {x v : Int32} (hd : decode cc pc = .ok (.iinc i n, 3)) (hx : lv[i]? = some (some (pi_ x))) (hv : x + Int32.ofInt n = v)
    (k : kw_G l D cc own ret nm R A K ad h cells slots (pc + 3) (kw_set1 lv i (pi_ v)) st) : kw_G l D cc own ret nm R A K ad h cells slots pc lv st := by
  intro p e s m args below meth c H locs ls E hH hA hS hB hl
  obtain ⟨j, hj⟩ := List.getElem?_of_mem ((kw_lst_mem ad lv i _).mpr ⟨_, hx, rfl⟩)
  exact lv_iinc E.1 E.2.1 hd hl.has hj hv (List.getElem?_eq_some_iff.mp hx).1 rfl (fun ls' hl' => k p e s m args below meth c H locs ls' (by rw [kw_set1_len]; exact E) hH hA hS hB (kw_L.of1 hl'))
theorem kw_iadd {x y : Int32} (hd : decode cc pc = .ok (.iadd, 1))
    (k : kw_G l D cc own ret nm R A K ad h cells slots (pc + 1) lv (pi_ (x + y) :: st)) : kw_G l D cc own ret nm R A K ad h cells slots pc lv (pi_ y :: pi_ x :: st) := by
  intro p e s m args below meth c H locs ls E hH hA hS hB hl
  exact lv_iadd E.1 E.2.1 hd (k p e s m args below meth c H locs ls E hH hA hS hB hl)
theorem kw_isub {x y : Int32} (hd : decode cc pc = .ok (.isub, 1))
    (k : kw_G l D cc own ret nm R A K ad h cells slots (pc + 1) lv (pi_ (x - y) :: st)) : kw_G l D cc own ret nm R A K ad h cells slots pc lv (pi_ y :: pi_ x :: st) := by
  intro p e s m args below meth c H locs ls E hH hA hS hB hl
  exact lv_isub E.1 E.2.1 hd (k p e s m args below meth c H locs ls E hH hA hS hB hl)
theorem kw_imul {x y : Int32} (hd : decode cc pc = .ok (.imul, 1))
    (k : kw_G l D cc own ret nm R A K ad h cells slots (pc + 1) lv (pi_ (x * y) :: st)) : kw_G l D cc own ret nm R A K ad h cells slots pc lv (pi_ y :: pi_ x :: st) := by
  intro p e s m args below meth c H locs ls E hH hA hS hB hl
  exact lv_imul E.1 E.2.1 hd (k p e s m args below meth c H locs ls E hH hA hS hB hl)
theorem kw_iand {x y : Int32} (hd : decode cc pc = .ok (.iand, 1))
    (k : kw_G l D cc own ret nm R A K ad h cells slots (pc + 1) lv (pi_ (x &&& y) :: st)) : kw_G l D cc own ret nm R A K ad h cells slots pc lv (pi_ y :: pi_ x :: st) := by
  intro p e s m args below meth c H locs ls E hH hA hS hB hl
  exact lv_iand E.1 E.2.1 hd (k p e s m args below meth c H locs ls E hH hA hS hB hl)
theorem kw_ior {x y : Int32} (hd : decode cc pc = .ok (.ior, 1))
    (k : kw_G l D cc own ret nm R A K ad h cells slots (pc + 1) lv (pi_ (x ||| y) :: st)) : kw_G l D cc own ret nm R A K ad h cells slots pc lv (pi_ y :: pi_ x :: st) := by
  intro p e s m args below meth c H locs ls E hH hA hS hB hl
  exact lv_ior E.1 E.2.1 hd (k p e s m args below meth c H locs ls E hH hA hS hB hl)
theorem kw_ishl {x y : Int32} (hd : decode cc pc = .ok (.ishl, 1))
    (k : kw_G l D cc own ret nm R A K ad h cells slots (pc + 1) lv (pi_ (x <<< (y &&& 31)) :: st)) : kw_G l D cc own ret nm R A K ad h cells slots pc lv (pi_ y :: pi_ x :: st) := by
  intro p e s m args below meth c H locs ls E hH hA hS hB hl
  exact lv_ishl E.1 E.2.1 hd (k p e s m args below meth c H locs ls E hH hA hS hB hl)
theorem kw_ishr {x y : Int32} (hd : decode cc pc = .ok (.ishr, 1))
    (k : kw_G l D cc own ret nm R A K ad h cells slots (pc + 1) lv (pi_ (x >>> (y &&& 31)) :: st)) : kw_G l D cc own ret nm R A K ad h cells slots pc lv (pi_ y :: pi_ x :: st) := by
  intro p e s m args below meth c H locs ls E hH hA hS hB hl
  exact lv_ishr E.1 E.2.1 hd (k p e s m args below meth c H locs ls E hH hA hS hB hl)
theorem kw_idiv {x y : Int32} (hd : decode cc pc = .ok (.idiv, 1)) (hne : ¬ y = 0)
    (k : kw_G l D cc own ret nm R A K ad h cells slots (pc + 1) lv (pi_ (x / y) :: st)) : kw_G l D cc own ret nm R A K ad h cells slots pc lv (pi_ y :: pi_ x :: st) := by
  intro p e s m args below meth c H locs ls E hH hA hS hB hl
  exact lv_idiv E.1 E.2.1 hd hne (k p e s m args below meth c H locs ls E hH hA hS hB hl)
theorem kw_irem {x y : Int32} (hd : decode cc pc = .ok (.irem, 1)) (hne : ¬ y = 0)
    (k : kw_G l D cc own ret nm R A K ad h cells slots (pc + 1) lv (pi_ (x - x / y * y) :: st)) : kw_G l D cc own ret nm R A K ad h cells slots pc lv (pi_ y :: pi_ x :: st) := by
  intro p e s m args below meth c H locs ls E hH hA hS hB hl
  exact lv_irem E.1 E.2.1 hd hne (k p e s m args below meth c H locs ls E hH hA hS hB hl)
theorem kw_ladd {x y : Int64} (hd : decode cc pc = .ok (.ladd, 1))
    (k : kw_G l D cc own ret nm R A K ad h cells slots (pc + 1) lv (pl_ (x + y) :: st)) : kw_G l D cc own ret nm R A K ad h cells slots pc lv (pl_ y :: pl_ x :: st) := by
  intro p e s m args below meth c H locs ls E hH hA hS hB hl
  exact lv_ladd E.1 E.2.1 hd (k p e s m args below meth c H locs ls E hH hA hS hB hl)
theorem kw_lsub {x y : Int64} (hd : decode cc pc = .ok (.lsub, 1))
    (k : kw_G l D cc own ret nm R A K ad h cells slots (pc + 1) lv (pl_ (x - y) :: st)) : kw_G l D cc own ret nm R A K ad h cells slots pc lv (pl_ y :: pl_ x :: st) := by
  intro p e s m args below meth c H locs ls E hH hA hS hB hl
  exact lv_lsub E.1 E.2.1 hd (k p e s m args below meth c H locs ls E hH hA hS hB hl)
theorem kw_lmul {x y : Int64} (hd : decode cc pc = .ok (.lmul, 1))
    (k : kw_G l D cc own ret nm R A K ad h cells slots (pc + 1) lv (pl_ (x * y) :: st)) : kw_G l D cc own ret nm R A K ad h cells slots pc lv (pl_ y :: pl_ x :: st) := by
  intro p e s m args below meth c H locs ls E hH hA hS hB hl
  exact lv_lmul E.1 E.2.1 hd (k p e s m args below meth c H locs ls E hH hA hS hB hl)
theorem kw_land {x y : Int64} (hd : decode cc pc = .ok (.land, 1))
    (k : kw_G l D cc own ret nm R A K ad h cells slots (pc + 1) lv (pl_ (x &&& y) :: st)) : kw_G l D cc own ret nm R A K ad h cells slots pc lv (pl_ y :: pl_ x :: st) := by
  intro p e s m args below meth c H locs ls E hH hA hS hB hl
  exact lv_land E.1 E.2.1 hd (k p e s m args below meth c H locs ls E hH hA hS hB hl)
theorem kw_lor {x y : Int64} (hd : decode cc pc = .ok (.lor, 1))
    (k : kw_G l D cc own ret nm R A K ad h cells slots (pc + 1) lv (pl_ (x ||| y) :: st)) : kw_G l D cc own ret nm R A K ad h cells slots pc lv (pl_ y :: pl_ x :: st) := by
  intro p e s m args below meth c H locs ls E hH hA hS hB hl
  exact lv_lor E.1 E.2.1 hd (k p e s m args below meth c H locs ls E hH hA hS hB hl)
theorem kw_lxor {x y : Int64} (hd : decode cc pc = .ok (.lxor, 1))
    (k : kw_G l D cc own ret nm R A K ad h cells slots (pc + 1) lv (pl_ (x ^^^ y) :: st)) : kw_G l D cc own ret nm R A K ad h cells slots pc lv (pl_ y :: pl_ x :: st) := by
  intro p e s m args below meth c H locs ls E hH hA hS hB hl
  exact lv_lxor E.1 E.2.1 hd (k p e s m args below meth c H locs ls E hH hA hS hB hl)
theorem kw_ldiv {x y : Int64} (hd : decode cc pc = .ok (.ldiv, 1)) (hne : ¬ y = 0)
    (k : kw_G l D cc own ret nm R A K ad h cells slots (pc + 1) lv (pl_ (x / y) :: st)) : kw_G l D cc own ret nm R A K ad h cells slots pc lv (pl_ y :: pl_ x :: st) := by
  intro p e s m args below meth c H locs ls E hH hA hS hB hl
  exact lv_ldiv E.1 E.2.1 hd hne (k p e s m args below meth c H locs ls E hH hA hS hB hl)
theorem kw_lrem {x y : Int64} (hd : decode cc pc = .ok (.lrem, 1)) (hne : ¬ y = 0)
    (k : kw_G l D cc own ret nm R A K ad h cells slots (pc + 1) lv (pl_ (x - x / y * y) :: st)) : kw_G l D cc own ret nm R A K ad h cells slots pc lv (pl_ y :: pl_ x :: st) := by
  intro p e s m args below meth c H locs ls E hH hA hS hB hl
  exact lv_lrem E.1 E.2.1 hd hne (k p e s m args below meth c H locs ls E hH hA hS hB hl)
theorem kw_lshl {x : Int64} {y : Int32} (hd : decode cc pc = .ok (.lshl, 1))
    (k : kw_G l D cc own ret nm R A K ad h cells slots (pc + 1) lv (pl_ (x <<< (y.toInt64 &&& 63)) :: st)) : kw_G l D cc own ret nm R A K ad h cells slots pc lv (pi_ y :: pl_ x :: st) := by
  intro p e s m args below meth c H locs ls E hH hA hS hB hl
  exact lv_lshl E.1 E.2.1 hd rfl (k p e s m args below meth c H locs ls E hH hA hS hB hl)
theorem kw_i2l {x : Int32} (hd : decode cc pc = .ok (.i2l, 1))
    (k : kw_G l D cc own ret nm R A K ad h cells slots (pc + 1) lv (pl_ x.toInt64 :: st)) : kw_G l D cc own ret nm R A K ad h cells slots pc lv (pi_ x :: st) := by
  intro p e s m args below meth c H locs ls E hH hA hS hB hl
  exact lv_i2l E.1 E.2.1 hd rfl (k p e s m args below meth c H locs ls E hH hA hS hB hl)
theorem kw_l2i {x : Int64} (hd : decode cc pc = .ok (.l2i, 1))
    (k : kw_G l D cc own ret nm R A K ad h cells slots (pc + 1) lv (pi_ x.toInt32 :: st)) : kw_G l D cc own ret nm R A K ad h cells slots pc lv (pl_ x :: st) := by
  intro p e s m args below meth c H locs ls E hH hA hS hB hl
  exact lv_l2i E.1 E.2.1 hd rfl (k p e s m args below meth c H locs ls E hH hA hS hB hl)
theorem kw_lcmp {x y : Int64} (hd : decode cc pc = .ok (.lcmp, 1))
    (k : kw_G l D cc own ret nm R A K ad h cells slots (pc + 1) lv (pi_ (lg_cmp x y) :: st)) : kw_G l D cc own ret nm R A K ad h cells slots pc lv (pl_ y :: pl_ x :: st) := by
  intro p e s m args below meth c H locs ls E hH hA hS hB hl
  exact W.lcmp E.1 E.2.1 hd (k p e s m args below meth c H locs ls E hH hA hS hB hl)
theorem kw_dup {v : PV} (hd : decode cc pc = .ok (.dup, 1)) (hc : kw_cat v = 1)
    (k : kw_G l D cc own ret nm R A K ad h cells slots (pc + 1) lv (v :: v :: st)) : kw_G l D cc own ret nm R A K ad h cells slots pc lv (v :: st) := by
  intro p e s m args below meth c H locs ls E hH hA hS hB hl
  exact lv_dup E.1 E.2.1 hd (by rw [kw_cat_v]; exact hc) (k p e s m args below meth c H locs ls E hH hA hS hB hl)
theorem kw_pop {v : PV} (hd : decode cc pc = .ok (.pop, 1)) (hc : kw_cat v = 1)
    (k : kw_G l D cc own ret nm R A K ad h cells slots (pc + 1) lv st) : kw_G l D cc own ret nm R A K ad h cells slots pc lv (v :: st) := by
  intro p e s m args below meth c H locs ls E hH hA hS hB hl
  exact lv_pop E.1 E.2.1 hd (by rw [kw_cat_v]; exact hc) (k p e s m args below meth c H locs ls E hH hA hS hB hl)
theorem kw_dup2 {v w : PV} (hd : decode cc pc = .ok (.dup2, 1)) (hc : kw_cat v = 1) (hc2 : kw_cat w = 1)
    (k : kw_G l D cc own ret nm R A K ad h cells slots (pc + 1) lv (v :: w :: v :: w :: st)) : kw_G l D cc own ret nm R A K ad h cells slots pc lv (v :: w :: st) := by
  intro p e s m args below meth c H locs ls E hH hA hS hB hl
  exact lv_dup2_11 E.1 E.2.1 hd (by rw [kw_cat_v]; exact hc) (by rw [kw_cat_v]; exact hc2) (k p e s m args below meth c H locs ls E hH hA hS hB hl)
theorem kw_dup_x1 {v w : PV} (hd : decode cc pc = .ok (.dup_x1, 1)) (hc : kw_cat v = 1) (hc2 : kw_cat w = 1)
    (k : kw_G l D cc own ret nm R A K ad h cells slots (pc + 1) lv (v :: w :: v :: st)) : kw_G l D cc own ret nm R A K ad h cells slots pc lv (v :: w :: st) := by
  intro p e s m args below meth c H locs ls E hH hA hS hB hl
  exact lv_dup_x1 E.1 E.2.1 hd (by rw [kw_cat_v]; exact hc) (by rw [kw_cat_v]; exact hc2) (k p e s m args below meth c H locs ls E hH hA hS hB hl)
theorem kw_goto {off : Int} {tgt : Nat} (hd : decode cc pc = .ok (.goto off, 3)) (ht : (pc : Int) + off = (tgt : Int))
    (k : kw_G l D cc own ret nm R A K ad h cells slots tgt lv st) : kw_G l D cc own ret nm R A K ad h cells slots pc lv st := by
  intro p e s m args below meth c H locs ls E hH hA hS hB hl
  exact lv_goto E.1 E.2.1 hd ht (k p e s m args below meth c H locs ls E hH hA hS hB hl)
theorem kw_if_eq {x : Int32} {off : Int} {tgt : Nat} (hd : decode cc pc = .ok (.ifCond .eq off, 3)) (ht : (pc : Int) + off = (tgt : Int))
    (kt : x = 0 → kw_G l D cc own ret nm R A K ad h cells slots tgt lv st) (kf : ¬ x = 0 → kw_G l D cc own ret nm R A K ad h cells slots (pc + 3) lv st) : kw_G l D cc own ret nm R A K ad h cells slots pc lv (pi_ x :: st) := by
  intro p e s m args below meth c H locs ls E hH hA hS hB hl
  exact lv_if_eq E.1 E.2.1 hd ht (fun q => kt q p e s m args below meth c H locs ls E hH hA hS hB hl) (fun q => kf q p e s m args below meth c H locs ls E hH hA hS hB hl)
theorem kw_icmp_eq {x y : Int32} {off : Int} {tgt : Nat} (hd : decode cc pc = .ok (.if_icmp .eq off, 3)) (ht : (pc : Int) + off = (tgt : Int))
    (kt : x = y → kw_G l D cc own ret nm R A K ad h cells slots tgt lv st) (kf : ¬ x = y → kw_G l D cc own ret nm R A K ad h cells slots (pc + 3) lv st) : kw_G l D cc own ret nm R A K ad h cells slots pc lv (pi_ y :: pi_ x :: st) := by
  intro p e s m args below meth c H locs ls E hH hA hS hB hl
  exact lv_icmp_eq E.1 E.2.1 hd ht (fun q => kt q p e s m args below meth c H locs ls E hH hA hS hB hl) (fun q => kf q p e s m args below meth c H locs ls E hH hA hS hB hl)
theorem kw_if_ne {x : Int32} {off : Int} {tgt : Nat} (hd : decode cc pc = .ok (.ifCond .ne off, 3)) (ht : (pc : Int) + off = (tgt : Int))
    (kt : ¬ x = 0 → kw_G l D cc own ret nm R A K ad h cells slots tgt lv st) (kf : x = 0 → kw_G l D cc own ret nm R A K ad h cells slots (pc + 3) lv st) : kw_G l D cc own ret nm R A K ad h cells slots pc lv (pi_ x :: st) := by
  intro p e s m args below meth c H locs ls E hH hA hS hB hl
  exact lv_if_ne E.1 E.2.1 hd ht (fun q => kt q p e s m args below meth c H locs ls E hH hA hS hB hl) (fun q => kf q p e s m args below meth c H locs ls E hH hA hS hB hl)
theorem kw_icmp_ne {x y : Int32} {off : Int} {tgt : Nat} (hd : decode cc pc = .ok (.if_icmp .ne off, 3)) (ht : (pc : Int) + off = (tgt : Int))
    (kt : ¬ x = y → kw_G l D cc own ret nm R A K ad h cells slots tgt lv st) (kf : x = y → kw_G l D cc own ret nm R A K ad h cells slots (pc + 3) lv st) : kw_G l D cc own ret nm R A K ad h cells slots pc lv (pi_ y :: pi_ x :: st) := by
  intro p e s m args below meth c H locs ls E hH hA hS hB hl
  exact lv_icmp_ne E.1 E.2.1 hd ht (fun q => kt q p e s m args below meth c H locs ls E hH hA hS hB hl) (fun q => kf q p e s m args below meth c H locs ls E hH hA hS hB hl)
theorem kw_if_lt {x : Int32} {off : Int} {tgt : Nat} (hd : decode cc pc = .ok (.ifCond .lt off, 3)) (ht : (pc : Int) + off = (tgt : Int))
    (kt : x < 0 → kw_G l D cc own ret nm R A K ad h cells slots tgt lv st) (kf : ¬ x < 0 → kw_G l D cc own ret nm R A K ad h cells slots (pc + 3) lv st) : kw_G l D cc own ret nm R A K ad h cells slots pc lv (pi_ x :: st) := by
  intro p e s m args below meth c H locs ls E hH hA hS hB hl
  exact lv_if_lt E.1 E.2.1 hd ht (fun q => kt q p e s m args below meth c H locs ls E hH hA hS hB hl) (fun q => kf q p e s m args below meth c H locs ls E hH hA hS hB hl)
theorem kw_icmp_lt {x y : Int32} {off : Int} {tgt : Nat} (hd : decode cc pc = .ok (.if_icmp .lt off, 3)) (ht : (pc : Int) + off = (tgt : Int))
    (kt : x < y → kw_G l D cc own ret nm R A K ad h cells slots tgt lv st) (kf : ¬ x < y → kw_G l D cc own ret nm R A K ad h cells slots (pc + 3) lv st) : kw_G l D cc own ret nm R A K ad h cells slots pc lv (pi_ y :: pi_ x :: st) := by
  intro p e s m args below meth c H locs ls E hH hA hS hB hl
  exact lv_icmp_lt E.1 E.2.1 hd ht (fun q => kt q p e s m args below meth c H locs ls E hH hA hS hB hl) (fun q => kf q p e s m args below meth c H locs ls E hH hA hS hB hl)
theorem kw_if_ge {x : Int32} {off : Int} {tgt : Nat} (hd : decode cc pc = .ok (.ifCond .ge off, 3)) (ht : (pc : Int) + off = (tgt : Int))
    (kt : 0 ≤ x → kw_G l D cc own ret nm R A K ad h cells slots tgt lv st) (kf : ¬ 0 ≤ x → kw_G l D cc own ret nm R A K ad h cells slots (pc + 3) lv st) : kw_G l D cc own ret nm R A K ad h cells slots pc lv (pi_ x :: st) := by
  intro p e s m args below meth c H locs ls E hH hA hS hB hl
  exact lv_if_ge E.1 E.2.1 hd ht (fun q => kt q p e s m args below meth c H locs ls E hH hA hS hB hl) (fun q => kf q p e s m args below meth c H locs ls E hH hA hS hB hl)
theorem kw_icmp_ge {x y : Int32} {off : Int} {tgt : Nat} (hd : decode cc pc = .ok (.if_icmp .ge off, 3)) (ht : (pc : Int) + off = (tgt : Int))
    (kt : y ≤ x → kw_G l D cc own ret nm R A K ad h cells slots tgt lv st) (kf : ¬ y ≤ x → kw_G l D cc own ret nm R A K ad h cells slots (pc + 3) lv st) : kw_G l D cc own ret nm R A K ad h cells slots pc lv (pi_ y :: pi_ x :: st) := by
  intro p e s m args below meth c H locs ls E hH hA hS hB hl
  exact lv_icmp_ge E.1 E.2.1 hd ht (fun q => kt q p e s m args below meth c H locs ls E hH hA hS hB hl) (fun q => kf q p e s m args below meth c H locs ls E hH hA hS hB hl)
theorem kw_if_gt {x : Int32} {off : Int} {tgt : Nat} (hd : decode cc pc = .ok (.ifCond .gt off, 3)) (ht : (pc : Int) + off = (tgt : Int))
    (kt : 0 < x → kw_G l D cc own ret nm R A K ad h cells slots tgt lv st) (kf : ¬ 0 < x → kw_G l D cc own ret nm R A K ad h cells slots (pc + 3) lv st) : kw_G l D cc own ret nm R A K ad h cells slots pc lv (pi_ x :: st) := by
  intro p e s m args below meth c H locs ls E hH hA hS hB hl
  exact lv_if_gt E.1 E.2.1 hd ht (fun q => kt q p e s m args below meth c H locs ls E hH hA hS hB hl) (fun q => kf q p e s m args below meth c H locs ls E hH hA hS hB hl)
theorem kw_icmp_gt {x y : Int32} {off : Int} {tgt : Nat} (hd : decode cc pc = .ok (.if_icmp .gt off, 3)) (ht : (pc : Int) + off = (tgt : Int))
    (kt : y < x → kw_G l D cc own ret nm R A K ad h cells slots tgt lv st) (kf : ¬ y < x → kw_G l D cc own ret nm R A K ad h cells slots (pc + 3) lv st) : kw_G l D cc own ret nm R A K ad h cells slots pc lv (pi_ y :: pi_ x :: st) := by
  intro p e s m args below meth c H locs ls E hH hA hS hB hl
  exact lv_icmp_gt E.1 E.2.1 hd ht (fun q => kt q p e s m args below meth c H locs ls E hH hA hS hB hl) (fun q => kf q p e s m args below meth c H locs ls E hH hA hS hB hl)
theorem kw_if_le {x : Int32} {off : Int} {tgt : Nat} (hd : decode cc pc = .ok (.ifCond .le off, 3)) (ht : (pc : Int) + off = (tgt : Int))
    (kt : x ≤ 0 → kw_G l D cc own ret nm R A K ad h cells slots tgt lv st) (kf : ¬ x ≤ 0 → kw_G l D cc own ret nm R A K ad h cells slots (pc + 3) lv st) : kw_G l D cc own ret nm R A K ad h cells slots pc lv (pi_ x :: st) := by
  intro p e s m args below meth c H locs ls E hH hA hS hB hl
  exact lv_if_le E.1 E.2.1 hd ht (fun q => kt q p e s m args below meth c H locs ls E hH hA hS hB hl) (fun q => kf q p e s m args below meth c H locs ls E hH hA hS hB hl)
theorem kw_icmp_le {x y : Int32} {off : Int} {tgt : Nat} (hd : decode cc pc = .ok (.if_icmp .le off, 3)) (ht : (pc : Int) + off = (tgt : Int))
    (kt : x ≤ y → kw_G l D cc own ret nm R A K ad h cells slots tgt lv st) (kf : ¬ x ≤ y → kw_G l D cc own ret nm R A K ad h cells slots (pc + 3) lv st) : kw_G l D cc own ret nm R A K ad h cells slots pc lv (pi_ y :: pi_ x :: st) := by
  intro p e s m args below meth c H locs ls E hH hA hS hB hl
  exact lv_icmp_le E.1 E.2.1 hd ht (fun q => kt q p e s m args below meth c H locs ls E hH hA hS hB hl) (fun q => kf q p e s m args below meth c H locs ls E hH hA hS hB hl)
theorem kw_ifnull {x : Option KK} {off : Int} {tgt : Nat} (hd : decode cc pc = .ok (.ifnull off, 3)) (ht : (pc : Int) + off = (tgt : Int))
    (kt : x = none → kw_G l D cc own ret nm R A K ad h cells slots tgt lv st) (kf : ¬ x = none → kw_G l D cc own ret nm R A K ad h cells slots (pc + 3) lv st) : kw_G l D cc own ret nm R A K ad h cells slots pc lv (.inr (.inr x) :: st) := by
  intro p e s m args below meth c H locs ls E hH hA hS hB hl
  cases x with
  | none => exact lv_ifnullN E.1 E.2.1 hd ht (kt rfl p e s m args below meth c H locs ls E hH hA hS hB hl)
  | some x => exact lv_ifnull E.1 E.2.1 hd (kf (fun q => by cases q) p e s m args below meth c H locs ls E hH hA hS hB hl)
theorem kw_ifnonnull {x : Option KK} {off : Int} {tgt : Nat} (hd : decode cc pc = .ok (.ifnonnull off, 3)) (ht : (pc : Int) + off = (tgt : Int))
    (kt : ¬ x = none → kw_G l D cc own ret nm R A K ad h cells slots tgt lv st) (kf : x = none → kw_G l D cc own ret nm R A K ad h cells slots (pc + 3) lv st) : kw_G l D cc own ret nm R A K ad h cells slots pc lv (.inr (.inr x) :: st) := by
  intro p e s m args below meth c H locs ls E hH hA hS hB hl
  cases x with
  | none => exact lv_ifnonnullN E.1 E.2.1 hd (kf rfl p e s m args below meth c H locs ls E hH hA hS hB hl)
  | some x => exact lv_ifnonnull E.1 E.2.1 hd ht (kt (fun q => by cases q) p e s m args below meth c H locs ls E hH hA hS hB hl)
theorem kw_tableIn {dflt lo hi : Int} {offs : Array Int} {len : Nat} {x : Int32} {off : Int} {tgt : Nat} (hd : decode cc pc = .ok (.tableswitch dflt lo hi offs, len)) (h1 : ¬ x.toInt < lo) (h2 : ¬ hi < x.toInt) (ho : offs[(x.toInt - lo).toNat]? = some off) (ht : (pc : Int) + off = (tgt : Int))
    (k : kw_G l D cc own ret nm R A K ad h cells slots tgt lv st) : kw_G l D cc own ret nm R A K ad h cells slots pc lv (pi_ x :: st) := by
  intro p e s m args below meth c H locs ls E hH hA hS hB hl
  exact lv_tableIn E.1 E.2.1 hd h1 h2 ho ht (k p e s m args below meth c H locs ls E hH hA hS hB hl)
theorem kw_tableOut {dflt lo hi : Int} {offs : Array Int} {len : Nat} {x : Int32} {tgt : Nat} (hd : decode cc pc = .ok (.tableswitch dflt lo hi offs, len)) (h1 : x.toInt < lo ∨ hi < x.toInt) (ht : (pc : Int) + dflt = (tgt : Int))
    (k : kw_G l D cc own ret nm R A K ad h cells slots tgt lv st) : kw_G l D cc own ret nm R A K ad h cells slots pc lv (pi_ x :: st) := by
  intro p e s m args below meth c H locs ls E hH hA hS hB hl
  exact lv_tableOut E.1 E.2.1 hd h1 ht (k p e s m args below meth c H locs ls E hH hA hS hB hl)
theorem kw_lookup {dflt : Int} {ps : Array (Int × Int)} {len : Nat} {x : Int32} {off : Int} {tgt : Nat} (hd : decode cc pc = .ok (.lookupswitch dflt ps, len)) (hp : (ps.toList.zip (ps.toList.drop 1)).all (fun (a, next) => a.1 < next.1) = true) (ho : Op.lookupswitch.offset ps.toList dflt x.toInt = off) (ht : (pc : Int) + off = (tgt : Int))
    (k : kw_G l D cc own ret nm R A K ad h cells slots tgt lv st) : kw_G l D cc own ret nm R A K ad h cells slots pc lv (pi_ x :: st) := by
  intro p e s m args below meth c H locs ls E hH hA hS hB hl
  exact lv_lookup E.1 E.2.1 hd hp ho ht (k p e s m args below meth c H locs ls E hH hA hS hB hl)
theorem kw_vret  (hd : decode cc pc = .ok (.return_, 1)) (hr : ret = none) (h1 : cells ≤ R.cells) (h2 : slots ≤ R.slots) (hK : K none ad h) : kw_G l D cc own ret nm R A K ad h cells slots pc lv [] := by
  intro p e s m args below meth c H locs ls E hH hA hS hB hl
  refine W.widen h1 h2 ?_
  exact W.vret E.1 E.2.1 (by rw [E.2.2.2.2.2.1, hr]) (fun t ht hw => ⟨⟨none, ad, h, rfl, hK, by rw [ht]; exact hH.moved hw.alike, hA⟩, hS.F ht⟩) hS.2.2 hd E.2.2.2.2.2.2.1
theorem kw_iret {x : Int32} (hd : decode cc pc = .ok (.ireturn, 1)) (hr : ret = some .int) (h1 : cells ≤ R.cells) (h2 : slots ≤ R.slots) (hK : K (some (pi_ x)) ad h) : kw_G l D cc own ret nm R A K ad h cells slots pc lv [pi_ x] := by
  intro p e s m args below meth c H locs ls E hH hA hS hB hl
  refine W.widen h1 h2 ?_
  exact W.iret E.1 E.2.1 (by rw [E.2.2.2.2.2.1, hr]) (fun t ht hw => ⟨⟨(some (pi_ x)), ad, h, rfl, hK, by rw [ht]; exact hH.moved hw.alike, hA⟩, hS.F ht⟩) hS.2.2 hd E.2.2.2.2.2.2.1
theorem kw_zret {x : Int32} (hd : decode cc pc = .ok (.ireturn, 1)) (hr : ret = some .boolean) (hn : narrow .boolean (.int x) = .int x) (h1 : cells ≤ R.cells) (h2 : slots ≤ R.slots) (hK : K (some (pi_ x)) ad h) : kw_G l D cc own ret nm R A K ad h cells slots pc lv [pi_ x] := by
  intro p e s m args below meth c H locs ls E hH hA hS hB hl
  refine W.widen h1 h2 ?_
  exact W.zret E.1 E.2.1 (by rw [E.2.2.2.2.2.1, hr]) hn (fun t ht hw => ⟨⟨(some (pi_ x)), ad, h, rfl, hK, by rw [ht]; exact hH.moved hw.alike, hA⟩, hS.F ht⟩) hS.2.2 hd E.2.2.2.2.2.2.1
theorem kw_lret {x : Int64} (hd : decode cc pc = .ok (.lreturn, 1)) (hr : ret = some .long) (h1 : cells ≤ R.cells) (h2 : slots ≤ R.slots) (hK : K (some (pl_ x)) ad h) : kw_G l D cc own ret nm R A K ad h cells slots pc lv [pl_ x] := by
  intro p e s m args below meth c H locs ls E hH hA hS hB hl
  refine W.widen h1 h2 ?_
  exact W.lret E.1 E.2.1 (by rw [E.2.2.2.2.2.1, hr]) (fun t ht hw => ⟨⟨(some (pl_ x)), ad, h, rfl, hK, by rw [ht]; exact hH.moved hw.alike, hA⟩, hS.F ht⟩) hS.2.2 hd E.2.2.2.2.2.2.1
theorem kw_aret {x : Option KK} {rt : FieldType} (hd : decode cc pc = .ok (.areturn, 1)) (hr : ret = some rt) (hrt : (∃ n, rt = .object n) ∨ ∃ t, rt = .array t) (h1 : cells ≤ R.cells) (h2 : slots ≤ R.slots) (hK : K (some (.inr (.inr x))) ad h) : kw_G l D cc own ret nm R A K ad h cells slots pc lv [.inr (.inr x)] := by
  intro p e s m args below meth c H locs ls E hH hA hS hB hl
  refine W.widen h1 h2 ?_
  exact W.aret E.1 E.2.1 (by rw [E.2.2.2.2.2.1, hr]) hrt (by cases x with | none => exact Or.inl rfl | some x => exact Or.inr ⟨_, rfl⟩) (fun t ht hw => ⟨⟨(some (.inr (.inr x))), ad, h, rfl, hK, by rw [ht]; exact hH.moved hw.alike, hA⟩, hS.F ht⟩) hS.2.2 hd E.2.2.2.2.2.2.1
end KwRows
