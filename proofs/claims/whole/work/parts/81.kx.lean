/-! A JUDGEMENT WITH THE SCRIPT BESIDE THE WORLD -/
def kx_G (l : Launch) (D : va_G) (cc : ByteArray) (own : String) (ret : Option FieldType) (nm : String) (R : Room) (A : Nat → Prop) (Z : State → Array Value → List Frame → State → Prop) (Xp : State → Prop) (ad : KK → Nat) (h : PH) (cells slots : Nat) (pc : Nat) (lv : List (Option PV)) (st : List PV) : Prop :=
  ∀ (p : Program) (e : Env) (s : State) (m : MethodId) (args : Array Value) (below : List Frame) (meth : Method) (c : Code) (H : Heap) (locs : List Loc) (ls : Array Slot),
    kw_Env cc lv.length own ret nm p s m args meth c → kw_H D s H ad h → (∀ k, h k ≠ none → A (ad k)) → va_S A s.heap H locs → (∀ q, s.heap.size ≤ q → A q) → kw_L ad ls lv → Xp s →
    W p l e R s m args below meth c H locs cells slots (Z s args below) (F0 m pc ls (st.map (kw_v ad)))
section KxRows
variable {l : Launch} {D : va_G} {cc : ByteArray} {own : String} {ret : Option FieldType} {nm : String} {R : Room} {A : Nat → Prop} {Z : State → Array Value → List Frame → State → Prop} {Xp : State → Prop} {ad : KK → Nat} {h : PH} {cells slots pc : Nat} {lv : List (Option PV)} {st : List PV}
theorem kx_heq {h' : PH} (e : h = h') (k : kx_G l D cc own ret nm R A Z Xp ad h' cells slots pc lv st) : kx_G l D cc own ret nm R A Z Xp ad h cells slots pc lv st := e ▸ k
theorem kx_top {v v' : PV} (e : v = v') (k : kx_G l D cc own ret nm R A Z Xp ad h cells slots pc lv (v' :: st)) : kx_G l D cc own ret nm R A Z Xp ad h cells slots pc lv (v :: st) := e ▸ k
theorem kx_top2 {u v v' : PV} (e : v = v') (k : kx_G l D cc own ret nm R A Z Xp ad h cells slots pc lv (u :: v' :: st)) : kx_G l D cc own ret nm R A Z Xp ad h cells slots pc lv (u :: v :: st) := e ▸ k
theorem kx_lvle {lv' : List (Option PV)} (e : kw_le lv lv') (k : kx_G l D cc own ret nm R A Z Xp ad h cells slots pc lv' st) : kx_G l D cc own ret nm R A Z Xp ad h cells slots pc lv st := by
  intro p e1 s m args below meth c H locs ls E hH hA hS hB hl hx
  rw [kw_le_len _ _ e] at E
  exact k p e1 s m args below meth c H locs ls E hH hA hS hB (hl.le e) hx
theorem kx_wid {c2 s2 : Nat} (h1 : cells ≤ c2) (h2 : slots ≤ s2) (k : kx_G l D cc own ret nm R A Z Xp ad h c2 s2 pc lv st) : kx_G l D cc own ret nm R A Z Xp ad h cells slots pc lv st := by
  intro p e s m args below meth c H locs ls E hH hA hS hB hl hx
  exact W.widen h1 h2 (k p e s m args below meth c H locs ls E hH hA hS hB hl hx)
theorem kx_iconst {n : Int} {v : Int32} (hd : decode cc pc = .ok (.iconst n, 1)) (hv : Int32.ofInt n = v)
    (k : kx_G l D cc own ret nm R A Z Xp ad h cells slots (pc + 1) lv (pi_ v :: st)) : kx_G l D cc own ret nm R A Z Xp ad h cells slots pc lv st := by
  intro p e s m args below meth c H locs ls E hH hA hS hB hl hx
  exact lv_iconst E.1 E.2.1 hd hv (k p e s m args below meth c H locs ls E hH hA hS hB hl hx)
theorem kx_bipush {n : Int} {v : Int32} (hd : decode cc pc = .ok (.bipush n, 2)) (hv : (Int8.ofInt n).toInt32 = v)
    (k : kx_G l D cc own ret nm R A Z Xp ad h cells slots (pc + 2) lv (pi_ v :: st)) : kx_G l D cc own ret nm R A Z Xp ad h cells slots pc lv st := by
  intro p e s m args below meth c H locs ls E hH hA hS hB hl hx
  exact lv_bipush E.1 E.2.1 hd hv (k p e s m args below meth c H locs ls E hH hA hS hB hl hx)
theorem kx_ldc2 {i : Nat} {v : Int64} (hd : decode cc pc = .ok (.ldc2_w i, 3)) (hc : Jvm.Cond.constantLong own i v ∈ kw_tbl)
    (k : kx_G l D cc own ret nm R A Z Xp ad h cells slots (pc + 3) lv (pl_ v :: st)) : kx_G l D cc own ret nm R A Z Xp ad h cells slots pc lv st := by
  intro p e s m args below meth c H locs ls E hH hA hS hB hl hx
  exact lv_ldc2 E.1 E.2.1 E.2.2.2.1 (E.2.2.2.2.1 _ hc) hd (k p e s m args below meth c H locs ls E hH hA hS hB hl hx)
theorem kx_iload_n {i : Fin 4} {x : Int32} (hd : decode cc pc = .ok (.iload_n i, 1)) (hv : lv[(i : Nat)]? = some (some (pi_ x)))
    (k : kx_G l D cc own ret nm R A Z Xp ad h cells slots (pc + 1) lv (pi_ x :: st)) : kx_G l D cc own ret nm R A Z Xp ad h cells slots pc lv st := by
  intro p e s m args below meth c H locs ls E hH hA hS hB hl hx
  exact lv_iload_n E.1 E.2.1 hd rfl (hl.2.2 _ _ hv) (k p e s m args below meth c H locs ls E hH hA hS hB hl hx)
theorem kx_aload_n {i : Fin 4} {x : Option KK} (hd : decode cc pc = .ok (.aload_n i, 1)) (hv : lv[(i : Nat)]? = some (some (.inr (.inr x))))
    (k : kx_G l D cc own ret nm R A Z Xp ad h cells slots (pc + 1) lv (.inr (.inr x) :: st)) : kx_G l D cc own ret nm R A Z Xp ad h cells slots pc lv st := by
  intro p e s m args below meth c H locs ls E hH hA hS hB hl hx
  have h1 := hl.2.2 _ _ hv
  have k1 := k p e s m args below meth c H locs ls E hH hA hS hB hl hx
  cases x with
  | none => exact lv_aload_nN E.1 E.2.1 hd rfl h1 k1
  | some x => exact lv_aload_n E.1 E.2.1 hd rfl h1 k1
theorem kx_istore_n {i : Fin 4} {x : Int32} (hd : decode cc pc = .ok (.istore_n i, 1)) (hn : (i : Nat) < lv.length)
    (k : kx_G l D cc own ret nm R A Z Xp ad h cells slots (pc + 1) (kw_set1 lv (i : Nat) (pi_ x)) st) : kx_G l D cc own ret nm R A Z Xp ad h cells slots pc lv (pi_ x :: st) := by
  intro p e s m args below meth c H locs ls E hH hA hS hB hl hx
  exact lv_istore_n E.1 E.2.1 hd rfl hl.has hn rfl (fun ls' hl' => k p e s m args below meth c H locs ls' (by rw [kw_set1_len]; exact E) hH hA hS hB (kw_L.of1 hl') hx)
theorem kx_astore_n {i : Fin 4} {x : Option KK} (hd : decode cc pc = .ok (.astore_n i, 1)) (hn : (i : Nat) < lv.length)
    (k : kx_G l D cc own ret nm R A Z Xp ad h cells slots (pc + 1) (kw_set1 lv (i : Nat) (.inr (.inr x))) st) : kx_G l D cc own ret nm R A Z Xp ad h cells slots pc lv (.inr (.inr x) :: st) := by
  intro p e s m args below meth c H locs ls E hH hA hS hB hl hx
  cases x with
  | none => exact lv_astore_nN E.1 E.2.1 hd rfl hl.has hn rfl (fun ls' hl' => k p e s m args below meth c H locs ls' (by rw [kw_set1_len]; exact E) hH hA hS hB (kw_L.of1 hl') hx)
  | some x => exact lv_astore_n E.1 E.2.1 hd rfl hl.has hn rfl (fun ls' hl' => k p e s m args below meth c H locs ls' (by rw [kw_set1_len]; exact E) hH hA hS hB (kw_L.of1 hl') hx)
theorem kx_iinc {i : Nat} {n : Int} {x v : Int32} (hd : decode cc pc = .ok (.iinc i n, 3)) (hx0 : lv[i]? = some (some (pi_ x))) (hv : x + Int32.ofInt n = v)
    (k : kx_G l D cc own ret nm R A Z Xp ad h cells slots (pc + 3) (kw_set1 lv i (pi_ v)) st) : kx_G l D cc own ret nm R A Z Xp ad h cells slots pc lv st := by
  intro p e s m args below meth c H locs ls E hH hA hS hB hl hx
  obtain ⟨j, hj⟩ := List.getElem?_of_mem ((kw_lst_mem ad lv i _).mpr ⟨_, hx0, rfl⟩)
  exact lv_iinc E.1 E.2.1 hd hl.has hj hv (List.getElem?_eq_some_iff.mp hx0).1 rfl (fun ls' hl' => k p e s m args below meth c H locs ls' (by rw [kw_set1_len]; exact E) hH hA hS hB (kw_L.of1 hl') hx)
theorem kx_iadd {x y : Int32} (hd : decode cc pc = .ok (.iadd, 1))
    (k : kx_G l D cc own ret nm R A Z Xp ad h cells slots (pc + 1) lv (pi_ (x + y) :: st)) : kx_G l D cc own ret nm R A Z Xp ad h cells slots pc lv (pi_ y :: pi_ x :: st) := by
  intro p e s m args below meth c H locs ls E hH hA hS hB hl hx
  exact lv_iadd E.1 E.2.1 hd (k p e s m args below meth c H locs ls E hH hA hS hB hl hx)
theorem kx_isub {x y : Int32} (hd : decode cc pc = .ok (.isub, 1))
    (k : kx_G l D cc own ret nm R A Z Xp ad h cells slots (pc + 1) lv (pi_ (x - y) :: st)) : kx_G l D cc own ret nm R A Z Xp ad h cells slots pc lv (pi_ y :: pi_ x :: st) := by
  intro p e s m args below meth c H locs ls E hH hA hS hB hl hx
  exact lv_isub E.1 E.2.1 hd (k p e s m args below meth c H locs ls E hH hA hS hB hl hx)
theorem kx_iand {x y : Int32} (hd : decode cc pc = .ok (.iand, 1))
    (k : kx_G l D cc own ret nm R A Z Xp ad h cells slots (pc + 1) lv (pi_ (x &&& y) :: st)) : kx_G l D cc own ret nm R A Z Xp ad h cells slots pc lv (pi_ y :: pi_ x :: st) := by
  intro p e s m args below meth c H locs ls E hH hA hS hB hl hx
  exact lv_iand E.1 E.2.1 hd (k p e s m args below meth c H locs ls E hH hA hS hB hl hx)
theorem kx_land {x y : Int64} (hd : decode cc pc = .ok (.land, 1))
    (k : kx_G l D cc own ret nm R A Z Xp ad h cells slots (pc + 1) lv (pl_ (x &&& y) :: st)) : kx_G l D cc own ret nm R A Z Xp ad h cells slots pc lv (pl_ y :: pl_ x :: st) := by
  intro p e s m args below meth c H locs ls E hH hA hS hB hl hx
  exact lv_land E.1 E.2.1 hd (k p e s m args below meth c H locs ls E hH hA hS hB hl hx)
theorem kx_lor {x y : Int64} (hd : decode cc pc = .ok (.lor, 1))
    (k : kx_G l D cc own ret nm R A Z Xp ad h cells slots (pc + 1) lv (pl_ (x ||| y) :: st)) : kx_G l D cc own ret nm R A Z Xp ad h cells slots pc lv (pl_ y :: pl_ x :: st) := by
  intro p e s m args below meth c H locs ls E hH hA hS hB hl hx
  exact lv_lor E.1 E.2.1 hd (k p e s m args below meth c H locs ls E hH hA hS hB hl hx)
theorem kx_lshl {x : Int64} {y : Int32} (hd : decode cc pc = .ok (.lshl, 1))
    (k : kx_G l D cc own ret nm R A Z Xp ad h cells slots (pc + 1) lv (pl_ (x <<< (y.toInt64 &&& 63)) :: st)) : kx_G l D cc own ret nm R A Z Xp ad h cells slots pc lv (pi_ y :: pl_ x :: st) := by
  intro p e s m args below meth c H locs ls E hH hA hS hB hl hx
  exact lv_lshl E.1 E.2.1 hd rfl (k p e s m args below meth c H locs ls E hH hA hS hB hl hx)
theorem kx_i2l {x : Int32} (hd : decode cc pc = .ok (.i2l, 1))
    (k : kx_G l D cc own ret nm R A Z Xp ad h cells slots (pc + 1) lv (pl_ x.toInt64 :: st)) : kx_G l D cc own ret nm R A Z Xp ad h cells slots pc lv (pi_ x :: st) := by
  intro p e s m args below meth c H locs ls E hH hA hS hB hl hx
  exact lv_i2l E.1 E.2.1 hd rfl (k p e s m args below meth c H locs ls E hH hA hS hB hl hx)
theorem kx_lcmp {x y : Int64} (hd : decode cc pc = .ok (.lcmp, 1))
    (k : kx_G l D cc own ret nm R A Z Xp ad h cells slots (pc + 1) lv (pi_ (lg_cmp x y) :: st)) : kx_G l D cc own ret nm R A Z Xp ad h cells slots pc lv (pl_ y :: pl_ x :: st) := by
  intro p e s m args below meth c H locs ls E hH hA hS hB hl hx
  exact W.lcmp E.1 E.2.1 hd (k p e s m args below meth c H locs ls E hH hA hS hB hl hx)
theorem kx_dup {v : PV} (hd : decode cc pc = .ok (.dup, 1)) (hc : kw_cat v = 1)
    (k : kx_G l D cc own ret nm R A Z Xp ad h cells slots (pc + 1) lv (v :: v :: st)) : kx_G l D cc own ret nm R A Z Xp ad h cells slots pc lv (v :: st) := by
  intro p e s m args below meth c H locs ls E hH hA hS hB hl hx
  exact lv_dup E.1 E.2.1 hd (by rw [kw_cat_v]; exact hc) (k p e s m args below meth c H locs ls E hH hA hS hB hl hx)
theorem kx_goto {off : Int} {tgt : Nat} (hd : decode cc pc = .ok (.goto off, 3)) (ht : (pc : Int) + off = (tgt : Int))
    (k : kx_G l D cc own ret nm R A Z Xp ad h cells slots tgt lv st) : kx_G l D cc own ret nm R A Z Xp ad h cells slots pc lv st := by
  intro p e s m args below meth c H locs ls E hH hA hS hB hl hx
  exact lv_goto E.1 E.2.1 hd ht (k p e s m args below meth c H locs ls E hH hA hS hB hl hx)
theorem kx_if_eq {x : Int32} {off : Int} {tgt : Nat} (hd : decode cc pc = .ok (.ifCond .eq off, 3)) (ht : (pc : Int) + off = (tgt : Int))
    (kt : x = 0 → kx_G l D cc own ret nm R A Z Xp ad h cells slots tgt lv st) (kf : ¬ x = 0 → kx_G l D cc own ret nm R A Z Xp ad h cells slots (pc + 3) lv st) : kx_G l D cc own ret nm R A Z Xp ad h cells slots pc lv (pi_ x :: st) := by
  intro p e s m args below meth c H locs ls E hH hA hS hB hl hx
  exact lv_if_eq E.1 E.2.1 hd ht (fun q => kt q p e s m args below meth c H locs ls E hH hA hS hB hl hx) (fun q => kf q p e s m args below meth c H locs ls E hH hA hS hB hl hx)
theorem kx_icmp_eq {x y : Int32} {off : Int} {tgt : Nat} (hd : decode cc pc = .ok (.if_icmp .eq off, 3)) (ht : (pc : Int) + off = (tgt : Int))
    (kt : x = y → kx_G l D cc own ret nm R A Z Xp ad h cells slots tgt lv st) (kf : ¬ x = y → kx_G l D cc own ret nm R A Z Xp ad h cells slots (pc + 3) lv st) : kx_G l D cc own ret nm R A Z Xp ad h cells slots pc lv (pi_ y :: pi_ x :: st) := by
  intro p e s m args below meth c H locs ls E hH hA hS hB hl hx
  exact lv_icmp_eq E.1 E.2.1 hd ht (fun q => kt q p e s m args below meth c H locs ls E hH hA hS hB hl hx) (fun q => kf q p e s m args below meth c H locs ls E hH hA hS hB hl hx)
theorem kx_icmp_ge {x y : Int32} {off : Int} {tgt : Nat} (hd : decode cc pc = .ok (.if_icmp .ge off, 3)) (ht : (pc : Int) + off = (tgt : Int))
    (kt : y ≤ x → kx_G l D cc own ret nm R A Z Xp ad h cells slots tgt lv st) (kf : ¬ y ≤ x → kx_G l D cc own ret nm R A Z Xp ad h cells slots (pc + 3) lv st) : kx_G l D cc own ret nm R A Z Xp ad h cells slots pc lv (pi_ y :: pi_ x :: st) := by
  intro p e s m args below meth c H locs ls E hH hA hS hB hl hx
  exact lv_icmp_ge E.1 E.2.1 hd ht (fun q => kt q p e s m args below meth c H locs ls E hH hA hS hB hl hx) (fun q => kf q p e s m args below meth c H locs ls E hH hA hS hB hl hx)
theorem kx_icmp_gt {x y : Int32} {off : Int} {tgt : Nat} (hd : decode cc pc = .ok (.if_icmp .gt off, 3)) (ht : (pc : Int) + off = (tgt : Int))
    (kt : y < x → kx_G l D cc own ret nm R A Z Xp ad h cells slots tgt lv st) (kf : ¬ y < x → kx_G l D cc own ret nm R A Z Xp ad h cells slots (pc + 3) lv st) : kx_G l D cc own ret nm R A Z Xp ad h cells slots pc lv (pi_ y :: pi_ x :: st) := by
  intro p e s m args below meth c H locs ls E hH hA hS hB hl hx
  exact lv_icmp_gt E.1 E.2.1 hd ht (fun q => kt q p e s m args below meth c H locs ls E hH hA hS hB hl hx) (fun q => kf q p e s m args below meth c H locs ls E hH hA hS hB hl hx)
theorem kx_tableIn {dflt lo hi : Int} {offs : Array Int} {len : Nat} {x : Int32} {off : Int} {tgt : Nat} (hd : decode cc pc = .ok (.tableswitch dflt lo hi offs, len)) (h1 : ¬ x.toInt < lo) (h2 : ¬ hi < x.toInt) (ho : offs[(x.toInt - lo).toNat]? = some off) (ht : (pc : Int) + off = (tgt : Int))
    (k : kx_G l D cc own ret nm R A Z Xp ad h cells slots tgt lv st) : kx_G l D cc own ret nm R A Z Xp ad h cells slots pc lv (pi_ x :: st) := by
  intro p e s m args below meth c H locs ls E hH hA hS hB hl hx
  exact lv_tableIn E.1 E.2.1 hd h1 h2 ho ht (k p e s m args below meth c H locs ls E hH hA hS hB hl hx)
theorem kx_tableOut {dflt lo hi : Int} {offs : Array Int} {len : Nat} {x : Int32} {tgt : Nat} (hd : decode cc pc = .ok (.tableswitch dflt lo hi offs, len)) (h1 : x.toInt < lo ∨ hi < x.toInt) (ht : (pc : Int) + dflt = (tgt : Int))
    (k : kx_G l D cc own ret nm R A Z Xp ad h cells slots tgt lv st) : kx_G l D cc own ret nm R A Z Xp ad h cells slots pc lv (pi_ x :: st) := by
  intro p e s m args below meth c H locs ls E hH hA hS hB hl hx
  exact lv_tableOut E.1 E.2.1 hd h1 ht (k p e s m args below meth c H locs ls E hH hA hS hB hl hx)
theorem kx_new {idx ci N : Nat} {C : String} {T : u_T} {ty : Nat → FieldType} (key : KK) {fs : List PV} (hd : decode cc pc = .ok (.new idx, 3)) (hcd : kw_CD ci C T N ty) (hcl : Cond.classLink own idx C ∈ kw_tbl) (hins : Cond.instantiable C N ∈ kw_tbl) (hini : Cond.initialized C ∈ kw_tbl) (hfs : ∀ (ad : KK → Nat) (j : Nat), j < N → defaultValue (ty j) = vp_V (fs.map (kw_v ad)) j)
    (hk : h key = none) (hnm : ∀ k' c', h k' = some c' → kw_nmc key c') (hlv : kw_all (kw_nmo key) lv) (hst : kw_all (kw_nmv key) st) (hcells : cells + 1 ≤ R.cells) (hslots : slots + N ≤ R.slots)
    (k : ∀ a : Nat, kx_G l D cc own ret nm R A Z Xp (kw_ad ad key a) (kw_up h key (.inr (ci, fs))) (cells + 1) (slots + N) (pc + 3) lv (pr_ key :: st)) : kx_G l D cc own ret nm R A Z Xp ad h cells slots pc lv st := by
  intro p e s m args below meth c H locs ls E hH hA hS hB hl hx
  obtain ⟨hc, hin, hty, -, -⟩ := hcd
  have hts := E.2.2.2.2.1
  have hKn := hH.1.1 ci _ hc
  refine W.newcK E.1 E.2.1 E.2.2.2.1 (hts _ hcl) (hts _ hins) (hts _ hini) rfl hd hcells hslots hKn.2.1 rfl fun H1 kC hkC e1 z1 o1 => ?_
  have hb := (u_born ty hts hin hKn hkC e1 hty).to (hfs (kw_ad ad key H.size))
  have hw := k H.size p e s m args below meth c H1 locs ls E (hH.new hk hnm o1 ⟨_, hc, by rw [kw_ad_s]; exact hb⟩) (kw_hAn (hB _ hS.1) hA) ⟨Nat.le_trans hS.1 (by omega), fun x h1 h2 => (o1 x (Nat.lt_of_lt_of_le h1 hS.1)).trans (hS.2.1 x h1 h2), hS.2.2⟩ hB (hl.adn hlv) hx
  simp only [List.map_cons, kw_map_ad hst] at hw
  have e3 : kw_v (kw_ad ad key H.size) (pr_ key) = .ref H.size := congrArg Value.ref (kw_ad_s ad key H.size)
  rw [e3] at hw
  exact hw
/-- the script: read, never written -/
theorem kx_iald {b L : Nat} {xs : Nat → Int32} (hX : ∀ s, Xp s → va_X b L xs s s.heap ∧ b < s.heap.size ∧ ¬ A b) (hb : ad (50, 0) = b) {j : Nat} (hd : decode cc pc = .ok (.iaload, 1)) (hj : j < L) (hL : L < 2 ^ 31)
    (k : kx_G l D cc own ret nm R A Z Xp ad h cells slots (pc + 1) lv (pi_ (xs j) :: st)) : kx_G l D cc own ret nm R A Z Xp ad h cells slots pc lv (pi_ (nI j) :: pr_ (50, 0) :: st) := by
  intro p e s m args below meth c H locs ls E hH hA hS hB hl hx
  obtain ⟨x1, x2, x3⟩ := hX s hx
  have k1 := k p e s m args below meth c H locs ls E hH hA hS hB hl hx
  have e1 : kw_v ad (pr_ (50, 0)) = .ref b := congrArg Value.ref hb
  simp only [List.map_cons, e1]
  refine va_sld E.1 E.2.1 x1 x2 x3 hS (vp_in_nI hj hL) hd ?_
  rw [nI_clamp (by omega)]
  exact k1
theorem kx_alen {b L : Nat} {xs : Nat → Int32} (hX : ∀ s, Xp s → va_X b L xs s s.heap ∧ b < s.heap.size ∧ ¬ A b) (hb : ad (50, 0) = b) (hd : decode cc pc = .ok (.arraylength, 1))
    (k : kx_G l D cc own ret nm R A Z Xp ad h cells slots (pc + 1) lv (pi_ (nI L) :: st)) : kx_G l D cc own ret nm R A Z Xp ad h cells slots pc lv (pr_ (50, 0) :: st) := by
  intro p e s m args below meth c H locs ls E hH hA hS hB hl hx
  obtain ⟨x1, x2, x3⟩ := hX s hx
  have k1 := k p e s m args below meth c H locs ls E hH hA hS hB hl hx
  have e1 : kw_v ad (pr_ (50, 0)) = .ref b := congrArg Value.ref hb
  simp only [List.map_cons, e1]
  exact va_slen E.1 E.2.1 x1 x2 x3 hS hd k1
/-- the end of a helper -/
theorem kx_iret {K : Option PV → (KK → Nat) → PH → Prop} {x : Int32} (hd : decode cc pc = .ok (.ireturn, 1)) (hr : ret = some .int) (h1 : cells ≤ R.cells) (h2 : slots ≤ R.slots) (hK : K (some (pi_ x)) ad h) : kx_G l D cc own ret nm R A (fun s args below => MQ below (kw_Qc D K A) args s R.cells R.slots A) Xp ad h cells slots pc lv [pi_ x] := by
  intro p e s m args below meth c H locs ls E hH hA hS hB hl hx
  refine W.widen h1 h2 ?_
  exact W.iret E.1 E.2.1 (by rw [E.2.2.2.2.2.1, hr]) (fun t ht hw => ⟨⟨(some (pi_ x)), ad, h, rfl, hK, by rw [ht]; exact hH.moved hw.alike, hA⟩, hS.F ht⟩) hS.2.2 hd E.2.2.2.2.2.2.1
theorem kw_H.adn {D : va_G} {U : State} {H : Heap} {ad : KK → Nat} {h : PH} {key : KK} {a : Nat} (x : kw_H D U H ad h) (hk : h key = none) (hn : ∀ k c, h k = some c → kw_nmc key c) : kw_H D U H (kw_ad ad key a) h := by
  have ne : ∀ k, h k ≠ none → k ≠ key := fun k q e => q (by rw [e]; exact hk)
  refine ⟨x.1, fun k c hc => (x.2.1 k c hc).adn (ne k (by rw [hc]; exact fun z => by cases z)) (hn k c hc), fun k1 k2 h1 h2 he => ?_⟩
  rw [kw_ad_n ad a (ne k1 h1), kw_ad_n ad a (ne k2 h2)] at he
  exact x.2.2 k1 k2 h1 h2 he
/-- the keys that may stand in the frame: those of the world, and the script's -/
abbrev kx_h (h : PH) : PH := kw_up h (50, 0) (ri_ 0 (fun _ => 0))
theorem kx_after {p : Program} {l : Launch} {e : Env} {R : Room} {s : State} {m : MethodId} {args : Array Value} {below : List Frame} {meth : Method} {c : Code} {H : Heap} {locs : List Loc} {cells slots : Nat} {pc : Nat} {ls : Array Slot} {st0 : List Value} {a : Array Value} {A : Nat → Prop} {mc ms : Nat} {D : va_G} {Q : State → Prop} {ad : KK → Nat} {h : PH} {P : Option PV → PH → Prop} {A1 : Nat → Prop} {rest : List PV} {b : Nat} {lv : List (Option PV)} {Z : State → Array Value → List Frame → State → Prop} {Xp : State → Prop} {cc : ByteArray} {own : String} {ret : Option FieldType} {nm : String}
    (hr : va_Run p l e R s m args below meth c H locs cells slots mc ms (F0 m pc ls st0) (rest.map (kw_v ad)) (kw_Qc D (fun r ad' h' => (∀ k, h k ≠ none → ad' k = ad k) ∧ P r h') A1 a) A1) (hS : va_S A s.heap H locs) (hA1 : ∀ q, A1 q → A q) (E : kw_Env cc lv.length own ret nm p s m args meth c) (hB : ∀ q, s.heap.size ≤ q → A q) (hl : kw_L ad ls lv) (hx : Xp s)
    (hb : ad (50, 0) = b) (h5 : h (50, 0) = none) (hP : ∀ r h', P r h' → h' (50, 0) = none ∧ (∀ k c, h' k = some c → kw_nmc (50, 0) c) ∧ kw_all (kw_nmv (50, 0)) r.toList) (hv : kw_all (kw_alo (kx_h h)) lv) (hv2 : kw_all (kw_alv (kx_h h)) rest)
    (k : ∀ (r : Option PV) (ad' : KK → Nat) (h' : PH), ad' (50, 0) = b → P r h' → kx_G l D cc own ret nm R A Z Xp ad' h' (cells + mc) (slots + ms) (pc + 3) lv (r.toList ++ rest)) : W p l e R s m args below meth c H locs cells slots (Z s args below) (F0 m pc ls st0) := by
  refine kw_after hr hS hA1 fun r ad1 h1 H1 locs1 hp hH1 hA1 hz hS1 => ?_
  obtain ⟨he, hp⟩ := hp
  obtain ⟨p1, p2, p3⟩ := hP r h1 hp
  have he2 : ∀ k, kx_h h k ≠ none → kw_ad ad1 (50, 0) b k = ad k := by
    intro k hk
    by_cases e5 : k = (50, 0)
    · rw [e5, kw_ad_s, hb]
    · rw [kw_ad_n _ _ e5]
      refine he k ?_
      unfold kx_h at hk
      rw [kw_up_n _ _ e5] at hk
      exact hk
  have e1 : (r.map (kw_v ad1)).toList ++ rest.map (kw_v ad) = (r.toList ++ rest).map (kw_v (kw_ad ad1 (50, 0) b)) := by
    rw [← kw_map_re he2 hv2, List.map_append]
    congr 1
    cases r with
    | none => rfl
    | some v => show [kw_v ad1 v] = [kw_v (kw_ad ad1 (50, 0) b) v]; rw [kw_v_ad p3.1]
  rw [e1]
  refine k r (kw_ad ad1 (50, 0) b) h1 (kw_ad_s _ _ _) hp p e s m args below meth c H1 locs1 ls E (hH1.adn p1 p2) (fun q hq => ?_) hS1 hB (hl.re he2 hv) hx
  rw [kw_ad_n _ _ (fun e5 => hq (by rw [e5]; exact p1))]
  exact hA1 q hq
theorem kx_callVq {b : Nat} {idx n nL2 : Nat} {y : MethodName} {cc2 : ByteArray} {ret2 : Option FieldType} {R2 : Room} {As rest : List PV} {key : KK} {P : Option PV → PH → Prop} (hM : kw_Q l y cc2 nL2 ret2 R2 (pr_ key :: As) h P) (hd : decode cc pc = .ok (.invokevirtual idx, 3)) (hC : kw_CV own idx y cc2 nL2 ret2 n)
    {ci N : Nat} {T : u_T} {fs : List PV} (hk : h key = some (.inr (ci, fs))) (hcl : vwCl[ci]? = some (y.cls, T, N)) (hn : As.length = n) (hst : st = As.reverse ++ pr_ key :: rest) (hrest : (rest.map kw_cat).sum ≤ 8) (hR : kw_Rm R R2 nL2 cells slots)
    (hb : ad (50, 0) = b) (h5 : h (50, 0) = none) (hP : ∀ r h', P r h' → h' (50, 0) = none ∧ (∀ k c, h' k = some c → kw_nmc (50, 0) c) ∧ kw_all (kw_nmv (50, 0)) r.toList) (hv : kw_all (kw_alo (kx_h h)) lv) (hv2 : kw_all (kw_alv (kx_h h)) rest)
    (k : ∀ (r : Option PV) (ad' : KK → Nat) (h' : PH), ad' (50, 0) = b → P r h' → kx_G l D cc own ret nm R A Z Xp ad' h' (cells + R2.cells) (slots + R2.slots) (pc + 3) lv (r.toList ++ rest)) : kx_G l D cc own ret nm R A Z Xp ad h cells slots pc lv st := by
  intro p e s m args below meth c H locs ls E hH hA hS hB hl hx
  exact kx_after (Q := Z s args below) (kw_runV hM hd hC hk hcl hn hst hrest hR E hH hl) hS (kw_Ain hA hS hB) E hB hl hx hb h5 hP hv hv2 k
theorem kx_callIq {b : Nat} {idx n nL2 : Nat} {y : MethodName} {cc2 : ByteArray} {R2 : Room} {As rest : List PV} {key : KK} {P : Option PV → PH → Prop} (hM : kw_Q l y cc2 nL2 none R2 (pr_ key :: As) h P) (hd : decode cc pc = .ok (.invokespecial idx, 3)) (hC : kw_CI own idx y cc2 nL2 n)
    (hn : As.length = n) (hst : st = As.reverse ++ pr_ key :: rest) (hrest : (rest.map kw_cat).sum ≤ 8) (hR : kw_Rm R R2 nL2 cells slots)
    (hb : ad (50, 0) = b) (h5 : h (50, 0) = none) (hP : ∀ r h', P r h' → h' (50, 0) = none ∧ (∀ k c, h' k = some c → kw_nmc (50, 0) c) ∧ kw_all (kw_nmv (50, 0)) r.toList) (hv : kw_all (kw_alo (kx_h h)) lv) (hv2 : kw_all (kw_alv (kx_h h)) rest)
    (k : ∀ (r : Option PV) (ad' : KK → Nat) (h' : PH), ad' (50, 0) = b → P r h' → kx_G l D cc own ret nm R A Z Xp ad' h' (cells + R2.cells) (slots + R2.slots) (pc + 3) lv (r.toList ++ rest)) : kx_G l D cc own ret nm R A Z Xp ad h cells slots pc lv st := by
  intro p e s m args below meth c H locs ls E hH hA hS hB hl hx
  exact kx_after (Q := Z s args below) (kw_runI hM hd hC hn hst hrest hR E hH hl) hS (kw_Ain hA hS hB) E hB hl hx hb h5 hP hv hv2 k
end KxRows
/-! CELL -/
theorem kx_cs {l : Launch} {D : va_G} {cc : ByteArray} {own : String} {ret : Option FieldType} {nm : String} {R : Room} {A : Nat → Prop} {Z : State → Array Value → List Frame → State → Prop} {Xp : State → Prop} {ad : KK → Nat} {h : PH} {cells slots c' s' pc : Nat} {lv : List (Option PV)} {st : List PV} (e : cells = c') (e2 : slots = s') (k : kx_G l D cc own ret nm R A Z Xp ad h c' s' pc lv st) : kx_G l D cc own ret nm R A Z Xp ad h cells slots pc lv st := by
  subst e; subst e2; exact k
/-- the script's word at j, or 0 -/
def scr0 (L : Nat) (xs : Nat → Int32) : Int32 := if 0 < L then xs 0 else 0
theorem x_cell (l : Launch) (D : va_G) (ad : KK → Nat) (h : PH) (sz b L : Nat) (xs : Nat → Int32) (hL : L < 2 ^ 31) (hb : ad (50, 0) = b) : Met l yL_cell (.code yL_cell cL_cell 2 (some .int) :: kw_tbl) { frames := 0, cells := 0, slots := 0, locals := 0 } (va_Pc [.ref b, .int 0] (fun U => U.heap.size = sz ∧ (kw_H D U U.heap ad h ∧ va_X b L xs U U.heap ∧ b < U.heap.size ∧ ¬ kw_A ad h sz b) ∧ kw_N U)) (kw_Qc D (fun r ad' h' => (∀ k, h k ≠ none → ad' k = ad k) ∧ r = some (pi_ (scr0 L xs)) ∧ h' = h) (kw_A ad h sz)) 0 0 (kw_A ad h sz) := by
  refine Met.ofW (cc := cL_cell) (maxL := 2) (ret := some .int) (by decide) rfl ?_
  intro p e s m args below meth c s₁ B hml hv
  obtain ⟨rfl, hsz, ⟨hH, hX1, hX2, hX3⟩, hN⟩ := hv
  subst hsz
  have hts := atoms_spec (ws := .code yL_cell cL_cell 2 (some .int) :: kw_tbl) B.pre
  have hl := lv_entry [Value.ref b, .int 0] (n := 2) (Nat.le_of_ble_eq_true rfl)
  rw [lg_entry_eq]
  have hX : ∀ s' : State, (va_X b L xs s' s'.heap ∧ b < s'.heap.size ∧ ¬ kw_A ad h s.heap.size b) → va_X b L xs s' s'.heap ∧ b < s'.heap.size ∧ ¬ kw_A ad h s.heap.size b := fun _ q => q
  have G : kx_G l D cL_cell RL (some .int) "cell" { frames := 0, cells := 0, slots := 0, locals := 0 } (kw_A ad h s.heap.size) (fun s' args below => MQ below (kw_Qc D (fun r ad' h' => (∀ k, h k ≠ none → ad' k = ad k) ∧ r = some (pi_ (scr0 L xs)) ∧ h' = h) (kw_A ad h s.heap.size)) args s' 0 0 (kw_A ad h s.heap.size)) (fun s' => va_X b L xs s' s'.heap ∧ b < s'.heap.size ∧ ¬ kw_A ad h s.heap.size b) ad h 0 0 0 [some (pr_ (50, 0)), some (pi_ 0)] [] := by
    refine kx_iload_n dL_cell_0 rfl ?_
    refine kx_aload_n dL_cell_1 rfl ?_
    refine kx_alen hX hb dL_cell_2 ?_
    refine kx_icmp_ge (tgt := 12) dL_cell_3 (by decide) (fun c3 => ?_) (fun c3 => ?_)
    · have e3 : ¬ 0 < L := fun q => absurd (nI_le' (b := 0) hL (by decide) c3) (by omega)
      refine kx_iconst (v := 0) dL_cell_12 (by decide) ?_
      exact kx_iret dL_cell_13 rfl (Nat.le_refl _) (Nat.le_refl _) ⟨fun _ _ => rfl, by rw [scr0, if_neg e3], rfl⟩
    · have e3 : 0 < L := Nat.pos_of_ne_zero (fun q => c3 (by rw [q]; decide))
      refine kx_aload_n dL_cell_6 rfl ?_
      refine kx_iload_n dL_cell_7 rfl ?_
      refine kx_iald hX hb (j := 0) dL_cell_8 e3 hL ?_
      refine kx_goto (tgt := 13) dL_cell_9 (by decide) ?_
      exact kx_iret dL_cell_13 rfl (Nat.le_refl _) (Nat.le_refl _) ⟨fun _ _ => rfl, by rw [scr0, if_pos e3], rfl⟩
  refine G p e s m _ below meth c s.heap [] _ ⟨B.exec, B.bytes, hml, findClass_of_methodNamed B.named, fun w hw => hts w (List.mem_cons_of_mem _ hw), B.returns, B.notSynchronized, (name_of_methodNamed B.named B.method).1, hN⟩ hH (fun k hk => Or.inl ⟨k, hk, rfl⟩) va_S.rf (fun q hq => Or.inr hq) ⟨hl.1, hl.2.1, fun i v hi => ?_⟩ ⟨hX1, hX2, hX3⟩
  match i, hi with
  | 0, hi =>
    cases hi
    have e1 : kw_v ad (pr_ (50, 0)) = .ref b := congrArg Value.ref hb
    rw [e1]
    exact hl.2.2 _ (show ((0 : Nat), Value.ref b) ∈ lv_args 0 [Value.ref b, .int 0] from List.mem_cons_self)
  | 1, hi =>
    cases hi
    exact hl.2.2 _ (show ((1 : Nat), Value.int 0) ∈ lv_args 0 [Value.ref b, .int 0] from List.mem_cons_of_mem _ List.mem_cons_self)
  | n + 2, hi => cases hi
