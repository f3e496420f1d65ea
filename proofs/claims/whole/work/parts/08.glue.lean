/-! CALLS IN THE JUDGEMENT; NEW CELLS -/
def kw_alv (h : PH) (v : PV) : Prop := match v with
  | .inr (.inr (some k)) => h k ≠ none
  | _ => True
def kw_alo (h : PH) (v : Option PV) : Prop := match v with
  | some w => kw_alv h w
  | none => True
def kw_all {α : Type} (p : α → Prop) : List α → Prop
  | [] => True
  | a :: t => p a ∧ kw_all p t
theorem kw_all_get {α : Type} {p : α → Prop} : ∀ {l : List α} {i : Nat} {a : α}, kw_all p l → l[i]? = some a → p a
  | [], i, a, _, h => by simp at h
  | b :: t, 0, a, q, h => by simp at h; subst h; exact q.1
  | b :: t, i + 1, a, q, h => by simp at h; exact kw_all_get q.2 h
theorem kw_v_eq {ad ad' : KK → Nat} {h : PH} (he : ∀ k, h k ≠ none → ad' k = ad k) {v : PV} (hv : kw_alv h v) : kw_v ad' v = kw_v ad v := by
  rcases v with x | x | x
  · rfl
  · rfl
  · cases x with
    | none => rfl
    | some k => exact congrArg Value.ref (he k hv)
theorem kw_L.re {ad ad' : KK → Nat} {h : PH} (he : ∀ k, h k ≠ none → ad' k = ad k) {ls : Array Slot} {lv : List (Option PV)} (hv : kw_all (kw_alo h) lv) (x : kw_L ad ls lv) : kw_L ad' ls lv :=
  ⟨x.1, x.2.1, fun i v hi => by rw [kw_v_eq he (kw_all_get (p := kw_alo h) hv hi)]; exact x.2.2 i v hi⟩
theorem kw_map_re {ad ad' : KK → Nat} {h : PH} (he : ∀ k, h k ≠ none → ad' k = ad k) : ∀ {st : List PV}, kw_all (kw_alv h) st → st.map (kw_v ad') = st.map (kw_v ad)
  | [], _ => rfl
  | v :: t, q => by simp only [List.map_cons]; rw [kw_v_eq he q.1, kw_map_re he q.2]
section KwGlue
variable {l : Launch} {D : va_G} {cc : ByteArray} {own : String} {ret : Option FieldType} {nm : String} {R : Room} {A : Nat → Prop} {K : Option PV → (KK → Nat) → PH → Prop} {ad : KK → Nat} {h : PH} {cells slots pc : Nat} {lv : List (Option PV)} {st : List PV}
theorem kw_toList (ad : KK → Nat) (r : Option PV) (rest : List PV) : (r.map (kw_v ad)).toList ++ rest.map (kw_v ad) = (r.toList ++ rest).map (kw_v ad) := by cases r <;> rfl
theorem kw_callV {idx n nL2 : Nat} {y : MethodName} {cc2 : ByteArray} {ret2 : Option FieldType} {R2 : Room} {As rest : List PV} {key : KK} {P : Option PV → PH → Prop} (hM : kw_P l y cc2 nL2 ret2 R2 (pr_ key :: As) h P) (hd : decode cc pc = .ok (.invokevirtual idx, 3)) (hC : kw_CV own idx y cc2 nL2 ret2 n)
    {ci N : Nat} {T : u_T} {fs : List PV} (hk : h key = some (.inr (ci, fs))) (hcl : vwCl[ci]? = some (y.cls, T, N)) (hn : As.length = n) (hst : st = As.reverse ++ pr_ key :: rest) (hrest : (rest.map kw_cat).sum ≤ 8) (hR : kw_Rm R R2 nL2 cells slots)
    (k : ∀ (r : Option PV) (h' : PH), P r h' → kw_G l D cc own ret nm R A K ad h' (cells + R2.cells) (slots + R2.slots) (pc + 3) lv (r.toList ++ rest)) : kw_G l D cc own ret nm R A K ad h cells slots pc lv st := by
  intro p e s m args below meth c H locs ls E hH hA hS hB hl
  refine kw_after (kw_runV hM hd hC hk hcl hn hst hrest hR E hH hl) hS (kw_Ain hA hS hB) fun r ad1 h1 H1 locs1 hp hH1 hA1 hz hS1 => ?_
  obtain ⟨rfl, hp⟩ := hp
  rw [kw_toList]
  exact k r h1 hp p e s m args below meth c H1 locs1 ls E hH1 hA1 hS1 hB hl
theorem kw_callVf {idx n nL2 : Nat} {y : MethodName} {cc2 : ByteArray} {ret2 : Option FieldType} {R2 : Room} {As rest : List PV} {key : KK} {r0 : Option PV} {h0 : PH} (hM : kw_F l y cc2 nL2 ret2 R2 (pr_ key :: As) h r0 h0) (hd : decode cc pc = .ok (.invokevirtual idx, 3)) (hC : kw_CV own idx y cc2 nL2 ret2 n)
    {ci N : Nat} {T : u_T} {fs : List PV} (hk : h key = some (.inr (ci, fs))) (hcl : vwCl[ci]? = some (y.cls, T, N)) (hn : As.length = n) (hst : st = As.reverse ++ pr_ key :: rest) (hrest : (rest.map kw_cat).sum ≤ 8) (hR : kw_Rm R R2 nL2 cells slots)
    (k : kw_G l D cc own ret nm R A K ad h0 (cells + R2.cells) (slots + R2.slots) (pc + 3) lv (r0.toList ++ rest)) : kw_G l D cc own ret nm R A K ad h cells slots pc lv st :=
  kw_callV hM hd hC hk hcl hn hst hrest hR fun r h' q => by obtain ⟨rfl, rfl⟩ := q; exact k
theorem kw_callS {idx n nL2 : Nat} {y : MethodName} {cc2 : ByteArray} {ret2 : Option FieldType} {R2 : Room} {As rest : List PV} {P : Option PV → PH → Prop} (hM : kw_P l y cc2 nL2 ret2 R2 As h P) (hd : decode cc pc = .ok (.invokestatic idx, 3)) (hC : kw_CS own idx y cc2 nL2 ret2 n)
    (hn : As.length = n) (hst : st = As.reverse ++ rest) (hrest : (rest.map kw_cat).sum ≤ 8) (hR : kw_Rm R R2 nL2 cells slots)
    (k : ∀ (r : Option PV) (h' : PH), P r h' → kw_G l D cc own ret nm R A K ad h' (cells + R2.cells) (slots + R2.slots) (pc + 3) lv (r.toList ++ rest)) : kw_G l D cc own ret nm R A K ad h cells slots pc lv st := by
  intro p e s m args below meth c H locs ls E hH hA hS hB hl
  refine kw_after (kw_runS hM hd hC hn hst hrest hR E hH hl) hS (kw_Ain hA hS hB) fun r ad1 h1 H1 locs1 hp hH1 hA1 hz hS1 => ?_
  obtain ⟨rfl, hp⟩ := hp
  rw [kw_toList]
  exact k r h1 hp p e s m args below meth c H1 locs1 ls E hH1 hA1 hS1 hB hl
theorem kw_callSf {idx n nL2 : Nat} {y : MethodName} {cc2 : ByteArray} {ret2 : Option FieldType} {R2 : Room} {As rest : List PV} {r0 : Option PV} {h0 : PH} (hM : kw_F l y cc2 nL2 ret2 R2 As h r0 h0) (hd : decode cc pc = .ok (.invokestatic idx, 3)) (hC : kw_CS own idx y cc2 nL2 ret2 n)
    (hn : As.length = n) (hst : st = As.reverse ++ rest) (hrest : (rest.map kw_cat).sum ≤ 8) (hR : kw_Rm R R2 nL2 cells slots)
    (k : kw_G l D cc own ret nm R A K ad h0 (cells + R2.cells) (slots + R2.slots) (pc + 3) lv (r0.toList ++ rest)) : kw_G l D cc own ret nm R A K ad h cells slots pc lv st :=
  kw_callS hM hd hC hn hst hrest hR fun r h' q => by obtain ⟨rfl, rfl⟩ := q; exact k
/-- calls that make cells: the frame's own keys are there, and stay -/
theorem kw_callVq {idx n nL2 : Nat} {y : MethodName} {cc2 : ByteArray} {ret2 : Option FieldType} {R2 : Room} {As rest : List PV} {key : KK} {P : Option PV → PH → Prop} (hM : kw_Q l y cc2 nL2 ret2 R2 (pr_ key :: As) h P) (hd : decode cc pc = .ok (.invokevirtual idx, 3)) (hC : kw_CV own idx y cc2 nL2 ret2 n)
    {ci N : Nat} {T : u_T} {fs : List PV} (hk : h key = some (.inr (ci, fs))) (hcl : vwCl[ci]? = some (y.cls, T, N)) (hn : As.length = n) (hst : st = As.reverse ++ pr_ key :: rest) (hrest : (rest.map kw_cat).sum ≤ 8) (hR : kw_Rm R R2 nL2 cells slots) (hv : kw_all (kw_alo h) lv) (hv2 : kw_all (kw_alv h) rest)
    (k : ∀ (r : Option PV) (ad' : KK → Nat) (h' : PH), (∀ k, h k ≠ none → ad' k = ad k) → P r h' → kw_G l D cc own ret nm R A K ad' h' (cells + R2.cells) (slots + R2.slots) (pc + 3) lv (r.toList ++ rest)) : kw_G l D cc own ret nm R A K ad h cells slots pc lv st := by
  intro p e s m args below meth c H locs ls E hH hA hS hB hl
  refine kw_after (kw_runV hM hd hC hk hcl hn hst hrest hR E hH hl) hS (kw_Ain hA hS hB) fun r ad1 h1 H1 locs1 hp hH1 hA1 hz hS1 => ?_
  obtain ⟨he, hp⟩ := hp
  rw [← kw_map_re he hv2, kw_toList]
  exact k r ad1 h1 he hp p e s m args below meth c H1 locs1 ls E hH1 hA1 hS1 hB (hl.re he hv)
theorem kw_callSq {idx n nL2 : Nat} {y : MethodName} {cc2 : ByteArray} {ret2 : Option FieldType} {R2 : Room} {As rest : List PV} {P : Option PV → PH → Prop} (hM : kw_Q l y cc2 nL2 ret2 R2 As h P) (hd : decode cc pc = .ok (.invokestatic idx, 3)) (hC : kw_CS own idx y cc2 nL2 ret2 n)
    (hn : As.length = n) (hst : st = As.reverse ++ rest) (hrest : (rest.map kw_cat).sum ≤ 8) (hR : kw_Rm R R2 nL2 cells slots) (hv : kw_all (kw_alo h) lv) (hv2 : kw_all (kw_alv h) rest)
    (k : ∀ (r : Option PV) (ad' : KK → Nat) (h' : PH), (∀ k, h k ≠ none → ad' k = ad k) → P r h' → kw_G l D cc own ret nm R A K ad' h' (cells + R2.cells) (slots + R2.slots) (pc + 3) lv (r.toList ++ rest)) : kw_G l D cc own ret nm R A K ad h cells slots pc lv st := by
  intro p e s m args below meth c H locs ls E hH hA hS hB hl
  refine kw_after (kw_runS hM hd hC hn hst hrest hR E hH hl) hS (kw_Ain hA hS hB) fun r ad1 h1 H1 locs1 hp hH1 hA1 hz hS1 => ?_
  obtain ⟨he, hp⟩ := hp
  rw [← kw_map_re he hv2, kw_toList]
  exact k r ad1 h1 he hp p e s m args below meth c H1 locs1 ls E hH1 hA1 hS1 hB (hl.re he hv)
theorem kw_callIq {idx n nL2 : Nat} {y : MethodName} {cc2 : ByteArray} {R2 : Room} {As rest : List PV} {key : KK} {P : Option PV → PH → Prop} (hM : kw_Q l y cc2 nL2 none R2 (pr_ key :: As) h P) (hd : decode cc pc = .ok (.invokespecial idx, 3)) (hC : kw_CI own idx y cc2 nL2 n)
    (hn : As.length = n) (hst : st = As.reverse ++ pr_ key :: rest) (hrest : (rest.map kw_cat).sum ≤ 8) (hR : kw_Rm R R2 nL2 cells slots) (hv : kw_all (kw_alo h) lv) (hv2 : kw_all (kw_alv h) rest)
    (k : ∀ (r : Option PV) (ad' : KK → Nat) (h' : PH), (∀ k, h k ≠ none → ad' k = ad k) → P r h' → kw_G l D cc own ret nm R A K ad' h' (cells + R2.cells) (slots + R2.slots) (pc + 3) lv (r.toList ++ rest)) : kw_G l D cc own ret nm R A K ad h cells slots pc lv st := by
  intro p e s m args below meth c H locs ls E hH hA hS hB hl
  refine kw_after (kw_runI hM hd hC hn hst hrest hR E hH hl) hS (kw_Ain hA hS hB) fun r ad1 h1 H1 locs1 hp hH1 hA1 hz hS1 => ?_
  obtain ⟨he, hp⟩ := hp
  rw [← kw_map_re he hv2, kw_toList]
  exact k r ad1 h1 he hp p e s m args below meth c H1 locs1 ls E hH1 hA1 hS1 hB (hl.re he hv)
theorem kw_callINq {idx n nL2 : Nat} {y : MethodName} {cc2 : ByteArray} {R2 : Room} {As rest : List PV} {key : KK} {host : String} {P : Option PV → PH → Prop} (hM : kw_Q l y cc2 nL2 none R2 (pr_ key :: As) h P) (hd : decode cc pc = .ok (.invokespecial idx, 3)) (hC : kw_CIN own idx y cc2 nL2 n host)
    (hn : As.length = n) (hst : st = As.reverse ++ pr_ key :: rest) (hrest : (rest.map kw_cat).sum ≤ 8) (hR : kw_Rm R R2 nL2 cells slots) (hv : kw_all (kw_alo h) lv) (hv2 : kw_all (kw_alv h) rest)
    (k : ∀ (r : Option PV) (ad' : KK → Nat) (h' : PH), (∀ k, h k ≠ none → ad' k = ad k) → P r h' → kw_G l D cc own ret nm R A K ad' h' (cells + R2.cells) (slots + R2.slots) (pc + 3) lv (r.toList ++ rest)) : kw_G l D cc own ret nm R A K ad h cells slots pc lv st := by
  intro p e s m args below meth c H locs ls E hH hA hS hB hl
  refine kw_after (kw_runIN hM hd hC hn hst hrest hR E hH hl) hS (kw_Ain hA hS hB) fun r ad1 h1 H1 locs1 hp hH1 hA1 hz hS1 => ?_
  obtain ⟨he, hp⟩ := hp
  rw [← kw_map_re he hv2, kw_toList]
  exact k r ad1 h1 he hp p e s m args below meth c H1 locs1 ls E hH1 hA1 hS1 hB (hl.re he hv)
/-- Object's own constructor -/
theorem kw_objInit {idx : Nat} {x : KK} (hd : decode cc pc = .ok (.invokespecial idx, 3)) (h1 : Cond.methodLink own idx Lib.objectInit ∈ kw_tbl) (h2 : Cond.instanceMethod Lib.objectInit ∈ kw_tbl) (h3 : Cond.code Lib.objectInit ⟨#[0xb1]⟩ 1 none ∈ kw_tbl) (hf : 1 ≤ R.frames) (hlo : (st.map kw_cat).sum + 12 ≤ R.locals)
    (k : kw_G l D cc own ret nm R A K ad h cells slots (pc + 3) lv st) : kw_G l D cc own ret nm R A K ad h cells slots pc lv (pr_ x :: st) := by
  intro p e s m args below meth c H locs ls E hH hA hS hB hl
  refine W.objInit E.1 E.2.1 E.2.2.2.1 (E.2.2.2.2.1 _ h1) (E.2.2.2.2.1 _ h2) (E.2.2.2.2.1 _ h3) rfl (hl.1.trans E.2.2.1.symm) rfl hd hf ?_ (k p e s m args below meth c H locs ls E hH hA hS hB hl)
  have := kw_catsum ad st
  have hm : (F0 m pc ls (kw_v ad (pr_ x) :: st.map (kw_v ad))).monitorRoom = 0 := rfl
  show 2 * (F0 m pc ls (kw_v ad (pr_ x) :: st.map (kw_v ad))).monitorRoom + _ + 12 ≤ R.locals
  rw [hm, this]
  omega
/-- a new cell under a key that nothing names -/
def kw_nmv (k : KK) (v : PV) : Prop := match v with
  | .inr (.inr (some k')) => k' ≠ k
  | _ => True
def kw_nmc (k : KK) (c : PC) : Prop := match c with
  | .inl (_, n, .inr (.inr f)) => ∀ j, j < n → f j ≠ some k
  | .inl _ => True
  | .inr (_, fs) => ∀ v ∈ fs, kw_nmv k v
def kw_ad (ad : KK → Nat) (k : KK) (a : Nat) : KK → Nat := fun k' => if k' = k then a else ad k'
theorem kw_ad_s (ad : KK → Nat) (k : KK) (a : Nat) : kw_ad ad k a k = a := by simp [kw_ad]
theorem kw_ad_n (ad : KK → Nat) {k k' : KK} (a : Nat) (hn : k' ≠ k) : kw_ad ad k a k' = ad k' := by simp [kw_ad, hn]
theorem kw_v_ad {ad : KK → Nat} {k : KK} {a : Nat} {v : PV} (hv : kw_nmv k v) : kw_v (kw_ad ad k a) v = kw_v ad v := by
  rcases v with x | x | x
  · rfl
  · rfl
  · cases x with
    | none => rfl
    | some k' => exact congrArg Value.ref (kw_ad_n ad a hv)
theorem kw_at.adn {D : va_G} {U : State} {H : Heap} {ad : KK → Nat} {k k' : KK} {a : Nat} {c : PC} (hn : k' ≠ k) (hc : kw_nmc k c) (x : kw_at D U H ad k' c) : kw_at D U H (kw_ad ad k a) k' c := by
  match c, hc, x with
  | .inr (ci, fs), hc, x =>
    have e : fs.map (kw_v (kw_ad ad k a)) = fs.map (kw_v ad) := List.map_congr_left (fun v hv => kw_v_ad (hc v hv))
    show va_at D vwCl (kw_ad ad k a k', .inr (ci, fs.map (kw_v (kw_ad ad k a)))) H
    rw [e, kw_ad_n ad a hn]
    exact x
  | .inl (ty, n, .inl f), _, x =>
    obtain ⟨cA, h1, h2⟩ := x
    refine ⟨cA, ?_, h2⟩
    rw [kw_ad_n ad a hn]
    exact h1
  | .inl (ty, n, .inr (.inl f)), _, x =>
    obtain ⟨cA, h1, h2⟩ := x
    refine ⟨cA, ?_, h2⟩
    rw [kw_ad_n ad a hn]
    exact h1
  | .inl (ty, n, .inr (.inr f)), hc, x =>
    obtain ⟨cA, h1, h2⟩ := x
    refine ⟨cA, ?_, h2⟩
    rw [kw_ad_n ad a hn]
    show H[ad k']? = some (vp_cell cA (n, .inr (.inr (.inr (.inr (fun j => (f j).map (kw_ad ad k a)))))))
    have h1 : H[ad k']? = some (vp_cell cA (n, .inr (.inr (.inr (.inr (fun j => (f j).map ad)))))) := h1
    rw [h1, vp_cell_q, vp_cell_q]
    congr 1
    unfold arrV
    congr 1
    apply Array.ext
    · simp
    · intro j hj hj2
      simp only [Array.getElem_ofFn]
      have hjn : j < n := by simpa using hj
      congr 1
      cases hf : f j with
      | none => rfl
      | some q =>
        have hq : q ≠ k := fun z => hc j hjn (by rw [hf, z])
        show some (ad q) = some (kw_ad ad k a q)
        rw [kw_ad_n ad a hq]
theorem kw_H.new {D : va_G} {U : State} {H H1 : Heap} {ad : KK → Nat} {h : PH} {k : KK} {c : PC} (x : kw_H D U H ad h) (hk : h k = none) (hnm : ∀ k' c', h k' = some c' → kw_nmc k c') (ho : ∀ q : Nat, q < H.size → H1[q]? = H[q]?) (hc : kw_at D U H1 (kw_ad ad k H.size) k c) : kw_H D U H1 (kw_ad ad k H.size) (kw_up h k c) := by
  refine ⟨x.1, fun k' c' h' => ?_, fun k1 k2 h1 h2 he => ?_⟩
  · by_cases e : k' = k
    · subst e
      rw [kw_up_s] at h'
      cases h'
      exact hc
    · rw [kw_up_n _ _ e] at h'
      have := x.2.1 k' c' h'
      exact ((this.adn e (hnm k' c' h')).kept (by rw [kw_ad_n ad _ e]; exact ho _ this.lt))
  · by_cases e1 : k1 = k <;> by_cases e2 : k2 = k
    · rw [e1, e2]
    · exfalso
      rw [kw_up_n _ _ e2] at h2
      rw [e1, kw_ad_s, kw_ad_n ad _ e2] at he
      cases hq : h k2 with
      | none => exact h2 hq
      | some c2 => have := (x.2.1 k2 c2 hq).lt; omega
    · exfalso
      rw [kw_up_n _ _ e1] at h1
      rw [e2, kw_ad_s, kw_ad_n ad _ e1] at he
      cases hq : h k1 with
      | none => exact h1 hq
      | some c2 => have := (x.2.1 k1 c2 hq).lt; omega
    · rw [kw_up_n _ _ e1] at h1
      rw [kw_up_n _ _ e2] at h2
      rw [kw_ad_n ad _ e1, kw_ad_n ad _ e2] at he
      exact x.2.2 k1 k2 h1 h2 he
def kw_nmo (k : KK) (v : Option PV) : Prop := match v with
  | some w => kw_nmv k w
  | none => True
theorem kw_L.adn {ad : KK → Nat} {k : KK} {a : Nat} {ls : Array Slot} {lv : List (Option PV)} (hv : kw_all (kw_nmo k) lv) (x : kw_L ad ls lv) : kw_L (kw_ad ad k a) ls lv :=
  ⟨x.1, x.2.1, fun i v hi => by rw [kw_v_ad (kw_all_get (p := kw_nmo k) hv hi)]; exact x.2.2 i v hi⟩
theorem kw_map_ad {ad : KK → Nat} {k : KK} {a : Nat} : ∀ {st : List PV}, kw_all (kw_nmv k) st → st.map (kw_v (kw_ad ad k a)) = st.map (kw_v ad)
  | [], _ => rfl
  | v :: t, q => by simp only [List.map_cons]; rw [kw_v_ad q.1, kw_map_ad q.2]
theorem kw_hAn {A : Nat → Prop} {ad : KK → Nat} {h : PH} {k : KK} {c : PC} {a : Nat} (ha : A a) (hA : ∀ k, h k ≠ none → A (ad k)) : ∀ k', kw_up h k c k' ≠ none → A (kw_ad ad k a k') := by
  intro k' h1
  by_cases e : k' = k
  · subst e; rw [kw_ad_s]; exact ha
  · rw [kw_up_n _ _ e] at h1; rw [kw_ad_n ad _ e]; exact hA _ h1
theorem kw_new {idx ci N : Nat} {C : String} {T : u_T} {ty : Nat → FieldType} (key : KK) {fs : List PV} (hd : decode cc pc = .ok (.new idx, 3)) (hcd : kw_CD ci C T N ty) (hcl : Cond.classLink own idx C ∈ kw_tbl) (hins : Cond.instantiable C N ∈ kw_tbl) (hini : Cond.initialized C ∈ kw_tbl) (hfs : ∀ (ad : KK → Nat) (j : Nat), j < N → defaultValue (ty j) = vp_V (fs.map (kw_v ad)) j)
    (hk : h key = none) (hnm : ∀ k' c', h k' = some c' → kw_nmc key c') (hlv : kw_all (kw_nmo key) lv) (hst : kw_all (kw_nmv key) st) (hcells : cells + 1 ≤ R.cells) (hslots : slots + N ≤ R.slots)
    (k : ∀ a : Nat, kw_G l D cc own ret nm R A K (kw_ad ad key a) (kw_up h key (.inr (ci, fs))) (cells + 1) (slots + N) (pc + 3) lv (pr_ key :: st)) : kw_G l D cc own ret nm R A K ad h cells slots pc lv st := by
  intro p e s m args below meth c H locs ls E hH hA hS hB hl
  obtain ⟨hc, hin, hty, -, -⟩ := hcd
  have hts := E.2.2.2.2.1
  have hKn := hH.1.1 ci _ hc
  refine W.newcK E.1 E.2.1 E.2.2.2.1 (hts _ hcl) (hts _ hins) (hts _ hini) rfl hd hcells hslots hKn.2.1 rfl fun H1 kC hkC e1 z1 o1 => ?_
  have hb := (u_born ty hts hin hKn hkC e1 hty).to (hfs (kw_ad ad key H.size))
  have hw := k H.size p e s m args below meth c H1 locs ls E (hH.new hk hnm o1 ⟨_, hc, by rw [kw_ad_s]; exact hb⟩) (kw_hAn (hB _ hS.1) hA) ⟨Nat.le_trans hS.1 (by omega), fun x h1 h2 => (o1 x (Nat.lt_of_lt_of_le h1 hS.1)).trans (hS.2.1 x h1 h2), hS.2.2⟩ hB (hl.adn hlv)
  simp only [List.map_cons, kw_map_ad hst] at hw
  have e3 : kw_v (kw_ad ad key H.size) (pr_ key) = .ref H.size := congrArg Value.ref (kw_ad_s ad key H.size)
  rw [e3] at hw
  exact hw
/-- an array of numbers; kinds: .int, .long, .boolean -/
theorem kw_newarr {atype : ArrayType} {ty : FieldType} {n : Int32} {N : Nat} {x : PX} (key : KK) (hd : decode cc pc = .ok (.newarray atype, 2)) (hty : newarray.typeOf atype = ty) (hac : Cond.arrayClass ty ∈ kw_tbl) (hx : ∀ (ad : KK → Nat) (cA : ClassId), vp_cell cA (N, kw_x ad x) = arrV cA N (fun _ => defaultValue ty)) (hn : ¬ n < 0) (hN : n.toNatClampNeg = N) (hb : N * componentBytes ty ≤ 536870912) (hra : ∀ (U : State) (cA : ClassId), U.vm.findClass ("[" ++ ty.toString) = some cA → va_RA U cA ty)
    (hk : h key = none) (hnm : ∀ k' c', h k' = some c' → kw_nmc key c') (hlv : kw_all (kw_nmo key) lv) (hst : kw_all (kw_nmv key) st) (hcells : cells + 1 ≤ R.cells) (hslots : slots + N ≤ R.slots)
    (k : ∀ a : Nat, kw_G l D cc own ret nm R A K (kw_ad ad key a) (kw_up h key (.inl (ty, N, x))) (cells + 1) (slots + N) (pc + 2) lv (pr_ key :: st)) : kw_G l D cc own ret nm R A K ad h cells slots pc lv (pi_ n :: st) := by
  intro p e s m args below meth c H locs ls E hH hA hS hB hl
  subst hty
  refine va_newaK E.1 E.2.1 (E.2.2.2.2.1 _ hac) rfl hd rfl hn hN hb hcells hslots rfl fun H1 cA e1 z1 o1 hAr hNm => ?_
  have hw := k H.size p e s m args below meth c H1 locs ls E (hH.new hk hnm o1 ⟨cA, by rw [kw_ad_s]; show H1[H.size]? = some (vp_cell _ _); rw [hx]; exact e1, hAr, hra s cA hNm⟩) (kw_hAn (hB _ hS.1) hA) ⟨Nat.le_trans hS.1 (by omega), fun x h1 h2 => (o1 x (Nat.lt_of_lt_of_le h1 hS.1)).trans (hS.2.1 x h1 h2), hS.2.2⟩ hB (hl.adn hlv)
  simp only [List.map_cons, kw_map_ad hst] at hw
  have e3 : kw_v (kw_ad ad key H.size) (pr_ key) = .ref H.size := congrArg Value.ref (kw_ad_s ad key H.size)
  rw [e3] at hw
  exact hw
/-- an array of objects -/
theorem kw_anew {idx : Nat} {C : String} {n : Int32} {N : Nat} (key : KK) (hd : decode cc pc = .ok (.anewarray idx, 3)) (hcl : Cond.classLink own idx C ∈ kw_tbl) (hov : C ∈ kw_overs) (hn : ¬ n < 0) (hN : n.toNatClampNeg = N) (hb : N * 4 ≤ 536870912)
    (hk : h key = none) (hnm : ∀ k' c', h k' = some c' → kw_nmc key c') (hlv : kw_all (kw_nmo key) lv) (hst : kw_all (kw_nmv key) st) (hcells : cells + 1 ≤ R.cells) (hslots : slots + N ≤ R.slots)
    (k : ∀ a : Nat, kw_G l D cc own ret nm R A K (kw_ad ad key a) (kw_up h key (.inl (.object C, N, .inr (.inr (fun _ => none))))) (cells + 1) (slots + N) (pc + 3) lv (pr_ key :: st)) : kw_G l D cc own ret nm R A K ad h cells slots pc lv (pi_ n :: st) := by
  intro p e s m args below meth c H locs ls E hH hA hS hB hl
  subst hN
  refine W.anew E.1 E.2.1 E.2.2.2.1 (E.2.2.2.2.1 _ hcl) (va_AO.use (E.2.2.2.2.2.2.2.2.2.1 C hov)) rfl hd rfl hn hb hcells hslots fun cA kA comp f1 f2 f3 f4 => ?_
  generalize hH1 : H.push ({ cls := cA, slots := Array.replicate n.toNatClampNeg .null, vm := .none } : Cell) = H1
  have z1 : H1.size = H.size + 1 := by rw [← hH1, Array.size_push]
  have e1 : H1[H.size]? = some (arrV cA n.toNatClampNeg (fun _ => .null)) := by rw [← hH1, Array.getElem?_push_size, ← arrV_new]
  have o1 : ∀ q : Nat, q < H.size → H1[q]? = H[q]? := fun q hq => by rw [← hH1, Array.getElem?_push, if_neg (Nat.ne_of_lt hq)]
  have hAr : ArrOfT s cA (.object C) := fun N z => ⟨(fun k h => by cases h), kA, f2, comp, f3⟩
  have hw := k H.size p e s m args below meth c H1 locs ls E (hH.new hk hnm o1 ⟨cA, by rw [kw_ad_s]; exact e1, hAr, kA, comp, f2, f3, f4, f1⟩) (kw_hAn (hB _ hS.1) hA) ⟨Nat.le_trans hS.1 (by omega), fun x h1 h2 => (o1 x (Nat.lt_of_lt_of_le h1 hS.1)).trans (hS.2.1 x h1 h2), hS.2.2⟩ hB (hl.adn hlv)
  simp only [List.map_cons, kw_map_ad hst] at hw
  have e3 : kw_v (kw_ad ad key H.size) (pr_ key) = .ref H.size := congrArg Value.ref (kw_ad_s ad key H.size)
  rw [e3] at hw
  exact hw
end KwGlue
