/-! CONTRACTS AND CALLS -/
def kw_A (ad : KK → Nat) (h : PH) (sz : Nat) : Nat → Prop := fun q => (∃ k, h k ≠ none ∧ q = ad k) ∨ sz ≤ q
/-- method y's contract at the arguments As over the world h: K of the keys' places before, of the answer, of the places and of the world behind it -/
def kw_M (l : Launch) (y : MethodName) (cc : ByteArray) (nL : Nat) (ret : Option FieldType) (R : Room) (As : List PV) (h : PH) (K : (KK → Nat) → Option PV → (KK → Nat) → PH → Prop) : Prop :=
  ∀ (D : va_G) (ad : KK → Nat) (sz : Nat), Met l y (.code y cc nL ret :: kw_tbl) R (va_Pc (As.map (kw_v ad)) (fun U => U.heap.size = sz ∧ kw_H D U U.heap ad h ∧ kw_N U)) (kw_Qc D (K ad) (kw_A ad h sz)) R.cells R.slots (kw_A ad h sz)
/-- no new cells: the answer and the world are such -/
abbrev kw_P (l : Launch) (y : MethodName) (cc : ByteArray) (nL : Nat) (ret : Option FieldType) (R : Room) (As : List PV) (h : PH) (P : Option PV → PH → Prop) : Prop :=
  kw_M l y cc nL ret R As h (fun ad r ad' h' => ad' = ad ∧ P r h')
/-- no new cells: just this answer and this world -/
abbrev kw_F (l : Launch) (y : MethodName) (cc : ByteArray) (nL : Nat) (ret : Option FieldType) (R : Room) (As : List PV) (h : PH) (r0 : Option PV) (h0 : PH) : Prop :=
  kw_P l y cc nL ret R As h (fun r h' => r = r0 ∧ h' = h0)
/-- with new cells: the old ones stay where they lie -/
abbrev kw_Q (l : Launch) (y : MethodName) (cc : ByteArray) (nL : Nat) (ret : Option FieldType) (R : Room) (As : List PV) (h : PH) (P : Option PV → PH → Prop) : Prop :=
  kw_M l y cc nL ret R As h (fun ad r ad' h' => (∀ k, h k ≠ none → ad' k = ad k) ∧ P r h')
theorem kw_ent_args (ad : KK → Nat) : ∀ (As : List PV) (i0 j : Nat) (v : PV), (kw_ent As)[j]? = some (some v) → (i0 + j, kw_v ad v) ∈ lv_args i0 (As.map (kw_v ad))
  | [], i0, j, v, h => by simp [kw_ent] at h
  | a :: t, i0, j, v, h => by
    simp only [kw_ent] at h
    simp only [List.map_cons, lv_args, kw_cat_v]
    by_cases hc : kw_cat a = 2
    · rw [if_pos hc] at h
      rw [if_pos hc]
      match j, h with
      | 0, h =>
        simp only [List.getElem?_cons_zero, Option.some.injEq] at h
        subst h
        exact List.mem_cons_self
      | 1, h => simp at h
      | j + 2, h =>
        simp only [List.getElem?_cons_succ] at h
        have := kw_ent_args ad t (i0 + 2) j v h
        rw [show i0 + (j + 2) = i0 + 2 + j by omega]
        exact List.mem_cons_of_mem _ this
    · rw [if_neg hc] at h
      rw [if_neg hc]
      match j, h with
      | 0, h =>
        simp only [List.getElem?_cons_zero, Option.some.injEq] at h
        subst h
        exact List.mem_cons_self
      | j + 1, h =>
        simp only [List.getElem?_cons_succ] at h
        have := kw_ent_args ad t (i0 + 1) j v h
        rw [show i0 + (j + 1) = i0 + 1 + j by omega]
        exact List.mem_cons_of_mem _ this
theorem kw_ent_len (ad : KK → Nat) : ∀ As : List PV, (lg_sl (As.map (kw_v ad))).length = (kw_ent As).length
  | [] => rfl
  | a :: t => by
    have ih := kw_ent_len ad t
    simp only [lg_sl, List.map_cons, List.flatMap_cons, List.length_append, kw_cat_v, kw_ent] at ih ⊢
    by_cases hc : kw_cat a = 2
    · simp [hc, ih]; omega
    · simp [hc, ih]; omega
theorem kw_M_of {l : Launch} {y : MethodName} {cc : ByteArray} {nL : Nat} {ret : Option FieldType} {R : Room} {As : List PV} {h : PH} {K : (KK → Nat) → Option PV → (KK → Nat) → PH → Prop} (own nm : String) (lv : List (Option PV)) (hy : plainName y.cls = true) (ho : y.cls = own) (hn : y.name = nm)
    (hlv : kw_ent As ++ List.replicate (nL - (kw_ent As).length) none = lv) (hle : (kw_ent As).length ≤ nL)
    (k : ∀ (D : va_G) (ad : KK → Nat) (A : Nat → Prop), kw_G l D cc own ret nm R A (K ad) ad h 0 0 0 lv []) : kw_M l y cc nL ret R As h K := by
  intro D ad sz
  refine Met.ofW (cc := cc) (maxL := nL) (ret := ret) hy rfl ?_
  intro p e s m args below meth c s₁ B hml hv
  obtain ⟨rfl, hsz, hH, hN⟩ := hv
  subst hsz
  have hts := atoms_spec (ws := .code y cc nL ret :: kw_tbl) B.pre
  have hlen : lv.length = nL := by rw [← hlv]; simp; omega
  have hle' : (lg_sl (As.map (kw_v ad))).length ≤ nL := by rw [kw_ent_len]; exact hle
  have hl := lv_entry (As.map (kw_v ad)) (n := nL) hle'
  rw [lg_entry_eq]
  refine k D ad (kw_A ad h s.heap.size) p e s m _ below meth c s.heap [] _ ⟨B.exec, B.bytes, hml.trans hlen.symm, by rw [← ho]; exact findClass_of_methodNamed B.named, fun w hw => hts w (List.mem_cons_of_mem _ hw), B.returns, B.notSynchronized, by rw [← hn]; exact (name_of_methodNamed B.named B.method).1, hN⟩ hH (fun k hk => Or.inl ⟨k, hk, rfl⟩) va_S.rf (fun q hq => Or.inr hq) ⟨hl.1.trans hlen.symm, hl.2.1, fun i v hi => ?_⟩
  have hi2 : (kw_ent As)[i]? = some (some v) := by
    rw [← hlv] at hi
    by_cases hlt : i < (kw_ent As).length
    · rw [List.getElem?_append_left hlt] at hi
      exact hi
    · rw [List.getElem?_append_right (by omega)] at hi
      have := List.eq_of_mem_replicate (List.mem_of_getElem? hi)
      cases this
  have := kw_ent_args ad As 0 i v hi2
  rw [Nat.zero_add] at this
  exact hl.2.2 _ this
/-- weaker ends -/
theorem kw_M.imp {l : Launch} {y : MethodName} {cc : ByteArray} {nL : Nat} {ret : Option FieldType} {R : Room} {As : List PV} {h : PH} {P P' : Option PV → PH → Prop} (hM : kw_P l y cc nL ret R As h P) (hp : ∀ r h', P r h' → P' r h') : kw_P l y cc nL ret R As h P' := by
  intro D ad sz p e ha hc hk s m args below hf happ hpc ht
  obtain ⟨t, o, a1, a2, a3, ⟨⟨r, ad', h', b1, ⟨b2, b3⟩, b4⟩, b5⟩, b6⟩ := hM D ad sz p e ha hc hk s m args below hf happ hpc ht
  exact ⟨t, o, a1, a2, a3, ⟨⟨r, ad', h', b1, ⟨b2, hp r h' b3⟩, b4⟩, b5⟩, b6⟩
section KwAfter
variable {p : Program} {l : Launch} {e : Env} {R : Room} {s : State} {m : MethodId} {args : Array Value} {below : List Frame} {meth : Method} {c : Code} {H : Heap} {locs : List Loc} {cells slots : Nat} {Q : State → Prop}
variable {pc : Nat} {ls : Array Slot} {rest st0 : List Value} {a : Array Value} {A0 A1 : Nat → Prop} {H0 : Heap} {mc ms : Nat} {D : va_G} {K1 : Option PV → (KK → Nat) → PH → Prop}
theorem kw_after (hr : va_Run p l e R s m args below meth c H locs cells slots mc ms (F0 m pc ls st0) rest (kw_Qc D K1 A1 a) A1) (hS : va_S A0 H0 H locs) (hA : ∀ q, A1 q → A0 q)
    (kk : ∀ (r : Option PV) (ad1 : KK → Nat) (h1 : PH) (H1 : Heap) (locs1 : List Loc), K1 r ad1 h1 → kw_H D s H1 ad1 h1 → (∀ k, h1 k ≠ none → A0 (ad1 k)) → H.size ≤ H1.size → va_S A0 H0 H1 locs1 → W p l e R s m args below meth c H1 locs1 (cells + mc) (slots + ms) Q (F0 m (pc + 3) ls ((r.map (kw_v ad1)).toList ++ rest))) : W p l e R s m args below meth c H locs cells slots Q (F0 m pc ls st0) := by
  intro T hT X
  obtain ⟨v, st₀, t, T', L, h0, X', hL, e1, e2, ⟨⟨r, ad1, h1, hv, hp, hb, hin⟩, hz, hk⟩, st⟩ := hr T hT X
  cases hv
  rw [h0] at hz hk
  have hal : s.vm.Alike t.vm := by rw [← e2]; exact X'.warmed.alike
  obtain ⟨t2, a1, b1⟩ := kk r ad1 h1 T'.heap (locs ++ L) hp (by rw [e1]; exact hb.moved hal.symm) (fun k hk => hA _ (hin k hk)) (by rw [e1]; exact hz)
    ⟨Nat.le_trans hS.1 (by rw [e1]; exact hz), fun q h1 h2 => by rw [e1, hk q (Nat.lt_of_lt_of_le h1 hS.1) (fun z => h2 (hA q z))]; exact hS.2.1 q h1 h2, fun q hq => by
      rcases List.mem_append.mp hq with h | h
      · exact hS.2.2 q h
      · exact hA _ (hL q h)⟩ T' rfl X'
  exact ⟨t2, st t2 a1, b1⟩
end KwAfter
/-- the tables' words of a call -/
def kw_CB (y : MethodName) (cc : ByteArray) (nL : Nat) (ret : Option FieldType) (n : Nat) : Prop :=
  Cond.initialized y.cls ∈ kw_tbl ∧ Cond.code y cc nL ret ∈ kw_tbl ∧ y.cls ≠ "java/lang/invoke/MethodHandle" ∧ y.cls ≠ "java/lang/invoke/VarHandle" ∧ (parseMethodDescriptor y.desc).map (fun d => d.parameters.length) = some n
def kw_CV (own : String) (idx : Nat) (y : MethodName) (cc : ByteArray) (nL : Nat) (ret : Option FieldType) (n : Nat) : Prop :=
  kw_CB y cc nL ret n ∧ Cond.methodLink own idx y ∈ kw_tbl ∧ Cond.instanceMethod y ∈ kw_tbl ∧ Cond.selects y.cls y y ∈ kw_tbl
def kw_CS (own : String) (idx : Nat) (y : MethodName) (cc : ByteArray) (nL : Nat) (ret : Option FieldType) (n : Nat) : Prop :=
  kw_CB y cc nL ret n ∧ Cond.methodLink own idx y ∈ kw_tbl ∧ Cond.static y ∈ kw_tbl
def kw_CI (own : String) (idx : Nat) (y : MethodName) (cc : ByteArray) (nL : Nat) (n : Nat) : Prop :=
  kw_CB y cc nL none n ∧ Cond.methodLink own idx y ∈ kw_tbl ∧ Cond.instanceMethod y ∈ kw_tbl ∧ y.name = "<init>"
def kw_CIN (own : String) (idx : Nat) (y : MethodName) (cc : ByteArray) (nL : Nat) (n : Nat) (host : String) : Prop :=
  kw_CB y cc nL none n ∧ (own, idx, y, host) ∈ kw_nests ∧ Cond.instanceMethod y ∈ kw_tbl ∧ y.name = "<init>"
theorem kw_goodIn {y : MethodName} {cc : ByteArray} {nL : Nat} {ret : Option FieldType} (h : Cond.code y cc nL ret ∈ kw_tbl) : GoodIn kw_tbl (Cond.code y cc nL ret :: kw_tbl) := by
  intro w hw
  have hw2 : w ∈ kw_tbl := by
    rcases List.mem_cons.mp hw with rfl | q
    · exact h
    · exact q
  exact ⟨hw2, good_of_word (List.mem_filter.mp hw2).2⟩
/-- which room a callee has -/
def kw_Rm (R R2 : Room) (nL cells slots : Nat) : Prop := R2.frames + 1 ≤ R.frames ∧ 8 + (nL + 11) + R2.locals ≤ R.locals ∧ cells + R2.cells ≤ R.cells ∧ slots + R2.slots ≤ R.slots
section KwCalls
variable {l : Launch} {D : va_G} {cc : ByteArray} {own : String} {ret : Option FieldType} {nm : String} {R : Room} {A : Nat → Prop} {K : Option PV → (KK → Nat) → PH → Prop} {ad : KK → Nat} {h : PH} {cells slots pc : Nat} {lv : List (Option PV)} {st : List PV}
theorem kw_Ain {s : State} {H : Heap} {locs : List Loc} (hA : ∀ k, h k ≠ none → A (ad k)) (hS : va_S A s.heap H locs) (hB : ∀ q, s.heap.size ≤ q → A q) : ∀ q, kw_A ad h H.size q → A q := by
  rintro q (⟨k, hk, rfl⟩ | hq)
  · exact hA k hk
  · exact hB q (Nat.le_trans hS.1 hq)
theorem kw_blind {D : va_G} {ad : KK → Nat} {h : PH} {sz : Nat} {av : List Value} : FrameBlind (va_Pc av (fun U => U.heap.size = sz ∧ kw_H D U U.heap ad h ∧ kw_N U)) :=
  fun a U g mk q => ⟨q.1, q.2.1, kw_H.moved (u := U) (U := U.calling g mk a) (Vm.Alike.refl _) q.2.2.1, q.2.2.2.warm (State.WarmedH.refl U)⟩
theorem kw_catsum (ad : KK → Nat) (rest : List PV) : ((rest.map (kw_v ad)).map fun v => v.category).sum = (rest.map kw_cat).sum := by
  rw [List.map_map]
  congr 1
  exact List.map_congr_left (fun v _ => kw_cat_v ad v)
theorem kw_runV {idx n nL2 : Nat} {y : MethodName} {cc2 : ByteArray} {ret2 : Option FieldType} {R2 : Room} {As rest : List PV} {key : KK} {K2 : (KK → Nat) → Option PV → (KK → Nat) → PH → Prop} (hM : kw_M l y cc2 nL2 ret2 R2 (pr_ key :: As) h K2) (hd : decode cc pc = .ok (.invokevirtual idx, 3)) (hC : kw_CV own idx y cc2 nL2 ret2 n)
    {ci N : Nat} {T : u_T} {fs : List PV} (hk : h key = some (.inr (ci, fs))) (hcl : vwCl[ci]? = some (y.cls, T, N)) (hn : As.length = n) (hst : st = As.reverse ++ pr_ key :: rest) (hrest : (rest.map kw_cat).sum ≤ 8) (hR : kw_Rm R R2 nL2 cells slots)
    {p : Program} {e : Env} {s : State} {m : MethodId} {args : Array Value} {below : List Frame} {meth : Method} {c : Code} {H : Heap} {locs : List Loc} {ls : Array Slot} (E : kw_Env cc lv.length own ret nm p s m args meth c) (hH : kw_H D s H ad h) (hl : kw_L ad ls lv) :
    va_Run p l e R s m args below meth c H locs cells slots R2.cells R2.slots (F0 m pc ls (st.map (kw_v ad))) (rest.map (kw_v ad)) (kw_Qc D (K2 ad) (kw_A ad h H.size) (Value.ref (ad key) :: As.map (kw_v ad)).toArray) (kw_A ad h H.size) := by
  obtain ⟨⟨c1, c2, c3, c4, c5⟩, c6, c7, c8⟩ := hC
  have hts := E.2.2.2.2.1
  obtain ⟨r, h1, cell, q1, q2, q3, -⟩ := hH.2.1 key _ hk
  refine va_runV (Ts := kw_tbl) (C := y.cls) (bytes := cc2) (maxL := nL2) (ret := ret2) (n := n) (As := As.map (kw_v ad)) (b := ad key) ⟨E.1, E.2.1, E.2.2.1, E.2.2.2.1, hts⟩ (hM D ad H.size) ⟨callB_of n hts (kw_goodIn c2) rfl rfl rfl (hts _ c1) (hts _ c6) ⟨c3, c4, c5⟩ ⟨hR.1, hR.2.1⟩, hts _ c7, hts _ c8⟩ ⟨kw_blind, ⟨cell, q1, by rw [q3]; rfl, ?_⟩, fun U hU hW => ⟨rfl, by rw [hU], by rw [hU]; exact hH.moved hW.alike, E.2.2.2.2.2.2.2.2.warm hW⟩⟩ rfl (by rw [List.length_map]; exact hn) hl.1 (by rw [hst]; simp [List.map_reverse]; rfl) (lv_room (by rw [kw_catsum]; exact hrest)) hd ⟨hR.2.2.1, hR.2.2.2⟩
  rw [q2]
  exact (hH.1.1 ci _ hcl).2.1
theorem kw_runS {idx n nL2 : Nat} {y : MethodName} {cc2 : ByteArray} {ret2 : Option FieldType} {R2 : Room} {As rest : List PV} {K2 : (KK → Nat) → Option PV → (KK → Nat) → PH → Prop} (hM : kw_M l y cc2 nL2 ret2 R2 As h K2) (hd : decode cc pc = .ok (.invokestatic idx, 3)) (hC : kw_CS own idx y cc2 nL2 ret2 n)
    (hn : As.length = n) (hst : st = As.reverse ++ rest) (hrest : (rest.map kw_cat).sum ≤ 8) (hR : kw_Rm R R2 nL2 cells slots)
    {p : Program} {e : Env} {s : State} {m : MethodId} {args : Array Value} {below : List Frame} {meth : Method} {c : Code} {H : Heap} {locs : List Loc} {ls : Array Slot} (E : kw_Env cc lv.length own ret nm p s m args meth c) (hH : kw_H D s H ad h) (hl : kw_L ad ls lv) :
    va_Run p l e R s m args below meth c H locs cells slots R2.cells R2.slots (F0 m pc ls (st.map (kw_v ad))) (rest.map (kw_v ad)) (kw_Qc D (K2 ad) (kw_A ad h H.size) (As.map (kw_v ad)).toArray) (kw_A ad h H.size) := by
  obtain ⟨⟨c1, c2, c3, c4, c5⟩, c6, c7⟩ := hC
  have hts := E.2.2.2.2.1
  exact va_runS (Ts := kw_tbl) (bytes := cc2) (maxL := nL2) (ret := ret2) (n := n) (As := As.map (kw_v ad)) ⟨E.1, E.2.1, E.2.2.1, E.2.2.2.1, hts⟩ (hM D ad H.size) ⟨callB_of n hts (kw_goodIn c2) rfl rfl rfl (hts _ c1) (hts _ c6) ⟨c3, c4, c5⟩ ⟨hR.1, hR.2.1⟩, hts _ c7⟩ ⟨kw_blind, fun U hU hW => ⟨rfl, by rw [hU], by rw [hU]; exact hH.moved hW.alike, E.2.2.2.2.2.2.2.2.warm hW⟩⟩ rfl (by rw [List.length_map]; exact hn) hl.1 (by rw [hst]; simp [List.map_reverse]) (lv_room (by rw [kw_catsum]; exact hrest)) hd ⟨hR.2.2.1, hR.2.2.2⟩
theorem kw_runI {idx n nL2 : Nat} {y : MethodName} {cc2 : ByteArray} {R2 : Room} {As rest : List PV} {key : KK} {K2 : (KK → Nat) → Option PV → (KK → Nat) → PH → Prop} (hM : kw_M l y cc2 nL2 none R2 (pr_ key :: As) h K2) (hd : decode cc pc = .ok (.invokespecial idx, 3)) (hC : kw_CI own idx y cc2 nL2 n)
    (hn : As.length = n) (hst : st = As.reverse ++ pr_ key :: rest) (hrest : (rest.map kw_cat).sum ≤ 8) (hR : kw_Rm R R2 nL2 cells slots)
    {p : Program} {e : Env} {s : State} {m : MethodId} {args : Array Value} {below : List Frame} {meth : Method} {c : Code} {H : Heap} {locs : List Loc} {ls : Array Slot} (E : kw_Env cc lv.length own ret nm p s m args meth c) (hH : kw_H D s H ad h) (hl : kw_L ad ls lv) :
    va_Run p l e R s m args below meth c H locs cells slots R2.cells R2.slots (F0 m pc ls (st.map (kw_v ad))) (rest.map (kw_v ad)) (kw_Qc D (K2 ad) (kw_A ad h H.size) (Value.ref (ad key) :: As.map (kw_v ad)).toArray) (kw_A ad h H.size) := by
  obtain ⟨⟨c1, c2, c3, c4, c5⟩, c6, c7, c8⟩ := hC
  have hts := E.2.2.2.2.1
  exact va_runI (Ts := kw_tbl) (bytes := cc2) (maxL := nL2) (n := n) (As := As.map (kw_v ad)) (b := ad key) ⟨E.1, E.2.1, E.2.2.1, E.2.2.2.1, hts⟩ (hM D ad H.size) ⟨callB_of n hts (kw_goodIn c2) rfl rfl rfl (hts _ c1) (hts _ c6) ⟨c3, c4, c5⟩ ⟨hR.1, hR.2.1⟩, c8, hts _ c7⟩ ⟨kw_blind, fun U hU hW => ⟨rfl, by rw [hU], by rw [hU]; exact hH.moved hW.alike, E.2.2.2.2.2.2.2.2.warm hW⟩⟩ rfl (by rw [List.length_map]; exact hn) hl.1 (by rw [hst]; simp [List.map_reverse]; rfl) (lv_room (by rw [kw_catsum]; exact hrest)) hd ⟨hR.2.2.1, hR.2.2.2⟩
theorem kw_runIN {idx n nL2 : Nat} {y : MethodName} {cc2 : ByteArray} {R2 : Room} {As rest : List PV} {key : KK} {host : String} {K2 : (KK → Nat) → Option PV → (KK → Nat) → PH → Prop} (hM : kw_M l y cc2 nL2 none R2 (pr_ key :: As) h K2) (hd : decode cc pc = .ok (.invokespecial idx, 3)) (hC : kw_CIN own idx y cc2 nL2 n host)
    (hn : As.length = n) (hst : st = As.reverse ++ pr_ key :: rest) (hrest : (rest.map kw_cat).sum ≤ 8) (hR : kw_Rm R R2 nL2 cells slots)
    {p : Program} {e : Env} {s : State} {m : MethodId} {args : Array Value} {below : List Frame} {meth : Method} {c : Code} {H : Heap} {locs : List Loc} {ls : Array Slot} (E : kw_Env cc lv.length own ret nm p s m args meth c) (hH : kw_H D s H ad h) (hl : kw_L ad ls lv) :
    va_Run p l e R s m args below meth c H locs cells slots R2.cells R2.slots (F0 m pc ls (st.map (kw_v ad))) (rest.map (kw_v ad)) (kw_Qc D (K2 ad) (kw_A ad h H.size) (Value.ref (ad key) :: As.map (kw_v ad)).toArray) (kw_A ad h H.size) := by
  obtain ⟨⟨c1, c2, c3, c4, c5⟩, c6, c7, c8⟩ := hC
  have hts := E.2.2.2.2.1
  exact va_runIN (Ts := kw_tbl) (bytes := cc2) (maxL := nL2) (n := n) (As := As.map (kw_v ad)) (b := ad key) ⟨E.1, E.2.1, E.2.2.1, E.2.2.2.1, hts⟩ (hM D ad H.size) ⟨va_cnB n hts (kw_goodIn c2) rfl rfl rfl (E.2.2.2.2.2.2.2.2.1 _ c6) (hts _ c1) ⟨c3, c4, c5⟩ ⟨hR.1, hR.2.1⟩, c8, hts _ c7⟩ ⟨kw_blind, fun U hU hW => ⟨rfl, by rw [hU], by rw [hU]; exact hH.moved hW.alike, E.2.2.2.2.2.2.2.2.warm hW⟩⟩ rfl (by rw [List.length_map]; exact hn) hl.1 (by rw [hst]; simp [List.map_reverse]; rfl) (lv_room (by rw [kw_catsum]; exact hrest)) hd ⟨hR.2.2.1, hR.2.2.2⟩
end KwCalls
