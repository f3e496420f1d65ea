/-! COPIES OF ROWS OF NUMBERS -/
section KwCopy
variable {l : Launch} {D : va_G} {cc : ByteArray} {own : String} {ret : Option FieldType} {nm : String} {R : Room} {A : Nat → Prop} {K : Option PV → (KK → Nat) → PH → Prop} {ad : KK → Nat} {h : PH} {cells slots pc : Nat} {lv : List (Option PV)} {st : List PV}
theorem kw_clone {idx n : Nat} (key : KK) {q0 : KK} {f : Nat → Int32} (hd : decode cc pc = .ok (.invokevirtual idx, 3)) (w1 : Cond.methodLink own idx ⟨"[I", "clone", "()Ljava/lang/Object;"⟩ ∈ kw_tbl) (w2 : Cond.sameMethod "[I" "java/lang/Object" "clone" "()Ljava/lang/Object;" ∈ kw_tbl) (w3 : Cond.native ⟨"java/lang/Object", "clone", "()Ljava/lang/Object;"⟩ ∈ kw_tbl) (w4 : Cond.instanceMethod ⟨"java/lang/Object", "clone", "()Ljava/lang/Object;"⟩ ∈ kw_tbl) (w5 : Cond.selects "[I" ⟨"[I", "clone", "()Ljava/lang/Object;"⟩ ⟨"java/lang/Object", "clone", "()Ljava/lang/Object;"⟩ ∈ kw_tbl)
    (hq : h q0 = some (.inl (.int, n, .inl f))) (hk : h key = none) (hnm : ∀ k' c', h k' = some c' → kw_nmc key c') (hlv : kw_all (kw_nmo key) lv) (hst : kw_all (kw_nmv key) st) (hframes : 1 ≤ R.frames) (hlo : (st.map kw_cat).sum + 14 ≤ R.locals) (hcells : cells + 1 ≤ R.cells) (hslots : slots + n ≤ R.slots)
    (k : ∀ a : Nat, kw_G l D cc own ret nm R A K (kw_ad ad key a) (kw_up h key (.inl (.int, n, .inl f))) (cells + 1) (slots + n) (pc + 3) lv (pr_ key :: st)) : kw_G l D cc own ret nm R A K ad h cells slots pc lv (pr_ q0 :: st) := by
  intro p e s m args below meth c H locs ls E hH hA hS hB hl
  have hts := E.2.2.2.2.1
  obtain ⟨cA, h1, h2, h3⟩ := hH.2.1 q0 _ hq
  have h1 : H[ad q0]? = some (arrV cA n (fun j => .int (f j))) := h1
  have hfc : s.vm.findClass "[I" = some cA := h3
  obtain ⟨c0, t0', f1, f2, f3⟩ := Cond.castable_spec (va_Nw.use (A := args) rfl E.2.2.2.2.2.2.2.2.2.2)
  cases hfc.symm.trans f1
  have hw : ∀ T : State, T.heap = H → Stand p l e R s m args below meth c T locs cells slots → ∃ t, Steps p.tables e below (T.setTop (F0 m pc ls (.ref (ad q0) :: st.map (kw_v ad)))) t ∧ MQ below (kw_Qc D K A) args s R.cells R.slots A t := by
    intro T hT X
    have hcellT : T.heap[ad q0]? = some (arrV cA n (fun j => .int (f j))) := by rw [hT]; exact h1
    obtain ⟨-, kA, hkA, comp, hkind⟩ := State.isArrayOf_alike X.warmed.alike (h2 0 (fun _ => .null))
    obtain ⟨-, kS, hkS, compS, hkindS⟩ := h2 0 (fun _ => .null)
    obtain ⟨vm', X', stp⟩ := X.cloneArray E.1 E.2.2.2.1 (hts _ w1) (hts _ w2) (hts _ w3) (hts _ w4) (hts _ w5) (a := ad q0) (cell := arrV cA n (fun j => .int (f j))) hcellT (fun k h => by cases h) (fun h => by cases h) hfc f2 f3
      (fun i v hv => by
        have hk' : T.vm.classes[cA]? = some kA := hkA
        have hfit : fits .int v = true := by
          by_cases hi : i < n
          · rw [arrV_read _ _ hi] at hv; cases hv; rfl
          · have := (Array.getElem?_eq_some_iff.mp hv).1
            rw [arrV_size] at this
            exact absurd this hi
        show T.fitsSlot cA _ i v = true
        simpa [State.fitsSlot, State.slotType?, hk', hkind] using hfit)
      (g := F0 m pc ls (.ref (ad q0) :: st.map (kw_v ad))) rfl (by rw [E.2.2.1]; exact hl.1) rfl (by rw [E.2.1]; exact hd) hframes (by rw [kw_catsum]; show 2 * 0 + _ + 14 ≤ _; omega) hcells (by rw [arrV_size]; exact hslots) (hloader := Vm.clonesLoader_of_array hkS hkindS)
    rw [arrV_size] at X'
    have hcE : ({ cls := (arrV cA n (fun j => .int (f j))).cls, slots := (arrV cA n (fun j => .int (f j))).slots } : Cell) = arrV cA n (fun j => .int (f j)) := rfl
    rw [hcE] at X'
    generalize hH1 : H.push (arrV cA n (fun j => .int (f j))) = H1
    have z1 : H1.size = H.size + 1 := by rw [← hH1, Array.size_push]
    have e1 : H1[H.size]? = some (arrV cA n (fun j => .int (f j))) := by rw [← hH1, Array.getElem?_push_size]
    have o1 : ∀ q : Nat, q < H.size → H1[q]? = H[q]? := fun q hq => by rw [← hH1, Array.getElem?_push, if_neg (Nat.ne_of_lt hq)]
    have hw := k H.size p e s m args below meth c H1 locs ls E (hH.new hk hnm o1 ⟨cA, by rw [kw_ad_s]; exact e1, h2, h3⟩) (kw_hAn (hB _ hS.1) hA) ⟨Nat.le_trans hS.1 (by omega), fun y h1 h2 => (o1 y (Nat.lt_of_lt_of_le h1 hS.1)).trans (hS.2.1 y h1 h2), hS.2.2⟩ hB (hl.adn hlv)
    simp only [List.map_cons, kw_map_ad hst] at hw
    have e3 : kw_v (kw_ad ad key H.size) (pr_ key) = .ref H.size := congrArg Value.ref (kw_ad_s ad key H.size)
    rw [e3] at hw
    obtain ⟨t, b1, b2⟩ := hw ((T.setVm vm').pushCell (arrV cA n (fun j => .int (f j)))) (by rw [← hH1, ← hT]; rfl) X'
    refine ⟨t, stp t ?_, b2⟩
    rw [hT]
    exact b1
  exact hw
theorem kw_castI {idx n : Nat} {q0 : KK} {f : Nat → Int32} (hd : decode cc pc = .ok (.checkcast idx, 3)) (w1 : Cond.classLink own idx "[I" ∈ kw_tbl) (hq : h q0 = some (.inl (.int, n, .inl f)))
    (k : kw_G l D cc own ret nm R A K ad h cells slots (pc + 3) lv (pr_ q0 :: st)) : kw_G l D cc own ret nm R A K ad h cells slots pc lv (pr_ q0 :: st) := by
  intro p e s m args below meth c H locs ls E hH hA hS hB hl
  obtain ⟨cA, h1, h2, h3⟩ := hH.2.1 q0 _ hq
  refine va_castA (D := D) (cl := vwCl) (ws := [(ad q0, .inl (cA, n, .inl f))]) E.1 E.2.1 E.2.2.2.1 (E.2.2.2.2.1 _ w1) (fun i q hq => ?_) 0 rfl h3 hd (k p e s m args below meth c H locs ls E hH hA hS hB hl)
  have hz : i = 0 := by have := (List.getElem?_eq_some_iff.mp hq).1; simp at this; exact this
  subst hz
  cases hq
  exact h1
/-- System.arraycopy from the first place on -/
theorem kw_copyi {idx n0 n1 n : Nat} {q0 q1 : KK} {f g : Nat → Int32} (hd : decode cc pc = .ok (.invokestatic idx, 3)) (w1 : Cond.methodLink own idx arraycopyName ∈ kw_tbl) (w2 : Cond.native arraycopyName ∈ kw_tbl) (w3 : Cond.static arraycopyName ∈ kw_tbl) (w4 : Cond.initialized "java/lang/System" ∈ kw_tbl)
    (h0 : h q0 = some (.inl (.int, n0, .inl f))) (h1 : h q1 = some (.inl (.int, n1, .inl g))) (hn0 : n ≤ n0) (hn1 : n ≤ n1) (hn : n < 2 ^ 31) (hframes : 1 ≤ R.frames) (hlo : (st.map kw_cat).sum + 18 ≤ R.locals)
    (k : kw_G l D cc own ret nm R A K ad (kw_up h q1 (.inl (.int, n1, .inl (va_cpy f g 0 0 n)))) cells slots (pc + 3) lv st) : kw_G l D cc own ret nm R A K ad h cells slots pc lv (pi_ (nI n) :: pi_ 0 :: pr_ q1 :: pi_ 0 :: pr_ q0 :: st) := by
  intro p e s m args below meth c H locs ls E hH hA hS hB hl
  have hts := E.2.2.2.2.1
  obtain ⟨c0, a1, a2, a3⟩ := hH.2.1 q0 _ h0
  obtain ⟨c1, b1, b2, b3⟩ := hH.2.1 q1 _ h1
  have hc0 : H[ad q0]? = some (arrV c0 n0 (fun j => .int (f j))) := a1
  have hc1 : H[ad q1]? = some (arrV c1 n1 (fun j => .int (g j))) := b1
  have hcl : (nI n).toNatClampNeg = n := nI_clamp hn
  have hti : (nI n).toInt = (n : Int) := nI_toInt hn
  have hw : ∀ T : State, T.heap = H → Stand p l e R s m args below meth c T locs cells slots → ∃ t, Steps p.tables e below (T.setTop (F0 m pc ls (.int (nI n) :: .int 0 :: .ref (ad q1) :: .int 0 :: .ref (ad q0) :: st.map (kw_v ad)))) t ∧ MQ below (kw_Qc D K A) args s R.cells R.slots A t := by
    intro T hT X
    obtain ⟨-, k0, hk0, cm0, hkk0⟩ := a2 n0 (fun j => .int (f j))
    obtain ⟨-, k1, hk1, cm1, hkk1⟩ := b2 n1 (fun j => .int (g j))
    obtain ⟨vm', X', step⟩ := X.arraycopy E.1 E.2.2.2.1 (hts _ w1) (hts _ w2) (hts _ w3) (hts _ w4) (src := ad q0) (dst := ad q1) (cs := arrV c0 n0 (fun j => .int (f j))) (cd := arrV c1 n1 (fun j => .int (g j))) (srcPos := 0) (destPos := 0) (n := nI n) (by rw [hT]; exact hc0) (by rw [hT]; exact hc1)
      (fun _ h => by cases h) (fun _ h => by cases h) (fun h => by cases h) (fun h => by cases h) hk0 hk1 hkk0 hkk1 (by simp [refKind]) (by decide) (by decide) (nI_pos hn)
      (by rw [hti, arrV_size]; simp; omega)
      (by rw [hti, arrV_size]; simp; omega)
      (fun vm₁ _ i hi => by
        rw [hcl] at hi
        have e : (arrV c0 n0 (fun j => .int (f j))).slots.getD ((0 : Int32).toNatClampNeg + i) .null = .int (f i) := by
          have e0 : (0 : Int32).toNatClampNeg + i = i := by simp
          rw [e0, Array.getD_eq_getD_getElem?, arrV_read _ _ (by omega)]
          rfl
        refine ⟨?_, ?_⟩
        · rw [e]
          exact rfl
        · rw [e]
          exact trivial)
      (g := F0 m pc ls (.int (nI n) :: .int 0 :: .ref (ad q1) :: .int 0 :: .ref (ad q0) :: st.map (kw_v ad))) rfl (by rw [E.2.2.1]; exact hl.1) (rest := st.map (kw_v ad)) rfl (by rw [E.2.1]; exact hd) hframes (by rw [kw_catsum]; show 2 * 0 + _ + 18 ≤ _; omega)
    have ec : copied (arrV c0 n0 (fun j => .int (f j))) (arrV c1 n1 (fun j => .int (g j))) 0 0 (nI n) = arrV c1 n1 (fun j => .int (va_cpy f g 0 0 n j)) := by
      have := va_copied (fun z => Value.int z) c0 c1 (n0 := n0) (n1 := n1) (sp := 0) (dp := 0) (n := n) f g (by omega)
      rw [← this]
      unfold copied
      rw [hcl]
      rfl
    rw [ec] at X' step
    have hlq : ad q1 < H.size := (Array.getElem?_eq_some_iff.mp hc1).1
    have hheap : ((T.setVm vm').setCell (ad q1) (arrV c1 n1 (fun j => .int (va_cpy f g 0 0 n j)))).heap = H.setIfInBounds (ad q1) (arrV c1 n1 (fun j => .int (va_cpy f g 0 0 n j))) := by rw [← hT]; rfl
    have oq : ∀ q : Nat, q ≠ ad q1 → (H.setIfInBounds (ad q1) (arrV c1 n1 (fun j => .int (va_cpy f g 0 0 n j))))[q]? = H[q]? := fun q hq => by simp [Array.getElem?_setIfInBounds, Ne.symm hq]
    have hq1 := hA _ (kw_al h1)
    obtain ⟨t, x1, x2⟩ := k p e s m args below meth c _ _ ls E (hH.set h1 ⟨c1, show (H.setIfInBounds (ad q1) _)[ad q1]? = some _ by simp [Array.getElem?_setIfInBounds, hlq]; rfl, b2, b3⟩ oq) (kw_hA h1 hA) ⟨by simp; exact hS.1, fun q g1 g2 => by
        rw [oq q (fun e => g2 (by rw [e]; exact hq1))]
        exact hS.2.1 q g1 g2, fun q hq => by
        rcases List.mem_append.mp hq with h | h
        · exact hS.2.2 q h
        · obtain ⟨z, -, hz⟩ := List.mem_map.mp h
          rw [← hz]
          exact hq1⟩ hB hl _ hheap X'
    exact ⟨t, step t x1, x2⟩
  exact hw
end KwCopy
