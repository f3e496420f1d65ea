/-! THE CLAIM OUT OF ONE WALK OF THE LAW'S BODY. Your part is whole_start (and what it stands on); all else here is the same for every law, but numbers. -/
def R_law : String := "SafeSweepsLaw"
def lw_P (b : Addr) (xs : List Int32) (args : Array Value) (s : State) : Prop := args = #[.ref b] ∧ s.IntsAt b xs ∧ xs.length ≤ 2561 ∧ (Jvm.Cond.and given_1 narrow_1).before args s = true
def lw_Q (_ : Array Value) (s : State) (o : Outcome) (t : State) : Prop := o = .returned (some (.int 1)) ∧ Framed s o t [] 600000 7302250
def lw_Z (below : List Frame) (a : Array Value) (s : State) : State → Prop := fun t => ∃ o, t.status = .running ∧ Ended t below o ∧ lw_Q a s o t
/-- the law's own end, with 1 on the stack, nothing written that was there before, its room as the claim has it -/
theorem lw_ret {p : Program} {l : Launch} {e : Env} {s : State} {m : MethodId} {below : List Frame} {meth : Method} {c : Code} {b : Nat} (hx : p.tables.exec = Jvm.exec) (hb : c.code = code) (hr : meth.sig.returnType = ret) (hlocks : meth.locks = false) {pc : Nat} {H : Heap} {ls : Array Slot} (hdg : decode code pc = .ok (.ireturn, 1)) : W p l e room_1 s m #[Value.ref b] below meth c H [] 600000 7302250 (lw_Z below #[Value.ref b] s) (F0 m pc ls [.int 1]) := by
  intro T hT X
  obtain ⟨fs, hret, hrun, hended, hW, hframe⟩ := X.leave (v := some (.int 1)) (hlocks := hlocks) (fun h => by rw [hr] at h; cases h)
  have hmeth' : T.vm.method? m = some meth := X.method'
  refine ⟨T.setFrames fs, ?_, .returned (some (.int 1)), hrun, hended, rfl, ⟨_, rfl⟩, hW, hframe⟩
  jvm_step X.here [X.here.top, hx, hb, hdg, hmeth', hr, ret, narrow_b1]
  (try refine ⟨rfl, ?_⟩); (try refine ⟨rfl, ?_⟩)
  first | (intro acts; rw [hret _ acts rfl rfl rfl]) | rw [hret _ _ rfl rfl rfl]
  exact Steps.refl _
/-- what holds at the law's entry: the machine, the code, the tables' words (any of lw_tbl by 'hts w (by decide +kernel)'), the script of L ints xs at the cell b, what the Statement gives of the start (any of its parts by flat_of_before) -/
def lw_At (p : Program) (s : State) (m : MethodId) (meth : Method) (c : Code) (b L : Nat) (xs : Nat → Int32) : Prop :=
  p.tables.exec = Jvm.exec ∧ c.code = code ∧ meth.sig.returnType = ret ∧ c.maxLocals = 4 ∧ s.vm.findClass R_law = some m.cls ∧ (∀ w ∈ lw_tbl, w.before #[Value.ref b] s = true) ∧ va_X b L xs s s.heap ∧ b < s.heap.size ∧ meth.locks = false ∧ (Jvm.Cond.and given_1 narrow_1).before #[Value.ref b] s = true
theorem lw_ret2 {p : Program} {l : Launch} {e : Env} {s : State} {m : MethodId} {args : Array Value} {below : List Frame} {meth : Method} {c : Code} (hx : p.tables.exec = Jvm.exec) (hb : c.code = code) (hr : meth.sig.returnType = ret) (hlocks : meth.locks = false) {pc : Nat} {H : Heap} {ls : Array Slot} (hdg : decode code pc = .ok (.ireturn, 1)) : W p l e room_1 s m args below meth c H [] 600000 7302250 (lw_Z below args s) (F0 m pc ls [.int 1]) := by
  intro T hT X
  obtain ⟨fs, hret, hrun, hended, hW, hframe⟩ := X.leave (v := some (.int 1)) (hlocks := hlocks) (fun h => by rw [hr] at h; cases h)
  have hmeth' : T.vm.method? m = some meth := X.method'
  refine ⟨T.setFrames fs, ?_, .returned (some (.int 1)), hrun, hended, rfl, ⟨_, rfl⟩, hW, hframe⟩
  jvm_step X.here [X.here.top, hx, hb, hdg, hmeth', hr, ret, narrow_b1]
  (try refine ⟨rfl, ?_⟩); (try refine ⟨rfl, ?_⟩)
  first | (intro acts; rw [hret _ acts rfl rfl rfl]) | rw [hret _ _ rfl rfl rfl]
  exact Steps.refl _
abbrev lG (l : Launch) (D : va_G) (nm : String) (A : Nat → Prop) (Xp : State → Prop) (ad : KK → Nat) (h : PH) (cells slots pc : Nat) (lv : List (Option PV)) (st : List PV) : Prop := kx_G l D cL_law RL ret nm room_1 A (fun s args below => lw_Z below args s) Xp ad h cells slots pc lv st
abbrev lvS (n : Nat) : List (Option PV) := [some (pr_ (50, 0)), some (pr_ (0, 0)), some (pr_ (40, 0)), some (pi_ (nI (1 + 5 * n)))]
/-- two words of the script as one long -/
def lW (a b : Int32) : Int64 := a.toInt64 <<< ((32 : Int32).toInt64 &&& 63) ||| (b.toInt64 &&& 4294967295)
def LR (n : Nat) (s : SG) (k κ : KG) : Prop := JI n s k ∧ MI s κ ∧ mR s κ k
theorem mR.k {S : SG} {κ K0 k : KG} (h : mR S κ K0) (e1 : nx_ k = nx_ K0) (e2 : pe_ k = pe_ K0) : mR S κ k := by
  unfold mR
  rw [e1, e2]
  exact h
theorem un_nm {S s : SG} {k κ : KG} (hns : ns_ S ≤ 40) (hnb : nb_ S ≤ 80) (hnp : np_ S ≤ 40) : ∀ q c, kw_un (hC S k) (hM s κ) q = some c → kw_nmc (50, 0) c := by
  intro q c h
  unfold kw_un at h
  cases e : hC S k q with
  | none => rw [e] at h; exact hM_nm (key := (50, 0)) rfl q c h
  | some d => rw [e] at h; exact hC_nm (key := (50, 0)) rfl hns hnb hnp q c (by rw [e]; exact h)
theorem alS {S s : SG} {k κ : KG} (n : Nat) : kw_all (kw_alo (kx_h (kw_un (hC S k) (hM s κ)))) (lvS n) := by
  refine ⟨?_, ?_, ?_, trivial, trivial⟩
  · show kx_h _ (50, 0) ≠ none
    rw [kx_h, kw_up_s]; exact Option.some_ne_none _
  · show kx_h _ (0, 0) ≠ none
    rw [kx_h, kw_up_n _ _ (by decide)]; exact nm_some (c := c_root S) rfl
  · show kx_h _ (40, 0) ≠ none
    rw [kx_h, kw_up_n _ _ (by decide)]; exact nm_some (c := c_mod s κ) rfl
theorem alV {h : PH} {v : PV} (hv : pvI v) : kw_all (kw_alv h) [v] := by
  rcases hv with ⟨x, rfl⟩ | ⟨x, rfl⟩ <;> exact ⟨trivial, trivial⟩
theorem catV {v : PV} (hv : pvI v) : ([v].map kw_cat).sum ≤ 8 := by
  rcases hv with ⟨x, rfl⟩ | ⟨x, rfl⟩ <;> exact Nat.le_of_ble_eq_true rfl
theorem lg_cmp_rf (x : Int64) : lg_cmp x x = 0 := by
  unfold lg_cmp
  simp
section Law
variable {l : Launch} {D : va_G} {nm : String} {A : Nat → Prop} {Xp : State → Prop} {ad : KK → Nat} {cells slots pc : Nat}
theorem kx_end {lv : List (Option PV)} {h : PH} (hd : decode cL_law pc = .ok (.ireturn, 1)) (h1 : cells ≤ 600000) (h2 : slots ≤ 7302250) (hXA : ∀ s, Xp s → ∀ q, A q → s.heap.size ≤ q) : lG l D nm A Xp ad h cells slots pc lv [pi_ 1] := by
  intro p e s m args below meth c H locs ls E hH hA hS hB hl hx
  refine va_forget (fun q hq => hXA s hx _ (hS.2.2 q hq)) ?_
  refine W.widen h1 h2 ?_
  exact lw_ret2 E.1 E.2.1 E.2.2.2.2.2.1 E.2.2.2.2.2.2.1 hd
theorem kx_cC {b idx cnt nL2 n : Nat} {y : MethodName} {cc2 : ByteArray} {ret2 : Option FieldType} {R2 : Room} {As st : List PV} {S s : SG} {v : PV} {K0 k κ : KG} (hq : kw_Q l y cc2 nL2 ret2 R2 (pr_ (0, 0) :: As) (kw_un (hC s k) (hM s κ)) (cP n K0 v S s κ)) (hv : pvI v) (hd : decode cL_law pc = .ok (.invokevirtual idx, 3)) (hc : kw_CV RL idx y cc2 nL2 ret2 cnt) (hy : vwCl[10]? = some (y.cls, TX11, 10)) (hn : As.length = cnt) (hst : st = As.reverse ++ [pr_ (0, 0)]) (hR : kw_Rm room_1 R2 nL2 cells slots) (hb : ad (50, 0) = b)
    (kk : ∀ (ad' : KK → Nat) (k' : KG), ad' (50, 0) = b → JI (n + 1) S k' → nx_ k' = nx_ K0 → pe_ k' = pe_ K0 → lG l D nm A Xp ad' (kw_un (hC S k') (hM s κ)) (cells + R2.cells) (slots + R2.slots) (pc + 3) (lvS n) [v]) : lG l D nm A Xp ad (kw_un (hC s k) (hM s κ)) cells slots pc (lvS n) st := by
  refine kx_callVq (b := b) (key := (0, 0)) (rest := []) hq hd hc (ci := 10) (N := 10) (T := TX11) rfl hy hn hst (Nat.zero_le _) hR hb rfl ?_ (alS n) trivial ?_
  · rintro r h' ⟨rfl, k', rfl, hJ, _⟩
    exact ⟨rfl, un_nm hJ.A.1.2.2.1.1 hJ.A.1.1.1 hJ.A.1.1.2.1, hv.nm _⟩
  · rintro r ad' h' e ⟨rfl, k', rfl, hJ, e1, e2⟩
    exact kk ad' k' e hJ e1 e2
theorem kx_cM {b idx cnt nL2 n : Nat} {y : MethodName} {cc2 : ByteArray} {ret2 : Option FieldType} {R2 : Room} {As st : List PV} {S s t : SG} {v u : PV} {K0 k κ : KG} (hT : JI (n + 1) t k) (hq : kw_Q l y cc2 nL2 ret2 R2 (pr_ (40, 0) :: As) (kw_un (hC t k) (hM s κ)) (mP K0 v S t k)) (hv : pvI v) (hu : pvI u) (hd : decode cL_law pc = .ok (.invokevirtual idx, 3)) (hc : kw_CV RL idx y cc2 nL2 ret2 cnt) (hy : vwCl[11]? = some (y.cls, TX12, 54)) (hn : As.length = cnt) (hst : st = As.reverse ++ pr_ (40, 0) :: [u]) (hR : kw_Rm room_1 R2 nL2 cells slots) (hb : ad (50, 0) = b)
    (kk : ∀ (ad' : KK → Nat) (κ' : KG), ad' (50, 0) = b → MI S κ' → mR S κ' K0 → lG l D nm A Xp ad' (kw_un (hC t k) (hM S κ')) (cells + R2.cells) (slots + R2.slots) (pc + 3) (lvS n) [v, u]) : lG l D nm A Xp ad (kw_un (hC t k) (hM s κ)) cells slots pc (lvS n) st := by
  refine kx_callVq (b := b) (key := (40, 0)) (rest := [u]) hq hd hc (ci := 11) (N := 54) (T := TX12) rfl hy hn hst (catV hu) hR hb rfl ?_ (alS n) (alV hu) ?_
  · rintro r h' ⟨rfl, k', rfl, _⟩
    exact ⟨rfl, un_nm hT.A.1.2.2.1.1 hT.A.1.1.1 hT.A.1.1.2.1, hv.nm _⟩
  · rintro r ad' h' e ⟨rfl, κ', rfl, e1, e2⟩
    exact kk ad' κ' e e1 e2
/-- the script's first word -/
theorem kx_cell {b L : Nat} {xs : Nat → Int32} {lv : List (Option PV)} {rest : List PV} {h : PH} (hX : ∀ s, Xp s → va_X b L xs s s.heap ∧ b < s.heap.size ∧ ¬ A b) (hL : L < 2 ^ 31) (hb : ad (50, 0) = b) (hd : decode cL_law pc = .ok (.invokestatic 9, 3)) (hrest : (rest.map kw_cat).sum ≤ 8) (h1 : cells ≤ 600000) (h2 : slots ≤ 7302250) (h5 : h (50, 0) = none) (hnm : ∀ k c, h k = some c → kw_nmc (50, 0) c) (hv : kw_all (kw_alo (kx_h h)) lv) (hv2 : kw_all (kw_alv (kx_h h)) rest)
    (kk : ∀ ad' : KK → Nat, ad' (50, 0) = b → lG l D nm A Xp ad' h cells slots (pc + 3) lv (pi_ (scr0 L xs) :: rest)) : lG l D nm A Xp ad h cells slots pc lv (pi_ 0 :: pr_ (50, 0) :: rest) := by
  intro p e s m args below meth c H locs ls E hH hA hS hB hl hx
  obtain ⟨x1, x2, x3⟩ := hX s hx
  obtain ⟨⟨c1, c2, c3, c4, c5⟩, c6, c7⟩ := cl_L_9
  have hts := E.2.2.2.2.1
  have e1 : kw_v ad (pr_ (50, 0)) = .ref b := congrArg Value.ref hb
  have hrun := va_runS (p := p) (l := l) (e := e) (R := room_1) (s := s) (m := m) (args := args) (below := below) (meth := meth) (c := c) (H := H) (locs := locs) (cells := cells) (slots := slots) (rest := rest.map (kw_v ad)) (g := F0 m pc ls ((pi_ 0 :: pr_ (50, 0) :: rest).map (kw_v ad))) (Ts := kw_tbl) (bytes := cL_cell) (maxL := 2) (ret := some .int) (n := 2) (As := [.ref b, .int 0]) ⟨E.1, E.2.1, E.2.2.1, E.2.2.2.1, hts⟩ (x_cell l D ad h H.size b L xs hL hb) ⟨callB_of 2 hts (kw_goodIn c2) rfl rfl rfl (hts _ c1) (hts _ c6) ⟨c3, c4, c5⟩ ⟨Nat.le_of_ble_eq_true rfl, Nat.le_of_ble_eq_true rfl⟩, hts _ c7⟩ ⟨fun a U g mk q => ⟨q.1, q.2.1, ⟨kw_H.moved (u := U) (U := U.calling g mk a) (Vm.Alike.refl _) q.2.2.1.1, va_X.moved (Vm.Alike.refl _) q.2.2.1.2.1, q.2.2.1.2.2⟩, q.2.2.2.warm (State.WarmedH.refl U)⟩, fun U hU hW => ⟨rfl, by rw [hU], ⟨by rw [hU]; exact hH.moved hW.alike, by rw [hU]; exact (x1.kept (hS.2.1 b x2 x3)).moved hW.alike, by rw [hU]; exact Nat.lt_of_lt_of_le x2 hS.1, fun q => by
    rcases q with ⟨k, hk, q⟩ | q
    · exact x3 (by rw [q]; exact hA k hk)
    · exact absurd (Nat.lt_of_lt_of_le x2 hS.1) (Nat.not_lt.mpr q)⟩, E.2.2.2.2.2.2.2.2.warm hW⟩⟩ rfl rfl hl.1 (by simp only [List.map_cons, e1]; rfl) (lv_room (by rw [kw_catsum]; exact hrest)) hd ⟨h1, h2⟩
  refine kx_after (Q := lw_Z below args s) (P := fun r h' => r = some (pi_ (scr0 L xs)) ∧ h' = h) (Z := fun s args below => lw_Z below args s) (Xp := Xp) (b := b) hrun hS (kw_Ain hA hS hB) E hB hl hx hb h5 ?_ hv hv2 ?_
  · rintro r h' ⟨rfl, rfl⟩
    exact ⟨h5, hnm, trivial, trivial⟩
  · rintro r ad' h' e ⟨rfl, rfl⟩
    exact kk ad' e
set_option maxHeartbeats 4000000 in
theorem lb_at {b L n : Nat} {xs : Nat → Int32} {s : SG} {k κ : KG} (hX : ∀ s, Xp s → va_X b L xs s s.heap ∧ b < s.heap.size ∧ ¬ A b) (hL : L < 2 ^ 31) (hi : 1 + 5 * n + 5 ≤ L) (hn : n ≤ 511) (hb : ad (50, 0) = b) (hR : LR n s k κ)
    (next : ∀ (ad' : KK → Nat) (S : SG) (k' κ' : KG), ad' (50, 0) = b → LR (n + 1) S k' κ' → lG l D nm A Xp ad' (kw_un (hC S k') (hM S κ')) (100 + 40 * (n + 1)) (20000 + 120 * (n + 1)) 1057 (lvS n) []) : lG l D nm A Xp ad (kw_un (hC s k) (hM s κ)) (100 + 40 * n) (20000 + 120 * n) 172 (lvS n) [] := by
  refine kx_aload_n dL_law_172 rfl ?_
  refine kx_aload_n dL_law_173 rfl ?_
  refine kx_iload_n dL_law_174 rfl ?_
  refine kx_iconst (v := nI 1) dL_law_175 rfl ?_
  refine kx_iadd dL_law_176 ?_
  refine kx_top (congrArg pi_ (nI_add (1 + 5 * n) 1)) ?_
  refine kx_iald hX hb (j := 1 + 5 * n + 1) dL_law_177 (by omega) hL ?_
  refine kx_i2l dL_law_178 ?_
  refine kx_bipush (v := 32) dL_law_179 rfl ?_
  refine kx_lshl dL_law_181 ?_
  refine kx_aload_n dL_law_182 rfl ?_
  refine kx_iload_n dL_law_183 rfl ?_
  refine kx_iconst (v := nI 2) dL_law_184 rfl ?_
  refine kx_iadd dL_law_185 ?_
  refine kx_top (congrArg pi_ (nI_add (1 + 5 * n) 2)) ?_
  refine kx_iald hX hb (j := 1 + 5 * n + 2) dL_law_186 (by omega) hL ?_
  refine kx_i2l dL_law_187 ?_
  refine kx_ldc2 dL_law_188 kt_1346 ?_
  refine kx_land dL_law_191 ?_
  refine kx_lor dL_law_192 ?_
  refine kx_top (v' := pl_ (lW (xs (1 + 5 * n + 1)) (xs (1 + 5 * n + 2)))) rfl ?_
  refine kx_cC (C_at l κ hR.1 hn (lW (xs (1 + 5 * n + 1)) (xs (1 + 5 * n + 2)))) (pvI.i _) dL_law_193 cl_L_23 rfl rfl rfl ⟨Nat.le_of_ble_eq_true rfl, Nat.le_of_ble_eq_true rfl, (by show (100 + 40 * n) + 0 ≤ 600000; omega), (by show (20000 + 120 * n) + 0 ≤ 7302250; omega)⟩ hb (fun ad1 k1 hb1 hJ1 e1 e2 => ?_)
  refine kx_aload_n dL_law_196 rfl ?_
  refine kx_aload_n dL_law_197 rfl ?_
  refine kx_iload_n dL_law_198 rfl ?_
  refine kx_iconst (v := nI 1) dL_law_199 rfl ?_
  refine kx_iadd dL_law_200 ?_
  refine kx_top (congrArg pi_ (nI_add (1 + 5 * n) 1)) ?_
  refine kx_iald hX hb1 (j := 1 + 5 * n + 1) dL_law_201 (by omega) hL ?_
  refine kx_i2l dL_law_202 ?_
  refine kx_bipush (v := 32) dL_law_203 rfl ?_
  refine kx_lshl dL_law_205 ?_
  refine kx_aload_n dL_law_206 rfl ?_
  refine kx_iload_n dL_law_207 rfl ?_
  refine kx_iconst (v := nI 2) dL_law_208 rfl ?_
  refine kx_iadd dL_law_209 ?_
  refine kx_top (congrArg pi_ (nI_add (1 + 5 * n) 2)) ?_
  refine kx_iald hX hb1 (j := 1 + 5 * n + 2) dL_law_210 (by omega) hL ?_
  refine kx_i2l dL_law_211 ?_
  refine kx_ldc2 dL_law_212 kt_1346 ?_
  refine kx_land dL_law_215 ?_
  refine kx_lor dL_law_216 ?_
  refine kx_top (v' := pl_ (lW (xs (1 + 5 * n + 1)) (xs (1 + 5 * n + 2)))) rfl ?_
  refine kx_cM hJ1 (D_at l hR hJ1 hn (lW (xs (1 + 5 * n + 1)) (xs (1 + 5 * n + 2)))) (pvI.i _) (pvI.i _) dL_law_217 cl_L_27 rfl rfl rfl ⟨Nat.le_of_ble_eq_true rfl, Nat.le_of_ble_eq_true rfl, (by show ((100 + 40 * n) + 0) + 0 ≤ 600000; omega), (by show ((20000 + 120 * n) + 0) + 0 ≤ 7302250; omega)⟩ hb1 (fun ad2 κ2 hb2 hM2 hR2 => ?_)
  refine kx_icmp_eq (tgt := 1057) dL_law_220 (by decide) (fun _ => ?_) (fun q => absurd rfl q)
  exact kx_wid (by show (((100 + 40 * n) + 0) + 0) ≤ 100 + 40 * (n + 1); omega) (by show (((20000 + 120 * n) + 0) + 0) ≤ 20000 + 120 * (n + 1); omega) (next ad2 _ k1 κ2 hb2 ⟨hJ1, hM2, hR2.k e1 e2⟩)
set_option maxHeartbeats 4000000 in
theorem lb_begin {b L n : Nat} {xs : Nat → Int32} {s : SG} {k κ : KG} (hX : ∀ s, Xp s → va_X b L xs s s.heap ∧ b < s.heap.size ∧ ¬ A b) (hL : L < 2 ^ 31) (hi : 1 + 5 * n + 5 ≤ L) (hn : n ≤ 511) (hb : ad (50, 0) = b) (hR : LR n s k κ)
    (next : ∀ (ad' : KK → Nat) (S : SG) (k' κ' : KG), ad' (50, 0) = b → LR (n + 1) S k' κ' → lG l D nm A Xp ad' (kw_un (hC S k') (hM S κ')) (100 + 40 * (n + 1)) (20000 + 120 * (n + 1)) 1057 (lvS n) []) : lG l D nm A Xp ad (kw_un (hC s k) (hM s κ)) (100 + 40 * n) (20000 + 120 * n) 225 (lvS n) [] := by
  refine kx_aload_n dL_law_225 rfl ?_
  refine kx_aload_n dL_law_226 rfl ?_
  refine kx_iload_n dL_law_227 rfl ?_
  refine kx_iconst (v := nI 1) dL_law_228 rfl ?_
  refine kx_iadd dL_law_229 ?_
  refine kx_top (congrArg pi_ (nI_add (1 + 5 * n) 1)) ?_
  refine kx_iald hX hb (j := 1 + 5 * n + 1) dL_law_230 (by omega) hL ?_
  refine kx_cC (C_begin l κ hR.1 hn (xs (1 + 5 * n + 1))) (pvI.i _) dL_law_231 cl_L_28 rfl rfl rfl ⟨Nat.le_of_ble_eq_true rfl, Nat.le_of_ble_eq_true rfl, (by show (100 + 40 * n) + 0 ≤ 600000; omega), (by show (20000 + 120 * n) + 0 ≤ 7302250; omega)⟩ hb (fun ad1 k1 hb1 hJ1 e1 e2 => ?_)
  refine kx_aload_n dL_law_234 rfl ?_
  refine kx_aload_n dL_law_235 rfl ?_
  refine kx_iload_n dL_law_236 rfl ?_
  refine kx_iconst (v := nI 1) dL_law_237 rfl ?_
  refine kx_iadd dL_law_238 ?_
  refine kx_top (congrArg pi_ (nI_add (1 + 5 * n) 1)) ?_
  refine kx_iald hX hb1 (j := 1 + 5 * n + 1) dL_law_239 (by omega) hL ?_
  refine kx_cM hJ1 (D_begin l hR hJ1 hn (xs (1 + 5 * n + 1))) (pvI.i _) (pvI.i _) dL_law_240 cl_L_32 rfl rfl rfl ⟨Nat.le_of_ble_eq_true rfl, Nat.le_of_ble_eq_true rfl, (by show ((100 + 40 * n) + 0) + 0 ≤ 600000; omega), (by show ((20000 + 120 * n) + 0) + 0 ≤ 7302250; omega)⟩ hb1 (fun ad2 κ2 hb2 hM2 hR2 => ?_)
  refine kx_icmp_eq (tgt := 1057) dL_law_243 (by decide) (fun _ => ?_) (fun q => absurd rfl q)
  exact kx_wid (by show (((100 + 40 * n) + 0) + 0) ≤ 100 + 40 * (n + 1); omega) (by show (((20000 + 120 * n) + 0) + 0) ≤ 20000 + 120 * (n + 1); omega) (next ad2 _ k1 κ2 hb2 ⟨hJ1, hM2, hR2.k e1 e2⟩)
set_option maxHeartbeats 4000000 in
theorem lb_child {b L n : Nat} {xs : Nat → Int32} {s : SG} {k κ : KG} (hX : ∀ s, Xp s → va_X b L xs s s.heap ∧ b < s.heap.size ∧ ¬ A b) (hL : L < 2 ^ 31) (hi : 1 + 5 * n + 5 ≤ L) (hn : n ≤ 511) (hb : ad (50, 0) = b) (hR : LR n s k κ)
    (next : ∀ (ad' : KK → Nat) (S : SG) (k' κ' : KG), ad' (50, 0) = b → LR (n + 1) S k' κ' → lG l D nm A Xp ad' (kw_un (hC S k') (hM S κ')) (100 + 40 * (n + 1)) (20000 + 120 * (n + 1)) 1057 (lvS n) []) : lG l D nm A Xp ad (kw_un (hC s k) (hM s κ)) (100 + 40 * n) (20000 + 120 * n) 248 (lvS n) [] := by
  refine kx_aload_n dL_law_248 rfl ?_
  refine kx_aload_n dL_law_249 rfl ?_
  refine kx_iload_n dL_law_250 rfl ?_
  refine kx_iconst (v := nI 1) dL_law_251 rfl ?_
  refine kx_iadd dL_law_252 ?_
  refine kx_top (congrArg pi_ (nI_add (1 + 5 * n) 1)) ?_
  refine kx_iald hX hb (j := 1 + 5 * n + 1) dL_law_253 (by omega) hL ?_
  refine kx_aload_n dL_law_254 rfl ?_
  refine kx_iload_n dL_law_255 rfl ?_
  refine kx_iconst (v := nI 2) dL_law_256 rfl ?_
  refine kx_iadd dL_law_257 ?_
  refine kx_top (congrArg pi_ (nI_add (1 + 5 * n) 2)) ?_
  refine kx_iald hX hb (j := 1 + 5 * n + 2) dL_law_258 (by omega) hL ?_
  refine kx_cC (C_child l κ hR.1 hn (xs (1 + 5 * n + 1)) (xs (1 + 5 * n + 2))) (pvI.i _) dL_law_259 cl_L_33 rfl rfl rfl ⟨Nat.le_of_ble_eq_true rfl, Nat.le_of_ble_eq_true rfl, (by show (100 + 40 * n) + 0 ≤ 600000; omega), (by show (20000 + 120 * n) + 0 ≤ 7302250; omega)⟩ hb (fun ad1 k1 hb1 hJ1 e1 e2 => ?_)
  refine kx_aload_n dL_law_262 rfl ?_
  refine kx_aload_n dL_law_263 rfl ?_
  refine kx_iload_n dL_law_264 rfl ?_
  refine kx_iconst (v := nI 1) dL_law_265 rfl ?_
  refine kx_iadd dL_law_266 ?_
  refine kx_top (congrArg pi_ (nI_add (1 + 5 * n) 1)) ?_
  refine kx_iald hX hb1 (j := 1 + 5 * n + 1) dL_law_267 (by omega) hL ?_
  refine kx_aload_n dL_law_268 rfl ?_
  refine kx_iload_n dL_law_269 rfl ?_
  refine kx_iconst (v := nI 2) dL_law_270 rfl ?_
  refine kx_iadd dL_law_271 ?_
  refine kx_top (congrArg pi_ (nI_add (1 + 5 * n) 2)) ?_
  refine kx_iald hX hb1 (j := 1 + 5 * n + 2) dL_law_272 (by omega) hL ?_
  refine kx_cM hJ1 (D_child l hR hJ1 hn (xs (1 + 5 * n + 1)) (xs (1 + 5 * n + 2))) (pvI.i _) (pvI.i _) dL_law_273 cl_L_37 rfl rfl rfl ⟨Nat.le_of_ble_eq_true rfl, Nat.le_of_ble_eq_true rfl, (by show ((100 + 40 * n) + 0) + 0 ≤ 600000; omega), (by show ((20000 + 120 * n) + 0) + 0 ≤ 7302250; omega)⟩ hb1 (fun ad2 κ2 hb2 hM2 hR2 => ?_)
  refine kx_icmp_eq (tgt := 1057) dL_law_276 (by decide) (fun _ => ?_) (fun q => absurd rfl q)
  exact kx_wid (by show (((100 + 40 * n) + 0) + 0) ≤ 100 + 40 * (n + 1); omega) (by show (((20000 + 120 * n) + 0) + 0) ≤ 20000 + 120 * (n + 1); omega) (next ad2 _ k1 κ2 hb2 ⟨hJ1, hM2, hR2.k e1 e2⟩)
set_option maxHeartbeats 4000000 in
theorem lb_save {b L n : Nat} {xs : Nat → Int32} {s : SG} {k κ : KG} (hX : ∀ s, Xp s → va_X b L xs s s.heap ∧ b < s.heap.size ∧ ¬ A b) (hL : L < 2 ^ 31) (hi : 1 + 5 * n + 5 ≤ L) (hn : n ≤ 511) (hb : ad (50, 0) = b) (hR : LR n s k κ)
    (next : ∀ (ad' : KK → Nat) (S : SG) (k' κ' : KG), ad' (50, 0) = b → LR (n + 1) S k' κ' → lG l D nm A Xp ad' (kw_un (hC S k') (hM S κ')) (100 + 40 * (n + 1)) (20000 + 120 * (n + 1)) 1057 (lvS n) []) : lG l D nm A Xp ad (kw_un (hC s k) (hM s κ)) (100 + 40 * n) (20000 + 120 * n) 281 (lvS n) [] := by
  refine kx_aload_n dL_law_281 rfl ?_
  refine kx_aload_n dL_law_282 rfl ?_
  refine kx_iload_n dL_law_283 rfl ?_
  refine kx_iconst (v := nI 1) dL_law_284 rfl ?_
  refine kx_iadd dL_law_285 ?_
  refine kx_top (congrArg pi_ (nI_add (1 + 5 * n) 1)) ?_
  refine kx_iald hX hb (j := 1 + 5 * n + 1) dL_law_286 (by omega) hL ?_
  refine kx_aload_n dL_law_287 rfl ?_
  refine kx_iload_n dL_law_288 rfl ?_
  refine kx_iconst (v := nI 2) dL_law_289 rfl ?_
  refine kx_iadd dL_law_290 ?_
  refine kx_top (congrArg pi_ (nI_add (1 + 5 * n) 2)) ?_
  refine kx_iald hX hb (j := 1 + 5 * n + 2) dL_law_291 (by omega) hL ?_
  refine kx_i2l dL_law_292 ?_
  refine kx_bipush (v := 32) dL_law_293 rfl ?_
  refine kx_lshl dL_law_295 ?_
  refine kx_aload_n dL_law_296 rfl ?_
  refine kx_iload_n dL_law_297 rfl ?_
  refine kx_iconst (v := nI 3) dL_law_298 rfl ?_
  refine kx_iadd dL_law_299 ?_
  refine kx_top (congrArg pi_ (nI_add (1 + 5 * n) 3)) ?_
  refine kx_iald hX hb (j := 1 + 5 * n + 3) dL_law_300 (by omega) hL ?_
  refine kx_i2l dL_law_301 ?_
  refine kx_ldc2 dL_law_302 kt_1346 ?_
  refine kx_land dL_law_305 ?_
  refine kx_lor dL_law_306 ?_
  refine kx_top (v' := pl_ (lW (xs (1 + 5 * n + 2)) (xs (1 + 5 * n + 3)))) rfl ?_
  refine kx_aload_n dL_law_307 rfl ?_
  refine kx_iload_n dL_law_308 rfl ?_
  refine kx_iconst (v := nI 4) dL_law_309 rfl ?_
  refine kx_iadd dL_law_310 ?_
  refine kx_top (congrArg pi_ (nI_add (1 + 5 * n) 4)) ?_
  refine kx_iald hX hb (j := 1 + 5 * n + 4) dL_law_311 (by omega) hL ?_
  refine kx_cC (C_save l κ hR.1 hn (xs (1 + 5 * n + 1)) (lW (xs (1 + 5 * n + 2)) (xs (1 + 5 * n + 3))) (xs (1 + 5 * n + 4))) (pvI.i _) dL_law_312 cl_L_38 rfl rfl rfl ⟨Nat.le_of_ble_eq_true rfl, Nat.le_of_ble_eq_true rfl, (by show (100 + 40 * n) + 3 ≤ 600000; omega), (by show (20000 + 120 * n) + 19 ≤ 7302250; omega)⟩ hb (fun ad1 k1 hb1 hJ1 e1 e2 => ?_)
  refine kx_aload_n dL_law_315 rfl ?_
  refine kx_aload_n dL_law_316 rfl ?_
  refine kx_iload_n dL_law_317 rfl ?_
  refine kx_iconst (v := nI 1) dL_law_318 rfl ?_
  refine kx_iadd dL_law_319 ?_
  refine kx_top (congrArg pi_ (nI_add (1 + 5 * n) 1)) ?_
  refine kx_iald hX hb1 (j := 1 + 5 * n + 1) dL_law_320 (by omega) hL ?_
  refine kx_aload_n dL_law_321 rfl ?_
  refine kx_iload_n dL_law_322 rfl ?_
  refine kx_iconst (v := nI 2) dL_law_323 rfl ?_
  refine kx_iadd dL_law_324 ?_
  refine kx_top (congrArg pi_ (nI_add (1 + 5 * n) 2)) ?_
  refine kx_iald hX hb1 (j := 1 + 5 * n + 2) dL_law_325 (by omega) hL ?_
  refine kx_i2l dL_law_326 ?_
  refine kx_bipush (v := 32) dL_law_327 rfl ?_
  refine kx_lshl dL_law_329 ?_
  refine kx_aload_n dL_law_330 rfl ?_
  refine kx_iload_n dL_law_331 rfl ?_
  refine kx_iconst (v := nI 3) dL_law_332 rfl ?_
  refine kx_iadd dL_law_333 ?_
  refine kx_top (congrArg pi_ (nI_add (1 + 5 * n) 3)) ?_
  refine kx_iald hX hb1 (j := 1 + 5 * n + 3) dL_law_334 (by omega) hL ?_
  refine kx_i2l dL_law_335 ?_
  refine kx_ldc2 dL_law_336 kt_1346 ?_
  refine kx_land dL_law_339 ?_
  refine kx_lor dL_law_340 ?_
  refine kx_top (v' := pl_ (lW (xs (1 + 5 * n + 2)) (xs (1 + 5 * n + 3)))) rfl ?_
  refine kx_aload_n dL_law_341 rfl ?_
  refine kx_iload_n dL_law_342 rfl ?_
  refine kx_iconst (v := nI 4) dL_law_343 rfl ?_
  refine kx_iadd dL_law_344 ?_
  refine kx_top (congrArg pi_ (nI_add (1 + 5 * n) 4)) ?_
  refine kx_iald hX hb1 (j := 1 + 5 * n + 4) dL_law_345 (by omega) hL ?_
  refine kx_cM hJ1 (D_save l hR hJ1 hn (xs (1 + 5 * n + 1)) (lW (xs (1 + 5 * n + 2)) (xs (1 + 5 * n + 3))) (xs (1 + 5 * n + 4))) (pvI.i _) (pvI.i _) dL_law_346 cl_L_42 rfl rfl rfl ⟨Nat.le_of_ble_eq_true rfl, Nat.le_of_ble_eq_true rfl, (by show ((100 + 40 * n) + 3) + 0 ≤ 600000; omega), (by show ((20000 + 120 * n) + 19) + 0 ≤ 7302250; omega)⟩ hb1 (fun ad2 κ2 hb2 hM2 hR2 => ?_)
  refine kx_icmp_eq (tgt := 1057) dL_law_349 (by decide) (fun _ => ?_) (fun q => absurd rfl q)
  exact kx_wid (by show (((100 + 40 * n) + 3) + 0) ≤ 100 + 40 * (n + 1); omega) (by show (((20000 + 120 * n) + 19) + 0) ≤ 20000 + 120 * (n + 1); omega) (next ad2 _ k1 κ2 hb2 ⟨hJ1, hM2, hR2.k e1 e2⟩)
set_option maxHeartbeats 4000000 in
theorem lb_take {b L n : Nat} {xs : Nat → Int32} {s : SG} {k κ : KG} (hX : ∀ s, Xp s → va_X b L xs s s.heap ∧ b < s.heap.size ∧ ¬ A b) (hL : L < 2 ^ 31) (hi : 1 + 5 * n + 5 ≤ L) (hn : n ≤ 511) (hb : ad (50, 0) = b) (hR : LR n s k κ)
    (next : ∀ (ad' : KK → Nat) (S : SG) (k' κ' : KG), ad' (50, 0) = b → LR (n + 1) S k' κ' → lG l D nm A Xp ad' (kw_un (hC S k') (hM S κ')) (100 + 40 * (n + 1)) (20000 + 120 * (n + 1)) 1057 (lvS n) []) : lG l D nm A Xp ad (kw_un (hC s k) (hM s κ)) (100 + 40 * n) (20000 + 120 * n) 354 (lvS n) [] := by
  refine kx_aload_n dL_law_354 rfl ?_
  refine kx_aload_n dL_law_355 rfl ?_
  refine kx_iload_n dL_law_356 rfl ?_
  refine kx_iconst (v := nI 1) dL_law_357 rfl ?_
  refine kx_iadd dL_law_358 ?_
  refine kx_top (congrArg pi_ (nI_add (1 + 5 * n) 1)) ?_
  refine kx_iald hX hb (j := 1 + 5 * n + 1) dL_law_359 (by omega) hL ?_
  refine kx_aload_n dL_law_360 rfl ?_
  refine kx_iload_n dL_law_361 rfl ?_
  refine kx_iconst (v := nI 2) dL_law_362 rfl ?_
  refine kx_iadd dL_law_363 ?_
  refine kx_top (congrArg pi_ (nI_add (1 + 5 * n) 2)) ?_
  refine kx_iald hX hb (j := 1 + 5 * n + 2) dL_law_364 (by omega) hL ?_
  refine kx_cC (C_take l κ hR.1 hn (xs (1 + 5 * n + 1)) (xs (1 + 5 * n + 2))) (pvI.i _) dL_law_365 cl_L_43 rfl rfl rfl ⟨Nat.le_of_ble_eq_true rfl, Nat.le_of_ble_eq_true rfl, (by show (100 + 40 * n) + 0 ≤ 600000; omega), (by show (20000 + 120 * n) + 0 ≤ 7302250; omega)⟩ hb (fun ad1 k1 hb1 hJ1 e1 e2 => ?_)
  refine kx_aload_n dL_law_368 rfl ?_
  refine kx_aload_n dL_law_369 rfl ?_
  refine kx_iload_n dL_law_370 rfl ?_
  refine kx_iconst (v := nI 1) dL_law_371 rfl ?_
  refine kx_iadd dL_law_372 ?_
  refine kx_top (congrArg pi_ (nI_add (1 + 5 * n) 1)) ?_
  refine kx_iald hX hb1 (j := 1 + 5 * n + 1) dL_law_373 (by omega) hL ?_
  refine kx_aload_n dL_law_374 rfl ?_
  refine kx_iload_n dL_law_375 rfl ?_
  refine kx_iconst (v := nI 2) dL_law_376 rfl ?_
  refine kx_iadd dL_law_377 ?_
  refine kx_top (congrArg pi_ (nI_add (1 + 5 * n) 2)) ?_
  refine kx_iald hX hb1 (j := 1 + 5 * n + 2) dL_law_378 (by omega) hL ?_
  refine kx_cM hJ1 (D_take l hR hJ1 hn (xs (1 + 5 * n + 1)) (xs (1 + 5 * n + 2))) (pvI.i _) (pvI.i _) dL_law_379 cl_L_46 rfl rfl rfl ⟨Nat.le_of_ble_eq_true rfl, Nat.le_of_ble_eq_true rfl, (by show ((100 + 40 * n) + 0) + 0 ≤ 600000; omega), (by show ((20000 + 120 * n) + 0) + 0 ≤ 7302250; omega)⟩ hb1 (fun ad2 κ2 hb2 hM2 hR2 => ?_)
  refine kx_icmp_eq (tgt := 1057) dL_law_382 (by decide) (fun _ => ?_) (fun q => absurd rfl q)
  exact kx_wid (by show (((100 + 40 * n) + 0) + 0) ≤ 100 + 40 * (n + 1); omega) (by show (((20000 + 120 * n) + 0) + 0) ≤ 20000 + 120 * (n + 1); omega) (next ad2 _ k1 κ2 hb2 ⟨hJ1, hM2, hR2.k e1 e2⟩)
set_option maxHeartbeats 4000000 in
theorem lb_commit {b L n : Nat} {xs : Nat → Int32} {s : SG} {k κ : KG} (hX : ∀ s, Xp s → va_X b L xs s s.heap ∧ b < s.heap.size ∧ ¬ A b) (hL : L < 2 ^ 31) (hi : 1 + 5 * n + 5 ≤ L) (hn : n ≤ 511) (hb : ad (50, 0) = b) (hR : LR n s k κ)
    (next : ∀ (ad' : KK → Nat) (S : SG) (k' κ' : KG), ad' (50, 0) = b → LR (n + 1) S k' κ' → lG l D nm A Xp ad' (kw_un (hC S k') (hM S κ')) (100 + 40 * (n + 1)) (20000 + 120 * (n + 1)) 1057 (lvS n) []) : lG l D nm A Xp ad (kw_un (hC s k) (hM s κ)) (100 + 40 * n) (20000 + 120 * n) 387 (lvS n) [] := by
  refine kx_aload_n dL_law_387 rfl ?_
  refine kx_aload_n dL_law_388 rfl ?_
  refine kx_iload_n dL_law_389 rfl ?_
  refine kx_iconst (v := nI 1) dL_law_390 rfl ?_
  refine kx_iadd dL_law_391 ?_
  refine kx_top (congrArg pi_ (nI_add (1 + 5 * n) 1)) ?_
  refine kx_iald hX hb (j := 1 + 5 * n + 1) dL_law_392 (by omega) hL ?_
  refine kx_aload_n dL_law_393 rfl ?_
  refine kx_iload_n dL_law_394 rfl ?_
  refine kx_iconst (v := nI 2) dL_law_395 rfl ?_
  refine kx_iadd dL_law_396 ?_
  refine kx_top (congrArg pi_ (nI_add (1 + 5 * n) 2)) ?_
  refine kx_iald hX hb (j := 1 + 5 * n + 2) dL_law_397 (by omega) hL ?_
  refine kx_cC (C_commit l κ hR.1 hn (xs (1 + 5 * n + 1)) (xs (1 + 5 * n + 2))) (pvI.i _) dL_law_398 cl_L_47 rfl rfl rfl ⟨Nat.le_of_ble_eq_true rfl, Nat.le_of_ble_eq_true rfl, (by show (100 + 40 * n) + 2 ≤ 600000; omega), (by show (20000 + 120 * n) + 12 ≤ 7302250; omega)⟩ hb (fun ad1 k1 hb1 hJ1 e1 e2 => ?_)
  refine kx_aload_n dL_law_401 rfl ?_
  refine kx_aload_n dL_law_402 rfl ?_
  refine kx_iload_n dL_law_403 rfl ?_
  refine kx_iconst (v := nI 1) dL_law_404 rfl ?_
  refine kx_iadd dL_law_405 ?_
  refine kx_top (congrArg pi_ (nI_add (1 + 5 * n) 1)) ?_
  refine kx_iald hX hb1 (j := 1 + 5 * n + 1) dL_law_406 (by omega) hL ?_
  refine kx_aload_n dL_law_407 rfl ?_
  refine kx_iload_n dL_law_408 rfl ?_
  refine kx_iconst (v := nI 2) dL_law_409 rfl ?_
  refine kx_iadd dL_law_410 ?_
  refine kx_top (congrArg pi_ (nI_add (1 + 5 * n) 2)) ?_
  refine kx_iald hX hb1 (j := 1 + 5 * n + 2) dL_law_411 (by omega) hL ?_
  refine kx_cM hJ1 (D_commit l hR hJ1 hn (xs (1 + 5 * n + 1)) (xs (1 + 5 * n + 2))) (pvI.i _) (pvI.i _) dL_law_412 cl_L_50 rfl rfl rfl ⟨Nat.le_of_ble_eq_true rfl, Nat.le_of_ble_eq_true rfl, (by show ((100 + 40 * n) + 2) + 0 ≤ 600000; omega), (by show ((20000 + 120 * n) + 12) + 0 ≤ 7302250; omega)⟩ hb1 (fun ad2 κ2 hb2 hM2 hR2 => ?_)
  refine kx_icmp_eq (tgt := 1057) dL_law_415 (by decide) (fun _ => ?_) (fun q => absurd rfl q)
  exact kx_wid (by show (((100 + 40 * n) + 2) + 0) ≤ 100 + 40 * (n + 1); omega) (by show (((20000 + 120 * n) + 12) + 0) ≤ 20000 + 120 * (n + 1); omega) (next ad2 _ k1 κ2 hb2 ⟨hJ1, hM2, hR2.k e1 e2⟩)
set_option maxHeartbeats 4000000 in
theorem lb_give {b L n : Nat} {xs : Nat → Int32} {s : SG} {k κ : KG} (hX : ∀ s, Xp s → va_X b L xs s s.heap ∧ b < s.heap.size ∧ ¬ A b) (hL : L < 2 ^ 31) (hi : 1 + 5 * n + 5 ≤ L) (hn : n ≤ 511) (hb : ad (50, 0) = b) (hR : LR n s k κ)
    (next : ∀ (ad' : KK → Nat) (S : SG) (k' κ' : KG), ad' (50, 0) = b → LR (n + 1) S k' κ' → lG l D nm A Xp ad' (kw_un (hC S k') (hM S κ')) (100 + 40 * (n + 1)) (20000 + 120 * (n + 1)) 1057 (lvS n) []) : lG l D nm A Xp ad (kw_un (hC s k) (hM s κ)) (100 + 40 * n) (20000 + 120 * n) 420 (lvS n) [] := by
  refine kx_aload_n dL_law_420 rfl ?_
  refine kx_aload_n dL_law_421 rfl ?_
  refine kx_iload_n dL_law_422 rfl ?_
  refine kx_iconst (v := nI 1) dL_law_423 rfl ?_
  refine kx_iadd dL_law_424 ?_
  refine kx_top (congrArg pi_ (nI_add (1 + 5 * n) 1)) ?_
  refine kx_iald hX hb (j := 1 + 5 * n + 1) dL_law_425 (by omega) hL ?_
  refine kx_cC (C_give l κ hR.1 hn (xs (1 + 5 * n + 1))) (pvI.i _) dL_law_426 cl_L_51 rfl rfl rfl ⟨Nat.le_of_ble_eq_true rfl, Nat.le_of_ble_eq_true rfl, (by show (100 + 40 * n) + 0 ≤ 600000; omega), (by show (20000 + 120 * n) + 0 ≤ 7302250; omega)⟩ hb (fun ad1 k1 hb1 hJ1 e1 e2 => ?_)
  refine kx_aload_n dL_law_429 rfl ?_
  refine kx_aload_n dL_law_430 rfl ?_
  refine kx_iload_n dL_law_431 rfl ?_
  refine kx_iconst (v := nI 1) dL_law_432 rfl ?_
  refine kx_iadd dL_law_433 ?_
  refine kx_top (congrArg pi_ (nI_add (1 + 5 * n) 1)) ?_
  refine kx_iald hX hb1 (j := 1 + 5 * n + 1) dL_law_434 (by omega) hL ?_
  refine kx_cM hJ1 (D_give l hR hJ1 hn (xs (1 + 5 * n + 1))) (pvI.i _) (pvI.i _) dL_law_435 cl_L_54 rfl rfl rfl ⟨Nat.le_of_ble_eq_true rfl, Nat.le_of_ble_eq_true rfl, (by show ((100 + 40 * n) + 0) + 0 ≤ 600000; omega), (by show ((20000 + 120 * n) + 0) + 0 ≤ 7302250; omega)⟩ hb1 (fun ad2 κ2 hb2 hM2 hR2 => ?_)
  refine kx_icmp_eq (tgt := 1057) dL_law_438 (by decide) (fun _ => ?_) (fun q => absurd rfl q)
  exact kx_wid (by show (((100 + 40 * n) + 0) + 0) ≤ 100 + 40 * (n + 1); omega) (by show (((20000 + 120 * n) + 0) + 0) ≤ 20000 + 120 * (n + 1); omega) (next ad2 _ k1 κ2 hb2 ⟨hJ1, hM2, hR2.k e1 e2⟩)
set_option maxHeartbeats 4000000 in
theorem lb_drop {b L n : Nat} {xs : Nat → Int32} {s : SG} {k κ : KG} (hX : ∀ s, Xp s → va_X b L xs s s.heap ∧ b < s.heap.size ∧ ¬ A b) (hL : L < 2 ^ 31) (hi : 1 + 5 * n + 5 ≤ L) (hn : n ≤ 511) (hb : ad (50, 0) = b) (hR : LR n s k κ)
    (next : ∀ (ad' : KK → Nat) (S : SG) (k' κ' : KG), ad' (50, 0) = b → LR (n + 1) S k' κ' → lG l D nm A Xp ad' (kw_un (hC S k') (hM S κ')) (100 + 40 * (n + 1)) (20000 + 120 * (n + 1)) 1057 (lvS n) []) : lG l D nm A Xp ad (kw_un (hC s k) (hM s κ)) (100 + 40 * n) (20000 + 120 * n) 443 (lvS n) [] := by
  refine kx_aload_n dL_law_443 rfl ?_
  refine kx_aload_n dL_law_444 rfl ?_
  refine kx_iload_n dL_law_445 rfl ?_
  refine kx_iconst (v := nI 1) dL_law_446 rfl ?_
  refine kx_iadd dL_law_447 ?_
  refine kx_top (congrArg pi_ (nI_add (1 + 5 * n) 1)) ?_
  refine kx_iald hX hb (j := 1 + 5 * n + 1) dL_law_448 (by omega) hL ?_
  refine kx_cC (C_drop l κ hR.1 hn (xs (1 + 5 * n + 1))) (pvI.i _) dL_law_449 cl_L_55 rfl rfl rfl ⟨Nat.le_of_ble_eq_true rfl, Nat.le_of_ble_eq_true rfl, (by show (100 + 40 * n) + 0 ≤ 600000; omega), (by show (20000 + 120 * n) + 0 ≤ 7302250; omega)⟩ hb (fun ad1 k1 hb1 hJ1 e1 e2 => ?_)
  refine kx_aload_n dL_law_452 rfl ?_
  refine kx_aload_n dL_law_453 rfl ?_
  refine kx_iload_n dL_law_454 rfl ?_
  refine kx_iconst (v := nI 1) dL_law_455 rfl ?_
  refine kx_iadd dL_law_456 ?_
  refine kx_top (congrArg pi_ (nI_add (1 + 5 * n) 1)) ?_
  refine kx_iald hX hb1 (j := 1 + 5 * n + 1) dL_law_457 (by omega) hL ?_
  refine kx_cM hJ1 (D_drop l hR hJ1 hn (xs (1 + 5 * n + 1))) (pvI.i _) (pvI.i _) dL_law_458 cl_L_58 rfl rfl rfl ⟨Nat.le_of_ble_eq_true rfl, Nat.le_of_ble_eq_true rfl, (by show ((100 + 40 * n) + 0) + 0 ≤ 600000; omega), (by show ((20000 + 120 * n) + 0) + 0 ≤ 7302250; omega)⟩ hb1 (fun ad2 κ2 hb2 hM2 hR2 => ?_)
  refine kx_icmp_eq (tgt := 1057) dL_law_461 (by decide) (fun _ => ?_) (fun q => absurd rfl q)
  exact kx_wid (by show (((100 + 40 * n) + 0) + 0) ≤ 100 + 40 * (n + 1); omega) (by show (((20000 + 120 * n) + 0) + 0) ≤ 20000 + 120 * (n + 1); omega) (next ad2 _ k1 κ2 hb2 ⟨hJ1, hM2, hR2.k e1 e2⟩)
set_option maxHeartbeats 4000000 in
theorem lb_rule {b L n : Nat} {xs : Nat → Int32} {s : SG} {k κ : KG} (hX : ∀ s, Xp s → va_X b L xs s s.heap ∧ b < s.heap.size ∧ ¬ A b) (hL : L < 2 ^ 31) (hi : 1 + 5 * n + 5 ≤ L) (hn : n ≤ 511) (hb : ad (50, 0) = b) (hR : LR n s k κ)
    (next : ∀ (ad' : KK → Nat) (S : SG) (k' κ' : KG), ad' (50, 0) = b → LR (n + 1) S k' κ' → lG l D nm A Xp ad' (kw_un (hC S k') (hM S κ')) (100 + 40 * (n + 1)) (20000 + 120 * (n + 1)) 1057 (lvS n) []) : lG l D nm A Xp ad (kw_un (hC s k) (hM s κ)) (100 + 40 * n) (20000 + 120 * n) 466 (lvS n) [] := by
  refine kx_aload_n dL_law_466 rfl ?_
  refine kx_aload_n dL_law_467 rfl ?_
  refine kx_iload_n dL_law_468 rfl ?_
  refine kx_iconst (v := nI 1) dL_law_469 rfl ?_
  refine kx_iadd dL_law_470 ?_
  refine kx_top (congrArg pi_ (nI_add (1 + 5 * n) 1)) ?_
  refine kx_iald hX hb (j := 1 + 5 * n + 1) dL_law_471 (by omega) hL ?_
  refine kx_aload_n dL_law_472 rfl ?_
  refine kx_iload_n dL_law_473 rfl ?_
  refine kx_iconst (v := nI 2) dL_law_474 rfl ?_
  refine kx_iadd dL_law_475 ?_
  refine kx_top (congrArg pi_ (nI_add (1 + 5 * n) 2)) ?_
  refine kx_iald hX hb (j := 1 + 5 * n + 2) dL_law_476 (by omega) hL ?_
  refine kx_cC (C_rule l κ hR.1 hn (xs (1 + 5 * n + 1)) (xs (1 + 5 * n + 2))) (pvI.i _) dL_law_477 cl_L_59 rfl rfl rfl ⟨Nat.le_of_ble_eq_true rfl, Nat.le_of_ble_eq_true rfl, (by show (100 + 40 * n) + 0 ≤ 600000; omega), (by show (20000 + 120 * n) + 0 ≤ 7302250; omega)⟩ hb (fun ad1 k1 hb1 hJ1 e1 e2 => ?_)
  refine kx_aload_n dL_law_480 rfl ?_
  refine kx_aload_n dL_law_481 rfl ?_
  refine kx_iload_n dL_law_482 rfl ?_
  refine kx_iconst (v := nI 1) dL_law_483 rfl ?_
  refine kx_iadd dL_law_484 ?_
  refine kx_top (congrArg pi_ (nI_add (1 + 5 * n) 1)) ?_
  refine kx_iald hX hb1 (j := 1 + 5 * n + 1) dL_law_485 (by omega) hL ?_
  refine kx_aload_n dL_law_486 rfl ?_
  refine kx_iload_n dL_law_487 rfl ?_
  refine kx_iconst (v := nI 2) dL_law_488 rfl ?_
  refine kx_iadd dL_law_489 ?_
  refine kx_top (congrArg pi_ (nI_add (1 + 5 * n) 2)) ?_
  refine kx_iald hX hb1 (j := 1 + 5 * n + 2) dL_law_490 (by omega) hL ?_
  refine kx_cM hJ1 (D_rule l hR hJ1 hn (xs (1 + 5 * n + 1)) (xs (1 + 5 * n + 2))) (pvI.i _) (pvI.i _) dL_law_491 cl_L_62 rfl rfl rfl ⟨Nat.le_of_ble_eq_true rfl, Nat.le_of_ble_eq_true rfl, (by show ((100 + 40 * n) + 0) + 0 ≤ 600000; omega), (by show ((20000 + 120 * n) + 0) + 0 ≤ 7302250; omega)⟩ hb1 (fun ad2 κ2 hb2 hM2 hR2 => ?_)
  refine kx_icmp_eq (tgt := 1057) dL_law_494 (by decide) (fun _ => ?_) (fun q => absurd rfl q)
  exact kx_wid (by show (((100 + 40 * n) + 0) + 0) ≤ 100 + 40 * (n + 1); omega) (by show (((20000 + 120 * n) + 0) + 0) ≤ 20000 + 120 * (n + 1); omega) (next ad2 _ k1 κ2 hb2 ⟨hJ1, hM2, hR2.k e1 e2⟩)
set_option maxHeartbeats 4000000 in
theorem lb_keeps {b L n : Nat} {xs : Nat → Int32} {s : SG} {k κ : KG} (hX : ∀ s, Xp s → va_X b L xs s s.heap ∧ b < s.heap.size ∧ ¬ A b) (hL : L < 2 ^ 31) (hi : 1 + 5 * n + 5 ≤ L) (hn : n ≤ 511) (hb : ad (50, 0) = b) (hR : LR n s k κ)
    (next : ∀ (ad' : KK → Nat) (S : SG) (k' κ' : KG), ad' (50, 0) = b → LR (n + 1) S k' κ' → lG l D nm A Xp ad' (kw_un (hC S k') (hM S κ')) (100 + 40 * (n + 1)) (20000 + 120 * (n + 1)) 1057 (lvS n) []) : lG l D nm A Xp ad (kw_un (hC s k) (hM s κ)) (100 + 40 * n) (20000 + 120 * n) 499 (lvS n) [] := by
  refine kx_aload_n dL_law_499 rfl ?_
  refine kx_aload_n dL_law_500 rfl ?_
  refine kx_iload_n dL_law_501 rfl ?_
  refine kx_iconst (v := nI 1) dL_law_502 rfl ?_
  refine kx_iadd dL_law_503 ?_
  refine kx_top (congrArg pi_ (nI_add (1 + 5 * n) 1)) ?_
  refine kx_iald hX hb (j := 1 + 5 * n + 1) dL_law_504 (by omega) hL ?_
  refine kx_cC (C_keeps l κ hR.1 hn (xs (1 + 5 * n + 1))) (pvI.i _) dL_law_505 cl_L_63 rfl rfl rfl ⟨Nat.le_of_ble_eq_true rfl, Nat.le_of_ble_eq_true rfl, (by show (100 + 40 * n) + 0 ≤ 600000; omega), (by show (20000 + 120 * n) + 0 ≤ 7302250; omega)⟩ hb (fun ad1 k1 hb1 hJ1 e1 e2 => ?_)
  refine kx_aload_n dL_law_508 rfl ?_
  refine kx_aload_n dL_law_509 rfl ?_
  refine kx_iload_n dL_law_510 rfl ?_
  refine kx_iconst (v := nI 1) dL_law_511 rfl ?_
  refine kx_iadd dL_law_512 ?_
  refine kx_top (congrArg pi_ (nI_add (1 + 5 * n) 1)) ?_
  refine kx_iald hX hb1 (j := 1 + 5 * n + 1) dL_law_513 (by omega) hL ?_
  refine kx_cM hJ1 (D_keeps l hR hJ1 hn (xs (1 + 5 * n + 1))) (pvI.i _) (pvI.i _) dL_law_514 cl_L_66 rfl rfl rfl ⟨Nat.le_of_ble_eq_true rfl, Nat.le_of_ble_eq_true rfl, (by show ((100 + 40 * n) + 0) + 0 ≤ 600000; omega), (by show ((20000 + 120 * n) + 0) + 0 ≤ 7302250; omega)⟩ hb1 (fun ad2 κ2 hb2 hM2 hR2 => ?_)
  refine kx_icmp_eq (tgt := 1057) dL_law_517 (by decide) (fun _ => ?_) (fun q => absurd rfl q)
  exact kx_wid (by show (((100 + 40 * n) + 0) + 0) ≤ 100 + 40 * (n + 1); omega) (by show (((20000 + 120 * n) + 0) + 0) ≤ 20000 + 120 * (n + 1); omega) (next ad2 _ k1 κ2 hb2 ⟨hJ1, hM2, hR2.k e1 e2⟩)
set_option maxHeartbeats 4000000 in
theorem lb_prune1 (w : Bool) {b L n : Nat} {xs : Nat → Int32} {s : SG} {k κ : KG} (hX : ∀ s, Xp s → va_X b L xs s s.heap ∧ b < s.heap.size ∧ ¬ A b) (hL : L < 2 ^ 31) (hi : 1 + 5 * n + 5 ≤ L) (hn : n ≤ 511) (hb : ad (50, 0) = b) (hR : LR n s k κ) (hw : xs (1 + 5 * n + 1) = 0 ↔ w = false)
    (next : ∀ (ad' : KK → Nat) (S : SG) (k' κ' : KG), ad' (50, 0) = b → LR (n + 1) S k' κ' → lG l D nm A Xp ad' (kw_un (hC S k') (hM S κ')) (100 + 40 * (n + 1)) (20000 + 120 * (n + 1)) 1057 (lvS n) []) : lG l D nm A Xp ad (kw_un (hC s k) (hM s κ)) (100 + 40 * n) (20000 + 120 * n) 536 (lvS n) [pi_ (b2 w), pr_ (0, 0)] := by
  refine kx_cC (C_prune l κ hR.1 hn w) (pvI.i _) dL_law_536 cl_L_67 rfl rfl rfl ⟨Nat.le_of_ble_eq_true rfl, Nat.le_of_ble_eq_true rfl, (by show (100 + 40 * n) + 0 ≤ 600000; omega), (by show (20000 + 120 * n) + 0 ≤ 7302250; omega)⟩ hb (fun ad1 k1 hb1 hJ1 e1 e2 => ?_)
  refine kx_aload_n dL_law_539 rfl ?_
  refine kx_aload_n dL_law_540 rfl ?_
  refine kx_iload_n dL_law_541 rfl ?_
  refine kx_iconst (v := nI 1) dL_law_542 rfl ?_
  refine kx_iadd dL_law_543 ?_
  refine kx_top (congrArg pi_ (nI_add (1 + 5 * n) 1)) ?_
  refine kx_iald hX hb1 (j := 1 + 5 * n + 1) dL_law_544 (by omega) hL ?_
  refine kx_if_eq (tgt := 552) dL_law_545 (by decide) (fun q => ?_) (fun q => ?_)
  · refine kx_iconst (v := b2 w) dL_law_552 (by rw [hw.mp q]; rfl) ?_
    refine kx_cM hJ1 (D_prune l hR hJ1 hn w) (pvI.i _) (pvI.i _) dL_law_553 cl_L_71 rfl rfl rfl ⟨Nat.le_of_ble_eq_true rfl, Nat.le_of_ble_eq_true rfl, (by show ((100 + 40 * n) + 0) + 0 ≤ 600000; omega), (by show ((20000 + 120 * n) + 0) + 0 ≤ 7302250; omega)⟩ hb1 (fun ad2 κ2 hb2 hM2 hR2 => ?_)
    refine kx_icmp_eq (tgt := 1057) dL_law_556 (by decide) (fun _ => ?_) (fun q => absurd rfl q)
    exact kx_wid (by show (((100 + 40 * n) + 0) + 0) ≤ 100 + 40 * (n + 1); omega) (by show (((20000 + 120 * n) + 0) + 0) ≤ 20000 + 120 * (n + 1); omega) (next ad2 _ k1 κ2 hb2 ⟨hJ1, hM2, hR2.k e1 e2⟩)
  · refine kx_iconst (v := b2 w) dL_law_548 (by rcases Bool.eq_false_or_eq_true w with e | e; rw [e]; rfl; exact absurd (hw.mpr e) q) ?_
    refine kx_goto (tgt := 553) dL_law_549 (by decide) ?_
    refine kx_cM hJ1 (D_prune l hR hJ1 hn w) (pvI.i _) (pvI.i _) dL_law_553 cl_L_71 rfl rfl rfl ⟨Nat.le_of_ble_eq_true rfl, Nat.le_of_ble_eq_true rfl, (by show ((100 + 40 * n) + 0) + 0 ≤ 600000; omega), (by show ((20000 + 120 * n) + 0) + 0 ≤ 7302250; omega)⟩ hb1 (fun ad2 κ2 hb2 hM2 hR2 => ?_)
    refine kx_icmp_eq (tgt := 1057) dL_law_556 (by decide) (fun _ => ?_) (fun q => absurd rfl q)
    exact kx_wid (by show (((100 + 40 * n) + 0) + 0) ≤ 100 + 40 * (n + 1); omega) (by show (((20000 + 120 * n) + 0) + 0) ≤ 20000 + 120 * (n + 1); omega) (next ad2 _ k1 κ2 hb2 ⟨hJ1, hM2, hR2.k e1 e2⟩)
set_option maxHeartbeats 4000000 in
theorem lb_prune {b L n : Nat} {xs : Nat → Int32} {s : SG} {k κ : KG} (hX : ∀ s, Xp s → va_X b L xs s s.heap ∧ b < s.heap.size ∧ ¬ A b) (hL : L < 2 ^ 31) (hi : 1 + 5 * n + 5 ≤ L) (hn : n ≤ 511) (hb : ad (50, 0) = b) (hR : LR n s k κ)
    (next : ∀ (ad' : KK → Nat) (S : SG) (k' κ' : KG), ad' (50, 0) = b → LR (n + 1) S k' κ' → lG l D nm A Xp ad' (kw_un (hC S k') (hM S κ')) (100 + 40 * (n + 1)) (20000 + 120 * (n + 1)) 1057 (lvS n) []) : lG l D nm A Xp ad (kw_un (hC s k) (hM s κ)) (100 + 40 * n) (20000 + 120 * n) 522 (lvS n) [] := by
  refine kx_aload_n dL_law_522 rfl ?_
  refine kx_aload_n dL_law_523 rfl ?_
  refine kx_iload_n dL_law_524 rfl ?_
  refine kx_iconst (v := nI 1) dL_law_525 rfl ?_
  refine kx_iadd dL_law_526 ?_
  refine kx_top (congrArg pi_ (nI_add (1 + 5 * n) 1)) ?_
  refine kx_iald hX hb (j := 1 + 5 * n + 1) dL_law_527 (by omega) hL ?_
  refine kx_if_eq (tgt := 535) dL_law_528 (by decide) (fun q => ?_) (fun q => ?_)
  · refine kx_iconst (v := b2 false) dL_law_535 rfl ?_
    exact lb_prune1 false hX hL hi hn hb hR ⟨fun _ => rfl, fun _ => q⟩ next
  · refine kx_iconst (v := b2 true) dL_law_531 rfl ?_
    refine kx_goto (tgt := 536) dL_law_532 (by decide) ?_
    exact lb_prune1 true hX hL hi hn hb hR ⟨fun z => absurd z q, fun z => Bool.noConfusion z⟩ next
set_option maxHeartbeats 4000000 in
theorem lb_sweep {b L n : Nat} {xs : Nat → Int32} {s : SG} {k κ : KG} (hX : ∀ s, Xp s → va_X b L xs s s.heap ∧ b < s.heap.size ∧ ¬ A b) (hL : L < 2 ^ 31) (hi : 1 + 5 * n + 5 ≤ L) (hn : n ≤ 511) (hb : ad (50, 0) = b) (hR : LR n s k κ)
    (next : ∀ (ad' : KK → Nat) (S : SG) (k' κ' : KG), ad' (50, 0) = b → LR (n + 1) S k' κ' → lG l D nm A Xp ad' (kw_un (hC S k') (hM S κ')) (100 + 40 * (n + 1)) (20000 + 120 * (n + 1)) 1057 (lvS n) []) : lG l D nm A Xp ad (kw_un (hC s k) (hM s κ)) (100 + 40 * n) (20000 + 120 * n) 561 (lvS n) [] := by
  refine kx_aload_n dL_law_561 rfl ?_
  refine kx_cC (C_sweep l κ hR.1 hn ) (pvI.i _) dL_law_562 cl_L_72 rfl rfl rfl ⟨Nat.le_of_ble_eq_true rfl, Nat.le_of_ble_eq_true rfl, (by show (100 + 40 * n) + 0 ≤ 600000; omega), (by show (20000 + 120 * n) + 0 ≤ 7302250; omega)⟩ hb (fun ad1 k1 hb1 hJ1 e1 e2 => ?_)
  refine kx_aload_n dL_law_565 rfl ?_
  refine kx_cM hJ1 (D_sweep l hR hJ1 hn ) (pvI.i _) (pvI.i _) dL_law_566 cl_L_76 rfl rfl rfl ⟨Nat.le_of_ble_eq_true rfl, Nat.le_of_ble_eq_true rfl, (by show ((100 + 40 * n) + 0) + 0 ≤ 600000; omega), (by show ((20000 + 120 * n) + 0) + 0 ≤ 7302250; omega)⟩ hb1 (fun ad2 κ2 hb2 hM2 hR2 => ?_)
  refine kx_icmp_eq (tgt := 1057) dL_law_569 (by decide) (fun _ => ?_) (fun q => absurd rfl q)
  exact kx_wid (by show (((100 + 40 * n) + 0) + 0) ≤ 100 + 40 * (n + 1); omega) (by show (((20000 + 120 * n) + 0) + 0) ≤ 20000 + 120 * (n + 1); omega) (next ad2 _ k1 κ2 hb2 ⟨hJ1, hM2, hR2.k e1 e2⟩)
set_option maxHeartbeats 4000000 in
theorem lb_step {b L n : Nat} {xs : Nat → Int32} {s : SG} {k κ : KG} (hX : ∀ s, Xp s → va_X b L xs s s.heap ∧ b < s.heap.size ∧ ¬ A b) (hL : L < 2 ^ 31) (hi : 1 + 5 * n + 5 ≤ L) (hn : n ≤ 511) (hb : ad (50, 0) = b) (hR : LR n s k κ)
    (next : ∀ (ad' : KK → Nat) (S : SG) (k' κ' : KG), ad' (50, 0) = b → LR (n + 1) S k' κ' → lG l D nm A Xp ad' (kw_un (hC S k') (hM S κ')) (100 + 40 * (n + 1)) (20000 + 120 * (n + 1)) 1057 (lvS n) []) : lG l D nm A Xp ad (kw_un (hC s k) (hM s κ)) (100 + 40 * n) (20000 + 120 * n) 574 (lvS n) [] := by
  refine kx_aload_n dL_law_574 rfl ?_
  refine kx_aload_n dL_law_575 rfl ?_
  refine kx_iload_n dL_law_576 rfl ?_
  refine kx_iconst (v := nI 1) dL_law_577 rfl ?_
  refine kx_iadd dL_law_578 ?_
  refine kx_top (congrArg pi_ (nI_add (1 + 5 * n) 1)) ?_
  refine kx_iald hX hb (j := 1 + 5 * n + 1) dL_law_579 (by omega) hL ?_
  refine kx_cC (C_step l κ hR.1 hn (xs (1 + 5 * n + 1))) (pvI.i _) dL_law_580 cl_L_77 rfl rfl rfl ⟨Nat.le_of_ble_eq_true rfl, Nat.le_of_ble_eq_true rfl, (by show (100 + 40 * n) + 40 ≤ 600000; omega), (by show (20000 + 120 * n) + 120 ≤ 7302250; omega)⟩ hb (fun ad1 k1 hb1 hJ1 e1 e2 => ?_)
  refine kx_aload_n dL_law_583 rfl ?_
  refine kx_aload_n dL_law_584 rfl ?_
  refine kx_iload_n dL_law_585 rfl ?_
  refine kx_iconst (v := nI 1) dL_law_586 rfl ?_
  refine kx_iadd dL_law_587 ?_
  refine kx_top (congrArg pi_ (nI_add (1 + 5 * n) 1)) ?_
  refine kx_iald hX hb1 (j := 1 + 5 * n + 1) dL_law_588 (by omega) hL ?_
  refine kx_cM hJ1 (D_step l hR hJ1 hn (xs (1 + 5 * n + 1))) (pvI.i _) (pvI.i _) dL_law_589 cl_L_80 rfl rfl rfl ⟨Nat.le_of_ble_eq_true rfl, Nat.le_of_ble_eq_true rfl, (by show ((100 + 40 * n) + 40) + 0 ≤ 600000; omega), (by show ((20000 + 120 * n) + 120) + 0 ≤ 7302250; omega)⟩ hb1 (fun ad2 κ2 hb2 hM2 hR2 => ?_)
  refine kx_icmp_eq (tgt := 1057) dL_law_592 (by decide) (fun _ => ?_) (fun q => absurd rfl q)
  exact kx_wid (by show (((100 + 40 * n) + 40) + 0) ≤ 100 + 40 * (n + 1); omega) (by show (((20000 + 120 * n) + 120) + 0) ≤ 20000 + 120 * (n + 1); omega) (next ad2 _ k1 κ2 hb2 ⟨hJ1, hM2, hR2.k e1 e2⟩)
set_option maxHeartbeats 4000000 in
theorem lb_share {b L n : Nat} {xs : Nat → Int32} {s : SG} {k κ : KG} (hX : ∀ s, Xp s → va_X b L xs s s.heap ∧ b < s.heap.size ∧ ¬ A b) (hL : L < 2 ^ 31) (hi : 1 + 5 * n + 5 ≤ L) (hn : n ≤ 511) (hb : ad (50, 0) = b) (hR : LR n s k κ)
    (next : ∀ (ad' : KK → Nat) (S : SG) (k' κ' : KG), ad' (50, 0) = b → LR (n + 1) S k' κ' → lG l D nm A Xp ad' (kw_un (hC S k') (hM S κ')) (100 + 40 * (n + 1)) (20000 + 120 * (n + 1)) 1057 (lvS n) []) : lG l D nm A Xp ad (kw_un (hC s k) (hM s κ)) (100 + 40 * n) (20000 + 120 * n) 597 (lvS n) [] := by
  refine kx_aload_n dL_law_597 rfl ?_
  refine kx_aload_n dL_law_598 rfl ?_
  refine kx_iload_n dL_law_599 rfl ?_
  refine kx_iconst (v := nI 1) dL_law_600 rfl ?_
  refine kx_iadd dL_law_601 ?_
  refine kx_top (congrArg pi_ (nI_add (1 + 5 * n) 1)) ?_
  refine kx_iald hX hb (j := 1 + 5 * n + 1) dL_law_602 (by omega) hL ?_
  refine kx_cC (C_share l κ hR.1 hn (xs (1 + 5 * n + 1))) (pvI.i _) dL_law_603 cl_L_81 rfl rfl rfl ⟨Nat.le_of_ble_eq_true rfl, Nat.le_of_ble_eq_true rfl, (by show (100 + 40 * n) + 0 ≤ 600000; omega), (by show (20000 + 120 * n) + 0 ≤ 7302250; omega)⟩ hb (fun ad1 k1 hb1 hJ1 e1 e2 => ?_)
  refine kx_aload_n dL_law_606 rfl ?_
  refine kx_aload_n dL_law_607 rfl ?_
  refine kx_iload_n dL_law_608 rfl ?_
  refine kx_iconst (v := nI 1) dL_law_609 rfl ?_
  refine kx_iadd dL_law_610 ?_
  refine kx_top (congrArg pi_ (nI_add (1 + 5 * n) 1)) ?_
  refine kx_iald hX hb1 (j := 1 + 5 * n + 1) dL_law_611 (by omega) hL ?_
  refine kx_cM hJ1 (D_share l hR hJ1 hn (xs (1 + 5 * n + 1))) (pvI.i _) (pvI.i _) dL_law_612 cl_L_84 rfl rfl rfl ⟨Nat.le_of_ble_eq_true rfl, Nat.le_of_ble_eq_true rfl, (by show ((100 + 40 * n) + 0) + 0 ≤ 600000; omega), (by show ((20000 + 120 * n) + 0) + 0 ≤ 7302250; omega)⟩ hb1 (fun ad2 κ2 hb2 hM2 hR2 => ?_)
  refine kx_icmp_eq (tgt := 1057) dL_law_615 (by decide) (fun _ => ?_) (fun q => absurd rfl q)
  exact kx_wid (by show (((100 + 40 * n) + 0) + 0) ≤ 100 + 40 * (n + 1); omega) (by show (((20000 + 120 * n) + 0) + 0) ≤ 20000 + 120 * (n + 1); omega) (next ad2 _ k1 κ2 hb2 ⟨hJ1, hM2, hR2.k e1 e2⟩)
set_option maxHeartbeats 4000000 in
theorem lb_cut {b L n : Nat} {xs : Nat → Int32} {s : SG} {k κ : KG} (hX : ∀ s, Xp s → va_X b L xs s s.heap ∧ b < s.heap.size ∧ ¬ A b) (hL : L < 2 ^ 31) (hi : 1 + 5 * n + 5 ≤ L) (hn : n ≤ 511) (hb : ad (50, 0) = b) (hR : LR n s k κ)
    (next : ∀ (ad' : KK → Nat) (S : SG) (k' κ' : KG), ad' (50, 0) = b → LR (n + 1) S k' κ' → lG l D nm A Xp ad' (kw_un (hC S k') (hM S κ')) (100 + 40 * (n + 1)) (20000 + 120 * (n + 1)) 1057 (lvS n) []) : lG l D nm A Xp ad (kw_un (hC s k) (hM s κ)) (100 + 40 * n) (20000 + 120 * n) 620 (lvS n) [] := by
  refine kx_aload_n dL_law_620 rfl ?_
  refine kx_aload_n dL_law_621 rfl ?_
  refine kx_iload_n dL_law_622 rfl ?_
  refine kx_iconst (v := nI 1) dL_law_623 rfl ?_
  refine kx_iadd dL_law_624 ?_
  refine kx_top (congrArg pi_ (nI_add (1 + 5 * n) 1)) ?_
  refine kx_iald hX hb (j := 1 + 5 * n + 1) dL_law_625 (by omega) hL ?_
  refine kx_cC (C_cut l κ hR.1 hn (xs (1 + 5 * n + 1))) (pvI.i _) dL_law_626 cl_L_85 rfl rfl rfl ⟨Nat.le_of_ble_eq_true rfl, Nat.le_of_ble_eq_true rfl, (by show (100 + 40 * n) + 0 ≤ 600000; omega), (by show (20000 + 120 * n) + 0 ≤ 7302250; omega)⟩ hb (fun ad1 k1 hb1 hJ1 e1 e2 => ?_)
  refine kx_aload_n dL_law_629 rfl ?_
  refine kx_aload_n dL_law_630 rfl ?_
  refine kx_iload_n dL_law_631 rfl ?_
  refine kx_iconst (v := nI 1) dL_law_632 rfl ?_
  refine kx_iadd dL_law_633 ?_
  refine kx_top (congrArg pi_ (nI_add (1 + 5 * n) 1)) ?_
  refine kx_iald hX hb1 (j := 1 + 5 * n + 1) dL_law_634 (by omega) hL ?_
  refine kx_cM hJ1 (D_cut l hR hJ1 hn (xs (1 + 5 * n + 1))) (pvI.i _) (pvI.i _) dL_law_635 cl_L_88 rfl rfl rfl ⟨Nat.le_of_ble_eq_true rfl, Nat.le_of_ble_eq_true rfl, (by show ((100 + 40 * n) + 0) + 0 ≤ 600000; omega), (by show ((20000 + 120 * n) + 0) + 0 ≤ 7302250; omega)⟩ hb1 (fun ad2 κ2 hb2 hM2 hR2 => ?_)
  refine kx_icmp_eq (tgt := 1057) dL_law_638 (by decide) (fun _ => ?_) (fun q => absurd rfl q)
  exact kx_wid (by show (((100 + 40 * n) + 0) + 0) ≤ 100 + 40 * (n + 1); omega) (by show (((20000 + 120 * n) + 0) + 0) ≤ 20000 + 120 * (n + 1); omega) (next ad2 _ k1 κ2 hb2 ⟨hJ1, hM2, hR2.k e1 e2⟩)
set_option maxHeartbeats 4000000 in
theorem lb_open {b L n : Nat} {xs : Nat → Int32} {s : SG} {k κ : KG} (hX : ∀ s, Xp s → va_X b L xs s s.heap ∧ b < s.heap.size ∧ ¬ A b) (hL : L < 2 ^ 31) (hi : 1 + 5 * n + 5 ≤ L) (hn : n ≤ 511) (hb : ad (50, 0) = b) (hR : LR n s k κ)
    (next : ∀ (ad' : KK → Nat) (S : SG) (k' κ' : KG), ad' (50, 0) = b → LR (n + 1) S k' κ' → lG l D nm A Xp ad' (kw_un (hC S k') (hM S κ')) (100 + 40 * (n + 1)) (20000 + 120 * (n + 1)) 1057 (lvS n) []) : lG l D nm A Xp ad (kw_un (hC s k) (hM s κ)) (100 + 40 * n) (20000 + 120 * n) 643 (lvS n) [] := by
  refine kx_aload_n dL_law_643 rfl ?_
  refine kx_cC (C_open l κ hR.1 hn ) (pvI.i _) dL_law_644 cl_L_89 rfl rfl rfl ⟨Nat.le_of_ble_eq_true rfl, Nat.le_of_ble_eq_true rfl, (by show (100 + 40 * n) + 0 ≤ 600000; omega), (by show (20000 + 120 * n) + 0 ≤ 7302250; omega)⟩ hb (fun ad1 k1 hb1 hJ1 e1 e2 => ?_)
  refine kx_aload_n dL_law_647 rfl ?_
  refine kx_cM hJ1 (D_open l hR hJ1 hn ) (pvI.i _) (pvI.i _) dL_law_648 cl_L_92 rfl rfl rfl ⟨Nat.le_of_ble_eq_true rfl, Nat.le_of_ble_eq_true rfl, (by show ((100 + 40 * n) + 0) + 0 ≤ 600000; omega), (by show ((20000 + 120 * n) + 0) + 0 ≤ 7302250; omega)⟩ hb1 (fun ad2 κ2 hb2 hM2 hR2 => ?_)
  refine kx_icmp_eq (tgt := 1057) dL_law_651 (by decide) (fun _ => ?_) (fun q => absurd rfl q)
  exact kx_wid (by show (((100 + 40 * n) + 0) + 0) ≤ 100 + 40 * (n + 1); omega) (by show (((20000 + 120 * n) + 0) + 0) ≤ 20000 + 120 * (n + 1); omega) (next ad2 _ k1 κ2 hb2 ⟨hJ1, hM2, hR2.k e1 e2⟩)
set_option maxHeartbeats 4000000 in
theorem lb_follow {b L n : Nat} {xs : Nat → Int32} {s : SG} {k κ : KG} (hX : ∀ s, Xp s → va_X b L xs s s.heap ∧ b < s.heap.size ∧ ¬ A b) (hL : L < 2 ^ 31) (hi : 1 + 5 * n + 5 ≤ L) (hn : n ≤ 511) (hb : ad (50, 0) = b) (hR : LR n s k κ)
    (next : ∀ (ad' : KK → Nat) (S : SG) (k' κ' : KG), ad' (50, 0) = b → LR (n + 1) S k' κ' → lG l D nm A Xp ad' (kw_un (hC S k') (hM S κ')) (100 + 40 * (n + 1)) (20000 + 120 * (n + 1)) 1057 (lvS n) []) : lG l D nm A Xp ad (kw_un (hC s k) (hM s κ)) (100 + 40 * n) (20000 + 120 * n) 656 (lvS n) [] := by
  refine kx_aload_n dL_law_656 rfl ?_
  refine kx_aload_n dL_law_657 rfl ?_
  refine kx_iload_n dL_law_658 rfl ?_
  refine kx_iconst (v := nI 1) dL_law_659 rfl ?_
  refine kx_iadd dL_law_660 ?_
  refine kx_top (congrArg pi_ (nI_add (1 + 5 * n) 1)) ?_
  refine kx_iald hX hb (j := 1 + 5 * n + 1) dL_law_661 (by omega) hL ?_
  refine kx_aload_n dL_law_662 rfl ?_
  refine kx_iload_n dL_law_663 rfl ?_
  refine kx_iconst (v := nI 2) dL_law_664 rfl ?_
  refine kx_iadd dL_law_665 ?_
  refine kx_top (congrArg pi_ (nI_add (1 + 5 * n) 2)) ?_
  refine kx_iald hX hb (j := 1 + 5 * n + 2) dL_law_666 (by omega) hL ?_
  refine kx_cC (C_follow l κ hR.1 hn (xs (1 + 5 * n + 1)) (xs (1 + 5 * n + 2))) (pvI.i _) dL_law_667 cl_L_93 rfl rfl rfl ⟨Nat.le_of_ble_eq_true rfl, Nat.le_of_ble_eq_true rfl, (by show (100 + 40 * n) + 0 ≤ 600000; omega), (by show (20000 + 120 * n) + 0 ≤ 7302250; omega)⟩ hb (fun ad1 k1 hb1 hJ1 e1 e2 => ?_)
  refine kx_aload_n dL_law_670 rfl ?_
  refine kx_aload_n dL_law_671 rfl ?_
  refine kx_iload_n dL_law_672 rfl ?_
  refine kx_iconst (v := nI 1) dL_law_673 rfl ?_
  refine kx_iadd dL_law_674 ?_
  refine kx_top (congrArg pi_ (nI_add (1 + 5 * n) 1)) ?_
  refine kx_iald hX hb1 (j := 1 + 5 * n + 1) dL_law_675 (by omega) hL ?_
  refine kx_aload_n dL_law_676 rfl ?_
  refine kx_iload_n dL_law_677 rfl ?_
  refine kx_iconst (v := nI 2) dL_law_678 rfl ?_
  refine kx_iadd dL_law_679 ?_
  refine kx_top (congrArg pi_ (nI_add (1 + 5 * n) 2)) ?_
  refine kx_iald hX hb1 (j := 1 + 5 * n + 2) dL_law_680 (by omega) hL ?_
  refine kx_cM hJ1 (D_follow l hR hJ1 hn (xs (1 + 5 * n + 1)) (xs (1 + 5 * n + 2))) (pvI.i _) (pvI.i _) dL_law_681 cl_L_96 rfl rfl rfl ⟨Nat.le_of_ble_eq_true rfl, Nat.le_of_ble_eq_true rfl, (by show ((100 + 40 * n) + 0) + 0 ≤ 600000; omega), (by show ((20000 + 120 * n) + 0) + 0 ≤ 7302250; omega)⟩ hb1 (fun ad2 κ2 hb2 hM2 hR2 => ?_)
  refine kx_icmp_eq (tgt := 1057) dL_law_684 (by decide) (fun _ => ?_) (fun q => absurd rfl q)
  exact kx_wid (by show (((100 + 40 * n) + 0) + 0) ≤ 100 + 40 * (n + 1); omega) (by show (((20000 + 120 * n) + 0) + 0) ≤ 20000 + 120 * (n + 1); omega) (next ad2 _ k1 κ2 hb2 ⟨hJ1, hM2, hR2.k e1 e2⟩)
set_option maxHeartbeats 4000000 in
theorem lb_count {b L n : Nat} {xs : Nat → Int32} {s : SG} {k κ : KG} (hX : ∀ s, Xp s → va_X b L xs s s.heap ∧ b < s.heap.size ∧ ¬ A b) (hL : L < 2 ^ 31) (hi : 1 + 5 * n + 5 ≤ L) (hn : n ≤ 511) (hb : ad (50, 0) = b) (hR : LR n s k κ)
    (next : ∀ (ad' : KK → Nat) (S : SG) (k' κ' : KG), ad' (50, 0) = b → LR (n + 1) S k' κ' → lG l D nm A Xp ad' (kw_un (hC S k') (hM S κ')) (100 + 40 * (n + 1)) (20000 + 120 * (n + 1)) 1057 (lvS n) []) : lG l D nm A Xp ad (kw_un (hC s k) (hM s κ)) (100 + 40 * n) (20000 + 120 * n) 689 (lvS n) [] := by
  refine kx_aload_n dL_law_689 rfl ?_
  refine kx_aload_n dL_law_690 rfl ?_
  refine kx_iload_n dL_law_691 rfl ?_
  refine kx_iconst (v := nI 1) dL_law_692 rfl ?_
  refine kx_iadd dL_law_693 ?_
  refine kx_top (congrArg pi_ (nI_add (1 + 5 * n) 1)) ?_
  refine kx_iald hX hb (j := 1 + 5 * n + 1) dL_law_694 (by omega) hL ?_
  refine kx_cC (C_count l κ hR.1 hn (xs (1 + 5 * n + 1))) (pvI.i _) dL_law_695 cl_L_97 rfl rfl rfl ⟨Nat.le_of_ble_eq_true rfl, Nat.le_of_ble_eq_true rfl, (by show (100 + 40 * n) + 0 ≤ 600000; omega), (by show (20000 + 120 * n) + 0 ≤ 7302250; omega)⟩ hb (fun ad1 k1 hb1 hJ1 e1 e2 => ?_)
  refine kx_aload_n dL_law_698 rfl ?_
  refine kx_aload_n dL_law_699 rfl ?_
  refine kx_iload_n dL_law_700 rfl ?_
  refine kx_iconst (v := nI 1) dL_law_701 rfl ?_
  refine kx_iadd dL_law_702 ?_
  refine kx_top (congrArg pi_ (nI_add (1 + 5 * n) 1)) ?_
  refine kx_iald hX hb1 (j := 1 + 5 * n + 1) dL_law_703 (by omega) hL ?_
  refine kx_cM hJ1 (D_count l hR hJ1 hn (xs (1 + 5 * n + 1))) (pvI.i _) (pvI.i _) dL_law_704 cl_L_100 rfl rfl rfl ⟨Nat.le_of_ble_eq_true rfl, Nat.le_of_ble_eq_true rfl, (by show ((100 + 40 * n) + 0) + 0 ≤ 600000; omega), (by show ((20000 + 120 * n) + 0) + 0 ≤ 7302250; omega)⟩ hb1 (fun ad2 κ2 hb2 hM2 hR2 => ?_)
  refine kx_icmp_eq (tgt := 1057) dL_law_707 (by decide) (fun _ => ?_) (fun q => absurd rfl q)
  exact kx_wid (by show (((100 + 40 * n) + 0) + 0) ≤ 100 + 40 * (n + 1); omega) (by show (((20000 + 120 * n) + 0) + 0) ≤ 20000 + 120 * (n + 1); omega) (next ad2 _ k1 κ2 hb2 ⟨hJ1, hM2, hR2.k e1 e2⟩)
set_option maxHeartbeats 4000000 in
theorem lb_block {b L n : Nat} {xs : Nat → Int32} {s : SG} {k κ : KG} (hX : ∀ s, Xp s → va_X b L xs s s.heap ∧ b < s.heap.size ∧ ¬ A b) (hL : L < 2 ^ 31) (hi : 1 + 5 * n + 5 ≤ L) (hn : n ≤ 511) (hb : ad (50, 0) = b) (hR : LR n s k κ)
    (next : ∀ (ad' : KK → Nat) (S : SG) (k' κ' : KG), ad' (50, 0) = b → LR (n + 1) S k' κ' → lG l D nm A Xp ad' (kw_un (hC S k') (hM S κ')) (100 + 40 * (n + 1)) (20000 + 120 * (n + 1)) 1057 (lvS n) []) : lG l D nm A Xp ad (kw_un (hC s k) (hM s κ)) (100 + 40 * n) (20000 + 120 * n) 712 (lvS n) [] := by
  refine kx_aload_n dL_law_712 rfl ?_
  refine kx_aload_n dL_law_713 rfl ?_
  refine kx_iload_n dL_law_714 rfl ?_
  refine kx_iconst (v := nI 1) dL_law_715 rfl ?_
  refine kx_iadd dL_law_716 ?_
  refine kx_top (congrArg pi_ (nI_add (1 + 5 * n) 1)) ?_
  refine kx_iald hX hb (j := 1 + 5 * n + 1) dL_law_717 (by omega) hL ?_
  refine kx_aload_n dL_law_718 rfl ?_
  refine kx_iload_n dL_law_719 rfl ?_
  refine kx_iconst (v := nI 2) dL_law_720 rfl ?_
  refine kx_iadd dL_law_721 ?_
  refine kx_top (congrArg pi_ (nI_add (1 + 5 * n) 2)) ?_
  refine kx_iald hX hb (j := 1 + 5 * n + 2) dL_law_722 (by omega) hL ?_
  refine kx_cC (C_block l κ hR.1 hn (xs (1 + 5 * n + 1)) (xs (1 + 5 * n + 2))) (pvI.i _) dL_law_723 cl_L_101 rfl rfl rfl ⟨Nat.le_of_ble_eq_true rfl, Nat.le_of_ble_eq_true rfl, (by show (100 + 40 * n) + 0 ≤ 600000; omega), (by show (20000 + 120 * n) + 0 ≤ 7302250; omega)⟩ hb (fun ad1 k1 hb1 hJ1 e1 e2 => ?_)
  refine kx_aload_n dL_law_726 rfl ?_
  refine kx_aload_n dL_law_727 rfl ?_
  refine kx_iload_n dL_law_728 rfl ?_
  refine kx_iconst (v := nI 1) dL_law_729 rfl ?_
  refine kx_iadd dL_law_730 ?_
  refine kx_top (congrArg pi_ (nI_add (1 + 5 * n) 1)) ?_
  refine kx_iald hX hb1 (j := 1 + 5 * n + 1) dL_law_731 (by omega) hL ?_
  refine kx_aload_n dL_law_732 rfl ?_
  refine kx_iload_n dL_law_733 rfl ?_
  refine kx_iconst (v := nI 2) dL_law_734 rfl ?_
  refine kx_iadd dL_law_735 ?_
  refine kx_top (congrArg pi_ (nI_add (1 + 5 * n) 2)) ?_
  refine kx_iald hX hb1 (j := 1 + 5 * n + 2) dL_law_736 (by omega) hL ?_
  refine kx_cM hJ1 (D_block l hR hJ1 hn (xs (1 + 5 * n + 1)) (xs (1 + 5 * n + 2))) (pvI.i _) (pvI.i _) dL_law_737 cl_L_104 rfl rfl rfl ⟨Nat.le_of_ble_eq_true rfl, Nat.le_of_ble_eq_true rfl, (by show ((100 + 40 * n) + 0) + 0 ≤ 600000; omega), (by show ((20000 + 120 * n) + 0) + 0 ≤ 7302250; omega)⟩ hb1 (fun ad2 κ2 hb2 hM2 hR2 => ?_)
  refine kx_icmp_eq (tgt := 1057) dL_law_740 (by decide) (fun _ => ?_) (fun q => absurd rfl q)
  exact kx_wid (by show (((100 + 40 * n) + 0) + 0) ≤ 100 + 40 * (n + 1); omega) (by show (((20000 + 120 * n) + 0) + 0) ≤ 20000 + 120 * (n + 1); omega) (next ad2 _ k1 κ2 hb2 ⟨hJ1, hM2, hR2.k e1 e2⟩)
set_option maxHeartbeats 4000000 in
theorem lb_key {b L n : Nat} {xs : Nat → Int32} {s : SG} {k κ : KG} (hX : ∀ s, Xp s → va_X b L xs s s.heap ∧ b < s.heap.size ∧ ¬ A b) (hL : L < 2 ^ 31) (hi : 1 + 5 * n + 5 ≤ L) (hn : n ≤ 511) (hb : ad (50, 0) = b) (hR : LR n s k κ)
    (next : ∀ (ad' : KK → Nat) (S : SG) (k' κ' : KG), ad' (50, 0) = b → LR (n + 1) S k' κ' → lG l D nm A Xp ad' (kw_un (hC S k') (hM S κ')) (100 + 40 * (n + 1)) (20000 + 120 * (n + 1)) 1057 (lvS n) []) : lG l D nm A Xp ad (kw_un (hC s k) (hM s κ)) (100 + 40 * n) (20000 + 120 * n) 745 (lvS n) [] := by
  refine kx_aload_n dL_law_745 rfl ?_
  refine kx_aload_n dL_law_746 rfl ?_
  refine kx_iload_n dL_law_747 rfl ?_
  refine kx_iconst (v := nI 1) dL_law_748 rfl ?_
  refine kx_iadd dL_law_749 ?_
  refine kx_top (congrArg pi_ (nI_add (1 + 5 * n) 1)) ?_
  refine kx_iald hX hb (j := 1 + 5 * n + 1) dL_law_750 (by omega) hL ?_
  refine kx_cC (C_key l κ hR.1 hn (xs (1 + 5 * n + 1))) (pvI.l _) dL_law_751 cl_L_105 rfl rfl rfl ⟨Nat.le_of_ble_eq_true rfl, Nat.le_of_ble_eq_true rfl, (by show (100 + 40 * n) + 0 ≤ 600000; omega), (by show (20000 + 120 * n) + 0 ≤ 7302250; omega)⟩ hb (fun ad1 k1 hb1 hJ1 e1 e2 => ?_)
  refine kx_aload_n dL_law_754 rfl ?_
  refine kx_aload_n dL_law_755 rfl ?_
  refine kx_iload_n dL_law_756 rfl ?_
  refine kx_iconst (v := nI 1) dL_law_757 rfl ?_
  refine kx_iadd dL_law_758 ?_
  refine kx_top (congrArg pi_ (nI_add (1 + 5 * n) 1)) ?_
  refine kx_iald hX hb1 (j := 1 + 5 * n + 1) dL_law_759 (by omega) hL ?_
  refine kx_cM hJ1 (D_key l hR hJ1 hn (xs (1 + 5 * n + 1))) (pvI.l _) (pvI.l _) dL_law_760 cl_L_109 rfl rfl rfl ⟨Nat.le_of_ble_eq_true rfl, Nat.le_of_ble_eq_true rfl, (by show ((100 + 40 * n) + 0) + 0 ≤ 600000; omega), (by show ((20000 + 120 * n) + 0) + 0 ≤ 7302250; omega)⟩ hb1 (fun ad2 κ2 hb2 hM2 hR2 => ?_)
  refine kx_lcmp dL_law_763 ?_
  refine kx_if_eq (tgt := 1057) dL_law_764 (by decide) (fun _ => ?_) (fun q => absurd (lg_cmp_rf _) q)
  exact kx_wid (by show (((100 + 40 * n) + 0) + 0) ≤ 100 + 40 * (n + 1); omega) (by show (((20000 + 120 * n) + 0) + 0) ≤ 20000 + 120 * (n + 1); omega) (next ad2 _ k1 κ2 hb2 ⟨hJ1, hM2, hR2.k e1 e2⟩)
set_option maxHeartbeats 4000000 in
theorem lb_pack {b L n : Nat} {xs : Nat → Int32} {s : SG} {k κ : KG} (hX : ∀ s, Xp s → va_X b L xs s s.heap ∧ b < s.heap.size ∧ ¬ A b) (hL : L < 2 ^ 31) (hi : 1 + 5 * n + 5 ≤ L) (hn : n ≤ 511) (hb : ad (50, 0) = b) (hR : LR n s k κ)
    (next : ∀ (ad' : KK → Nat) (S : SG) (k' κ' : KG), ad' (50, 0) = b → LR (n + 1) S k' κ' → lG l D nm A Xp ad' (kw_un (hC S k') (hM S κ')) (100 + 40 * (n + 1)) (20000 + 120 * (n + 1)) 1057 (lvS n) []) : lG l D nm A Xp ad (kw_un (hC s k) (hM s κ)) (100 + 40 * n) (20000 + 120 * n) 769 (lvS n) [] := by
  refine kx_aload_n dL_law_769 rfl ?_
  refine kx_aload_n dL_law_770 rfl ?_
  refine kx_iload_n dL_law_771 rfl ?_
  refine kx_iconst (v := nI 1) dL_law_772 rfl ?_
  refine kx_iadd dL_law_773 ?_
  refine kx_top (congrArg pi_ (nI_add (1 + 5 * n) 1)) ?_
  refine kx_iald hX hb (j := 1 + 5 * n + 1) dL_law_774 (by omega) hL ?_
  refine kx_aload_n dL_law_775 rfl ?_
  refine kx_iload_n dL_law_776 rfl ?_
  refine kx_iconst (v := nI 2) dL_law_777 rfl ?_
  refine kx_iadd dL_law_778 ?_
  refine kx_top (congrArg pi_ (nI_add (1 + 5 * n) 2)) ?_
  refine kx_iald hX hb (j := 1 + 5 * n + 2) dL_law_779 (by omega) hL ?_
  refine kx_cC (C_pack l κ hR.1 hn (xs (1 + 5 * n + 1)) (xs (1 + 5 * n + 2))) (pvI.i _) dL_law_780 cl_L_110 rfl rfl rfl ⟨Nat.le_of_ble_eq_true rfl, Nat.le_of_ble_eq_true rfl, (by show (100 + 40 * n) + 0 ≤ 600000; omega), (by show (20000 + 120 * n) + 0 ≤ 7302250; omega)⟩ hb (fun ad1 k1 hb1 hJ1 e1 e2 => ?_)
  refine kx_aload_n dL_law_783 rfl ?_
  refine kx_aload_n dL_law_784 rfl ?_
  refine kx_iload_n dL_law_785 rfl ?_
  refine kx_iconst (v := nI 1) dL_law_786 rfl ?_
  refine kx_iadd dL_law_787 ?_
  refine kx_top (congrArg pi_ (nI_add (1 + 5 * n) 1)) ?_
  refine kx_iald hX hb1 (j := 1 + 5 * n + 1) dL_law_788 (by omega) hL ?_
  refine kx_aload_n dL_law_789 rfl ?_
  refine kx_iload_n dL_law_790 rfl ?_
  refine kx_iconst (v := nI 2) dL_law_791 rfl ?_
  refine kx_iadd dL_law_792 ?_
  refine kx_top (congrArg pi_ (nI_add (1 + 5 * n) 2)) ?_
  refine kx_iald hX hb1 (j := 1 + 5 * n + 2) dL_law_793 (by omega) hL ?_
  refine kx_cM hJ1 (D_pack l hR hJ1 hn (xs (1 + 5 * n + 1)) (xs (1 + 5 * n + 2))) (pvI.i _) (pvI.i _) dL_law_794 cl_L_113 rfl rfl rfl ⟨Nat.le_of_ble_eq_true rfl, Nat.le_of_ble_eq_true rfl, (by show ((100 + 40 * n) + 0) + 0 ≤ 600000; omega), (by show ((20000 + 120 * n) + 0) + 0 ≤ 7302250; omega)⟩ hb1 (fun ad2 κ2 hb2 hM2 hR2 => ?_)
  refine kx_icmp_eq (tgt := 1057) dL_law_797 (by decide) (fun _ => ?_) (fun q => absurd rfl q)
  exact kx_wid (by show (((100 + 40 * n) + 0) + 0) ≤ 100 + 40 * (n + 1); omega) (by show (((20000 + 120 * n) + 0) + 0) ≤ 20000 + 120 * (n + 1); omega) (next ad2 _ k1 κ2 hb2 ⟨hJ1, hM2, hR2.k e1 e2⟩)
set_option maxHeartbeats 4000000 in
theorem lb_snapshot {b L n : Nat} {xs : Nat → Int32} {s : SG} {k κ : KG} (hX : ∀ s, Xp s → va_X b L xs s s.heap ∧ b < s.heap.size ∧ ¬ A b) (hL : L < 2 ^ 31) (hi : 1 + 5 * n + 5 ≤ L) (hn : n ≤ 511) (hb : ad (50, 0) = b) (hR : LR n s k κ)
    (next : ∀ (ad' : KK → Nat) (S : SG) (k' κ' : KG), ad' (50, 0) = b → LR (n + 1) S k' κ' → lG l D nm A Xp ad' (kw_un (hC S k') (hM S κ')) (100 + 40 * (n + 1)) (20000 + 120 * (n + 1)) 1057 (lvS n) []) : lG l D nm A Xp ad (kw_un (hC s k) (hM s κ)) (100 + 40 * n) (20000 + 120 * n) 802 (lvS n) [] := by
  refine kx_aload_n dL_law_802 rfl ?_
  refine kx_aload_n dL_law_803 rfl ?_
  refine kx_iload_n dL_law_804 rfl ?_
  refine kx_iconst (v := nI 1) dL_law_805 rfl ?_
  refine kx_iadd dL_law_806 ?_
  refine kx_top (congrArg pi_ (nI_add (1 + 5 * n) 1)) ?_
  refine kx_iald hX hb (j := 1 + 5 * n + 1) dL_law_807 (by omega) hL ?_
  refine kx_aload_n dL_law_808 rfl ?_
  refine kx_iload_n dL_law_809 rfl ?_
  refine kx_iconst (v := nI 2) dL_law_810 rfl ?_
  refine kx_iadd dL_law_811 ?_
  refine kx_top (congrArg pi_ (nI_add (1 + 5 * n) 2)) ?_
  refine kx_iald hX hb (j := 1 + 5 * n + 2) dL_law_812 (by omega) hL ?_
  refine kx_cC (C_snapshot l κ hR.1 hn (xs (1 + 5 * n + 1)) (xs (1 + 5 * n + 2))) (pvI.i _) dL_law_813 cl_L_114 rfl rfl rfl ⟨Nat.le_of_ble_eq_true rfl, Nat.le_of_ble_eq_true rfl, (by show (100 + 40 * n) + 0 ≤ 600000; omega), (by show (20000 + 120 * n) + 0 ≤ 7302250; omega)⟩ hb (fun ad1 k1 hb1 hJ1 e1 e2 => ?_)
  refine kx_aload_n dL_law_816 rfl ?_
  refine kx_aload_n dL_law_817 rfl ?_
  refine kx_iload_n dL_law_818 rfl ?_
  refine kx_iconst (v := nI 1) dL_law_819 rfl ?_
  refine kx_iadd dL_law_820 ?_
  refine kx_top (congrArg pi_ (nI_add (1 + 5 * n) 1)) ?_
  refine kx_iald hX hb1 (j := 1 + 5 * n + 1) dL_law_821 (by omega) hL ?_
  refine kx_aload_n dL_law_822 rfl ?_
  refine kx_iload_n dL_law_823 rfl ?_
  refine kx_iconst (v := nI 2) dL_law_824 rfl ?_
  refine kx_iadd dL_law_825 ?_
  refine kx_top (congrArg pi_ (nI_add (1 + 5 * n) 2)) ?_
  refine kx_iald hX hb1 (j := 1 + 5 * n + 2) dL_law_826 (by omega) hL ?_
  refine kx_cM hJ1 (D_snapshot l hR hJ1 hn (xs (1 + 5 * n + 1)) (xs (1 + 5 * n + 2))) (pvI.i _) (pvI.i _) dL_law_827 cl_L_117 rfl rfl rfl ⟨Nat.le_of_ble_eq_true rfl, Nat.le_of_ble_eq_true rfl, (by show ((100 + 40 * n) + 0) + 0 ≤ 600000; omega), (by show ((20000 + 120 * n) + 0) + 0 ≤ 7302250; omega)⟩ hb1 (fun ad2 κ2 hb2 hM2 hR2 => ?_)
  refine kx_icmp_eq (tgt := 1057) dL_law_830 (by decide) (fun _ => ?_) (fun q => absurd rfl q)
  exact kx_wid (by show (((100 + 40 * n) + 0) + 0) ≤ 100 + 40 * (n + 1); omega) (by show (((20000 + 120 * n) + 0) + 0) ≤ 20000 + 120 * (n + 1); omega) (next ad2 _ k1 κ2 hb2 ⟨hJ1, hM2, hR2.k e1 e2⟩)
set_option maxHeartbeats 4000000 in
theorem lb_time {b L n : Nat} {xs : Nat → Int32} {s : SG} {k κ : KG} (hX : ∀ s, Xp s → va_X b L xs s s.heap ∧ b < s.heap.size ∧ ¬ A b) (hL : L < 2 ^ 31) (hi : 1 + 5 * n + 5 ≤ L) (hn : n ≤ 511) (hb : ad (50, 0) = b) (hR : LR n s k κ)
    (next : ∀ (ad' : KK → Nat) (S : SG) (k' κ' : KG), ad' (50, 0) = b → LR (n + 1) S k' κ' → lG l D nm A Xp ad' (kw_un (hC S k') (hM S κ')) (100 + 40 * (n + 1)) (20000 + 120 * (n + 1)) 1057 (lvS n) []) : lG l D nm A Xp ad (kw_un (hC s k) (hM s κ)) (100 + 40 * n) (20000 + 120 * n) 835 (lvS n) [] := by
  refine kx_aload_n dL_law_835 rfl ?_
  refine kx_aload_n dL_law_836 rfl ?_
  refine kx_iload_n dL_law_837 rfl ?_
  refine kx_iconst (v := nI 1) dL_law_838 rfl ?_
  refine kx_iadd dL_law_839 ?_
  refine kx_top (congrArg pi_ (nI_add (1 + 5 * n) 1)) ?_
  refine kx_iald hX hb (j := 1 + 5 * n + 1) dL_law_840 (by omega) hL ?_
  refine kx_cC (C_time l κ hR.1 hn (xs (1 + 5 * n + 1))) (pvI.l _) dL_law_841 cl_L_118 rfl rfl rfl ⟨Nat.le_of_ble_eq_true rfl, Nat.le_of_ble_eq_true rfl, (by show (100 + 40 * n) + 0 ≤ 600000; omega), (by show (20000 + 120 * n) + 0 ≤ 7302250; omega)⟩ hb (fun ad1 k1 hb1 hJ1 e1 e2 => ?_)
  refine kx_aload_n dL_law_844 rfl ?_
  refine kx_aload_n dL_law_845 rfl ?_
  refine kx_iload_n dL_law_846 rfl ?_
  refine kx_iconst (v := nI 1) dL_law_847 rfl ?_
  refine kx_iadd dL_law_848 ?_
  refine kx_top (congrArg pi_ (nI_add (1 + 5 * n) 1)) ?_
  refine kx_iald hX hb1 (j := 1 + 5 * n + 1) dL_law_849 (by omega) hL ?_
  refine kx_cM hJ1 (D_time l hR hJ1 hn (xs (1 + 5 * n + 1))) (pvI.l _) (pvI.l _) dL_law_850 cl_L_121 rfl rfl rfl ⟨Nat.le_of_ble_eq_true rfl, Nat.le_of_ble_eq_true rfl, (by show ((100 + 40 * n) + 0) + 0 ≤ 600000; omega), (by show ((20000 + 120 * n) + 0) + 0 ≤ 7302250; omega)⟩ hb1 (fun ad2 κ2 hb2 hM2 hR2 => ?_)
  refine kx_lcmp dL_law_853 ?_
  refine kx_if_eq (tgt := 1057) dL_law_854 (by decide) (fun _ => ?_) (fun q => absurd (lg_cmp_rf _) q)
  exact kx_wid (by show (((100 + 40 * n) + 0) + 0) ≤ 100 + 40 * (n + 1); omega) (by show (((20000 + 120 * n) + 0) + 0) ≤ 20000 + 120 * (n + 1); omega) (next ad2 _ k1 κ2 hb2 ⟨hJ1, hM2, hR2.k e1 e2⟩)
set_option maxHeartbeats 4000000 in
theorem lb_saver {b L n : Nat} {xs : Nat → Int32} {s : SG} {k κ : KG} (hX : ∀ s, Xp s → va_X b L xs s s.heap ∧ b < s.heap.size ∧ ¬ A b) (hL : L < 2 ^ 31) (hi : 1 + 5 * n + 5 ≤ L) (hn : n ≤ 511) (hb : ad (50, 0) = b) (hR : LR n s k κ)
    (next : ∀ (ad' : KK → Nat) (S : SG) (k' κ' : KG), ad' (50, 0) = b → LR (n + 1) S k' κ' → lG l D nm A Xp ad' (kw_un (hC S k') (hM S κ')) (100 + 40 * (n + 1)) (20000 + 120 * (n + 1)) 1057 (lvS n) []) : lG l D nm A Xp ad (kw_un (hC s k) (hM s κ)) (100 + 40 * n) (20000 + 120 * n) 859 (lvS n) [] := by
  refine kx_aload_n dL_law_859 rfl ?_
  refine kx_aload_n dL_law_860 rfl ?_
  refine kx_iload_n dL_law_861 rfl ?_
  refine kx_iconst (v := nI 1) dL_law_862 rfl ?_
  refine kx_iadd dL_law_863 ?_
  refine kx_top (congrArg pi_ (nI_add (1 + 5 * n) 1)) ?_
  refine kx_iald hX hb (j := 1 + 5 * n + 1) dL_law_864 (by omega) hL ?_
  refine kx_aload_n dL_law_865 rfl ?_
  refine kx_iload_n dL_law_866 rfl ?_
  refine kx_iconst (v := nI 2) dL_law_867 rfl ?_
  refine kx_iadd dL_law_868 ?_
  refine kx_top (congrArg pi_ (nI_add (1 + 5 * n) 2)) ?_
  refine kx_iald hX hb (j := 1 + 5 * n + 2) dL_law_869 (by omega) hL ?_
  refine kx_cC (C_saver l κ hR.1 hn (xs (1 + 5 * n + 1)) (xs (1 + 5 * n + 2))) (pvI.i _) dL_law_870 cl_L_122 rfl rfl rfl ⟨Nat.le_of_ble_eq_true rfl, Nat.le_of_ble_eq_true rfl, (by show (100 + 40 * n) + 0 ≤ 600000; omega), (by show (20000 + 120 * n) + 0 ≤ 7302250; omega)⟩ hb (fun ad1 k1 hb1 hJ1 e1 e2 => ?_)
  refine kx_aload_n dL_law_873 rfl ?_
  refine kx_aload_n dL_law_874 rfl ?_
  refine kx_iload_n dL_law_875 rfl ?_
  refine kx_iconst (v := nI 1) dL_law_876 rfl ?_
  refine kx_iadd dL_law_877 ?_
  refine kx_top (congrArg pi_ (nI_add (1 + 5 * n) 1)) ?_
  refine kx_iald hX hb1 (j := 1 + 5 * n + 1) dL_law_878 (by omega) hL ?_
  refine kx_aload_n dL_law_879 rfl ?_
  refine kx_iload_n dL_law_880 rfl ?_
  refine kx_iconst (v := nI 2) dL_law_881 rfl ?_
  refine kx_iadd dL_law_882 ?_
  refine kx_top (congrArg pi_ (nI_add (1 + 5 * n) 2)) ?_
  refine kx_iald hX hb1 (j := 1 + 5 * n + 2) dL_law_883 (by omega) hL ?_
  refine kx_cM hJ1 (D_saver l hR hJ1 hn (xs (1 + 5 * n + 1)) (xs (1 + 5 * n + 2))) (pvI.i _) (pvI.i _) dL_law_884 cl_L_125 rfl rfl rfl ⟨Nat.le_of_ble_eq_true rfl, Nat.le_of_ble_eq_true rfl, (by show ((100 + 40 * n) + 0) + 0 ≤ 600000; omega), (by show ((20000 + 120 * n) + 0) + 0 ≤ 7302250; omega)⟩ hb1 (fun ad2 κ2 hb2 hM2 hR2 => ?_)
  refine kx_icmp_eq (tgt := 1057) dL_law_887 (by decide) (fun _ => ?_) (fun q => absurd rfl q)
  exact kx_wid (by show (((100 + 40 * n) + 0) + 0) ≤ 100 + 40 * (n + 1); omega) (by show (((20000 + 120 * n) + 0) + 0) ≤ 20000 + 120 * (n + 1); omega) (next ad2 _ k1 κ2 hb2 ⟨hJ1, hM2, hR2.k e1 e2⟩)
set_option maxHeartbeats 4000000 in
theorem lb_swept {b L n : Nat} {xs : Nat → Int32} {s : SG} {k κ : KG} (hX : ∀ s, Xp s → va_X b L xs s s.heap ∧ b < s.heap.size ∧ ¬ A b) (hL : L < 2 ^ 31) (hi : 1 + 5 * n + 5 ≤ L) (hn : n ≤ 511) (hb : ad (50, 0) = b) (hR : LR n s k κ)
    (next : ∀ (ad' : KK → Nat) (S : SG) (k' κ' : KG), ad' (50, 0) = b → LR (n + 1) S k' κ' → lG l D nm A Xp ad' (kw_un (hC S k') (hM S κ')) (100 + 40 * (n + 1)) (20000 + 120 * (n + 1)) 1057 (lvS n) []) : lG l D nm A Xp ad (kw_un (hC s k) (hM s κ)) (100 + 40 * n) (20000 + 120 * n) 892 (lvS n) [] := by
  refine kx_aload_n dL_law_892 rfl ?_
  refine kx_aload_n dL_law_893 rfl ?_
  refine kx_iload_n dL_law_894 rfl ?_
  refine kx_iconst (v := nI 1) dL_law_895 rfl ?_
  refine kx_iadd dL_law_896 ?_
  refine kx_top (congrArg pi_ (nI_add (1 + 5 * n) 1)) ?_
  refine kx_iald hX hb (j := 1 + 5 * n + 1) dL_law_897 (by omega) hL ?_
  refine kx_cC (C_swept l κ hR.1 hn (xs (1 + 5 * n + 1))) (pvI.i _) dL_law_898 cl_L_126 rfl rfl rfl ⟨Nat.le_of_ble_eq_true rfl, Nat.le_of_ble_eq_true rfl, (by show (100 + 40 * n) + 0 ≤ 600000; omega), (by show (20000 + 120 * n) + 0 ≤ 7302250; omega)⟩ hb (fun ad1 k1 hb1 hJ1 e1 e2 => ?_)
  refine kx_aload_n dL_law_901 rfl ?_
  refine kx_aload_n dL_law_902 rfl ?_
  refine kx_iload_n dL_law_903 rfl ?_
  refine kx_iconst (v := nI 1) dL_law_904 rfl ?_
  refine kx_iadd dL_law_905 ?_
  refine kx_top (congrArg pi_ (nI_add (1 + 5 * n) 1)) ?_
  refine kx_iald hX hb1 (j := 1 + 5 * n + 1) dL_law_906 (by omega) hL ?_
  refine kx_cM hJ1 (D_swept l hR hJ1 hn (xs (1 + 5 * n + 1))) (pvI.i _) (pvI.i _) dL_law_907 cl_L_129 rfl rfl rfl ⟨Nat.le_of_ble_eq_true rfl, Nat.le_of_ble_eq_true rfl, (by show ((100 + 40 * n) + 0) + 0 ≤ 600000; omega), (by show ((20000 + 120 * n) + 0) + 0 ≤ 7302250; omega)⟩ hb1 (fun ad2 κ2 hb2 hM2 hR2 => ?_)
  refine kx_icmp_eq (tgt := 1057) dL_law_910 (by decide) (fun _ => ?_) (fun q => absurd rfl q)
  exact kx_wid (by show (((100 + 40 * n) + 0) + 0) ≤ 100 + 40 * (n + 1); omega) (by show (((20000 + 120 * n) + 0) + 0) ≤ 20000 + 120 * (n + 1); omega) (next ad2 _ k1 κ2 hb2 ⟨hJ1, hM2, hR2.k e1 e2⟩)
set_option maxHeartbeats 4000000 in
theorem lb_calendar {b L n : Nat} {xs : Nat → Int32} {s : SG} {k κ : KG} (hX : ∀ s, Xp s → va_X b L xs s s.heap ∧ b < s.heap.size ∧ ¬ A b) (hL : L < 2 ^ 31) (hi : 1 + 5 * n + 5 ≤ L) (hn : n ≤ 511) (hb : ad (50, 0) = b) (hR : LR n s k κ)
    (next : ∀ (ad' : KK → Nat) (S : SG) (k' κ' : KG), ad' (50, 0) = b → LR (n + 1) S k' κ' → lG l D nm A Xp ad' (kw_un (hC S k') (hM S κ')) (100 + 40 * (n + 1)) (20000 + 120 * (n + 1)) 1057 (lvS n) []) : lG l D nm A Xp ad (kw_un (hC s k) (hM s κ)) (100 + 40 * n) (20000 + 120 * n) 915 (lvS n) [] := by
  refine kx_aload_n dL_law_915 rfl ?_
  refine kx_aload_n dL_law_916 rfl ?_
  refine kx_iload_n dL_law_917 rfl ?_
  refine kx_iconst (v := nI 1) dL_law_918 rfl ?_
  refine kx_iadd dL_law_919 ?_
  refine kx_top (congrArg pi_ (nI_add (1 + 5 * n) 1)) ?_
  refine kx_iald hX hb (j := 1 + 5 * n + 1) dL_law_920 (by omega) hL ?_
  refine kx_i2l dL_law_921 ?_
  refine kx_bipush (v := 32) dL_law_922 rfl ?_
  refine kx_lshl dL_law_924 ?_
  refine kx_aload_n dL_law_925 rfl ?_
  refine kx_iload_n dL_law_926 rfl ?_
  refine kx_iconst (v := nI 2) dL_law_927 rfl ?_
  refine kx_iadd dL_law_928 ?_
  refine kx_top (congrArg pi_ (nI_add (1 + 5 * n) 2)) ?_
  refine kx_iald hX hb (j := 1 + 5 * n + 2) dL_law_929 (by omega) hL ?_
  refine kx_i2l dL_law_930 ?_
  refine kx_ldc2 dL_law_931 kt_1346 ?_
  refine kx_land dL_law_934 ?_
  refine kx_lor dL_law_935 ?_
  refine kx_top (v' := pl_ (lW (xs (1 + 5 * n + 1)) (xs (1 + 5 * n + 2)))) rfl ?_
  refine kx_aload_n dL_law_936 rfl ?_
  refine kx_iload_n dL_law_937 rfl ?_
  refine kx_iconst (v := nI 3) dL_law_938 rfl ?_
  refine kx_iadd dL_law_939 ?_
  refine kx_top (congrArg pi_ (nI_add (1 + 5 * n) 3)) ?_
  refine kx_iald hX hb (j := 1 + 5 * n + 3) dL_law_940 (by omega) hL ?_
  refine kx_cC (C_calendar l κ hR.1 hn (lW (xs (1 + 5 * n + 1)) (xs (1 + 5 * n + 2))) (xs (1 + 5 * n + 3))) (pvI.i _) dL_law_941 cl_L_130 rfl rfl rfl ⟨Nat.le_of_ble_eq_true rfl, Nat.le_of_ble_eq_true rfl, (by show (100 + 40 * n) + 0 ≤ 600000; omega), (by show (20000 + 120 * n) + 0 ≤ 7302250; omega)⟩ hb (fun ad1 k1 hb1 hJ1 e1 e2 => ?_)
  refine kx_aload_n dL_law_944 rfl ?_
  refine kx_aload_n dL_law_945 rfl ?_
  refine kx_iload_n dL_law_946 rfl ?_
  refine kx_iconst (v := nI 1) dL_law_947 rfl ?_
  refine kx_iadd dL_law_948 ?_
  refine kx_top (congrArg pi_ (nI_add (1 + 5 * n) 1)) ?_
  refine kx_iald hX hb1 (j := 1 + 5 * n + 1) dL_law_949 (by omega) hL ?_
  refine kx_i2l dL_law_950 ?_
  refine kx_bipush (v := 32) dL_law_951 rfl ?_
  refine kx_lshl dL_law_953 ?_
  refine kx_aload_n dL_law_954 rfl ?_
  refine kx_iload_n dL_law_955 rfl ?_
  refine kx_iconst (v := nI 2) dL_law_956 rfl ?_
  refine kx_iadd dL_law_957 ?_
  refine kx_top (congrArg pi_ (nI_add (1 + 5 * n) 2)) ?_
  refine kx_iald hX hb1 (j := 1 + 5 * n + 2) dL_law_958 (by omega) hL ?_
  refine kx_i2l dL_law_959 ?_
  refine kx_ldc2 dL_law_960 kt_1346 ?_
  refine kx_land dL_law_963 ?_
  refine kx_lor dL_law_964 ?_
  refine kx_top (v' := pl_ (lW (xs (1 + 5 * n + 1)) (xs (1 + 5 * n + 2)))) rfl ?_
  refine kx_aload_n dL_law_965 rfl ?_
  refine kx_iload_n dL_law_966 rfl ?_
  refine kx_iconst (v := nI 3) dL_law_967 rfl ?_
  refine kx_iadd dL_law_968 ?_
  refine kx_top (congrArg pi_ (nI_add (1 + 5 * n) 3)) ?_
  refine kx_iald hX hb1 (j := 1 + 5 * n + 3) dL_law_969 (by omega) hL ?_
  refine kx_cM hJ1 (D_calendar l hR hJ1 hn (lW (xs (1 + 5 * n + 1)) (xs (1 + 5 * n + 2))) (xs (1 + 5 * n + 3))) (pvI.i _) (pvI.i _) dL_law_970 cl_L_134 rfl rfl rfl ⟨Nat.le_of_ble_eq_true rfl, Nat.le_of_ble_eq_true rfl, (by show ((100 + 40 * n) + 0) + 0 ≤ 600000; omega), (by show ((20000 + 120 * n) + 0) + 0 ≤ 7302250; omega)⟩ hb1 (fun ad2 κ2 hb2 hM2 hR2 => ?_)
  refine kx_icmp_eq (tgt := 1057) dL_law_973 (by decide) (fun _ => ?_) (fun q => absurd rfl q)
  exact kx_wid (by show (((100 + 40 * n) + 0) + 0) ≤ 100 + 40 * (n + 1); omega) (by show (((20000 + 120 * n) + 0) + 0) ≤ 20000 + 120 * (n + 1); omega) (next ad2 _ k1 κ2 hb2 ⟨hJ1, hM2, hR2.k e1 e2⟩)
set_option maxHeartbeats 4000000 in
theorem lb_mirrored {b L n : Nat} {xs : Nat → Int32} {s : SG} {k κ : KG} (hX : ∀ s, Xp s → va_X b L xs s s.heap ∧ b < s.heap.size ∧ ¬ A b) (hL : L < 2 ^ 31) (hi : 1 + 5 * n + 5 ≤ L) (hn : n ≤ 511) (hb : ad (50, 0) = b) (hR : LR n s k κ)
    (next : ∀ (ad' : KK → Nat) (S : SG) (k' κ' : KG), ad' (50, 0) = b → LR (n + 1) S k' κ' → lG l D nm A Xp ad' (kw_un (hC S k') (hM S κ')) (100 + 40 * (n + 1)) (20000 + 120 * (n + 1)) 1057 (lvS n) []) : lG l D nm A Xp ad (kw_un (hC s k) (hM s κ)) (100 + 40 * n) (20000 + 120 * n) 978 (lvS n) [] := by
  refine kx_aload_n dL_law_978 rfl ?_
  refine kx_aload_n dL_law_979 rfl ?_
  refine kx_iload_n dL_law_980 rfl ?_
  refine kx_iconst (v := nI 1) dL_law_981 rfl ?_
  refine kx_iadd dL_law_982 ?_
  refine kx_top (congrArg pi_ (nI_add (1 + 5 * n) 1)) ?_
  refine kx_iald hX hb (j := 1 + 5 * n + 1) dL_law_983 (by omega) hL ?_
  refine kx_aload_n dL_law_984 rfl ?_
  refine kx_iload_n dL_law_985 rfl ?_
  refine kx_iconst (v := nI 2) dL_law_986 rfl ?_
  refine kx_iadd dL_law_987 ?_
  refine kx_top (congrArg pi_ (nI_add (1 + 5 * n) 2)) ?_
  refine kx_iald hX hb (j := 1 + 5 * n + 2) dL_law_988 (by omega) hL ?_
  refine kx_cC (C_mirrored l κ hR.1 hn (xs (1 + 5 * n + 1)) (xs (1 + 5 * n + 2))) (pvI.i _) dL_law_989 cl_L_135 rfl rfl rfl ⟨Nat.le_of_ble_eq_true rfl, Nat.le_of_ble_eq_true rfl, (by show (100 + 40 * n) + 0 ≤ 600000; omega), (by show (20000 + 120 * n) + 0 ≤ 7302250; omega)⟩ hb (fun ad1 k1 hb1 hJ1 e1 e2 => ?_)
  refine kx_aload_n dL_law_992 rfl ?_
  refine kx_aload_n dL_law_993 rfl ?_
  refine kx_iload_n dL_law_994 rfl ?_
  refine kx_iconst (v := nI 1) dL_law_995 rfl ?_
  refine kx_iadd dL_law_996 ?_
  refine kx_top (congrArg pi_ (nI_add (1 + 5 * n) 1)) ?_
  refine kx_iald hX hb1 (j := 1 + 5 * n + 1) dL_law_997 (by omega) hL ?_
  refine kx_aload_n dL_law_998 rfl ?_
  refine kx_iload_n dL_law_999 rfl ?_
  refine kx_iconst (v := nI 2) dL_law_1000 rfl ?_
  refine kx_iadd dL_law_1001 ?_
  refine kx_top (congrArg pi_ (nI_add (1 + 5 * n) 2)) ?_
  refine kx_iald hX hb1 (j := 1 + 5 * n + 2) dL_law_1002 (by omega) hL ?_
  refine kx_cM hJ1 (D_mirrored l hR hJ1 hn (xs (1 + 5 * n + 1)) (xs (1 + 5 * n + 2))) (pvI.i _) (pvI.i _) dL_law_1003 cl_L_138 rfl rfl rfl ⟨Nat.le_of_ble_eq_true rfl, Nat.le_of_ble_eq_true rfl, (by show ((100 + 40 * n) + 0) + 0 ≤ 600000; omega), (by show ((20000 + 120 * n) + 0) + 0 ≤ 7302250; omega)⟩ hb1 (fun ad2 κ2 hb2 hM2 hR2 => ?_)
  refine kx_icmp_eq (tgt := 1057) dL_law_1006 (by decide) (fun _ => ?_) (fun q => absurd rfl q)
  exact kx_wid (by show (((100 + 40 * n) + 0) + 0) ≤ 100 + 40 * (n + 1); omega) (by show (((20000 + 120 * n) + 0) + 0) ≤ 20000 + 120 * (n + 1); omega) (next ad2 _ k1 κ2 hb2 ⟨hJ1, hM2, hR2.k e1 e2⟩)
set_option maxHeartbeats 4000000 in
theorem lb_has {b L n : Nat} {xs : Nat → Int32} {s : SG} {k κ : KG} (hX : ∀ s, Xp s → va_X b L xs s s.heap ∧ b < s.heap.size ∧ ¬ A b) (hL : L < 2 ^ 31) (hi : 1 + 5 * n + 5 ≤ L) (hn : n ≤ 511) (hb : ad (50, 0) = b) (hR : LR n s k κ)
    (next : ∀ (ad' : KK → Nat) (S : SG) (k' κ' : KG), ad' (50, 0) = b → LR (n + 1) S k' κ' → lG l D nm A Xp ad' (kw_un (hC S k') (hM S κ')) (100 + 40 * (n + 1)) (20000 + 120 * (n + 1)) 1057 (lvS n) []) : lG l D nm A Xp ad (kw_un (hC s k) (hM s κ)) (100 + 40 * n) (20000 + 120 * n) 1011 (lvS n) [] := by
  refine kx_aload_n dL_law_1011 rfl ?_
  refine kx_aload_n dL_law_1012 rfl ?_
  refine kx_iload_n dL_law_1013 rfl ?_
  refine kx_iconst (v := nI 1) dL_law_1014 rfl ?_
  refine kx_iadd dL_law_1015 ?_
  refine kx_top (congrArg pi_ (nI_add (1 + 5 * n) 1)) ?_
  refine kx_iald hX hb (j := 1 + 5 * n + 1) dL_law_1016 (by omega) hL ?_
  refine kx_aload_n dL_law_1017 rfl ?_
  refine kx_iload_n dL_law_1018 rfl ?_
  refine kx_iconst (v := nI 2) dL_law_1019 rfl ?_
  refine kx_iadd dL_law_1020 ?_
  refine kx_top (congrArg pi_ (nI_add (1 + 5 * n) 2)) ?_
  refine kx_iald hX hb (j := 1 + 5 * n + 2) dL_law_1021 (by omega) hL ?_
  refine kx_cC (C_has l κ hR.1 hn (xs (1 + 5 * n + 1)) (xs (1 + 5 * n + 2))) (pvI.i _) dL_law_1022 cl_L_139 rfl rfl rfl ⟨Nat.le_of_ble_eq_true rfl, Nat.le_of_ble_eq_true rfl, (by show (100 + 40 * n) + 0 ≤ 600000; omega), (by show (20000 + 120 * n) + 0 ≤ 7302250; omega)⟩ hb (fun ad1 k1 hb1 hJ1 e1 e2 => ?_)
  refine kx_aload_n dL_law_1025 rfl ?_
  refine kx_aload_n dL_law_1026 rfl ?_
  refine kx_iload_n dL_law_1027 rfl ?_
  refine kx_iconst (v := nI 1) dL_law_1028 rfl ?_
  refine kx_iadd dL_law_1029 ?_
  refine kx_top (congrArg pi_ (nI_add (1 + 5 * n) 1)) ?_
  refine kx_iald hX hb1 (j := 1 + 5 * n + 1) dL_law_1030 (by omega) hL ?_
  refine kx_aload_n dL_law_1031 rfl ?_
  refine kx_iload_n dL_law_1032 rfl ?_
  refine kx_iconst (v := nI 2) dL_law_1033 rfl ?_
  refine kx_iadd dL_law_1034 ?_
  refine kx_top (congrArg pi_ (nI_add (1 + 5 * n) 2)) ?_
  refine kx_iald hX hb1 (j := 1 + 5 * n + 2) dL_law_1035 (by omega) hL ?_
  refine kx_cM hJ1 (D_has l hR hJ1 hn (xs (1 + 5 * n + 1)) (xs (1 + 5 * n + 2))) (pvI.i _) (pvI.i _) dL_law_1036 cl_L_143 rfl rfl rfl ⟨Nat.le_of_ble_eq_true rfl, Nat.le_of_ble_eq_true rfl, (by show ((100 + 40 * n) + 0) + 0 ≤ 600000; omega), (by show ((20000 + 120 * n) + 0) + 0 ≤ 7302250; omega)⟩ hb1 (fun ad2 κ2 hb2 hM2 hR2 => ?_)
  refine kx_icmp_eq (tgt := 1057) dL_law_1039 (by decide) (fun _ => ?_) (fun q => absurd rfl q)
  exact kx_wid (by show (((100 + 40 * n) + 0) + 0) ≤ 100 + 40 * (n + 1); omega) (by show (((20000 + 120 * n) + 0) + 0) ≤ 20000 + 120 * (n + 1); omega) (next ad2 _ k1 κ2 hb2 ⟨hJ1, hM2, hR2.k e1 e2⟩)
set_option maxHeartbeats 4000000 in
theorem lb_audit {b L n : Nat} {xs : Nat → Int32} {s : SG} {k κ : KG} (hX : ∀ s, Xp s → va_X b L xs s s.heap ∧ b < s.heap.size ∧ ¬ A b) (hL : L < 2 ^ 31) (hi : 1 + 5 * n + 5 ≤ L) (hn : n ≤ 511) (hb : ad (50, 0) = b) (hR : LR n s k κ)
    (next : ∀ (ad' : KK → Nat) (S : SG) (k' κ' : KG), ad' (50, 0) = b → LR (n + 1) S k' κ' → lG l D nm A Xp ad' (kw_un (hC S k') (hM S κ')) (100 + 40 * (n + 1)) (20000 + 120 * (n + 1)) 1057 (lvS n) []) : lG l D nm A Xp ad (kw_un (hC s k) (hM s κ)) (100 + 40 * n) (20000 + 120 * n) 1044 (lvS n) [] := by
  refine kx_aload_n dL_law_1044 rfl ?_
  refine kx_cC (C_audit l κ hR.1 hn ) (pvI.i _) dL_law_1045 cl_L_144 rfl rfl rfl ⟨Nat.le_of_ble_eq_true rfl, Nat.le_of_ble_eq_true rfl, (by show (100 + 40 * n) + 0 ≤ 600000; omega), (by show (20000 + 120 * n) + 0 ≤ 7302250; omega)⟩ hb (fun ad1 k1 hb1 hJ1 e1 e2 => ?_)
  refine kx_aload_n dL_law_1048 rfl ?_
  refine kx_cM hJ1 (D_audit l hR hJ1 hn ) (pvI.i _) (pvI.i _) dL_law_1049 cl_L_147 rfl rfl rfl ⟨Nat.le_of_ble_eq_true rfl, Nat.le_of_ble_eq_true rfl, (by show ((100 + 40 * n) + 0) + 0 ≤ 600000; omega), (by show ((20000 + 120 * n) + 0) + 0 ≤ 7302250; omega)⟩ hb1 (fun ad2 κ2 hb2 hM2 hR2 => ?_)
  refine kx_icmp_eq (tgt := 1057) dL_law_1052 (by decide) (fun _ => ?_) (fun q => absurd rfl q)
  exact kx_wid (by show (((100 + 40 * n) + 0) + 0) ≤ 100 + 40 * (n + 1); omega) (by show (((20000 + 120 * n) + 0) + 0) ≤ 20000 + 120 * (n + 1); omega) (next ad2 _ k1 κ2 hb2 ⟨hJ1, hM2, hR2.k e1 e2⟩)
set_option maxHeartbeats 4000000 in
theorem lb_all {b L n : Nat} {xs : Nat → Int32} {s : SG} {k κ : KG} (hX : ∀ s, Xp s → va_X b L xs s s.heap ∧ b < s.heap.size ∧ ¬ A b) (hL : L < 2 ^ 31) (hi : 1 + 5 * n + 5 ≤ L) (hn : n ≤ 511) (hb : ad (50, 0) = b) (hR : LR n s k κ)
    (next : ∀ (ad' : KK → Nat) (S : SG) (k' κ' : KG), ad' (50, 0) = b → LR (n + 1) S k' κ' → lG l D nm A Xp ad' (kw_un (hC S k') (hM S κ')) (100 + 40 * (n + 1)) (20000 + 120 * (n + 1)) 1057 (lvS n) []) : lG l D nm A Xp ad (kw_un (hC s k) (hM s κ)) (100 + 40 * n) (20000 + 120 * n) 36 (lvS n) [] := by
  refine kx_aload_n dL_law_36 rfl ?_
  refine kx_iload_n dL_law_37 rfl ?_
  refine kx_iald hX hb (j := 1 + 5 * n) dL_law_38 (by omega) hL ?_
  refine kx_bipush (v := 31) dL_law_39 rfl ?_
  refine kx_iand dL_law_41 ?_
  obtain ⟨x, hx⟩ : ∃ x, x = xs (1 + 5 * n) &&& 31 := ⟨_, rfl⟩
  rw [← hx]
  by_cases hout : x.toInt < 0 ∨ 28 < x.toInt
  · refine kx_tableOut (tgt := 1057) dL_law_42 hout (by decide) ?_
    exact kx_wid (by omega) (by omega) (next ad s k κ hb ⟨hR.1.mono, hR.2⟩)
  · obtain ⟨j, hj, e⟩ : ∃ j : Nat, j ≤ 28 ∧ x.toInt = (j : Int) := ⟨x.toInt.toNat, by omega, by omega⟩
    match j, hj, e with
    | 0, _, e => exact kx_tableIn (off := 130) (tgt := 172) dL_law_42 (by rw [e]; decide) (by rw [e]; decide) (by rw [e]; rfl) (by decide) (lb_at hX hL hi hn hb hR next)
    | 1, _, e => exact kx_tableIn (off := 183) (tgt := 225) dL_law_42 (by rw [e]; decide) (by rw [e]; decide) (by rw [e]; rfl) (by decide) (lb_begin hX hL hi hn hb hR next)
    | 2, _, e => exact kx_tableIn (off := 206) (tgt := 248) dL_law_42 (by rw [e]; decide) (by rw [e]; decide) (by rw [e]; rfl) (by decide) (lb_child hX hL hi hn hb hR next)
    | 3, _, e => exact kx_tableIn (off := 239) (tgt := 281) dL_law_42 (by rw [e]; decide) (by rw [e]; decide) (by rw [e]; rfl) (by decide) (lb_save hX hL hi hn hb hR next)
    | 4, _, e => exact kx_tableIn (off := 312) (tgt := 354) dL_law_42 (by rw [e]; decide) (by rw [e]; decide) (by rw [e]; rfl) (by decide) (lb_take hX hL hi hn hb hR next)
    | 5, _, e => exact kx_tableIn (off := 345) (tgt := 387) dL_law_42 (by rw [e]; decide) (by rw [e]; decide) (by rw [e]; rfl) (by decide) (lb_commit hX hL hi hn hb hR next)
    | 6, _, e => exact kx_tableIn (off := 378) (tgt := 420) dL_law_42 (by rw [e]; decide) (by rw [e]; decide) (by rw [e]; rfl) (by decide) (lb_give hX hL hi hn hb hR next)
    | 7, _, e => exact kx_tableIn (off := 401) (tgt := 443) dL_law_42 (by rw [e]; decide) (by rw [e]; decide) (by rw [e]; rfl) (by decide) (lb_drop hX hL hi hn hb hR next)
    | 8, _, e => exact kx_tableIn (off := 424) (tgt := 466) dL_law_42 (by rw [e]; decide) (by rw [e]; decide) (by rw [e]; rfl) (by decide) (lb_rule hX hL hi hn hb hR next)
    | 9, _, e => exact kx_tableIn (off := 457) (tgt := 499) dL_law_42 (by rw [e]; decide) (by rw [e]; decide) (by rw [e]; rfl) (by decide) (lb_keeps hX hL hi hn hb hR next)
    | 10, _, e => exact kx_tableIn (off := 480) (tgt := 522) dL_law_42 (by rw [e]; decide) (by rw [e]; decide) (by rw [e]; rfl) (by decide) (lb_prune hX hL hi hn hb hR next)
    | 11, _, e => exact kx_tableIn (off := 519) (tgt := 561) dL_law_42 (by rw [e]; decide) (by rw [e]; decide) (by rw [e]; rfl) (by decide) (lb_sweep hX hL hi hn hb hR next)
    | 12, _, e => exact kx_tableIn (off := 532) (tgt := 574) dL_law_42 (by rw [e]; decide) (by rw [e]; decide) (by rw [e]; rfl) (by decide) (lb_step hX hL hi hn hb hR next)
    | 13, _, e => exact kx_tableIn (off := 555) (tgt := 597) dL_law_42 (by rw [e]; decide) (by rw [e]; decide) (by rw [e]; rfl) (by decide) (lb_share hX hL hi hn hb hR next)
    | 14, _, e => exact kx_tableIn (off := 578) (tgt := 620) dL_law_42 (by rw [e]; decide) (by rw [e]; decide) (by rw [e]; rfl) (by decide) (lb_cut hX hL hi hn hb hR next)
    | 15, _, e => exact kx_tableIn (off := 601) (tgt := 643) dL_law_42 (by rw [e]; decide) (by rw [e]; decide) (by rw [e]; rfl) (by decide) (lb_open hX hL hi hn hb hR next)
    | 16, _, e => exact kx_tableIn (off := 614) (tgt := 656) dL_law_42 (by rw [e]; decide) (by rw [e]; decide) (by rw [e]; rfl) (by decide) (lb_follow hX hL hi hn hb hR next)
    | 17, _, e => exact kx_tableIn (off := 647) (tgt := 689) dL_law_42 (by rw [e]; decide) (by rw [e]; decide) (by rw [e]; rfl) (by decide) (lb_count hX hL hi hn hb hR next)
    | 18, _, e => exact kx_tableIn (off := 670) (tgt := 712) dL_law_42 (by rw [e]; decide) (by rw [e]; decide) (by rw [e]; rfl) (by decide) (lb_block hX hL hi hn hb hR next)
    | 19, _, e => exact kx_tableIn (off := 703) (tgt := 745) dL_law_42 (by rw [e]; decide) (by rw [e]; decide) (by rw [e]; rfl) (by decide) (lb_key hX hL hi hn hb hR next)
    | 20, _, e => exact kx_tableIn (off := 727) (tgt := 769) dL_law_42 (by rw [e]; decide) (by rw [e]; decide) (by rw [e]; rfl) (by decide) (lb_pack hX hL hi hn hb hR next)
    | 21, _, e => exact kx_tableIn (off := 760) (tgt := 802) dL_law_42 (by rw [e]; decide) (by rw [e]; decide) (by rw [e]; rfl) (by decide) (lb_snapshot hX hL hi hn hb hR next)
    | 22, _, e => exact kx_tableIn (off := 793) (tgt := 835) dL_law_42 (by rw [e]; decide) (by rw [e]; decide) (by rw [e]; rfl) (by decide) (lb_time hX hL hi hn hb hR next)
    | 23, _, e => exact kx_tableIn (off := 817) (tgt := 859) dL_law_42 (by rw [e]; decide) (by rw [e]; decide) (by rw [e]; rfl) (by decide) (lb_saver hX hL hi hn hb hR next)
    | 24, _, e => exact kx_tableIn (off := 850) (tgt := 892) dL_law_42 (by rw [e]; decide) (by rw [e]; decide) (by rw [e]; rfl) (by decide) (lb_swept hX hL hi hn hb hR next)
    | 25, _, e => exact kx_tableIn (off := 873) (tgt := 915) dL_law_42 (by rw [e]; decide) (by rw [e]; decide) (by rw [e]; rfl) (by decide) (lb_calendar hX hL hi hn hb hR next)
    | 26, _, e => exact kx_tableIn (off := 936) (tgt := 978) dL_law_42 (by rw [e]; decide) (by rw [e]; decide) (by rw [e]; rfl) (by decide) (lb_mirrored hX hL hi hn hb hR next)
    | 27, _, e => exact kx_tableIn (off := 969) (tgt := 1011) dL_law_42 (by rw [e]; decide) (by rw [e]; decide) (by rw [e]; rfl) (by decide) (lb_has hX hL hi hn hb hR next)
    | 28, _, e => exact kx_tableIn (off := 1002) (tgt := 1044) dL_law_42 (by rw [e]; decide) (by rw [e]; decide) (by rw [e]; rfl) (by decide) (lb_audit hX hL hi hn hb hR next)
    | j + 29, hj, _ => exact absurd hj (by omega)
theorem sub5 {L i : Nat} (hL : L < 2 ^ 31) (hi : i < 2 ^ 31) (h : ¬ nI L - nI 5 < nI i) : i + 5 ≤ L := by
  by_cases h5 : 5 ≤ L
  · obtain ⟨M, rfl⟩ : ∃ M, L = M + 5 := ⟨L - 5, by omega⟩
    have e : nI (M + 5) - nI 5 = nI M := by rw [← nI_add, Int32.add_sub_cancel]
    rw [e] at h
    have := nI_nlt' (by omega) hi h
    omega
  · exfalso
    apply h
    have h0 : 0 ≤ nI i := nI_pos' hi
    have h1 : nI L - nI 5 < 0 := by
      match L, h5 with
      | 0, _ => decide
      | 1, _ => decide
      | 2, _ => decide
      | 3, _ => decide
      | 4, _ => decide
      | L + 5, h5 => exact absurd (by omega) h5
    rw [Int32.lt_iff_toInt_lt] at h1 ⊢
    rw [Int32.le_iff_toInt_le] at h0
    omega
set_option maxHeartbeats 4000000 in
theorem law_loop {b L : Nat} {xs : Nat → Int32} (hX : ∀ s, Xp s → va_X b L xs s s.heap ∧ b < s.heap.size ∧ ¬ A b) (hXA : ∀ s, Xp s → ∀ q, A q → s.heap.size ≤ q) (hL : L ≤ 2561) : ∀ (f n : Nat) (ad : KK → Nat) (s : SG) (k κ : KG), L < 5 * n + f → n ≤ 512 → ad (50, 0) = b → LR n s k κ → lG l D nm A Xp ad (kw_un (hC s k) (hM s κ)) (100 + 40 * n) (20000 + 120 * n) 28 (lvS n) [] := by
  intro f
  induction f with
  | zero =>
    intro n ad s k κ hf hn hb hR
    refine kx_iload_n dL_law_28 rfl ?_
    refine kx_aload_n dL_law_29 rfl ?_
    refine kx_alen hX hb dL_law_30 ?_
    refine kx_iconst (v := nI 5) dL_law_31 rfl ?_
    refine kx_isub dL_law_32 ?_
    refine kx_icmp_gt (tgt := 1063) dL_law_33 (by decide) (fun _ => ?_) (fun q => ?_)
    · refine kx_iconst (v := 1) dL_law_1063 rfl ?_
      exact kx_end dL_law_1064 (by omega) (by omega) hXA
    · have := sub5 (by omega) (by omega) q
      omega
  | succ f ih =>
    intro n ad s k κ hf hn hb hR
    refine kx_iload_n dL_law_28 rfl ?_
    refine kx_aload_n dL_law_29 rfl ?_
    refine kx_alen hX hb dL_law_30 ?_
    refine kx_iconst (v := nI 5) dL_law_31 rfl ?_
    refine kx_isub dL_law_32 ?_
    refine kx_icmp_gt (tgt := 1063) dL_law_33 (by decide) (fun _ => ?_) (fun q => ?_)
    · refine kx_iconst (v := 1) dL_law_1063 rfl ?_
      exact kx_end dL_law_1064 (by omega) (by omega) hXA
    · have h5 := sub5 (by omega) (by omega) q
      refine lb_all hX (by omega) h5 (by omega) hb hR ?_
      intro ad' S k' κ' hb' hR'
      refine kx_iinc (x := nI (1 + 5 * n)) (v := nI (1 + 5 * (n + 1))) dL_law_1057 rfl ?_ ?_
      · rw [show Int32.ofInt 5 = nI 5 from rfl, nI_add]
        congr 1
      · refine kx_goto (tgt := 28) dL_law_1060 (by decide) ?_
        exact ih (n + 1) ad' S k' κ' (by omega) (by omega) hb' hR'
end Law
