/-! NEW CELLS OF THE CLASS -/
theorem nm_ref {h : PH} {key q : KK} (hkey : h key = none) (hq : h q ≠ none) : q ≠ key := fun e => hq (by rw [e]; exact hkey)
theorem nm_some {h : PH} {q : KK} {c : PC} (e : h q = some c) : h q ≠ none := by rw [e]; exact fun z => by cases z
set_option maxRecDepth 20000 in
theorem hC_nm {s : SG} {k : KG} {key : KK} (hkey : hC s k key = none) (hns : ns_ s ≤ 40) (hnb : nb_ s ≤ 80) (hnp : np_ s ≤ 40) : ∀ (q : KK) (c : PC), hC s k q = some c → kw_nmc key c := by
  rintro ⟨a, b⟩ c hq
  match a, hq with
  | 0, hq =>
    have hq : o1_ b _ = some c := hq
    unfold o1_ at hq
    split at hq
    · cases hq
      intro v hv
      simp only [List.mem_cons, List.not_mem_nil, or_false] at hv
      rcases hv with rfl | rfl | rfl | rfl | rfl | rfl | rfl | rfl | rfl | rfl
      · exact nm_ref hkey (nm_some (show hC s k (1, 0) = some _ from rfl))
      · exact nm_ref hkey (nm_some (show hC s k (3, 0) = some _ from rfl))
      · exact nm_ref hkey (nm_some (show hC s k (8, 0) = some _ from rfl))
      · exact nm_ref hkey (nm_some (show hC s k (10, 0) = some _ from rfl))
      · exact nm_ref hkey (nm_some (show hC s k (11, 0) = some _ from rfl))
      · exact nm_ref hkey (nm_some (show hC s k (15, 0) = some _ from rfl))
      · exact nm_ref hkey (nm_some (show hC s k (18, 0) = some _ from rfl))
      · exact nm_ref hkey (nm_some (show hC s k (19, 2) = some _ from rfl))
      · exact trivial
      · exact trivial
    · cases hq
  | 1, hq =>
    have hq : o1_ b _ = some c := hq
    unfold o1_ at hq
    split at hq
    · cases hq
      intro v hv
      simp only [List.mem_cons, List.not_mem_nil, or_false] at hv
      rcases hv with rfl | rfl | rfl | rfl | rfl | rfl
      · exact nm_ref hkey (nm_some (show hC s k (2, 0) = some _ from rfl))
      · exact nm_ref hkey (nm_some (show hC s k (2, 1) = some _ from rfl))
      · exact trivial
      · exact trivial
      · exact trivial
      · exact trivial
    · cases hq
  | 2, hq =>
    match b, hq with
    | 0, hq => cases hq; exact trivial
    | 1, hq => cases hq; exact trivial
    | n + 2, hq => cases hq
  | 3, hq =>
    have hq : o1_ b _ = some c := hq
    unfold o1_ at hq
    split at hq
    · cases hq
      intro v hv
      simp only [List.mem_cons, List.not_mem_nil, or_false] at hv
      rcases hv with rfl | rfl | rfl | rfl | rfl | rfl | rfl | rfl | rfl | rfl
      · exact trivial
      · exact nm_ref hkey (nm_some (show hC s k (1, 0) = some _ from rfl))
      · exact nm_ref hkey (nm_some (show hC s k (4, 0) = some _ from rfl))
      · exact nm_ref hkey (nm_some (show hC s k (4, 1) = some _ from rfl))
      · exact nm_ref hkey (nm_some (show hC s k (4, 2) = some _ from rfl))
      · exact trivial
      · exact trivial
      · exact trivial
      · exact trivial
      · exact trivial
    · cases hq
  | 4, hq =>
    match b, hq with
    | 0, hq =>
      cases hq
      intro j hj e
      dsimp only at e
      by_cases hj2 : j < nb_ s
      · rw [if_pos hj2] at e
        cases e
        exact absurd hkey (nm_some (hC_bl (s := s) (k := k) hj2))
      · rw [if_neg hj2] at e; cases e
    | 1, hq =>
      cases hq
      intro j hj e
      dsimp only at e
      by_cases hj2 : j < np_ s
      · rw [if_pos hj2] at e
        cases e
        exact absurd hkey (nm_some (hC_pa (s := s) (k := k) hj2))
      · rw [if_neg hj2] at e; cases e
    | 2, hq => cases hq; exact trivial
    | n + 3, hq => cases hq
  | 5, hq =>
    have hq : on_ b _ _ = some c := hq
    unfold on_ at hq
    by_cases hb : b < nb_ s
    · rw [if_pos hb] at hq
      cases hq
      intro v hv
      simp only [List.mem_cons, List.not_mem_nil, or_false] at hv
      rcases hv with rfl | rfl | rfl | rfl | rfl | rfl | rfl | rfl
      · exact trivial
      · exact trivial
      · exact nm_ref hkey (nm_some (hC_ch (s := s) (k := k) hb))
      · exact trivial
      · exact trivial
      · exact trivial
      · exact trivial
      · exact trivial
    · rw [if_neg hb] at hq; cases hq
  | 6, hq =>
    have hq : on_ b _ _ = some c := hq
    unfold on_ at hq
    split at hq
    · cases hq; exact trivial
    · cases hq
  | 7, hq =>
    have hq : on_ b _ _ = some c := hq
    unfold on_ at hq
    by_cases hb : b < np_ s
    · rw [if_pos hb] at hq
      cases hq
      intro v hv
      simp only [List.mem_cons, List.not_mem_nil, or_false] at hv
      rcases hv with rfl | rfl | rfl
      · exact trivial
      · exact trivial
      · exact trivial
    · rw [if_neg hb] at hq; cases hq
  | 8, hq =>
    match b, hq with
    | 0, hq =>
      cases hq
      intro v hv
      simp only [List.mem_cons, List.not_mem_nil, or_false] at hv
      rcases hv with rfl | rfl | rfl | rfl | rfl | rfl | rfl | rfl | rfl | rfl | rfl
      · exact nm_ref hkey (nm_some (show hC s k (3, 0) = some _ from rfl))
      · exact nm_ref hkey (nm_some (show hC s k (9, 0) = some _ from rfl))
      · exact nm_ref hkey (nm_some (show hC s k (8, 1) = some _ from rfl))
      · exact trivial
      · exact trivial
      · exact trivial
      · exact trivial
      · exact trivial
      · exact trivial
      · exact trivial
      · exact trivial
    | 1, hq => cases hq; exact trivial
    | n + 2, hq => cases hq
  | 9, hq =>
    match b, hq with
    | 0, hq =>
      cases hq
      intro v hv
      simp only [List.mem_cons, List.not_mem_nil, or_false] at hv
      rcases hv with rfl | rfl | rfl | rfl | rfl | rfl
      · exact nm_ref hkey (nm_some (show hC s k (3, 0) = some _ from rfl))
      · exact nm_ref hkey (nm_some (show hC s k (1, 0) = some _ from rfl))
      · exact nm_ref hkey (nm_some (show hC s k (9, 1) = some _ from rfl))
      · exact nm_ref hkey (nm_some (show hC s k (9, 2) = some _ from rfl))
      · exact nm_ref hkey (nm_some (show hC s k (9, 3) = some _ from rfl))
      · exact trivial
    | 1, hq => cases hq; exact trivial
    | 2, hq => cases hq; exact trivial
    | 3, hq => cases hq; exact trivial
    | n + 4, hq => cases hq
  | 10, hq =>
    match b, hq with
    | 0, hq =>
      cases hq
      intro v hv
      simp only [List.mem_cons, List.not_mem_nil, or_false] at hv
      rcases hv with rfl | rfl
      · exact nm_ref hkey (nm_some (show hC s k (10, 1) = some _ from rfl))
      · exact nm_ref hkey (nm_some (show hC s k (10, 2) = some _ from rfl))
    | 1, hq => cases hq; exact trivial
    | 2, hq => cases hq; exact trivial
    | n + 3, hq => cases hq
  | 11, hq =>
    have hq : o1_ b _ = some c := hq
    unfold o1_ at hq
    split at hq
    · cases hq
      intro j hj e
      dsimp only at e
      by_cases hj2 : j < 4
      · rw [if_pos hj2] at e
        cases e
        exact absurd hkey (nm_some (hC_sa (s := s) (k := k) hj2))
      · rw [if_neg hj2] at e; cases e
    · cases hq
  | 12, hq =>
    have hq : on_ b _ _ = some c := hq
    unfold on_ at hq
    by_cases hb : b < 4
    · rw [if_pos hb] at hq
      cases hq
      intro v hv
      simp only [List.mem_cons, List.not_mem_nil, or_false] at hv
      rcases hv with rfl | rfl | rfl | rfl | rfl | rfl | rfl
      · exact nm_ref hkey (nm_some (hC_us (s := s) (k := k) hb))
      · exact nm_ref hkey (nm_some (hC_kd (s := s) (k := k) hb))
      · exact trivial
      · exact trivial
      · exact trivial
      · exact trivial
      · exact trivial
    · rw [if_neg hb] at hq; cases hq
  | 13, hq =>
    have hq : on_ b _ _ = some c := hq
    unfold on_ at hq
    split at hq
    · cases hq; exact trivial
    · cases hq
  | 14, hq =>
    have hq : on_ b _ _ = some c := hq
    unfold on_ at hq
    split at hq
    · cases hq; exact trivial
    · cases hq
  | 15, hq =>
    have hq : o1_ b _ = some c := hq
    unfold o1_ at hq
    split at hq
    · cases hq
      intro j hj e
      dsimp only at e
      by_cases hj2 : j < ns_ s
      · rw [if_pos hj2] at e
        cases e
        exact absurd hkey (nm_some (hC_sn (s := s) (k := k) hj2))
      · rw [if_neg hj2] at e; cases e
    · cases hq
  | 16, hq =>
    have hq : on_ b _ _ = some c := hq
    unfold on_ at hq
    by_cases hb : b < ns_ s
    · rw [if_pos hb] at hq
      cases hq
      intro v hv
      simp only [List.mem_cons, List.not_mem_nil, or_false] at hv
      rcases hv with rfl | rfl | rfl | rfl
      · exact trivial
      · exact trivial
      · exact nm_ref hkey (nm_some (hC_rt (s := s) (k := k) hb))
      · exact trivial
    · rw [if_neg hb] at hq; cases hq
  | 17, hq =>
    have hq : on_ b _ _ = some c := hq
    unfold on_ at hq
    split at hq
    · cases hq; exact trivial
    · cases hq
  | 18, hq =>
    have hq : o1_ b _ = some c := hq
    unfold o1_ at hq
    split at hq
    · cases hq
      intro j hj e
      dsimp only at e
      by_cases hj2 : j < 2
      · rw [if_pos hj2] at e
        cases e
        exact absurd hkey (nm_some (hC_mi (s := s) (k := k) (i := j) (by omega)))
      · rw [if_neg hj2] at e; cases e
    · cases hq
  | 19, hq =>
    have hq : on_ b _ _ = some c := hq
    unfold on_ at hq
    by_cases hb : b < 3
    · rw [if_pos hb] at hq
      cases hq
      intro v hv
      simp only [List.mem_cons, List.not_mem_nil, or_false] at hv
      rcases hv with rfl | rfl | rfl
      · exact nm_ref hkey (nm_some (hC_mb (s := s) (k := k) hb))
      · exact nm_ref hkey (nm_some (hC_ms (s := s) (k := k) hb))
      · exact trivial
    · rw [if_neg hb] at hq; cases hq
  | 20, hq =>
    have hq : on_ b _ _ = some c := hq
    unfold on_ at hq
    split at hq
    · cases hq; exact trivial
    · cases hq
  | 21, hq =>
    have hq : on_ b _ _ = some c := hq
    unfold on_ at hq
    split at hq
    · cases hq; exact trivial
    · cases hq
  | n + 22, hq => cases hq
def s_np (s : SG) : SG := sN (sGb s 2 (va_up (gn_ s) (np_ s) false)) 4 (np_ s + 1)
def k_np (s : SG) (k : KG) : KG := kN (kN k 0 (va_up (ho_ k) (np_ s) 0)) 1 (va_up (ac_ k) (np_ s) 0)
abbrev f_pk (n : Nat) : Nat → Option KK := fun i => if i < n then some (7, i) else none
abbrev f_bl (n : Nat) : Nat → Option KK := fun i => if i < n then some (5, i) else none
abbrev f_sn (n : Nat) : Nat → Option KK := fun i => if i < n then some (16, i) else none
theorem va_up_f (a n : Nat) : va_up (fun i => if i < n then some ((a, i) : KK) else none) n (some (a, n)) = fun i => if i < n + 1 then some (a, i) else none := by
  funext i
  by_cases h1 : i = n
  · subst h1; simp [va_up]
  · by_cases h2 : i < n
    · have : i < n + 1 := by omega
      simp [va_up, h1, h2, this]
    · have : ¬ i < n + 1 := by omega
      simp [va_up, h1, h2, this]
set_option maxRecDepth 20000 in
theorem up_newpack (s : SG) (k : KG) : kw_up (kw_up (kw_up (hC s k) (7, np_ s) (.inr (4, [pi_ 0, pi_ 0, pi_ 0]))) (4, 1) (ro2_ RX5 40 (va_up (f_pk (np_ s)) (np_ s) (some (7, np_ s))))) (3, 0) (.inr (8, [pi_ (nI (cap_ s)), pr_ (1, 0), pr_ (4, 0), pr_ (4, 1), pr_ (4, 2), pi_ (nI (nb_ s)), pi_ (nI (nfr_ s)), pi_ (nI (nrv_ s)), pi_ (nI (np_ s + 1)), pi_ (nI (nan_ s))])) = hC (s_np s) (k_np s k) := by
  funext q
  obtain ⟨a, b⟩ := q
  match a with
  | 0 => rfl
  | 1 => rfl
  | 2 => rfl
  | 3 =>
    match b with
    | 0 => rfl
    | n + 1 => rfl
  | 4 =>
    match b with
    | 0 => rfl
    | 1 =>
      show some (ro2_ RX5 40 (va_up (f_pk (np_ s)) (np_ s) (some (7, np_ s)))) = some (ro2_ RX5 40 _)
      rw [va_up_f]; rfl
    | 2 => rfl
    | n + 3 => rfl
  | 5 => rfl
  | 6 => rfl
  | 7 =>
    refine (kw_up_n _ _ (fun z => by cases z)).trans ?_
    refine (kw_up_n _ _ (fun z => by cases z)).trans ?_
    by_cases e : b = np_ s
    · subst e
      refine (kw_up_s _ _ _).trans ?_
      show _ = on_ _ _ _
      simp [on_, s_np, k_np, b2, nI_0, cap_, nb_, nfr_, nrv_, np_, nan_, shr_, ns_, nh_, nsw_, ph_, rf_, rt_, end_, cut_, wr_, now_, dn_, fs_, gs_, ys_, ff_, sz_, cm_, ch_, pk_, pp_, wt_, al_, tg_, rm_, ro_, hk_, hw_, md_, le_, um_, us_, km_, ks_, ru_, rw_, th_, mk_, gn_, kp_, sv_, ky_, tm_, un_, nx_, pe_, ml_, ka_, kb_, kn_, rch_, ho_, ac_, dn2_, sN, sX, sNow, sDn, sF, sGb, sY, sFF, kX, kA, kB, kN, va_up, c_root, c_jr, c_st, c_bl, c_pa, c_sw, c_mo, c_ru, c_sa, c_sn, c_mi]
    · refine (kw_up_n _ _ (fun z => e (by cases z; rfl))).trans ?_
      show on_ b _ _ = on_ b _ _
      by_cases h2 : b < np_ s
      · have h3 : b < np_ s + 1 := by omega
        simp only [nb_, np_, ns_] at h2 h3 e
        simp [on_, s_np, k_np, cap_, nb_, nfr_, nrv_, np_, nan_, shr_, ns_, nh_, nsw_, ph_, rf_, rt_, end_, cut_, wr_, now_, dn_, fs_, gs_, ys_, ff_, sz_, cm_, ch_, pk_, pp_, wt_, al_, tg_, rm_, ro_, hk_, hw_, md_, le_, um_, us_, km_, ks_, ru_, rw_, th_, mk_, gn_, kp_, sv_, ky_, tm_, un_, nx_, pe_, ml_, ka_, kb_, kn_, rch_, ho_, ac_, dn2_, sN, sX, sNow, sDn, sF, sGb, sY, sFF, kX, kA, kB, kN, va_up, c_root, c_jr, c_st, c_bl, c_pa, c_sw, c_mo, c_ru, c_sa, c_sn, c_mi, e, h2, h3]
      · have h3 : ¬ b < np_ s + 1 := by omega
        simp only [nb_, np_, ns_] at h2 h3 e
        simp [on_, s_np, k_np, cap_, nb_, nfr_, nrv_, np_, nan_, shr_, ns_, nh_, nsw_, ph_, rf_, rt_, end_, cut_, wr_, now_, dn_, fs_, gs_, ys_, ff_, sz_, cm_, ch_, pk_, pp_, wt_, al_, tg_, rm_, ro_, hk_, hw_, md_, le_, um_, us_, km_, ks_, ru_, rw_, th_, mk_, gn_, kp_, sv_, ky_, tm_, un_, nx_, pe_, ml_, ka_, kb_, kn_, rch_, ho_, ac_, dn2_, sN, sX, sNow, sDn, sF, sGb, sY, sFF, kX, kA, kB, kN, va_up, c_root, c_jr, c_st, c_bl, c_pa, c_sw, c_mo, c_ru, c_sa, c_sn, c_mi, e, h2, h3]
  | 8 => rfl
  | 9 => rfl
  | 10 => rfl
  | 11 => rfl
  | 12 => rfl
  | 13 => rfl
  | 14 => rfl
  | 15 => rfl
  | 16 => rfl
  | 17 => rfl
  | 18 => rfl
  | 19 => rfl
  | 20 => rfl
  | 21 => rfl
  | n + 22 => rfl
theorem kw_up2 (h : PH) (k : KK) (c c' : PC) : kw_up (kw_up h k c) k c' = kw_up h k c' := by
  funext q
  by_cases e : q = k
  · subst e; rw [kw_up_s, kw_up_s]
  · rw [kw_up_n _ _ e, kw_up_n _ _ e, kw_up_n _ _ e]
section KwCtor
variable {l : Launch} {D : va_G} {cc : ByteArray} {own : String} {ret : Option FieldType} {nm : String} {R : Room} {A : Nat → Prop} {K : Option PV → (KK → Nat) → PH → Prop} {ad : KK → Nat} {h : PH} {cells slots pc : Nat} {lv : List (Option PV)} {st : List PV}
theorem kw_callIf {idx n nL2 : Nat} {y : MethodName} {cc2 : ByteArray} {R2 : Room} {As rest : List PV} {key : KK} {r0 : Option PV} {h0 : PH} (hM : kw_F l y cc2 nL2 none R2 (pr_ key :: As) h r0 h0) (hd : decode cc pc = .ok (.invokespecial idx, 3)) (hC : kw_CI own idx y cc2 nL2 n)
    (hn : As.length = n) (hst : st = As.reverse ++ pr_ key :: rest) (hrest : (rest.map kw_cat).sum ≤ 8) (hR : kw_Rm R R2 nL2 cells slots)
    (k : kw_G l D cc own ret nm R A K ad h0 (cells + R2.cells) (slots + R2.slots) (pc + 3) lv (r0.toList ++ rest)) : kw_G l D cc own ret nm R A K ad h cells slots pc lv st := by
  intro p e s m args below meth c H locs ls E hH hA hS hB hl
  refine kw_after (kw_runI hM hd hC hn hst hrest hR E hH hl) hS (kw_Ain hA hS hB) fun r ad1 h1 H1 locs1 hp hH1 hA1 hz hS1 => ?_
  obtain ⟨rfl, rfl, rfl⟩ := hp
  rw [kw_toList]
  exact k p e s m args below meth c H1 locs1 ls E hH1 hA1 hS1 hB hl
theorem kw_callINf {idx n nL2 : Nat} {y : MethodName} {cc2 : ByteArray} {R2 : Room} {As rest : List PV} {key : KK} {host : String} {r0 : Option PV} {h0 : PH} (hM : kw_F l y cc2 nL2 none R2 (pr_ key :: As) h r0 h0) (hd : decode cc pc = .ok (.invokespecial idx, 3)) (hC : kw_CIN own idx y cc2 nL2 n host)
    (hn : As.length = n) (hst : st = As.reverse ++ pr_ key :: rest) (hrest : (rest.map kw_cat).sum ≤ 8) (hR : kw_Rm R R2 nL2 cells slots)
    (k : kw_G l D cc own ret nm R A K ad h0 (cells + R2.cells) (slots + R2.slots) (pc + 3) lv (r0.toList ++ rest)) : kw_G l D cc own ret nm R A K ad h cells slots pc lv st := by
  intro p e s m args below meth c H locs ls E hH hA hS hB hl
  refine kw_after (kw_runIN hM hd hC hn hst hrest hR E hH hl) hS (kw_Ain hA hS hB) fun r ad1 h1 H1 locs1 hp hH1 hA1 hz hS1 => ?_
  obtain ⟨rfl, rfl, rfl⟩ := hp
  rw [kw_toList]
  exact k p e s m args below meth c H1 locs1 ls E hH1 hA1 hS1 hB hl
/-- fewer cells -/
theorem kw_drop {h' : PH} (e : ∀ q c, h' q = some c → h q = some c) (k : kw_G l D cc own ret nm R A K ad h' cells slots pc lv st) : kw_G l D cc own ret nm R A K ad h cells slots pc lv st := by
  intro p e1 s m args below meth c H locs ls E hH hA hS hB hl
  have al : ∀ q, h' q ≠ none → h q ≠ none := by
    intro q hq
    cases e2 : h' q with
    | none => exact absurd e2 hq
    | some c => rw [e q c e2]; exact fun z => by cases z
  exact k p e1 s m args below meth c H locs ls E ⟨hH.1, fun q c hq => hH.2.1 q c (e q c hq), fun a b ha hb => hH.2.2 a b (al a ha) (al b hb)⟩ (fun q hq => hA q (al q hq)) hS hB hl
end KwCtor
set_option maxHeartbeats 4000000 in
set_option maxRecDepth 100000 in
theorem p_init (l : Launch) (h : PH) (key : KK) : kw_F l yX5_init cX5_init 1 (Option.none : Option Jvm.ClassFile.FieldType) { frames := 1, cells := 0, slots := 0, locals := 20 } [pr_ key] h none h := by
  refine kw_M_of RX5 "<init>" [some (pr_ key)] (by decide) rfl rfl rfl (Nat.le_of_ble_eq_true rfl) ?_
  intro D ad A
  refine kw_Kgen (fun K hK => ?_)
  refine kw_aload_n dX5_init_0 rfl ?_
  refine kw_objInit dX5_init_1 kt_448 kt_23 kt_24 (Nat.le_of_ble_eq_true rfl) (Nat.le_of_ble_eq_true rfl) ?_
  exact kw_vret dX5_init_4 rfl (Nat.le_of_ble_eq_true rfl) (Nat.le_of_ble_eq_true rfl) (hK _ _ _ ⟨rfl, rfl, rfl⟩)
set_option maxHeartbeats 4000000 in
set_option maxRecDepth 100000 in
theorem b_init (l : Launch) (h : PH) (key q : KK) (x : Int64) (z : Int32) (hk : h key = some (.inr (0, [pl_ 0, pi_ 0, pn_, pi_ 0, pi_ 0, pi_ 0, pi_ 0, pi_ 0]))) : kw_F l yX0_init cX0_init 5 (Option.none : Option Jvm.ClassFile.FieldType) { frames := 1, cells := 0, slots := 0, locals := 20 } [pr_ key, pl_ x, pi_ z, pr_ q] h none (kw_up h key (.inr (0, [pl_ x, pi_ z, pr_ q, pi_ 0, pi_ 0, pi_ 0, pi_ 0, pi_ 0]))) := by
  refine kw_M_of RX0 "<init>" [some (pr_ key), some (pl_ x), none, some (pi_ z), some (pr_ q)] (by decide) rfl rfl rfl (Nat.le_of_ble_eq_true rfl) ?_
  intro D ad A
  refine kw_Kgen (fun K hK => ?_)
  refine kw_aload_n dX0_init_0 rfl ?_
  refine kw_objInit dX0_init_1 kt_398 kt_23 kt_24 (Nat.le_of_ble_eq_true rfl) (Nat.le_of_ble_eq_true rfl) ?_
  refine kw_aload_n dX0_init_4 rfl ?_
  refine kw_lload_n dX0_init_5 rfl ?_
  refine kw_putF dX0_init_6 fl_X0_7 rfl (fun _ _ _ h9 => by cases h9; rfl) hk (kw_ok_l _) (Nat.le_of_ble_eq_true rfl) ?_
  refine kw_aload_n dX0_init_9 rfl ?_
  refine kw_iload_n dX0_init_10 rfl ?_
  refine kw_putF dX0_init_11 fl_X0_13 rfl (fun _ _ _ h9 => by cases h9; rfl) (kw_up_s _ _ _) (kw_ok_i _) (Nat.le_of_ble_eq_true rfl) ?_
  rw [kw_up2]
  refine kw_aload_n dX0_init_14 rfl ?_
  refine kw_aload dX0_init_15 rfl ?_
  refine kw_putF dX0_init_17 fl_X0_17 rfl (fun _ _ _ h9 => by cases h9; rfl) (kw_up_s _ _ _) (kw_ok_a _ _) (Nat.le_of_ble_eq_true rfl) ?_
  rw [kw_up2]
  exact kw_vret dX0_init_20 rfl (Nat.le_of_ble_eq_true rfl) (Nat.le_of_ble_eq_true rfl) (hK _ _ _ ⟨rfl, rfl, rfl⟩)
set_option maxHeartbeats 4000000 in
set_option maxRecDepth 100000 in
theorem n_init (l : Launch) (h : PH) (key q : KK) (x : Int64) (z : Int32) (hk : h key = some (.inr (7, [pl_ 0, pi_ 0, pn_, pi_ 0]))) : kw_F l yX8_init cX8_init 5 (Option.none : Option Jvm.ClassFile.FieldType) { frames := 1, cells := 0, slots := 0, locals := 20 } [pr_ key, pl_ x, pi_ z, pr_ q] h none (kw_up h key (.inr (7, [pl_ x, pi_ z, pr_ q, pi_ 0]))) := by
  refine kw_M_of RX8 "<init>" [some (pr_ key), some (pl_ x), none, some (pi_ z), some (pr_ q)] (by decide) rfl rfl rfl (Nat.le_of_ble_eq_true rfl) ?_
  intro D ad A
  refine kw_Kgen (fun K hK => ?_)
  refine kw_aload_n dX8_init_0 rfl ?_
  refine kw_objInit dX8_init_1 kt_541 kt_23 kt_24 (Nat.le_of_ble_eq_true rfl) (Nat.le_of_ble_eq_true rfl) ?_
  refine kw_aload_n dX8_init_4 rfl ?_
  refine kw_lload_n dX8_init_5 rfl ?_
  refine kw_putF dX8_init_6 fl_X8_7 rfl (fun _ _ _ h9 => by cases h9; rfl) hk (kw_ok_l _) (Nat.le_of_ble_eq_true rfl) ?_
  refine kw_aload_n dX8_init_9 rfl ?_
  refine kw_iload_n dX8_init_10 rfl ?_
  refine kw_putF dX8_init_11 fl_X8_13 rfl (fun _ _ _ h9 => by cases h9; rfl) (kw_up_s _ _ _) (kw_ok_i _) (Nat.le_of_ble_eq_true rfl) ?_
  rw [kw_up2]
  refine kw_aload_n dX8_init_14 rfl ?_
  refine kw_aload dX8_init_15 rfl ?_
  refine kw_putF dX8_init_17 fl_X8_17 rfl (fun _ _ _ h9 => by cases h9; rfl) (kw_up_s _ _ _) (kw_ok_a _ _) (Nat.le_of_ble_eq_true rfl) ?_
  rw [kw_up2]
  exact kw_vret dX8_init_20 rfl (Nat.le_of_ble_eq_true rfl) (Nat.le_of_ble_eq_true rfl) (hK _ _ _ ⟨rfl, rfl, rfl⟩)
def s_lay (s : SG) (b p o : Nat) : SG := sF (sF s 3 (va_up (pk_ s) b p)) 4 (va_up (pp_ s) b o)
def k_lay (k : KG) (p v : Nat) : KG := kN k 1 (va_up (ac_ k) p v)
set_option maxHeartbeats 4000000 in
set_option maxRecDepth 100000 in
theorem t_lay1 (l : Launch) (s : SG) (k : KG) (hb : nb_ s ≤ 80) (hp : np_ s ≤ 40) (b p o : Nat) (hb0 : b < nb_ s) (hp1 : p < np_ s) : kw_Q l yX9_lay cX9_lay 4 (Option.none : Option Jvm.ClassFile.FieldType) { frames := 2, cells := 1, slots := 3, locals := 40 } [pr_ (3, 0), pi_ (nI b), pi_ (nI p), pi_ (nI o)] (hC s k) (fun r h' => r = none ∧ h' = hC (s_lay s b p o) (k_lay k p (o + sz_ s b))) := by
  refine kw_M_of RX9 "lay" [some (pr_ (3, 0)), some (pi_ (nI b)), some (pi_ (nI p)), some (pi_ (nI o))] (by decide) rfl rfl rfl (Nat.le_of_ble_eq_true rfl) ?_
  intro D ad A
  refine kw_Kgen (fun K hK => ?_)
  refine kw_iload_n dX9_lay_0 rfl ?_
  refine kw_aload_n dX9_lay_1 rfl ?_
  refine kw_get dX9_lay_2 fl_X9_56 rfl rfl ?_
  refine kw_icmp_ne (tgt := 31) dX9_lay_5 (by decide) (fun c5 => ?_) (fun c5 => ?_)
  · skip
    refine kw_aload_n dX9_lay_31 rfl ?_
    refine kw_get dX9_lay_32 fl_X9_11 rfl rfl ?_
    refine kw_iload_n dX9_lay_35 rfl ?_
    refine kw_aaldN dX9_lay_36 rfl (by omega) (by decide) (if_pos hb0) ?_
    refine kw_iload_n dX9_lay_37 rfl ?_
    refine kw_put dX9_lay_38 fl_X9_49 (hC_bl (by exact hb0)) (kw_ok_i _) (Nat.le_of_ble_eq_true rfl) ?_
    refine kw_heq (up_bpk _ _ b (by exact hb0) p) ?_
    refine kw_aload_n dX9_lay_41 rfl ?_
    refine kw_get dX9_lay_42 fl_X9_11 rfl rfl ?_
    refine kw_iload_n dX9_lay_45 rfl ?_
    refine kw_aaldN dX9_lay_46 rfl (by omega) (by decide) (if_pos hb0) ?_
    refine kw_iload_n dX9_lay_47 rfl ?_
    refine kw_put dX9_lay_48 fl_X9_82 (hC_bl (by exact hb0)) (kw_ok_i _) (Nat.le_of_ble_eq_true rfl) ?_
    refine kw_heq (up_bpp _ _ b (by exact hb0) o) ?_
    refine kw_aload_n dX9_lay_51 rfl ?_
    refine kw_get dX9_lay_52 fl_X9_19 rfl rfl ?_
    refine kw_iload_n dX9_lay_55 rfl ?_
    refine kw_aaldN dX9_lay_56 rfl (by omega) (by decide) (if_pos (by exact hp1)) ?_
    refine kw_iload_n dX9_lay_57 rfl ?_
    refine kw_aload_n dX9_lay_58 rfl ?_
    refine kw_get dX9_lay_59 fl_X9_11 rfl rfl ?_
    refine kw_iload_n dX9_lay_62 rfl ?_
    refine kw_aaldN dX9_lay_63 rfl (by omega) (by decide) (if_pos hb0) ?_
    refine kw_get dX9_lay_64 fl_X9_85 (hC_bl (by exact hb0)) rfl ?_
    refine kw_iadd dX9_lay_67 ?_
    refine kw_top (v' := pi_ (nI (o + sz_ s b))) (by rw [← nI_add]; rfl) ?_
    refine kw_put dX9_lay_68 fl_X9_62 (hC_pa (by exact hp1)) (kw_ok_i _) (Nat.le_of_ble_eq_true rfl) ?_
    refine kw_heq (up_pal _ _ p (by exact hp1) _) ?_
    exact kw_vret dX9_lay_71 rfl (Nat.le_of_ble_eq_true rfl) (Nat.le_of_ble_eq_true rfl) (hK _ _ _ ⟨fun _ _ => rfl, rfl, rfl⟩)
  · skip
    exact absurd c5 (fun q => absurd (nI_eq' (by omega) (by omega) q) (by omega))
set_option maxHeartbeats 4000000 in
set_option maxRecDepth 100000 in
theorem t_lay0 (l : Launch) (s : SG) (k : KG) (hb : nb_ s ≤ 80) (hns : ns_ s ≤ 40) (hp : np_ s < 40) (b o : Nat) (hb0 : b < nb_ s) : kw_Q l yX9_lay cX9_lay 4 (Option.none : Option Jvm.ClassFile.FieldType) { frames := 2, cells := 1, slots := 3, locals := 40 } [pr_ (3, 0), pi_ (nI b), pi_ (nI (np_ s)), pi_ (nI o)] (hC s k) (fun r h' => r = none ∧ h' = hC (s_lay (s_np s) b (np_ s) o) (k_lay (k_np s k) (np_ s) (o + sz_ s b))) := by
  refine kw_M_of RX9 "lay" [some (pr_ (3, 0)), some (pi_ (nI b)), some (pi_ (nI (np_ s))), some (pi_ (nI o))] (by decide) rfl rfl rfl (Nat.le_of_ble_eq_true rfl) ?_
  intro D ad A
  refine kw_Kgen (fun K hK => ?_)
  have hkey : hC s k (7, np_ s) = none := if_neg (Nat.lt_irrefl _)
  have hp1 : np_ s < np_ (s_np s) := Nat.lt_succ_self _
  refine kw_iload_n dX9_lay_0 rfl ?_
  refine kw_aload_n dX9_lay_1 rfl ?_
  refine kw_get dX9_lay_2 fl_X9_56 rfl rfl ?_
  refine kw_icmp_ne (tgt := 31) dX9_lay_5 (by decide) (fun c5 => ?_) (fun c5 => ?_)
  · skip
    exact absurd rfl c5
  · skip
    refine kw_aload_n dX9_lay_8 rfl ?_
    refine kw_get dX9_lay_9 fl_X9_19 rfl rfl ?_
    refine kw_iload_n dX9_lay_12 rfl ?_
    refine kw_new (7, np_ s) (fs := [pi_ 0, pi_ 0, pi_ 0]) dX9_lay_13 kc_X5 kt_72 kt_444 kt_14 (fun _ j hj => match j, hj with | 0, _ => rfl | 1, _ => rfl | 2, _ => rfl | k + 3, h9 => absurd h9 (by omega)) hkey (hC_nm hkey hns hb (by omega)) (by simp [kw_all, kw_nmo, kw_nmv, kw_set1, kw_set2, kw_keep, kw_alo, kw_alv]) (by simp [kw_all, kw_nmo, kw_nmv, kw_set1, kw_set2, kw_keep, kw_alo, kw_alv]) (Nat.le_of_ble_eq_true rfl) (Nat.le_of_ble_eq_true rfl) (fun a9 => ?_)
    refine kw_dup dX9_lay_16 rfl ?_
    refine kw_callINf (As := []) (p_init l _ (7, np_ s)) dX9_lay_17 cl_X9_81 rfl rfl (Nat.le_of_ble_eq_true rfl) ⟨(Nat.le_of_ble_eq_true rfl), (Nat.le_of_ble_eq_true rfl), (Nat.le_of_ble_eq_true rfl), (Nat.le_of_ble_eq_true rfl)⟩ ?_
    refine kw_aast dX9_lay_20 rfl ((kw_up_n _ _ (fun z => by cases z)).trans rfl) (kw_up_s _ _ _) (vp_in_nI hp (by decide)) ?_
    rw [nI_clamp (by omega)]
    refine kw_aload_n dX9_lay_21 rfl ?_
    refine kw_dup dX9_lay_22 rfl ?_
    refine kw_get dX9_lay_23 fl_X9_56 ((kw_up_n _ _ (fun z => by cases z)).trans ((kw_up_n _ _ (fun z => by cases z)).trans rfl)) rfl ?_
    refine kw_iconst (v := 1) dX9_lay_26 (by decide) ?_
    refine kw_iadd dX9_lay_27 ?_
    refine kw_top (v' := pi_ (nI (np_ s + 1))) (by rw [← nI_1]) ?_
    refine kw_put dX9_lay_28 fl_X9_56 ((kw_up_n _ _ (fun z => by cases z)).trans ((kw_up_n _ _ (fun z => by cases z)).trans rfl)) (kw_ok_i _) (Nat.le_of_ble_eq_true rfl) ?_
    refine kw_heq (up_newpack s k) ?_
    refine kw_aload_n dX9_lay_31 rfl ?_
    refine kw_get dX9_lay_32 fl_X9_11 rfl rfl ?_
    refine kw_iload_n dX9_lay_35 rfl ?_
    refine kw_aaldN dX9_lay_36 rfl (by omega) (by decide) (if_pos hb0) ?_
    refine kw_iload_n dX9_lay_37 rfl ?_
    refine kw_put dX9_lay_38 fl_X9_49 (hC_bl (by exact hb0)) (kw_ok_i _) (Nat.le_of_ble_eq_true rfl) ?_
    refine kw_heq (up_bpk _ _ b (by exact hb0) (np_ s)) ?_
    refine kw_aload_n dX9_lay_41 rfl ?_
    refine kw_get dX9_lay_42 fl_X9_11 rfl rfl ?_
    refine kw_iload_n dX9_lay_45 rfl ?_
    refine kw_aaldN dX9_lay_46 rfl (by omega) (by decide) (if_pos hb0) ?_
    refine kw_iload_n dX9_lay_47 rfl ?_
    refine kw_put dX9_lay_48 fl_X9_82 (hC_bl (by exact hb0)) (kw_ok_i _) (Nat.le_of_ble_eq_true rfl) ?_
    refine kw_heq (up_bpp _ _ b (by exact hb0) o) ?_
    refine kw_aload_n dX9_lay_51 rfl ?_
    refine kw_get dX9_lay_52 fl_X9_19 rfl rfl ?_
    refine kw_iload_n dX9_lay_55 rfl ?_
    refine kw_aaldN dX9_lay_56 rfl (by omega) (by decide) (if_pos (by exact hp1)) ?_
    refine kw_iload_n dX9_lay_57 rfl ?_
    refine kw_aload_n dX9_lay_58 rfl ?_
    refine kw_get dX9_lay_59 fl_X9_11 rfl rfl ?_
    refine kw_iload_n dX9_lay_62 rfl ?_
    refine kw_aaldN dX9_lay_63 rfl (by omega) (by decide) (if_pos hb0) ?_
    refine kw_get dX9_lay_64 fl_X9_85 (hC_bl (by exact hb0)) rfl ?_
    refine kw_iadd dX9_lay_67 ?_
    refine kw_top (v' := pi_ (nI (o + sz_ s b))) (by rw [← nI_add]; rfl) ?_
    refine kw_put dX9_lay_68 fl_X9_62 (hC_pa (by exact hp1)) (kw_ok_i _) (Nat.le_of_ble_eq_true rfl) ?_
    refine kw_heq (up_pal _ _ (np_ s) (by exact hp1) _) ?_
    exact kw_vret dX9_lay_71 rfl (Nat.le_of_ble_eq_true rfl) (Nat.le_of_ble_eq_true rfl) (hK _ _ _ ⟨fun q hq => kw_ad_n _ _ (fun z => by rw [z] at hq; exact hq hkey), rfl, rfl⟩)
