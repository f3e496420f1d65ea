/-! THE WORDS FOR THE STATE. sg: what both sides hold in common (n: numbers, x: raw ints, now, down, f: rows of numbers, g: rows of yes and no, y: rows of longs); kg: what the class alone holds. -/
abbrev SG : Type := (Nat → Nat) × (Nat → Int32) × Int64 × Bool × (Nat → Nat → Nat) × (Nat → Nat → Bool) × (Nat → Nat → Int64) × (Nat → Nat → Nat → Nat)
abbrev KG : Type := (Nat → Int32) × (Nat → Nat → Int32) × (Nat → Nat → Bool) × (Nat → Nat → Nat)
/-- numbers: capacity, blocks, freed, revived, packs, packed anew, share, snapshots, history, sweeps, phase, row's first, row's end, END -/
abbrev cap_ (s : SG) : Nat := s.1 0
abbrev nb_ (s : SG) : Nat := s.1 1
abbrev nfr_ (s : SG) : Nat := s.1 2
abbrev nrv_ (s : SG) : Nat := s.1 3
abbrev np_ (s : SG) : Nat := s.1 4
abbrev nan_ (s : SG) : Nat := s.1 5
abbrev shr_ (s : SG) : Nat := s.1 6
abbrev ns_ (s : SG) : Nat := s.1 7
abbrev nh_ (s : SG) : Nat := s.1 8
abbrev nsw_ (s : SG) : Nat := s.1 9
abbrev ph_ (s : SG) : Nat := s.1 10
abbrev rf_ (s : SG) : Nat := s.1 11
abbrev rt_ (s : SG) : Nat := s.1 12
abbrev end_ (s : SG) : Nat := s.1 13
/-- raw: cut, writes -/
abbrev cut_ (s : SG) : Int32 := s.2.1 0
abbrev wr_ (s : SG) : Int32 := s.2.1 1
abbrev now_ (s : SG) : Int64 := s.2.2.1
abbrev dn_ (s : SG) : Bool := s.2.2.2.1
abbrev fs_ (s : SG) : Nat → Nat → Nat := s.2.2.2.2.1
abbrev gs_ (s : SG) : Nat → Nat → Bool := s.2.2.2.2.2.1
abbrev ys_ (s : SG) : Nat → Nat → Int64 := s.2.2.2.2.2.2.1
abbrev ff_ (s : SG) : Nat → Nat → Nat → Nat := s.2.2.2.2.2.2.2
/-- rows of numbers: 0 size, 1 children many, 3 pack, 4 place, 5 waits, 6 ALL, 7 tag, 8 roots many, 10 history's kind, 11 its number, 12 mirrors' did, 13 lease, 14 uses many, 16 row many, 18 rules, 19 the sweep's row; rows of rows: 0 children, 1 roots, 2 uses, 3 the savers' rows of children -/
abbrev sz_ (s : SG) : Nat → Nat := fs_ s 0
abbrev cm_ (s : SG) : Nat → Nat := fs_ s 1
abbrev ch_ (s : SG) : Nat → Nat → Nat := ff_ s 0
abbrev pk_ (s : SG) : Nat → Nat := fs_ s 3
abbrev pp_ (s : SG) : Nat → Nat := fs_ s 4
abbrev wt_ (s : SG) : Nat → Nat := fs_ s 5
abbrev al_ (s : SG) : Nat → Nat := fs_ s 6
abbrev tg_ (s : SG) : Nat → Nat := fs_ s 7
abbrev rm_ (s : SG) : Nat → Nat := fs_ s 8
abbrev ro_ (s : SG) : Nat → Nat → Nat := ff_ s 1
abbrev hk_ (s : SG) : Nat → Nat := fs_ s 10
abbrev hw_ (s : SG) : Nat → Nat := fs_ s 11
abbrev md_ (s : SG) : Nat → Nat := fs_ s 12
abbrev le_ (s : SG) : Nat → Nat := fs_ s 13
abbrev um_ (s : SG) : Nat → Nat := fs_ s 14
abbrev us_ (s : SG) : Nat → Nat → Nat := ff_ s 2
abbrev km_ (s : SG) : Nat → Nat := fs_ s 16
abbrev ks_ (s : SG) : Nat → Nat → Nat := ff_ s 3
abbrev ru_ (s : SG) : Nat → Nat := fs_ s 18
abbrev rw_ (s : SG) : Nat → Nat := fs_ s 19
/-- yes and no: 0 THERE, 1 MARKED, 2 pack gone, 3 snapshot kept, 4 saver there -/
abbrev th_ (s : SG) : Nat → Bool := gs_ s 0
abbrev mk_ (s : SG) : Nat → Bool := gs_ s 1
abbrev gn_ (s : SG) : Nat → Bool := gs_ s 2
abbrev kp_ (s : SG) : Nat → Bool := gs_ s 3
abbrev sv_ (s : SG) : Nat → Bool := gs_ s 4
/-- longs: 0 key, 1 time, 2 until -/
abbrev ky_ (s : SG) : Nat → Int64 := ys_ s 0
abbrev tm_ (s : SG) : Nat → Int64 := ys_ s 1
abbrev un_ (s : SG) : Nat → Int64 := ys_ s 2
/-- the class's own: raw: 0 next, 1 packs' end, 2 mover's length; rows raw: 0 moved, 1 packs, 2 places, 3 kept; yes and no: 0 reached, 1..3 mirrors' blocks, 4..6 mirrors' snapshots; numbers: 0 holes, 1 all, 2 mirrors' done (2 0, 2 1: as md; 2 2: replayed) -/
abbrev nx_ (k : KG) : Int32 := k.1 0
abbrev pe_ (k : KG) : Int32 := k.1 1
abbrev ml_ (k : KG) : Int32 := k.1 2
abbrev ka_ (k : KG) : Nat → Nat → Int32 := k.2.1
abbrev kb_ (k : KG) : Nat → Nat → Bool := k.2.2.1
abbrev kn_ (k : KG) : Nat → Nat → Nat := k.2.2.2
abbrev rch_ (k : KG) : Nat → Bool := kb_ k 0
abbrev ho_ (k : KG) : Nat → Nat := kn_ k 0
abbrev ac_ (k : KG) : Nat → Nat := kn_ k 1
abbrev dn2_ (k : KG) : Nat → Nat := kn_ k 2
abbrev ri_ (n : Nat) (f : Nat → Nat) : PC := .inl (.int, n, .inl (fun j => nI (f j)))
abbrev rx_ (n : Nat) (f : Nat → Int32) : PC := .inl (.int, n, .inl f)
abbrev rb_ (n : Nat) (g : Nat → Bool) : PC := .inl (.boolean, n, .inl (fun j => b2 (g j)))
abbrev rl_ (n : Nat) (f : Nat → Int64) : PC := .inl (.long, n, .inr (.inl f))
abbrev ro2_ (C : String) (n : Nat) (f : Nat → Option KK) : PC := .inl (.object C, n, .inr (.inr f))
abbrev o1_ (i : Nat) (c : PC) : Option PC := if i = 0 then some c else none
abbrev on_ (i n : Nat) (c : PC) : Option PC := if i < n then some c else none
/-- cells of the class -/
abbrev c_root (s : SG) : PC := .inr (10, [pr_ (1, 0), pr_ (3, 0), pr_ (8, 0), pr_ (10, 0), pr_ (11, 0), pr_ (15, 0), pr_ (18, 0), pr_ (19, 2), pi_ (nI (ns_ s)), pl_ (now_ s)])
abbrev c_jr (s : SG) : PC := .inr (1, [pr_ (2, 0), pr_ (2, 1), pi_ (nI (nh_ s)), pi_ (wr_ s), pi_ (cut_ s), pi_ (b2 (dn_ s))])
abbrev c_st (s : SG) : PC := .inr (8, [pi_ (nI (cap_ s)), pr_ (1, 0), pr_ (4, 0), pr_ (4, 1), pr_ (4, 2), pi_ (nI (nb_ s)), pi_ (nI (nfr_ s)), pi_ (nI (nrv_ s)), pi_ (nI (np_ s)), pi_ (nI (nan_ s))])
abbrev c_bl (s : SG) (i : Nat) : PC := .inr (0, [pl_ (ky_ s i), pi_ (nI (sz_ s i)), pr_ (6, i), pi_ (nI (pk_ s i)), pi_ (nI (pp_ s i)), pi_ (nI (wt_ s i)), pi_ (b2 (!th_ s i)), pi_ (b2 (mk_ s i))])
abbrev c_pa (s : SG) (k : KG) (i : Nat) : PC := .inr (4, [pi_ (nI (ac_ k i)), pi_ (nI (ho_ k i)), pi_ (b2 (gn_ s i))])
abbrev c_sw (s : SG) (k : KG) : PC := .inr (9, [pr_ (3, 0), pr_ (9, 0), pr_ (8, 1), pi_ (nI (rf_ s)), pi_ (nI (rt_ s)), pi_ (nI (ph_ s)), pi_ (nI (nsw_ s)), pi_ (nI (end_ s)), pi_ (nx_ k), pi_ (pe_ k), pi_ (nI (shr_ s))])
abbrev c_mo (k : KG) : PC := .inr (3, [pr_ (3, 0), pr_ (1, 0), pr_ (9, 1), pr_ (9, 2), pr_ (9, 3), pi_ (ml_ k)])
abbrev c_ru : PC := .inr (5, [pr_ (10, 1), pr_ (10, 2)])
abbrev c_sa (s : SG) (i : Nat) : PC := .inr (6, [pr_ (13, i), pr_ (14, i), pi_ (nI (um_ s i)), pi_ (nI (km_ s i)), pi_ (nI (le_ s i)), pl_ (un_ s i), pi_ (b2 (sv_ s i))])
abbrev c_sn (s : SG) (i : Nat) : PC := .inr (7, [pl_ (tm_ s i), pi_ (nI (tg_ s i)), pr_ (17, i), pi_ (b2 (!kp_ s i))])
abbrev c_mi (k : KG) (i : Nat) : PC := .inr (2, [pr_ (20, i), pr_ (21, i), pi_ (nI (dn2_ k i))])
/-- the class's world -/
def hC (s : SG) (k : KG) : PH := fun q => match q.1 with
  | 0 => o1_ q.2 (c_root s)
  | 1 => o1_ q.2 (c_jr s)
  | 2 => match q.2 with
    | 0 => some (ri_ 240 (hk_ s))
    | 1 => some (ri_ 240 (hw_ s))
    | _ => none
  | 3 => o1_ q.2 (c_st s)
  | 4 => match q.2 with
    | 0 => some (ro2_ RX0 80 (fun i => if i < nb_ s then some (5, i) else none))
    | 1 => some (ro2_ RX5 40 (fun i => if i < np_ s then some (7, i) else none))
    | 2 => some (rb_ 80 (rch_ k))
    | _ => none
  | 5 => on_ q.2 (nb_ s) (c_bl s q.2)
  | 6 => on_ q.2 (nb_ s) (ri_ (cm_ s q.2) (ch_ s q.2))
  | 7 => on_ q.2 (np_ s) (c_pa s k q.2)
  | 8 => match q.2 with
    | 0 => some (c_sw s k)
    | 1 => some (ri_ 944 (rw_ s))
    | _ => none
  | 9 => match q.2 with
    | 0 => some (c_mo k)
    | 1 => some (rx_ 80 (ka_ k 0))
    | 2 => some (rx_ 80 (ka_ k 1))
    | 3 => some (rx_ 80 (ka_ k 2))
    | _ => none
  | 10 => match q.2 with
    | 0 => some c_ru
    | 1 => some (ri_ 6 (ru_ s))
    | 2 => some (rx_ 40 (ka_ k 3))
    | _ => none
  | 11 => o1_ q.2 (ro2_ RX7 4 (fun i => if i < 4 then some (12, i) else none))
  | 12 => on_ q.2 4 (c_sa s q.2)
  | 13 => on_ q.2 4 (ri_ 8 (us_ s q.2))
  | 14 => on_ q.2 4 (ri_ 4 (ks_ s q.2))
  | 15 => o1_ q.2 (ro2_ RX8 40 (fun i => if i < ns_ s then some (16, i) else none))
  | 16 => on_ q.2 (ns_ s) (c_sn s q.2)
  | 17 => on_ q.2 (ns_ s) (ri_ (rm_ s q.2) (ro_ s q.2))
  | 18 => o1_ q.2 (ro2_ RX3 2 (fun i => if i < 2 then some (19, i) else none))
  | 19 => on_ q.2 3 (c_mi k q.2)
  | 20 => on_ q.2 3 (rb_ 80 (kb_ k (1 + q.2)))
  | 21 => on_ q.2 3 (rb_ 40 (kb_ k (4 + q.2)))
  | _ => none
/-! setters -/
abbrev sN (s : SG) (i v : Nat) : SG := (va_up s.1 i v, s.2)
abbrev sX (s : SG) (i : Nat) (v : Int32) : SG := (s.1, va_up s.2.1 i v, s.2.2)
abbrev sNow (s : SG) (v : Int64) : SG := (s.1, s.2.1, v, s.2.2.2)
abbrev sDn (s : SG) (v : Bool) : SG := (s.1, s.2.1, s.2.2.1, v, s.2.2.2.2)
abbrev sF (s : SG) (i : Nat) (v : Nat → Nat) : SG := (s.1, s.2.1, s.2.2.1, s.2.2.2.1, va_up s.2.2.2.2.1 i v, s.2.2.2.2.2)
abbrev sGb (s : SG) (i : Nat) (v : Nat → Bool) : SG := (s.1, s.2.1, s.2.2.1, s.2.2.2.1, s.2.2.2.2.1, va_up s.2.2.2.2.2.1 i v, s.2.2.2.2.2.2)
abbrev sY (s : SG) (i : Nat) (v : Nat → Int64) : SG := (s.1, s.2.1, s.2.2.1, s.2.2.2.1, s.2.2.2.2.1, s.2.2.2.2.2.1, va_up s.2.2.2.2.2.2.1 i v, s.2.2.2.2.2.2.2)
abbrev sFF (s : SG) (i : Nat) (v : Nat → Nat → Nat) : SG := (s.1, s.2.1, s.2.2.1, s.2.2.2.1, s.2.2.2.2.1, s.2.2.2.2.2.1, s.2.2.2.2.2.2.1, va_up s.2.2.2.2.2.2.2 i v)
abbrev kX (k : KG) (i : Nat) (v : Int32) : KG := (va_up k.1 i v, k.2)
abbrev kA (k : KG) (i : Nat) (v : Nat → Int32) : KG := (k.1, va_up k.2.1 i v, k.2.2)
abbrev kB (k : KG) (i : Nat) (v : Nat → Bool) : KG := (k.1, k.2.1, va_up k.2.2.1 i v, k.2.2.2)
abbrev kN (k : KG) (i : Nat) (v : Nat → Nat) : KG := (k.1, k.2.1, k.2.2.1, va_up k.2.2.2 i v)
/-- a world with one cell written anew is another world -/
theorem kw_up_eq {h h' : PH} {k : KK} {c : PC} (h1 : h' k = some c) (h2 : ∀ k', k' ≠ k → h k' = h' k') : kw_up h k c = h' := by
  funext k'
  by_cases e : k' = k
  · subst e; rw [kw_up_s, h1]
  · rw [kw_up_n _ _ e]; exact h2 k' e
/-! rows of the heap at numbers -/
section KwNum
variable {l : Launch} {D : va_G} {cc : ByteArray} {own : String} {ret : Option FieldType} {nm : String} {R : Room} {A : Nat → Prop} {K : Option PV → (KK → Nat) → PH → Prop} {ad : KK → Nat} {h : PH} {cells slots pc : Nat} {lv : List (Option PV)} {st : List PV}
theorem kw_ialdN {key : KK} {n j : Nat} {f : Nat → Int32} (hd : decode cc pc = .ok (.iaload, 1)) (hk : h key = some (.inl (.int, n, .inl f))) (hj : j < n) (hn : n < 2 ^ 31)
    (k : kw_G l D cc own ret nm R A K ad h cells slots (pc + 1) lv (pi_ (f j) :: st)) : kw_G l D cc own ret nm R A K ad h cells slots pc lv (pi_ (nI j) :: pr_ key :: st) :=
  kw_iald hd hk (vp_in_nI hj hn) (by rw [nI_clamp (by omega)]; exact k)
theorem kw_zaldN {key : KK} {n j : Nat} {f : Nat → Int32} (hd : decode cc pc = .ok (.baload, 1)) (hk : h key = some (.inl (.boolean, n, .inl f))) (hj : j < n) (hn : n < 2 ^ 31)
    (k : kw_G l D cc own ret nm R A K ad h cells slots (pc + 1) lv (pi_ (f j) :: st)) : kw_G l D cc own ret nm R A K ad h cells slots pc lv (pi_ (nI j) :: pr_ key :: st) :=
  kw_zald hd hk (vp_in_nI hj hn) (by rw [nI_clamp (by omega)]; exact k)
theorem kw_laldN {key : KK} {n j : Nat} {f : Nat → Int64} (hd : decode cc pc = .ok (.laload, 1)) (hk : h key = some (.inl (.long, n, .inr (.inl f)))) (hj : j < n) (hn : n < 2 ^ 31)
    (k : kw_G l D cc own ret nm R A K ad h cells slots (pc + 1) lv (pl_ (f j) :: st)) : kw_G l D cc own ret nm R A K ad h cells slots pc lv (pi_ (nI j) :: pr_ key :: st) :=
  kw_lald hd hk (vp_in_nI hj hn) (by rw [nI_clamp (by omega)]; exact k)
theorem kw_aaldN {key : KK} {n j : Nat} {C : String} {f : Nat → Option KK} {x : Option KK} (hd : decode cc pc = .ok (.aaload, 1)) (hk : h key = some (.inl (.object C, n, .inr (.inr f)))) (hj : j < n) (hn : n < 2 ^ 31) (hx : f j = x)
    (k : kw_G l D cc own ret nm R A K ad h cells slots (pc + 1) lv (.inr (.inr x) :: st)) : kw_G l D cc own ret nm R A K ad h cells slots pc lv (pi_ (nI j) :: pr_ key :: st) :=
  kw_aald hd hk (vp_in_nI hj hn) (by rw [nI_clamp (by omega), hx]; exact k)
theorem kw_iastN {key : KK} {n j x : Nat} {f : Nat → Nat} (hd : decode cc pc = .ok (.iastore, 1)) (hk : h key = some (ri_ n f)) (hj : j < n) (hn : n < 2 ^ 31)
    (k : kw_G l D cc own ret nm R A K ad (kw_up h key (ri_ n (va_up f j x))) cells slots (pc + 1) lv st) : kw_G l D cc own ret nm R A K ad h cells slots pc lv (pi_ (nI x) :: pi_ (nI j) :: pr_ key :: st) := by
  refine kw_iast hd hk (vp_in_nI hj hn) ?_
  rw [nI_clamp (by omega)]
  have e : upd (fun j => nI (f j)) j (nI x) = fun a => nI (va_up f j x a) := by
    funext a
    by_cases ha : a = j <;> simp [upd, va_up, ha]
  rw [e]
  exact k
theorem kw_iastR {key : KK} {n j : Nat} {x : Int32} {f : Nat → Int32} (hd : decode cc pc = .ok (.iastore, 1)) (hk : h key = some (rx_ n f)) (hj : j < n) (hn : n < 2 ^ 31)
    (k : kw_G l D cc own ret nm R A K ad (kw_up h key (rx_ n (va_up f j x))) cells slots (pc + 1) lv st) : kw_G l D cc own ret nm R A K ad h cells slots pc lv (pi_ x :: pi_ (nI j) :: pr_ key :: st) := by
  refine kw_iast hd hk (vp_in_nI hj hn) ?_
  rw [nI_clamp (by omega)]
  exact k
theorem kw_zastN {key : KK} {n j : Nat} {x : Bool} {f : Nat → Bool} (hd : decode cc pc = .ok (.bastore, 1)) (hk : h key = some (rb_ n f)) (hj : j < n) (hn : n < 2 ^ 31)
    (k : kw_G l D cc own ret nm R A K ad (kw_up h key (rb_ n (va_up f j x))) cells slots (pc + 1) lv st) : kw_G l D cc own ret nm R A K ad h cells slots pc lv (pi_ (b2 x) :: pi_ (nI j) :: pr_ key :: st) := by
  refine kw_zast hd hk (vp_in_nI hj hn) (b2_01 x) ?_
  rw [nI_clamp (by omega)]
  have e : upd (fun j => b2 (f j)) j (b2 x) = fun a => b2 (va_up f j x a) := by
    funext a
    by_cases ha : a = j <;> simp [upd, va_up, ha]
  rw [e]
  exact k
theorem kw_lastN {key : KK} {n j : Nat} {x : Int64} {f : Nat → Int64} (hd : decode cc pc = .ok (.lastore, 1)) (hk : h key = some (rl_ n f)) (hj : j < n) (hn : n < 2 ^ 31)
    (k : kw_G l D cc own ret nm R A K ad (kw_up h key (rl_ n (va_up f j x))) cells slots (pc + 1) lv st) : kw_G l D cc own ret nm R A K ad h cells slots pc lv (pl_ x :: pi_ (nI j) :: pr_ key :: st) := by
  refine kw_last hd hk (vp_in_nI hj hn) ?_
  rw [nI_clamp (by omega)]
  exact k
end KwNum
theorem b2_0 {b : Bool} : b2 b = 0 ↔ b = false := by cases b <;> simp [b2]
theorem b2_n0 {b : Bool} : ¬ b2 b = 0 ↔ b = true := by cases b <;> simp [b2]
theorem b2_t : b2 true = 1 := rfl
theorem b2_f : b2 false = 0 := rfl
