set_option maxRecDepth 10000 in
theorem up_now (s : SG) (k : KG) (v : Int64) : kw_up (hC s k) (0, 0) (.inr (10, [pr_ (1, 0), pr_ (3, 0), pr_ (8, 0), pr_ (10, 0), pr_ (11, 0), pr_ (15, 0), pr_ (18, 0), pr_ (19, 2), pi_ (nI (ns_ s)), pl_ v])) = hC (sNow s v) (k) := by
  refine kw_up_eq rfl (fun q hq => ?_)
  obtain ⟨a, b⟩ := q
  match a with
  | 0 =>
    by_cases hb : b = 0
    · exact absurd (by rw [hb]) hq
    · show o1_ b _ = o1_ b _
      simp only [o1_, if_neg hb]
  | 1 => rfl
  | 2 => rfl
  | 3 => rfl
  | 4 => rfl
  | 5 => rfl
  | 6 => rfl
  | 7 => rfl
  | 8 => rfl
  | 9 => rfl
  | 10 => rfl
  | 11 => rfl
  | 12 => rfl
  | 13 => rfl
  | 14 => rfl
  | 15 => rfl
  | 16 => rfl
  | 17 => rfl
  | 18 => rfl
  | 19 => rfl
  | 20 => rfl
  | 21 => rfl
  | n + 22 => rfl
set_option maxRecDepth 10000 in
theorem up_jlen (s : SG) (k : KG) (v : Nat) : kw_up (hC s k) (1, 0) (.inr (1, [pr_ (2, 0), pr_ (2, 1), pi_ (nI v), pi_ (wr_ s), pi_ (cut_ s), pi_ (b2 (dn_ s))])) = hC (sN s 8 v) (k) := by
  refine kw_up_eq rfl (fun q hq => ?_)
  obtain ⟨a, b⟩ := q
  match a with
  | 0 => rfl
  | 1 =>
    by_cases hb : b = 0
    · exact absurd (by rw [hb]) hq
    · show o1_ b _ = o1_ b _
      simp only [o1_, if_neg hb]
  | 2 => rfl
  | 3 => rfl
  | 4 => rfl
  | 5 => rfl
  | 6 => rfl
  | 7 => rfl
  | 8 => rfl
  | 9 => rfl
  | 10 => rfl
  | 11 => rfl
  | 12 => rfl
  | 13 => rfl
  | 14 => rfl
  | 15 => rfl
  | 16 => rfl
  | 17 => rfl
  | 18 => rfl
  | 19 => rfl
  | 20 => rfl
  | 21 => rfl
  | n + 22 => rfl
set_option maxRecDepth 10000 in
theorem up_jwr (s : SG) (k : KG) (v : Int32) : kw_up (hC s k) (1, 0) (.inr (1, [pr_ (2, 0), pr_ (2, 1), pi_ (nI (nh_ s)), pi_ v, pi_ (cut_ s), pi_ (b2 (dn_ s))])) = hC (sX s 1 v) (k) := by
  refine kw_up_eq rfl (fun q hq => ?_)
  obtain ⟨a, b⟩ := q
  match a with
  | 0 => rfl
  | 1 =>
    by_cases hb : b = 0
    · exact absurd (by rw [hb]) hq
    · show o1_ b _ = o1_ b _
      simp only [o1_, if_neg hb]
  | 2 => rfl
  | 3 => rfl
  | 4 => rfl
  | 5 => rfl
  | 6 => rfl
  | 7 => rfl
  | 8 => rfl
  | 9 => rfl
  | 10 => rfl
  | 11 => rfl
  | 12 => rfl
  | 13 => rfl
  | 14 => rfl
  | 15 => rfl
  | 16 => rfl
  | 17 => rfl
  | 18 => rfl
  | 19 => rfl
  | 20 => rfl
  | 21 => rfl
  | n + 22 => rfl
set_option maxRecDepth 10000 in
theorem up_jcut (s : SG) (k : KG) (v : Int32) : kw_up (hC s k) (1, 0) (.inr (1, [pr_ (2, 0), pr_ (2, 1), pi_ (nI (nh_ s)), pi_ (wr_ s), pi_ v, pi_ (b2 (dn_ s))])) = hC (sX s 0 v) (k) := by
  refine kw_up_eq rfl (fun q hq => ?_)
  obtain ⟨a, b⟩ := q
  match a with
  | 0 => rfl
  | 1 =>
    by_cases hb : b = 0
    · exact absurd (by rw [hb]) hq
    · show o1_ b _ = o1_ b _
      simp only [o1_, if_neg hb]
  | 2 => rfl
  | 3 => rfl
  | 4 => rfl
  | 5 => rfl
  | 6 => rfl
  | 7 => rfl
  | 8 => rfl
  | 9 => rfl
  | 10 => rfl
  | 11 => rfl
  | 12 => rfl
  | 13 => rfl
  | 14 => rfl
  | 15 => rfl
  | 16 => rfl
  | 17 => rfl
  | 18 => rfl
  | 19 => rfl
  | 20 => rfl
  | 21 => rfl
  | n + 22 => rfl
set_option maxRecDepth 10000 in
theorem up_jdn (s : SG) (k : KG) (v : Bool) : kw_up (hC s k) (1, 0) (.inr (1, [pr_ (2, 0), pr_ (2, 1), pi_ (nI (nh_ s)), pi_ (wr_ s), pi_ (cut_ s), pi_ (b2 v)])) = hC (sDn s v) (k) := by
  refine kw_up_eq rfl (fun q hq => ?_)
  obtain ⟨a, b⟩ := q
  match a with
  | 0 => rfl
  | 1 =>
    by_cases hb : b = 0
    · exact absurd (by rw [hb]) hq
    · show o1_ b _ = o1_ b _
      simp only [o1_, if_neg hb]
  | 2 => rfl
  | 3 => rfl
  | 4 => rfl
  | 5 => rfl
  | 6 => rfl
  | 7 => rfl
  | 8 => rfl
  | 9 => rfl
  | 10 => rfl
  | 11 => rfl
  | 12 => rfl
  | 13 => rfl
  | 14 => rfl
  | 15 => rfl
  | 16 => rfl
  | 17 => rfl
  | 18 => rfl
  | 19 => rfl
  | 20 => rfl
  | 21 => rfl
  | n + 22 => rfl
set_option maxRecDepth 10000 in
theorem up_nfr (s : SG) (k : KG) (v : Nat) : kw_up (hC s k) (3, 0) (.inr (8, [pi_ (nI (cap_ s)), pr_ (1, 0), pr_ (4, 0), pr_ (4, 1), pr_ (4, 2), pi_ (nI (nb_ s)), pi_ (nI v), pi_ (nI (nrv_ s)), pi_ (nI (np_ s)), pi_ (nI (nan_ s))])) = hC (sN s 2 v) (k) := by
  refine kw_up_eq rfl (fun q hq => ?_)
  obtain ⟨a, b⟩ := q
  match a with
  | 0 => rfl
  | 1 => rfl
  | 2 => rfl
  | 3 =>
    by_cases hb : b = 0
    · exact absurd (by rw [hb]) hq
    · show o1_ b _ = o1_ b _
      simp only [o1_, if_neg hb]
  | 4 => rfl
  | 5 => rfl
  | 6 => rfl
  | 7 => rfl
  | 8 => rfl
  | 9 => rfl
  | 10 => rfl
  | 11 => rfl
  | 12 => rfl
  | 13 => rfl
  | 14 => rfl
  | 15 => rfl
  | 16 => rfl
  | 17 => rfl
  | 18 => rfl
  | 19 => rfl
  | 20 => rfl
  | 21 => rfl
  | n + 22 => rfl
set_option maxRecDepth 10000 in
theorem up_nrv (s : SG) (k : KG) (v : Nat) : kw_up (hC s k) (3, 0) (.inr (8, [pi_ (nI (cap_ s)), pr_ (1, 0), pr_ (4, 0), pr_ (4, 1), pr_ (4, 2), pi_ (nI (nb_ s)), pi_ (nI (nfr_ s)), pi_ (nI v), pi_ (nI (np_ s)), pi_ (nI (nan_ s))])) = hC (sN s 3 v) (k) := by
  refine kw_up_eq rfl (fun q hq => ?_)
  obtain ⟨a, b⟩ := q
  match a with
  | 0 => rfl
  | 1 => rfl
  | 2 => rfl
  | 3 =>
    by_cases hb : b = 0
    · exact absurd (by rw [hb]) hq
    · show o1_ b _ = o1_ b _
      simp only [o1_, if_neg hb]
  | 4 => rfl
  | 5 => rfl
  | 6 => rfl
  | 7 => rfl
  | 8 => rfl
  | 9 => rfl
  | 10 => rfl
  | 11 => rfl
  | 12 => rfl
  | 13 => rfl
  | 14 => rfl
  | 15 => rfl
  | 16 => rfl
  | 17 => rfl
  | 18 => rfl
  | 19 => rfl
  | 20 => rfl
  | 21 => rfl
  | n + 22 => rfl
set_option maxRecDepth 10000 in
theorem up_nan (s : SG) (k : KG) (v : Nat) : kw_up (hC s k) (3, 0) (.inr (8, [pi_ (nI (cap_ s)), pr_ (1, 0), pr_ (4, 0), pr_ (4, 1), pr_ (4, 2), pi_ (nI (nb_ s)), pi_ (nI (nfr_ s)), pi_ (nI (nrv_ s)), pi_ (nI (np_ s)), pi_ (nI v)])) = hC (sN s 5 v) (k) := by
  refine kw_up_eq rfl (fun q hq => ?_)
  obtain ⟨a, b⟩ := q
  match a with
  | 0 => rfl
  | 1 => rfl
  | 2 => rfl
  | 3 =>
    by_cases hb : b = 0
    · exact absurd (by rw [hb]) hq
    · show o1_ b _ = o1_ b _
      simp only [o1_, if_neg hb]
  | 4 => rfl
  | 5 => rfl
  | 6 => rfl
  | 7 => rfl
  | 8 => rfl
  | 9 => rfl
  | 10 => rfl
  | 11 => rfl
  | 12 => rfl
  | 13 => rfl
  | 14 => rfl
  | 15 => rfl
  | 16 => rfl
  | 17 => rfl
  | 18 => rfl
  | 19 => rfl
  | 20 => rfl
  | 21 => rfl
  | n + 22 => rfl
set_option maxRecDepth 10000 in
theorem up_bpk (s : SG) (k : KG) (i : Nat) (hi : i < nb_ s) (v : Nat) : kw_up (hC s k) (5, i) (.inr (0, [pl_ (ky_ s i), pi_ (nI (sz_ s i)), pr_ (6, i), pi_ (nI v), pi_ (nI (pp_ s i)), pi_ (nI (wt_ s i)), pi_ (b2 (!th_ s i)), pi_ (b2 (mk_ s i))])) = hC (sF s 3 (va_up (pk_ s) i v)) (k) := by
  refine kw_up_eq (by have hi := hi; show on_ i _ _ = _; (try simp only [nb_, np_, ns_] at hi); simp [on_, hi, cap_, nb_, nfr_, nrv_, np_, nan_, shr_, ns_, nh_, nsw_, ph_, rf_, rt_, end_, cut_, wr_, now_, dn_, fs_, gs_, ys_, ff_, sz_, cm_, ch_, pk_, pp_, wt_, al_, tg_, rm_, ro_, hk_, hw_, md_, le_, um_, us_, km_, ks_, ru_, rw_, th_, mk_, gn_, kp_, sv_, ky_, tm_, un_, nx_, pe_, ml_, ka_, kb_, kn_, rch_, ho_, ac_, dn2_, sN, sX, sNow, sDn, sF, sGb, sY, sFF, kX, kA, kB, kN, va_up, c_root, c_jr, c_st, c_bl, c_pa, c_sw, c_mo, c_ru, c_sa, c_sn, c_mi]) (fun q hq => ?_)
  obtain ⟨a, b⟩ := q
  match a with
  | 0 => rfl
  | 1 => rfl
  | 2 => rfl
  | 3 => rfl
  | 4 => rfl
  | 5 =>
    have hb : b ≠ i := fun e => hq (by rw [e])
    show on_ b _ _ = on_ b _ _
    simp [on_, hb, cap_, nb_, nfr_, nrv_, np_, nan_, shr_, ns_, nh_, nsw_, ph_, rf_, rt_, end_, cut_, wr_, now_, dn_, fs_, gs_, ys_, ff_, sz_, cm_, ch_, pk_, pp_, wt_, al_, tg_, rm_, ro_, hk_, hw_, md_, le_, um_, us_, km_, ks_, ru_, rw_, th_, mk_, gn_, kp_, sv_, ky_, tm_, un_, nx_, pe_, ml_, ka_, kb_, kn_, rch_, ho_, ac_, dn2_, sN, sX, sNow, sDn, sF, sGb, sY, sFF, kX, kA, kB, kN, va_up, c_root, c_jr, c_st, c_bl, c_pa, c_sw, c_mo, c_ru, c_sa, c_sn, c_mi]
  | 6 => rfl
  | 7 => rfl
  | 8 => rfl
  | 9 => rfl
  | 10 => rfl
  | 11 => rfl
  | 12 => rfl
  | 13 => rfl
  | 14 => rfl
  | 15 => rfl
  | 16 => rfl
  | 17 => rfl
  | 18 => rfl
  | 19 => rfl
  | 20 => rfl
  | 21 => rfl
  | n + 22 => rfl
set_option maxRecDepth 10000 in
theorem up_bpp (s : SG) (k : KG) (i : Nat) (hi : i < nb_ s) (v : Nat) : kw_up (hC s k) (5, i) (.inr (0, [pl_ (ky_ s i), pi_ (nI (sz_ s i)), pr_ (6, i), pi_ (nI (pk_ s i)), pi_ (nI v), pi_ (nI (wt_ s i)), pi_ (b2 (!th_ s i)), pi_ (b2 (mk_ s i))])) = hC (sF s 4 (va_up (pp_ s) i v)) (k) := by
  refine kw_up_eq (by have hi := hi; show on_ i _ _ = _; (try simp only [nb_, np_, ns_] at hi); simp [on_, hi, cap_, nb_, nfr_, nrv_, np_, nan_, shr_, ns_, nh_, nsw_, ph_, rf_, rt_, end_, cut_, wr_, now_, dn_, fs_, gs_, ys_, ff_, sz_, cm_, ch_, pk_, pp_, wt_, al_, tg_, rm_, ro_, hk_, hw_, md_, le_, um_, us_, km_, ks_, ru_, rw_, th_, mk_, gn_, kp_, sv_, ky_, tm_, un_, nx_, pe_, ml_, ka_, kb_, kn_, rch_, ho_, ac_, dn2_, sN, sX, sNow, sDn, sF, sGb, sY, sFF, kX, kA, kB, kN, va_up, c_root, c_jr, c_st, c_bl, c_pa, c_sw, c_mo, c_ru, c_sa, c_sn, c_mi]) (fun q hq => ?_)
  obtain ⟨a, b⟩ := q
  match a with
  | 0 => rfl
  | 1 => rfl
  | 2 => rfl
  | 3 => rfl
  | 4 => rfl
  | 5 =>
    have hb : b ≠ i := fun e => hq (by rw [e])
    show on_ b _ _ = on_ b _ _
    simp [on_, hb, cap_, nb_, nfr_, nrv_, np_, nan_, shr_, ns_, nh_, nsw_, ph_, rf_, rt_, end_, cut_, wr_, now_, dn_, fs_, gs_, ys_, ff_, sz_, cm_, ch_, pk_, pp_, wt_, al_, tg_, rm_, ro_, hk_, hw_, md_, le_, um_, us_, km_, ks_, ru_, rw_, th_, mk_, gn_, kp_, sv_, ky_, tm_, un_, nx_, pe_, ml_, ka_, kb_, kn_, rch_, ho_, ac_, dn2_, sN, sX, sNow, sDn, sF, sGb, sY, sFF, kX, kA, kB, kN, va_up, c_root, c_jr, c_st, c_bl, c_pa, c_sw, c_mo, c_ru, c_sa, c_sn, c_mi]
  | 6 => rfl
  | 7 => rfl
  | 8 => rfl
  | 9 => rfl
  | 10 => rfl
  | 11 => rfl
  | 12 => rfl
  | 13 => rfl
  | 14 => rfl
  | 15 => rfl
  | 16 => rfl
  | 17 => rfl
  | 18 => rfl
  | 19 => rfl
  | 20 => rfl
  | 21 => rfl
  | n + 22 => rfl
set_option maxRecDepth 10000 in
theorem up_bwt (s : SG) (k : KG) (i : Nat) (hi : i < nb_ s) (v : Nat) : kw_up (hC s k) (5, i) (.inr (0, [pl_ (ky_ s i), pi_ (nI (sz_ s i)), pr_ (6, i), pi_ (nI (pk_ s i)), pi_ (nI (pp_ s i)), pi_ (nI v), pi_ (b2 (!th_ s i)), pi_ (b2 (mk_ s i))])) = hC (sF s 5 (va_up (wt_ s) i v)) (k) := by
  refine kw_up_eq (by have hi := hi; show on_ i _ _ = _; (try simp only [nb_, np_, ns_] at hi); simp [on_, hi, cap_, nb_, nfr_, nrv_, np_, nan_, shr_, ns_, nh_, nsw_, ph_, rf_, rt_, end_, cut_, wr_, now_, dn_, fs_, gs_, ys_, ff_, sz_, cm_, ch_, pk_, pp_, wt_, al_, tg_, rm_, ro_, hk_, hw_, md_, le_, um_, us_, km_, ks_, ru_, rw_, th_, mk_, gn_, kp_, sv_, ky_, tm_, un_, nx_, pe_, ml_, ka_, kb_, kn_, rch_, ho_, ac_, dn2_, sN, sX, sNow, sDn, sF, sGb, sY, sFF, kX, kA, kB, kN, va_up, c_root, c_jr, c_st, c_bl, c_pa, c_sw, c_mo, c_ru, c_sa, c_sn, c_mi]) (fun q hq => ?_)
  obtain ⟨a, b⟩ := q
  match a with
  | 0 => rfl
  | 1 => rfl
  | 2 => rfl
  | 3 => rfl
  | 4 => rfl
  | 5 =>
    have hb : b ≠ i := fun e => hq (by rw [e])
    show on_ b _ _ = on_ b _ _
    simp [on_, hb, cap_, nb_, nfr_, nrv_, np_, nan_, shr_, ns_, nh_, nsw_, ph_, rf_, rt_, end_, cut_, wr_, now_, dn_, fs_, gs_, ys_, ff_, sz_, cm_, ch_, pk_, pp_, wt_, al_, tg_, rm_, ro_, hk_, hw_, md_, le_, um_, us_, km_, ks_, ru_, rw_, th_, mk_, gn_, kp_, sv_, ky_, tm_, un_, nx_, pe_, ml_, ka_, kb_, kn_, rch_, ho_, ac_, dn2_, sN, sX, sNow, sDn, sF, sGb, sY, sFF, kX, kA, kB, kN, va_up, c_root, c_jr, c_st, c_bl, c_pa, c_sw, c_mo, c_ru, c_sa, c_sn, c_mi]
  | 6 => rfl
  | 7 => rfl
  | 8 => rfl
  | 9 => rfl
  | 10 => rfl
  | 11 => rfl
  | 12 => rfl
  | 13 => rfl
  | 14 => rfl
  | 15 => rfl
  | 16 => rfl
  | 17 => rfl
  | 18 => rfl
  | 19 => rfl
  | 20 => rfl
  | 21 => rfl
  | n + 22 => rfl
set_option maxRecDepth 10000 in
theorem up_bth (s : SG) (k : KG) (i : Nat) (hi : i < nb_ s) (v : Bool) : kw_up (hC s k) (5, i) (.inr (0, [pl_ (ky_ s i), pi_ (nI (sz_ s i)), pr_ (6, i), pi_ (nI (pk_ s i)), pi_ (nI (pp_ s i)), pi_ (nI (wt_ s i)), pi_ (b2 (!v)), pi_ (b2 (mk_ s i))])) = hC (sGb s 0 (va_up (th_ s) i v)) (k) := by
  refine kw_up_eq (by have hi := hi; show on_ i _ _ = _; (try simp only [nb_, np_, ns_] at hi); simp [on_, hi, cap_, nb_, nfr_, nrv_, np_, nan_, shr_, ns_, nh_, nsw_, ph_, rf_, rt_, end_, cut_, wr_, now_, dn_, fs_, gs_, ys_, ff_, sz_, cm_, ch_, pk_, pp_, wt_, al_, tg_, rm_, ro_, hk_, hw_, md_, le_, um_, us_, km_, ks_, ru_, rw_, th_, mk_, gn_, kp_, sv_, ky_, tm_, un_, nx_, pe_, ml_, ka_, kb_, kn_, rch_, ho_, ac_, dn2_, sN, sX, sNow, sDn, sF, sGb, sY, sFF, kX, kA, kB, kN, va_up, c_root, c_jr, c_st, c_bl, c_pa, c_sw, c_mo, c_ru, c_sa, c_sn, c_mi]) (fun q hq => ?_)
  obtain ⟨a, b⟩ := q
  match a with
  | 0 => rfl
  | 1 => rfl
  | 2 => rfl
  | 3 => rfl
  | 4 => rfl
  | 5 =>
    have hb : b ≠ i := fun e => hq (by rw [e])
    show on_ b _ _ = on_ b _ _
    simp [on_, hb, cap_, nb_, nfr_, nrv_, np_, nan_, shr_, ns_, nh_, nsw_, ph_, rf_, rt_, end_, cut_, wr_, now_, dn_, fs_, gs_, ys_, ff_, sz_, cm_, ch_, pk_, pp_, wt_, al_, tg_, rm_, ro_, hk_, hw_, md_, le_, um_, us_, km_, ks_, ru_, rw_, th_, mk_, gn_, kp_, sv_, ky_, tm_, un_, nx_, pe_, ml_, ka_, kb_, kn_, rch_, ho_, ac_, dn2_, sN, sX, sNow, sDn, sF, sGb, sY, sFF, kX, kA, kB, kN, va_up, c_root, c_jr, c_st, c_bl, c_pa, c_sw, c_mo, c_ru, c_sa, c_sn, c_mi]
  | 6 => rfl
  | 7 => rfl
  | 8 => rfl
  | 9 => rfl
  | 10 => rfl
  | 11 => rfl
  | 12 => rfl
  | 13 => rfl
  | 14 => rfl
  | 15 => rfl
  | 16 => rfl
  | 17 => rfl
  | 18 => rfl
  | 19 => rfl
  | 20 => rfl
  | 21 => rfl
  | n + 22 => rfl
set_option maxRecDepth 10000 in
theorem up_bmk (s : SG) (k : KG) (i : Nat) (hi : i < nb_ s) (v : Bool) : kw_up (hC s k) (5, i) (.inr (0, [pl_ (ky_ s i), pi_ (nI (sz_ s i)), pr_ (6, i), pi_ (nI (pk_ s i)), pi_ (nI (pp_ s i)), pi_ (nI (wt_ s i)), pi_ (b2 (!th_ s i)), pi_ (b2 v)])) = hC (sGb s 1 (va_up (mk_ s) i v)) (k) := by
  refine kw_up_eq (by have hi := hi; show on_ i _ _ = _; (try simp only [nb_, np_, ns_] at hi); simp [on_, hi, cap_, nb_, nfr_, nrv_, np_, nan_, shr_, ns_, nh_, nsw_, ph_, rf_, rt_, end_, cut_, wr_, now_, dn_, fs_, gs_, ys_, ff_, sz_, cm_, ch_, pk_, pp_, wt_, al_, tg_, rm_, ro_, hk_, hw_, md_, le_, um_, us_, km_, ks_, ru_, rw_, th_, mk_, gn_, kp_, sv_, ky_, tm_, un_, nx_, pe_, ml_, ka_, kb_, kn_, rch_, ho_, ac_, dn2_, sN, sX, sNow, sDn, sF, sGb, sY, sFF, kX, kA, kB, kN, va_up, c_root, c_jr, c_st, c_bl, c_pa, c_sw, c_mo, c_ru, c_sa, c_sn, c_mi]) (fun q hq => ?_)
  obtain ⟨a, b⟩ := q
  match a with
  | 0 => rfl
  | 1 => rfl
  | 2 => rfl
  | 3 => rfl
  | 4 => rfl
  | 5 =>
    have hb : b ≠ i := fun e => hq (by rw [e])
    show on_ b _ _ = on_ b _ _
    simp [on_, hb, cap_, nb_, nfr_, nrv_, np_, nan_, shr_, ns_, nh_, nsw_, ph_, rf_, rt_, end_, cut_, wr_, now_, dn_, fs_, gs_, ys_, ff_, sz_, cm_, ch_, pk_, pp_, wt_, al_, tg_, rm_, ro_, hk_, hw_, md_, le_, um_, us_, km_, ks_, ru_, rw_, th_, mk_, gn_, kp_, sv_, ky_, tm_, un_, nx_, pe_, ml_, ka_, kb_, kn_, rch_, ho_, ac_, dn2_, sN, sX, sNow, sDn, sF, sGb, sY, sFF, kX, kA, kB, kN, va_up, c_root, c_jr, c_st, c_bl, c_pa, c_sw, c_mo, c_ru, c_sa, c_sn, c_mi]
  | 6 => rfl
  | 7 => rfl
  | 8 => rfl
  | 9 => rfl
  | 10 => rfl
  | 11 => rfl
  | 12 => rfl
  | 13 => rfl
  | 14 => rfl
  | 15 => rfl
  | 16 => rfl
  | 17 => rfl
  | 18 => rfl
  | 19 => rfl
  | 20 => rfl
  | 21 => rfl
  | n + 22 => rfl
set_option maxRecDepth 10000 in
theorem up_pal (s : SG) (k : KG) (i : Nat) (hi : i < np_ s) (v : Nat) : kw_up (hC s k) (7, i) (.inr (4, [pi_ (nI v), pi_ (nI (ho_ k i)), pi_ (b2 (gn_ s i))])) = hC (s) (kN k 1 (va_up (ac_ k) i v)) := by
  refine kw_up_eq (by have hi := hi; show on_ i _ _ = _; (try simp only [nb_, np_, ns_] at hi); simp [on_, hi, cap_, nb_, nfr_, nrv_, np_, nan_, shr_, ns_, nh_, nsw_, ph_, rf_, rt_, end_, cut_, wr_, now_, dn_, fs_, gs_, ys_, ff_, sz_, cm_, ch_, pk_, pp_, wt_, al_, tg_, rm_, ro_, hk_, hw_, md_, le_, um_, us_, km_, ks_, ru_, rw_, th_, mk_, gn_, kp_, sv_, ky_, tm_, un_, nx_, pe_, ml_, ka_, kb_, kn_, rch_, ho_, ac_, dn2_, sN, sX, sNow, sDn, sF, sGb, sY, sFF, kX, kA, kB, kN, va_up, c_root, c_jr, c_st, c_bl, c_pa, c_sw, c_mo, c_ru, c_sa, c_sn, c_mi]) (fun q hq => ?_)
  obtain ⟨a, b⟩ := q
  match a with
  | 0 => rfl
  | 1 => rfl
  | 2 => rfl
  | 3 => rfl
  | 4 => rfl
  | 5 => rfl
  | 6 => rfl
  | 7 =>
    have hb : b ≠ i := fun e => hq (by rw [e])
    show on_ b _ _ = on_ b _ _
    simp [on_, hb, cap_, nb_, nfr_, nrv_, np_, nan_, shr_, ns_, nh_, nsw_, ph_, rf_, rt_, end_, cut_, wr_, now_, dn_, fs_, gs_, ys_, ff_, sz_, cm_, ch_, pk_, pp_, wt_, al_, tg_, rm_, ro_, hk_, hw_, md_, le_, um_, us_, km_, ks_, ru_, rw_, th_, mk_, gn_, kp_, sv_, ky_, tm_, un_, nx_, pe_, ml_, ka_, kb_, kn_, rch_, ho_, ac_, dn2_, sN, sX, sNow, sDn, sF, sGb, sY, sFF, kX, kA, kB, kN, va_up, c_root, c_jr, c_st, c_bl, c_pa, c_sw, c_mo, c_ru, c_sa, c_sn, c_mi]
  | 8 => rfl
  | 9 => rfl
  | 10 => rfl
  | 11 => rfl
  | 12 => rfl
  | 13 => rfl
  | 14 => rfl
  | 15 => rfl
  | 16 => rfl
  | 17 => rfl
  | 18 => rfl
  | 19 => rfl
  | 20 => rfl
  | 21 => rfl
  | n + 22 => rfl
set_option maxRecDepth 10000 in
theorem up_pho (s : SG) (k : KG) (i : Nat) (hi : i < np_ s) (v : Nat) : kw_up (hC s k) (7, i) (.inr (4, [pi_ (nI (ac_ k i)), pi_ (nI v), pi_ (b2 (gn_ s i))])) = hC (s) (kN k 0 (va_up (ho_ k) i v)) := by
  refine kw_up_eq (by have hi := hi; show on_ i _ _ = _; (try simp only [nb_, np_, ns_] at hi); simp [on_, hi, cap_, nb_, nfr_, nrv_, np_, nan_, shr_, ns_, nh_, nsw_, ph_, rf_, rt_, end_, cut_, wr_, now_, dn_, fs_, gs_, ys_, ff_, sz_, cm_, ch_, pk_, pp_, wt_, al_, tg_, rm_, ro_, hk_, hw_, md_, le_, um_, us_, km_, ks_, ru_, rw_, th_, mk_, gn_, kp_, sv_, ky_, tm_, un_, nx_, pe_, ml_, ka_, kb_, kn_, rch_, ho_, ac_, dn2_, sN, sX, sNow, sDn, sF, sGb, sY, sFF, kX, kA, kB, kN, va_up, c_root, c_jr, c_st, c_bl, c_pa, c_sw, c_mo, c_ru, c_sa, c_sn, c_mi]) (fun q hq => ?_)
  obtain ⟨a, b⟩ := q
  match a with
  | 0 => rfl
  | 1 => rfl
  | 2 => rfl
  | 3 => rfl
  | 4 => rfl
  | 5 => rfl
  | 6 => rfl
  | 7 =>
    have hb : b ≠ i := fun e => hq (by rw [e])
    show on_ b _ _ = on_ b _ _
    simp [on_, hb, cap_, nb_, nfr_, nrv_, np_, nan_, shr_, ns_, nh_, nsw_, ph_, rf_, rt_, end_, cut_, wr_, now_, dn_, fs_, gs_, ys_, ff_, sz_, cm_, ch_, pk_, pp_, wt_, al_, tg_, rm_, ro_, hk_, hw_, md_, le_, um_, us_, km_, ks_, ru_, rw_, th_, mk_, gn_, kp_, sv_, ky_, tm_, un_, nx_, pe_, ml_, ka_, kb_, kn_, rch_, ho_, ac_, dn2_, sN, sX, sNow, sDn, sF, sGb, sY, sFF, kX, kA, kB, kN, va_up, c_root, c_jr, c_st, c_bl, c_pa, c_sw, c_mo, c_ru, c_sa, c_sn, c_mi]
  | 8 => rfl
  | 9 => rfl
  | 10 => rfl
  | 11 => rfl
  | 12 => rfl
  | 13 => rfl
  | 14 => rfl
  | 15 => rfl
  | 16 => rfl
  | 17 => rfl
  | 18 => rfl
  | 19 => rfl
  | 20 => rfl
  | 21 => rfl
  | n + 22 => rfl
set_option maxRecDepth 10000 in
theorem up_pgn (s : SG) (k : KG) (i : Nat) (hi : i < np_ s) (v : Bool) : kw_up (hC s k) (7, i) (.inr (4, [pi_ (nI (ac_ k i)), pi_ (nI (ho_ k i)), pi_ (b2 v)])) = hC (sGb s 2 (va_up (gn_ s) i v)) (k) := by
  refine kw_up_eq (by have hi := hi; show on_ i _ _ = _; (try simp only [nb_, np_, ns_] at hi); simp [on_, hi, cap_, nb_, nfr_, nrv_, np_, nan_, shr_, ns_, nh_, nsw_, ph_, rf_, rt_, end_, cut_, wr_, now_, dn_, fs_, gs_, ys_, ff_, sz_, cm_, ch_, pk_, pp_, wt_, al_, tg_, rm_, ro_, hk_, hw_, md_, le_, um_, us_, km_, ks_, ru_, rw_, th_, mk_, gn_, kp_, sv_, ky_, tm_, un_, nx_, pe_, ml_, ka_, kb_, kn_, rch_, ho_, ac_, dn2_, sN, sX, sNow, sDn, sF, sGb, sY, sFF, kX, kA, kB, kN, va_up, c_root, c_jr, c_st, c_bl, c_pa, c_sw, c_mo, c_ru, c_sa, c_sn, c_mi]) (fun q hq => ?_)
  obtain ⟨a, b⟩ := q
  match a with
  | 0 => rfl
  | 1 => rfl
  | 2 => rfl
  | 3 => rfl
  | 4 => rfl
  | 5 => rfl
  | 6 => rfl
  | 7 =>
    have hb : b ≠ i := fun e => hq (by rw [e])
    show on_ b _ _ = on_ b _ _
    simp [on_, hb, cap_, nb_, nfr_, nrv_, np_, nan_, shr_, ns_, nh_, nsw_, ph_, rf_, rt_, end_, cut_, wr_, now_, dn_, fs_, gs_, ys_, ff_, sz_, cm_, ch_, pk_, pp_, wt_, al_, tg_, rm_, ro_, hk_, hw_, md_, le_, um_, us_, km_, ks_, ru_, rw_, th_, mk_, gn_, kp_, sv_, ky_, tm_, un_, nx_, pe_, ml_, ka_, kb_, kn_, rch_, ho_, ac_, dn2_, sN, sX, sNow, sDn, sF, sGb, sY, sFF, kX, kA, kB, kN, va_up, c_root, c_jr, c_st, c_bl, c_pa, c_sw, c_mo, c_ru, c_sa, c_sn, c_mi]
  | 8 => rfl
  | 9 => rfl
  | 10 => rfl
  | 11 => rfl
  | 12 => rfl
  | 13 => rfl
  | 14 => rfl
  | 15 => rfl
  | 16 => rfl
  | 17 => rfl
  | 18 => rfl
  | 19 => rfl
  | 20 => rfl
  | 21 => rfl
  | n + 22 => rfl
set_option maxRecDepth 10000 in
theorem up_wrf (s : SG) (k : KG) (v : Nat) : kw_up (hC s k) (8, 0) (.inr (9, [pr_ (3, 0), pr_ (9, 0), pr_ (8, 1), pi_ (nI v), pi_ (nI (rt_ s)), pi_ (nI (ph_ s)), pi_ (nI (nsw_ s)), pi_ (nI (end_ s)), pi_ (nx_ k), pi_ (pe_ k), pi_ (nI (shr_ s))])) = hC (sN s 11 v) (k) := by
  refine kw_up_eq rfl (fun q hq => ?_)
  obtain ⟨a, b⟩ := q
  match a with
  | 0 => rfl
  | 1 => rfl
  | 2 => rfl
  | 3 => rfl
  | 4 => rfl
  | 5 => rfl
  | 6 => rfl
  | 7 => rfl
  | 8 =>
    match b with
    | 0 => exact absurd rfl hq
    | 1 => rfl
    | 2 => rfl
    | 3 => rfl
    | 4 => rfl
    | n + 5 => rfl
  | 9 => rfl
  | 10 => rfl
  | 11 => rfl
  | 12 => rfl
  | 13 => rfl
  | 14 => rfl
  | 15 => rfl
  | 16 => rfl
  | 17 => rfl
  | 18 => rfl
  | 19 => rfl
  | 20 => rfl
  | 21 => rfl
  | n + 22 => rfl
set_option maxRecDepth 10000 in
theorem up_wrt (s : SG) (k : KG) (v : Nat) : kw_up (hC s k) (8, 0) (.inr (9, [pr_ (3, 0), pr_ (9, 0), pr_ (8, 1), pi_ (nI (rf_ s)), pi_ (nI v), pi_ (nI (ph_ s)), pi_ (nI (nsw_ s)), pi_ (nI (end_ s)), pi_ (nx_ k), pi_ (pe_ k), pi_ (nI (shr_ s))])) = hC (sN s 12 v) (k) := by
  refine kw_up_eq rfl (fun q hq => ?_)
  obtain ⟨a, b⟩ := q
  match a with
  | 0 => rfl
  | 1 => rfl
  | 2 => rfl
  | 3 => rfl
  | 4 => rfl
  | 5 => rfl
  | 6 => rfl
  | 7 => rfl
  | 8 =>
    match b with
    | 0 => exact absurd rfl hq
    | 1 => rfl
    | 2 => rfl
    | 3 => rfl
    | 4 => rfl
    | n + 5 => rfl
  | 9 => rfl
  | 10 => rfl
  | 11 => rfl
  | 12 => rfl
  | 13 => rfl
  | 14 => rfl
  | 15 => rfl
  | 16 => rfl
  | 17 => rfl
  | 18 => rfl
  | 19 => rfl
  | 20 => rfl
  | 21 => rfl
  | n + 22 => rfl
set_option maxRecDepth 10000 in
theorem up_wph (s : SG) (k : KG) (v : Nat) : kw_up (hC s k) (8, 0) (.inr (9, [pr_ (3, 0), pr_ (9, 0), pr_ (8, 1), pi_ (nI (rf_ s)), pi_ (nI (rt_ s)), pi_ (nI v), pi_ (nI (nsw_ s)), pi_ (nI (end_ s)), pi_ (nx_ k), pi_ (pe_ k), pi_ (nI (shr_ s))])) = hC (sN s 10 v) (k) := by
  refine kw_up_eq rfl (fun q hq => ?_)
  obtain ⟨a, b⟩ := q
  match a with
  | 0 => rfl
  | 1 => rfl
  | 2 => rfl
  | 3 => rfl
  | 4 => rfl
  | 5 => rfl
  | 6 => rfl
  | 7 => rfl
  | 8 =>
    match b with
    | 0 => exact absurd rfl hq
    | 1 => rfl
    | 2 => rfl
    | 3 => rfl
    | 4 => rfl
    | n + 5 => rfl
  | 9 => rfl
  | 10 => rfl
  | 11 => rfl
  | 12 => rfl
  | 13 => rfl
  | 14 => rfl
  | 15 => rfl
  | 16 => rfl
  | 17 => rfl
  | 18 => rfl
  | 19 => rfl
  | 20 => rfl
  | 21 => rfl
  | n + 22 => rfl
set_option maxRecDepth 10000 in
theorem up_wsw (s : SG) (k : KG) (v : Nat) : kw_up (hC s k) (8, 0) (.inr (9, [pr_ (3, 0), pr_ (9, 0), pr_ (8, 1), pi_ (nI (rf_ s)), pi_ (nI (rt_ s)), pi_ (nI (ph_ s)), pi_ (nI v), pi_ (nI (end_ s)), pi_ (nx_ k), pi_ (pe_ k), pi_ (nI (shr_ s))])) = hC (sN s 9 v) (k) := by
  refine kw_up_eq rfl (fun q hq => ?_)
  obtain ⟨a, b⟩ := q
  match a with
  | 0 => rfl
  | 1 => rfl
  | 2 => rfl
  | 3 => rfl
  | 4 => rfl
  | 5 => rfl
  | 6 => rfl
  | 7 => rfl
  | 8 =>
    match b with
    | 0 => exact absurd rfl hq
    | 1 => rfl
    | 2 => rfl
    | 3 => rfl
    | 4 => rfl
    | n + 5 => rfl
  | 9 => rfl
  | 10 => rfl
  | 11 => rfl
  | 12 => rfl
  | 13 => rfl
  | 14 => rfl
  | 15 => rfl
  | 16 => rfl
  | 17 => rfl
  | 18 => rfl
  | 19 => rfl
  | 20 => rfl
  | 21 => rfl
  | n + 22 => rfl
set_option maxRecDepth 10000 in
theorem up_wend (s : SG) (k : KG) (v : Nat) : kw_up (hC s k) (8, 0) (.inr (9, [pr_ (3, 0), pr_ (9, 0), pr_ (8, 1), pi_ (nI (rf_ s)), pi_ (nI (rt_ s)), pi_ (nI (ph_ s)), pi_ (nI (nsw_ s)), pi_ (nI v), pi_ (nx_ k), pi_ (pe_ k), pi_ (nI (shr_ s))])) = hC (sN s 13 v) (k) := by
  refine kw_up_eq rfl (fun q hq => ?_)
  obtain ⟨a, b⟩ := q
  match a with
  | 0 => rfl
  | 1 => rfl
  | 2 => rfl
  | 3 => rfl
  | 4 => rfl
  | 5 => rfl
  | 6 => rfl
  | 7 => rfl
  | 8 =>
    match b with
    | 0 => exact absurd rfl hq
    | 1 => rfl
    | 2 => rfl
    | 3 => rfl
    | 4 => rfl
    | n + 5 => rfl
  | 9 => rfl
  | 10 => rfl
  | 11 => rfl
  | 12 => rfl
  | 13 => rfl
  | 14 => rfl
  | 15 => rfl
  | 16 => rfl
  | 17 => rfl
  | 18 => rfl
  | 19 => rfl
  | 20 => rfl
  | 21 => rfl
  | n + 22 => rfl
set_option maxRecDepth 10000 in
theorem up_wnx (s : SG) (k : KG) (v : Int32) : kw_up (hC s k) (8, 0) (.inr (9, [pr_ (3, 0), pr_ (9, 0), pr_ (8, 1), pi_ (nI (rf_ s)), pi_ (nI (rt_ s)), pi_ (nI (ph_ s)), pi_ (nI (nsw_ s)), pi_ (nI (end_ s)), pi_ v, pi_ (pe_ k), pi_ (nI (shr_ s))])) = hC (s) (kX k 0 v) := by
  refine kw_up_eq rfl (fun q hq => ?_)
  obtain ⟨a, b⟩ := q
  match a with
  | 0 => rfl
  | 1 => rfl
  | 2 => rfl
  | 3 => rfl
  | 4 => rfl
  | 5 => rfl
  | 6 => rfl
  | 7 => rfl
  | 8 =>
    match b with
    | 0 => exact absurd rfl hq
    | 1 => rfl
    | 2 => rfl
    | 3 => rfl
    | 4 => rfl
    | n + 5 => rfl
  | 9 => rfl
  | 10 => rfl
  | 11 => rfl
  | 12 => rfl
  | 13 => rfl
  | 14 => rfl
  | 15 => rfl
  | 16 => rfl
  | 17 => rfl
  | 18 => rfl
  | 19 => rfl
  | 20 => rfl
  | 21 => rfl
  | n + 22 => rfl
set_option maxRecDepth 10000 in
theorem up_wpe (s : SG) (k : KG) (v : Int32) : kw_up (hC s k) (8, 0) (.inr (9, [pr_ (3, 0), pr_ (9, 0), pr_ (8, 1), pi_ (nI (rf_ s)), pi_ (nI (rt_ s)), pi_ (nI (ph_ s)), pi_ (nI (nsw_ s)), pi_ (nI (end_ s)), pi_ (nx_ k), pi_ v, pi_ (nI (shr_ s))])) = hC (s) (kX k 1 v) := by
  refine kw_up_eq rfl (fun q hq => ?_)
  obtain ⟨a, b⟩ := q
  match a with
  | 0 => rfl
  | 1 => rfl
  | 2 => rfl
  | 3 => rfl
  | 4 => rfl
  | 5 => rfl
  | 6 => rfl
  | 7 => rfl
  | 8 =>
    match b with
    | 0 => exact absurd rfl hq
    | 1 => rfl
    | 2 => rfl
    | 3 => rfl
    | 4 => rfl
    | n + 5 => rfl
  | 9 => rfl
  | 10 => rfl
  | 11 => rfl
  | 12 => rfl
  | 13 => rfl
  | 14 => rfl
  | 15 => rfl
  | 16 => rfl
  | 17 => rfl
  | 18 => rfl
  | 19 => rfl
  | 20 => rfl
  | 21 => rfl
  | n + 22 => rfl
set_option maxRecDepth 10000 in
theorem up_wsh (s : SG) (k : KG) (v : Nat) : kw_up (hC s k) (8, 0) (.inr (9, [pr_ (3, 0), pr_ (9, 0), pr_ (8, 1), pi_ (nI (rf_ s)), pi_ (nI (rt_ s)), pi_ (nI (ph_ s)), pi_ (nI (nsw_ s)), pi_ (nI (end_ s)), pi_ (nx_ k), pi_ (pe_ k), pi_ (nI v)])) = hC (sN s 6 v) (k) := by
  refine kw_up_eq rfl (fun q hq => ?_)
  obtain ⟨a, b⟩ := q
  match a with
  | 0 => rfl
  | 1 => rfl
  | 2 => rfl
  | 3 => rfl
  | 4 => rfl
  | 5 => rfl
  | 6 => rfl
  | 7 => rfl
  | 8 =>
    match b with
    | 0 => exact absurd rfl hq
    | 1 => rfl
    | 2 => rfl
    | 3 => rfl
    | 4 => rfl
    | n + 5 => rfl
  | 9 => rfl
  | 10 => rfl
  | 11 => rfl
  | 12 => rfl
  | 13 => rfl
  | 14 => rfl
  | 15 => rfl
  | 16 => rfl
  | 17 => rfl
  | 18 => rfl
  | 19 => rfl
  | 20 => rfl
  | 21 => rfl
  | n + 22 => rfl
set_option maxRecDepth 10000 in
theorem up_mml (s : SG) (k : KG) (v : Int32) : kw_up (hC s k) (9, 0) (.inr (3, [pr_ (3, 0), pr_ (1, 0), pr_ (9, 1), pr_ (9, 2), pr_ (9, 3), pi_ v])) = hC (s) (kX k 2 v) := by
  refine kw_up_eq rfl (fun q hq => ?_)
  obtain ⟨a, b⟩ := q
  match a with
  | 0 => rfl
  | 1 => rfl
  | 2 => rfl
  | 3 => rfl
  | 4 => rfl
  | 5 => rfl
  | 6 => rfl
  | 7 => rfl
  | 8 => rfl
  | 9 =>
    match b with
    | 0 => exact absurd rfl hq
    | 1 => rfl
    | 2 => rfl
    | 3 => rfl
    | 4 => rfl
    | n + 5 => rfl
  | 10 => rfl
  | 11 => rfl
  | 12 => rfl
  | 13 => rfl
  | 14 => rfl
  | 15 => rfl
  | 16 => rfl
  | 17 => rfl
  | 18 => rfl
  | 19 => rfl
  | 20 => rfl
  | 21 => rfl
  | n + 22 => rfl
set_option maxRecDepth 10000 in
theorem up_sum (s : SG) (k : KG) (i : Nat) (hi : i < 4) (v : Nat) : kw_up (hC s k) (12, i) (.inr (6, [pr_ (13, i), pr_ (14, i), pi_ (nI v), pi_ (nI (km_ s i)), pi_ (nI (le_ s i)), pl_ (un_ s i), pi_ (b2 (sv_ s i))])) = hC (sF s 14 (va_up (um_ s) i v)) (k) := by
  refine kw_up_eq (by have hi := hi; show on_ i _ _ = _; (try simp only [nb_, np_, ns_] at hi); simp [on_, hi, cap_, nb_, nfr_, nrv_, np_, nan_, shr_, ns_, nh_, nsw_, ph_, rf_, rt_, end_, cut_, wr_, now_, dn_, fs_, gs_, ys_, ff_, sz_, cm_, ch_, pk_, pp_, wt_, al_, tg_, rm_, ro_, hk_, hw_, md_, le_, um_, us_, km_, ks_, ru_, rw_, th_, mk_, gn_, kp_, sv_, ky_, tm_, un_, nx_, pe_, ml_, ka_, kb_, kn_, rch_, ho_, ac_, dn2_, sN, sX, sNow, sDn, sF, sGb, sY, sFF, kX, kA, kB, kN, va_up, c_root, c_jr, c_st, c_bl, c_pa, c_sw, c_mo, c_ru, c_sa, c_sn, c_mi]) (fun q hq => ?_)
  obtain ⟨a, b⟩ := q
  match a with
  | 0 => rfl
  | 1 => rfl
  | 2 => rfl
  | 3 => rfl
  | 4 => rfl
  | 5 => rfl
  | 6 => rfl
  | 7 => rfl
  | 8 => rfl
  | 9 => rfl
  | 10 => rfl
  | 11 => rfl
  | 12 =>
    have hb : b ≠ i := fun e => hq (by rw [e])
    show on_ b _ _ = on_ b _ _
    simp [on_, hb, cap_, nb_, nfr_, nrv_, np_, nan_, shr_, ns_, nh_, nsw_, ph_, rf_, rt_, end_, cut_, wr_, now_, dn_, fs_, gs_, ys_, ff_, sz_, cm_, ch_, pk_, pp_, wt_, al_, tg_, rm_, ro_, hk_, hw_, md_, le_, um_, us_, km_, ks_, ru_, rw_, th_, mk_, gn_, kp_, sv_, ky_, tm_, un_, nx_, pe_, ml_, ka_, kb_, kn_, rch_, ho_, ac_, dn2_, sN, sX, sNow, sDn, sF, sGb, sY, sFF, kX, kA, kB, kN, va_up, c_root, c_jr, c_st, c_bl, c_pa, c_sw, c_mo, c_ru, c_sa, c_sn, c_mi]
  | 13 => rfl
  | 14 => rfl
  | 15 => rfl
  | 16 => rfl
  | 17 => rfl
  | 18 => rfl
  | 19 => rfl
  | 20 => rfl
  | 21 => rfl
  | n + 22 => rfl
set_option maxRecDepth 10000 in
theorem up_skm (s : SG) (k : KG) (i : Nat) (hi : i < 4) (v : Nat) : kw_up (hC s k) (12, i) (.inr (6, [pr_ (13, i), pr_ (14, i), pi_ (nI (um_ s i)), pi_ (nI v), pi_ (nI (le_ s i)), pl_ (un_ s i), pi_ (b2 (sv_ s i))])) = hC (sF s 16 (va_up (km_ s) i v)) (k) := by
  refine kw_up_eq (by have hi := hi; show on_ i _ _ = _; (try simp only [nb_, np_, ns_] at hi); simp [on_, hi, cap_, nb_, nfr_, nrv_, np_, nan_, shr_, ns_, nh_, nsw_, ph_, rf_, rt_, end_, cut_, wr_, now_, dn_, fs_, gs_, ys_, ff_, sz_, cm_, ch_, pk_, pp_, wt_, al_, tg_, rm_, ro_, hk_, hw_, md_, le_, um_, us_, km_, ks_, ru_, rw_, th_, mk_, gn_, kp_, sv_, ky_, tm_, un_, nx_, pe_, ml_, ka_, kb_, kn_, rch_, ho_, ac_, dn2_, sN, sX, sNow, sDn, sF, sGb, sY, sFF, kX, kA, kB, kN, va_up, c_root, c_jr, c_st, c_bl, c_pa, c_sw, c_mo, c_ru, c_sa, c_sn, c_mi]) (fun q hq => ?_)
  obtain ⟨a, b⟩ := q
  match a with
  | 0 => rfl
  | 1 => rfl
  | 2 => rfl
  | 3 => rfl
  | 4 => rfl
  | 5 => rfl
  | 6 => rfl
  | 7 => rfl
  | 8 => rfl
  | 9 => rfl
  | 10 => rfl
  | 11 => rfl
  | 12 =>
    have hb : b ≠ i := fun e => hq (by rw [e])
    show on_ b _ _ = on_ b _ _
    simp [on_, hb, cap_, nb_, nfr_, nrv_, np_, nan_, shr_, ns_, nh_, nsw_, ph_, rf_, rt_, end_, cut_, wr_, now_, dn_, fs_, gs_, ys_, ff_, sz_, cm_, ch_, pk_, pp_, wt_, al_, tg_, rm_, ro_, hk_, hw_, md_, le_, um_, us_, km_, ks_, ru_, rw_, th_, mk_, gn_, kp_, sv_, ky_, tm_, un_, nx_, pe_, ml_, ka_, kb_, kn_, rch_, ho_, ac_, dn2_, sN, sX, sNow, sDn, sF, sGb, sY, sFF, kX, kA, kB, kN, va_up, c_root, c_jr, c_st, c_bl, c_pa, c_sw, c_mo, c_ru, c_sa, c_sn, c_mi]
  | 13 => rfl
  | 14 => rfl
  | 15 => rfl
  | 16 => rfl
  | 17 => rfl
  | 18 => rfl
  | 19 => rfl
  | 20 => rfl
  | 21 => rfl
  | n + 22 => rfl
set_option maxRecDepth 10000 in
theorem up_sle (s : SG) (k : KG) (i : Nat) (hi : i < 4) (v : Nat) : kw_up (hC s k) (12, i) (.inr (6, [pr_ (13, i), pr_ (14, i), pi_ (nI (um_ s i)), pi_ (nI (km_ s i)), pi_ (nI v), pl_ (un_ s i), pi_ (b2 (sv_ s i))])) = hC (sF s 13 (va_up (le_ s) i v)) (k) := by
  refine kw_up_eq (by have hi := hi; show on_ i _ _ = _; (try simp only [nb_, np_, ns_] at hi); simp [on_, hi, cap_, nb_, nfr_, nrv_, np_, nan_, shr_, ns_, nh_, nsw_, ph_, rf_, rt_, end_, cut_, wr_, now_, dn_, fs_, gs_, ys_, ff_, sz_, cm_, ch_, pk_, pp_, wt_, al_, tg_, rm_, ro_, hk_, hw_, md_, le_, um_, us_, km_, ks_, ru_, rw_, th_, mk_, gn_, kp_, sv_, ky_, tm_, un_, nx_, pe_, ml_, ka_, kb_, kn_, rch_, ho_, ac_, dn2_, sN, sX, sNow, sDn, sF, sGb, sY, sFF, kX, kA, kB, kN, va_up, c_root, c_jr, c_st, c_bl, c_pa, c_sw, c_mo, c_ru, c_sa, c_sn, c_mi]) (fun q hq => ?_)
  obtain ⟨a, b⟩ := q
  match a with
  | 0 => rfl
  | 1 => rfl
  | 2 => rfl
  | 3 => rfl
  | 4 => rfl
  | 5 => rfl
  | 6 => rfl
  | 7 => rfl
  | 8 => rfl
  | 9 => rfl
  | 10 => rfl
  | 11 => rfl
  | 12 =>
    have hb : b ≠ i := fun e => hq (by rw [e])
    show on_ b _ _ = on_ b _ _
    simp [on_, hb, cap_, nb_, nfr_, nrv_, np_, nan_, shr_, ns_, nh_, nsw_, ph_, rf_, rt_, end_, cut_, wr_, now_, dn_, fs_, gs_, ys_, ff_, sz_, cm_, ch_, pk_, pp_, wt_, al_, tg_, rm_, ro_, hk_, hw_, md_, le_, um_, us_, km_, ks_, ru_, rw_, th_, mk_, gn_, kp_, sv_, ky_, tm_, un_, nx_, pe_, ml_, ka_, kb_, kn_, rch_, ho_, ac_, dn2_, sN, sX, sNow, sDn, sF, sGb, sY, sFF, kX, kA, kB, kN, va_up, c_root, c_jr, c_st, c_bl, c_pa, c_sw, c_mo, c_ru, c_sa, c_sn, c_mi]
  | 13 => rfl
  | 14 => rfl
  | 15 => rfl
  | 16 => rfl
  | 17 => rfl
  | 18 => rfl
  | 19 => rfl
  | 20 => rfl
  | 21 => rfl
  | n + 22 => rfl
set_option maxRecDepth 10000 in
theorem up_sun (s : SG) (k : KG) (i : Nat) (hi : i < 4) (v : Int64) : kw_up (hC s k) (12, i) (.inr (6, [pr_ (13, i), pr_ (14, i), pi_ (nI (um_ s i)), pi_ (nI (km_ s i)), pi_ (nI (le_ s i)), pl_ v, pi_ (b2 (sv_ s i))])) = hC (sY s 2 (va_up (un_ s) i v)) (k) := by
  refine kw_up_eq (by have hi := hi; show on_ i _ _ = _; (try simp only [nb_, np_, ns_] at hi); simp [on_, hi, cap_, nb_, nfr_, nrv_, np_, nan_, shr_, ns_, nh_, nsw_, ph_, rf_, rt_, end_, cut_, wr_, now_, dn_, fs_, gs_, ys_, ff_, sz_, cm_, ch_, pk_, pp_, wt_, al_, tg_, rm_, ro_, hk_, hw_, md_, le_, um_, us_, km_, ks_, ru_, rw_, th_, mk_, gn_, kp_, sv_, ky_, tm_, un_, nx_, pe_, ml_, ka_, kb_, kn_, rch_, ho_, ac_, dn2_, sN, sX, sNow, sDn, sF, sGb, sY, sFF, kX, kA, kB, kN, va_up, c_root, c_jr, c_st, c_bl, c_pa, c_sw, c_mo, c_ru, c_sa, c_sn, c_mi]) (fun q hq => ?_)
  obtain ⟨a, b⟩ := q
  match a with
  | 0 => rfl
  | 1 => rfl
  | 2 => rfl
  | 3 => rfl
  | 4 => rfl
  | 5 => rfl
  | 6 => rfl
  | 7 => rfl
  | 8 => rfl
  | 9 => rfl
  | 10 => rfl
  | 11 => rfl
  | 12 =>
    have hb : b ≠ i := fun e => hq (by rw [e])
    show on_ b _ _ = on_ b _ _
    simp [on_, hb, cap_, nb_, nfr_, nrv_, np_, nan_, shr_, ns_, nh_, nsw_, ph_, rf_, rt_, end_, cut_, wr_, now_, dn_, fs_, gs_, ys_, ff_, sz_, cm_, ch_, pk_, pp_, wt_, al_, tg_, rm_, ro_, hk_, hw_, md_, le_, um_, us_, km_, ks_, ru_, rw_, th_, mk_, gn_, kp_, sv_, ky_, tm_, un_, nx_, pe_, ml_, ka_, kb_, kn_, rch_, ho_, ac_, dn2_, sN, sX, sNow, sDn, sF, sGb, sY, sFF, kX, kA, kB, kN, va_up, c_root, c_jr, c_st, c_bl, c_pa, c_sw, c_mo, c_ru, c_sa, c_sn, c_mi]
  | 13 => rfl
  | 14 => rfl
  | 15 => rfl
  | 16 => rfl
  | 17 => rfl
  | 18 => rfl
  | 19 => rfl
  | 20 => rfl
  | 21 => rfl
  | n + 22 => rfl
set_option maxRecDepth 10000 in
theorem up_ssv (s : SG) (k : KG) (i : Nat) (hi : i < 4) (v : Bool) : kw_up (hC s k) (12, i) (.inr (6, [pr_ (13, i), pr_ (14, i), pi_ (nI (um_ s i)), pi_ (nI (km_ s i)), pi_ (nI (le_ s i)), pl_ (un_ s i), pi_ (b2 v)])) = hC (sGb s 4 (va_up (sv_ s) i v)) (k) := by
  refine kw_up_eq (by have hi := hi; show on_ i _ _ = _; (try simp only [nb_, np_, ns_] at hi); simp [on_, hi, cap_, nb_, nfr_, nrv_, np_, nan_, shr_, ns_, nh_, nsw_, ph_, rf_, rt_, end_, cut_, wr_, now_, dn_, fs_, gs_, ys_, ff_, sz_, cm_, ch_, pk_, pp_, wt_, al_, tg_, rm_, ro_, hk_, hw_, md_, le_, um_, us_, km_, ks_, ru_, rw_, th_, mk_, gn_, kp_, sv_, ky_, tm_, un_, nx_, pe_, ml_, ka_, kb_, kn_, rch_, ho_, ac_, dn2_, sN, sX, sNow, sDn, sF, sGb, sY, sFF, kX, kA, kB, kN, va_up, c_root, c_jr, c_st, c_bl, c_pa, c_sw, c_mo, c_ru, c_sa, c_sn, c_mi]) (fun q hq => ?_)
  obtain ⟨a, b⟩ := q
  match a with
  | 0 => rfl
  | 1 => rfl
  | 2 => rfl
  | 3 => rfl
  | 4 => rfl
  | 5 => rfl
  | 6 => rfl
  | 7 => rfl
  | 8 => rfl
  | 9 => rfl
  | 10 => rfl
  | 11 => rfl
  | 12 =>
    have hb : b ≠ i := fun e => hq (by rw [e])
    show on_ b _ _ = on_ b _ _
    simp [on_, hb, cap_, nb_, nfr_, nrv_, np_, nan_, shr_, ns_, nh_, nsw_, ph_, rf_, rt_, end_, cut_, wr_, now_, dn_, fs_, gs_, ys_, ff_, sz_, cm_, ch_, pk_, pp_, wt_, al_, tg_, rm_, ro_, hk_, hw_, md_, le_, um_, us_, km_, ks_, ru_, rw_, th_, mk_, gn_, kp_, sv_, ky_, tm_, un_, nx_, pe_, ml_, ka_, kb_, kn_, rch_, ho_, ac_, dn2_, sN, sX, sNow, sDn, sF, sGb, sY, sFF, kX, kA, kB, kN, va_up, c_root, c_jr, c_st, c_bl, c_pa, c_sw, c_mo, c_ru, c_sa, c_sn, c_mi]
  | 13 => rfl
  | 14 => rfl
  | 15 => rfl
  | 16 => rfl
  | 17 => rfl
  | 18 => rfl
  | 19 => rfl
  | 20 => rfl
  | 21 => rfl
  | n + 22 => rfl
set_option maxRecDepth 10000 in
theorem up_skp (s : SG) (k : KG) (i : Nat) (hi : i < ns_ s) (v : Bool) : kw_up (hC s k) (16, i) (.inr (7, [pl_ (tm_ s i), pi_ (nI (tg_ s i)), pr_ (17, i), pi_ (b2 (!v))])) = hC (sGb s 3 (va_up (kp_ s) i v)) (k) := by
  refine kw_up_eq (by have hi := hi; show on_ i _ _ = _; (try simp only [nb_, np_, ns_] at hi); simp [on_, hi, cap_, nb_, nfr_, nrv_, np_, nan_, shr_, ns_, nh_, nsw_, ph_, rf_, rt_, end_, cut_, wr_, now_, dn_, fs_, gs_, ys_, ff_, sz_, cm_, ch_, pk_, pp_, wt_, al_, tg_, rm_, ro_, hk_, hw_, md_, le_, um_, us_, km_, ks_, ru_, rw_, th_, mk_, gn_, kp_, sv_, ky_, tm_, un_, nx_, pe_, ml_, ka_, kb_, kn_, rch_, ho_, ac_, dn2_, sN, sX, sNow, sDn, sF, sGb, sY, sFF, kX, kA, kB, kN, va_up, c_root, c_jr, c_st, c_bl, c_pa, c_sw, c_mo, c_ru, c_sa, c_sn, c_mi]) (fun q hq => ?_)
  obtain ⟨a, b⟩ := q
  match a with
  | 0 => rfl
  | 1 => rfl
  | 2 => rfl
  | 3 => rfl
  | 4 => rfl
  | 5 => rfl
  | 6 => rfl
  | 7 => rfl
  | 8 => rfl
  | 9 => rfl
  | 10 => rfl
  | 11 => rfl
  | 12 => rfl
  | 13 => rfl
  | 14 => rfl
  | 15 => rfl
  | 16 =>
    have hb : b ≠ i := fun e => hq (by rw [e])
    show on_ b _ _ = on_ b _ _
    simp [on_, hb, cap_, nb_, nfr_, nrv_, np_, nan_, shr_, ns_, nh_, nsw_, ph_, rf_, rt_, end_, cut_, wr_, now_, dn_, fs_, gs_, ys_, ff_, sz_, cm_, ch_, pk_, pp_, wt_, al_, tg_, rm_, ro_, hk_, hw_, md_, le_, um_, us_, km_, ks_, ru_, rw_, th_, mk_, gn_, kp_, sv_, ky_, tm_, un_, nx_, pe_, ml_, ka_, kb_, kn_, rch_, ho_, ac_, dn2_, sN, sX, sNow, sDn, sF, sGb, sY, sFF, kX, kA, kB, kN, va_up, c_root, c_jr, c_st, c_bl, c_pa, c_sw, c_mo, c_ru, c_sa, c_sn, c_mi]
  | 17 => rfl
  | 18 => rfl
  | 19 => rfl
  | 20 => rfl
  | 21 => rfl
  | n + 22 => rfl
set_option maxRecDepth 10000 in
theorem up_mdn (s : SG) (k : KG) (i : Nat) (hi : i < 3) (v : Nat) : kw_up (hC s k) (19, i) (.inr (2, [pr_ (20, i), pr_ (21, i), pi_ (nI v)])) = hC (s) (kN k 2 (va_up (dn2_ k) i v)) := by
  refine kw_up_eq (by have hi := hi; show on_ i _ _ = _; (try simp only [nb_, np_, ns_] at hi); simp [on_, hi, cap_, nb_, nfr_, nrv_, np_, nan_, shr_, ns_, nh_, nsw_, ph_, rf_, rt_, end_, cut_, wr_, now_, dn_, fs_, gs_, ys_, ff_, sz_, cm_, ch_, pk_, pp_, wt_, al_, tg_, rm_, ro_, hk_, hw_, md_, le_, um_, us_, km_, ks_, ru_, rw_, th_, mk_, gn_, kp_, sv_, ky_, tm_, un_, nx_, pe_, ml_, ka_, kb_, kn_, rch_, ho_, ac_, dn2_, sN, sX, sNow, sDn, sF, sGb, sY, sFF, kX, kA, kB, kN, va_up, c_root, c_jr, c_st, c_bl, c_pa, c_sw, c_mo, c_ru, c_sa, c_sn, c_mi]) (fun q hq => ?_)
  obtain ⟨a, b⟩ := q
  match a with
  | 0 => rfl
  | 1 => rfl
  | 2 => rfl
  | 3 => rfl
  | 4 => rfl
  | 5 => rfl
  | 6 => rfl
  | 7 => rfl
  | 8 => rfl
  | 9 => rfl
  | 10 => rfl
  | 11 => rfl
  | 12 => rfl
  | 13 => rfl
  | 14 => rfl
  | 15 => rfl
  | 16 => rfl
  | 17 => rfl
  | 18 => rfl
  | 19 =>
    have hb : b ≠ i := fun e => hq (by rw [e])
    show on_ b _ _ = on_ b _ _
    simp [on_, hb, cap_, nb_, nfr_, nrv_, np_, nan_, shr_, ns_, nh_, nsw_, ph_, rf_, rt_, end_, cut_, wr_, now_, dn_, fs_, gs_, ys_, ff_, sz_, cm_, ch_, pk_, pp_, wt_, al_, tg_, rm_, ro_, hk_, hw_, md_, le_, um_, us_, km_, ks_, ru_, rw_, th_, mk_, gn_, kp_, sv_, ky_, tm_, un_, nx_, pe_, ml_, ka_, kb_, kn_, rch_, ho_, ac_, dn2_, sN, sX, sNow, sDn, sF, sGb, sY, sFF, kX, kA, kB, kN, va_up, c_root, c_jr, c_st, c_bl, c_pa, c_sw, c_mo, c_ru, c_sa, c_sn, c_mi]
  | 20 => rfl
  | 21 => rfl
  | n + 22 => rfl
set_option maxRecDepth 10000 in
theorem up_rhk (s : SG) (k : KG) (j : Nat) (v : Nat) : kw_up (hC s k) (2, 0) (ri_ 240 (va_up (hk_ s) j v)) = hC (sF s 10 (va_up (hk_ s) j v)) (k) := by
  refine kw_up_eq rfl (fun q hq => ?_)
  obtain ⟨a, b⟩ := q
  match a with
  | 0 => rfl
  | 1 => rfl
  | 2 =>
    match b with
    | 0 => exact absurd rfl hq
    | 1 => rfl
    | 2 => rfl
    | 3 => rfl
    | 4 => rfl
    | n + 5 => rfl
  | 3 => rfl
  | 4 => rfl
  | 5 => rfl
  | 6 => rfl
  | 7 => rfl
  | 8 => rfl
  | 9 => rfl
  | 10 => rfl
  | 11 => rfl
  | 12 => rfl
  | 13 => rfl
  | 14 => rfl
  | 15 => rfl
  | 16 => rfl
  | 17 => rfl
  | 18 => rfl
  | 19 => rfl
  | 20 => rfl
  | 21 => rfl
  | n + 22 => rfl
set_option maxRecDepth 10000 in
theorem up_rhw (s : SG) (k : KG) (j : Nat) (v : Nat) : kw_up (hC s k) (2, 1) (ri_ 240 (va_up (hw_ s) j v)) = hC (sF s 11 (va_up (hw_ s) j v)) (k) := by
  refine kw_up_eq rfl (fun q hq => ?_)
  obtain ⟨a, b⟩ := q
  match a with
  | 0 => rfl
  | 1 => rfl
  | 2 =>
    match b with
    | 0 => rfl
    | 1 => exact absurd rfl hq
    | 2 => rfl
    | 3 => rfl
    | 4 => rfl
    | n + 5 => rfl
  | 3 => rfl
  | 4 => rfl
  | 5 => rfl
  | 6 => rfl
  | 7 => rfl
  | 8 => rfl
  | 9 => rfl
  | 10 => rfl
  | 11 => rfl
  | 12 => rfl
  | 13 => rfl
  | 14 => rfl
  | 15 => rfl
  | 16 => rfl
  | 17 => rfl
  | 18 => rfl
  | 19 => rfl
  | 20 => rfl
  | 21 => rfl
  | n + 22 => rfl
set_option maxRecDepth 10000 in
theorem up_rrc (s : SG) (k : KG) (j : Nat) (v : Bool) : kw_up (hC s k) (4, 2) (rb_ 80 (va_up (rch_ k) j v)) = hC (s) (kB k 0 (va_up (rch_ k) j v)) := by
  refine kw_up_eq rfl (fun q hq => ?_)
  obtain ⟨a, b⟩ := q
  match a with
  | 0 => rfl
  | 1 => rfl
  | 2 => rfl
  | 3 => rfl
  | 4 =>
    match b with
    | 0 => rfl
    | 1 => rfl
    | 2 => exact absurd rfl hq
    | 3 => rfl
    | 4 => rfl
    | n + 5 => rfl
  | 5 => rfl
  | 6 => rfl
  | 7 => rfl
  | 8 => rfl
  | 9 => rfl
  | 10 => rfl
  | 11 => rfl
  | 12 => rfl
  | 13 => rfl
  | 14 => rfl
  | 15 => rfl
  | 16 => rfl
  | 17 => rfl
  | 18 => rfl
  | 19 => rfl
  | 20 =>
    show on_ b _ _ = on_ b _ _
    have e : ¬ 1 + b = 0 := by omega
    simp [on_, cap_, nb_, nfr_, nrv_, np_, nan_, shr_, ns_, nh_, nsw_, ph_, rf_, rt_, end_, cut_, wr_, now_, dn_, fs_, gs_, ys_, ff_, sz_, cm_, ch_, pk_, pp_, wt_, al_, tg_, rm_, ro_, hk_, hw_, md_, le_, um_, us_, km_, ks_, ru_, rw_, th_, mk_, gn_, kp_, sv_, ky_, tm_, un_, nx_, pe_, ml_, ka_, kb_, kn_, rch_, ho_, ac_, dn2_, sN, sX, sNow, sDn, sF, sGb, sY, sFF, kX, kA, kB, kN, va_up, c_root, c_jr, c_st, c_bl, c_pa, c_sw, c_mo, c_ru, c_sa, c_sn, c_mi, e]
  | 21 =>
    show on_ b _ _ = on_ b _ _
    have e : ¬ 4 + b = 0 := by omega
    simp [on_, cap_, nb_, nfr_, nrv_, np_, nan_, shr_, ns_, nh_, nsw_, ph_, rf_, rt_, end_, cut_, wr_, now_, dn_, fs_, gs_, ys_, ff_, sz_, cm_, ch_, pk_, pp_, wt_, al_, tg_, rm_, ro_, hk_, hw_, md_, le_, um_, us_, km_, ks_, ru_, rw_, th_, mk_, gn_, kp_, sv_, ky_, tm_, un_, nx_, pe_, ml_, ka_, kb_, kn_, rch_, ho_, ac_, dn2_, sN, sX, sNow, sDn, sF, sGb, sY, sFF, kX, kA, kB, kN, va_up, c_root, c_jr, c_st, c_bl, c_pa, c_sw, c_mo, c_ru, c_sa, c_sn, c_mi, e]
  | n + 22 => rfl
set_option maxRecDepth 10000 in
theorem up_rrw (s : SG) (k : KG) (j : Nat) (v : Nat) : kw_up (hC s k) (8, 1) (ri_ 944 (va_up (rw_ s) j v)) = hC (sF s 19 (va_up (rw_ s) j v)) (k) := by
  refine kw_up_eq rfl (fun q hq => ?_)
  obtain ⟨a, b⟩ := q
  match a with
  | 0 => rfl
  | 1 => rfl
  | 2 => rfl
  | 3 => rfl
  | 4 => rfl
  | 5 => rfl
  | 6 => rfl
  | 7 => rfl
  | 8 =>
    match b with
    | 0 => rfl
    | 1 => exact absurd rfl hq
    | 2 => rfl
    | 3 => rfl
    | 4 => rfl
    | n + 5 => rfl
  | 9 => rfl
  | 10 => rfl
  | 11 => rfl
  | 12 => rfl
  | 13 => rfl
  | 14 => rfl
  | 15 => rfl
  | 16 => rfl
  | 17 => rfl
  | 18 => rfl
  | 19 => rfl
  | 20 => rfl
  | 21 => rfl
  | n + 22 => rfl
set_option maxRecDepth 10000 in
theorem up_rm0 (s : SG) (k : KG) (j : Nat) (v : Int32) : kw_up (hC s k) (9, 1) (rx_ 80 (va_up (ka_ k 0) j v)) = hC (s) (kA k 0 (va_up (ka_ k 0) j v)) := by
  refine kw_up_eq rfl (fun q hq => ?_)
  obtain ⟨a, b⟩ := q
  match a with
  | 0 => rfl
  | 1 => rfl
  | 2 => rfl
  | 3 => rfl
  | 4 => rfl
  | 5 => rfl
  | 6 => rfl
  | 7 => rfl
  | 8 => rfl
  | 9 =>
    match b with
    | 0 => rfl
    | 1 => exact absurd rfl hq
    | 2 => rfl
    | 3 => rfl
    | 4 => rfl
    | n + 5 => rfl
  | 10 => rfl
  | 11 => rfl
  | 12 => rfl
  | 13 => rfl
  | 14 => rfl
  | 15 => rfl
  | 16 => rfl
  | 17 => rfl
  | 18 => rfl
  | 19 => rfl
  | 20 => rfl
  | 21 => rfl
  | n + 22 => rfl
set_option maxRecDepth 10000 in
theorem up_rm1 (s : SG) (k : KG) (j : Nat) (v : Int32) : kw_up (hC s k) (9, 2) (rx_ 80 (va_up (ka_ k 1) j v)) = hC (s) (kA k 1 (va_up (ka_ k 1) j v)) := by
  refine kw_up_eq rfl (fun q hq => ?_)
  obtain ⟨a, b⟩ := q
  match a with
  | 0 => rfl
  | 1 => rfl
  | 2 => rfl
  | 3 => rfl
  | 4 => rfl
  | 5 => rfl
  | 6 => rfl
  | 7 => rfl
  | 8 => rfl
  | 9 =>
    match b with
    | 0 => rfl
    | 1 => rfl
    | 2 => exact absurd rfl hq
    | 3 => rfl
    | 4 => rfl
    | n + 5 => rfl
  | 10 => rfl
  | 11 => rfl
  | 12 => rfl
  | 13 => rfl
  | 14 => rfl
  | 15 => rfl
  | 16 => rfl
  | 17 => rfl
  | 18 => rfl
  | 19 => rfl
  | 20 => rfl
  | 21 => rfl
  | n + 22 => rfl
set_option maxRecDepth 10000 in
theorem up_rm2 (s : SG) (k : KG) (j : Nat) (v : Int32) : kw_up (hC s k) (9, 3) (rx_ 80 (va_up (ka_ k 2) j v)) = hC (s) (kA k 2 (va_up (ka_ k 2) j v)) := by
  refine kw_up_eq rfl (fun q hq => ?_)
  obtain ⟨a, b⟩ := q
  match a with
  | 0 => rfl
  | 1 => rfl
  | 2 => rfl
  | 3 => rfl
  | 4 => rfl
  | 5 => rfl
  | 6 => rfl
  | 7 => rfl
  | 8 => rfl
  | 9 =>
    match b with
    | 0 => rfl
    | 1 => rfl
    | 2 => rfl
    | 3 => exact absurd rfl hq
    | 4 => rfl
    | n + 5 => rfl
  | 10 => rfl
  | 11 => rfl
  | 12 => rfl
  | 13 => rfl
  | 14 => rfl
  | 15 => rfl
  | 16 => rfl
  | 17 => rfl
  | 18 => rfl
  | 19 => rfl
  | 20 => rfl
  | 21 => rfl
  | n + 22 => rfl
set_option maxRecDepth 10000 in
theorem up_rru (s : SG) (k : KG) (j : Nat) (v : Nat) : kw_up (hC s k) (10, 1) (ri_ 6 (va_up (ru_ s) j v)) = hC (sF s 18 (va_up (ru_ s) j v)) (k) := by
  refine kw_up_eq rfl (fun q hq => ?_)
  obtain ⟨a, b⟩ := q
  match a with
  | 0 => rfl
  | 1 => rfl
  | 2 => rfl
  | 3 => rfl
  | 4 => rfl
  | 5 => rfl
  | 6 => rfl
  | 7 => rfl
  | 8 => rfl
  | 9 => rfl
  | 10 =>
    match b with
    | 0 => rfl
    | 1 => exact absurd rfl hq
    | 2 => rfl
    | 3 => rfl
    | 4 => rfl
    | n + 5 => rfl
  | 11 => rfl
  | 12 => rfl
  | 13 => rfl
  | 14 => rfl
  | 15 => rfl
  | 16 => rfl
  | 17 => rfl
  | 18 => rfl
  | 19 => rfl
  | 20 => rfl
  | 21 => rfl
  | n + 22 => rfl
set_option maxRecDepth 10000 in
theorem up_rkp (s : SG) (k : KG) (j : Nat) (v : Int32) : kw_up (hC s k) (10, 2) (rx_ 40 (va_up (ka_ k 3) j v)) = hC (s) (kA k 3 (va_up (ka_ k 3) j v)) := by
  refine kw_up_eq rfl (fun q hq => ?_)
  obtain ⟨a, b⟩ := q
  match a with
  | 0 => rfl
  | 1 => rfl
  | 2 => rfl
  | 3 => rfl
  | 4 => rfl
  | 5 => rfl
  | 6 => rfl
  | 7 => rfl
  | 8 => rfl
  | 9 => rfl
  | 10 =>
    match b with
    | 0 => rfl
    | 1 => rfl
    | 2 => exact absurd rfl hq
    | 3 => rfl
    | 4 => rfl
    | n + 5 => rfl
  | 11 => rfl
  | 12 => rfl
  | 13 => rfl
  | 14 => rfl
  | 15 => rfl
  | 16 => rfl
  | 17 => rfl
  | 18 => rfl
  | 19 => rfl
  | 20 => rfl
  | 21 => rfl
  | n + 22 => rfl
set_option maxRecDepth 10000 in
theorem up_ruse (s : SG) (k : KG) (i : Nat) (hi : i < 4) (j : Nat) (v : Nat) : kw_up (hC s k) (13, i) (ri_ 8 (va_up (us_ s i) j v)) = hC (sFF s 2 (va_up (us_ s) i (va_up (us_ s i) j v))) (k) := by
  refine kw_up_eq (by show on_ i _ _ = _; simp [on_, hi, cap_, nb_, nfr_, nrv_, np_, nan_, shr_, ns_, nh_, nsw_, ph_, rf_, rt_, end_, cut_, wr_, now_, dn_, fs_, gs_, ys_, ff_, sz_, cm_, ch_, pk_, pp_, wt_, al_, tg_, rm_, ro_, hk_, hw_, md_, le_, um_, us_, km_, ks_, ru_, rw_, th_, mk_, gn_, kp_, sv_, ky_, tm_, un_, nx_, pe_, ml_, ka_, kb_, kn_, rch_, ho_, ac_, dn2_, sN, sX, sNow, sDn, sF, sGb, sY, sFF, kX, kA, kB, kN, va_up, c_root, c_jr, c_st, c_bl, c_pa, c_sw, c_mo, c_ru, c_sa, c_sn, c_mi]) (fun q hq => ?_)
  obtain ⟨a, b⟩ := q
  match a with
  | 0 => rfl
  | 1 => rfl
  | 2 => rfl
  | 3 => rfl
  | 4 => rfl
  | 5 => rfl
  | 6 => rfl
  | 7 => rfl
  | 8 => rfl
  | 9 => rfl
  | 10 => rfl
  | 11 => rfl
  | 12 => rfl
  | 13 =>
    have hb : b ≠ i := fun e => hq (by rw [e])
    show on_ b _ _ = on_ b _ _
    simp [on_, hb, cap_, nb_, nfr_, nrv_, np_, nan_, shr_, ns_, nh_, nsw_, ph_, rf_, rt_, end_, cut_, wr_, now_, dn_, fs_, gs_, ys_, ff_, sz_, cm_, ch_, pk_, pp_, wt_, al_, tg_, rm_, ro_, hk_, hw_, md_, le_, um_, us_, km_, ks_, ru_, rw_, th_, mk_, gn_, kp_, sv_, ky_, tm_, un_, nx_, pe_, ml_, ka_, kb_, kn_, rch_, ho_, ac_, dn2_, sN, sX, sNow, sDn, sF, sGb, sY, sFF, kX, kA, kB, kN, va_up, c_root, c_jr, c_st, c_bl, c_pa, c_sw, c_mo, c_ru, c_sa, c_sn, c_mi]
  | 14 => rfl
  | 15 => rfl
  | 16 => rfl
  | 17 => rfl
  | 18 => rfl
  | 19 => rfl
  | 20 => rfl
  | 21 => rfl
  | n + 22 => rfl
set_option maxRecDepth 10000 in
theorem up_rchi (s : SG) (k : KG) (i : Nat) (hi : i < 4) (j : Nat) (v : Nat) : kw_up (hC s k) (14, i) (ri_ 4 (va_up (ks_ s i) j v)) = hC (sFF s 3 (va_up (ks_ s) i (va_up (ks_ s i) j v))) (k) := by
  refine kw_up_eq (by show on_ i _ _ = _; simp [on_, hi, cap_, nb_, nfr_, nrv_, np_, nan_, shr_, ns_, nh_, nsw_, ph_, rf_, rt_, end_, cut_, wr_, now_, dn_, fs_, gs_, ys_, ff_, sz_, cm_, ch_, pk_, pp_, wt_, al_, tg_, rm_, ro_, hk_, hw_, md_, le_, um_, us_, km_, ks_, ru_, rw_, th_, mk_, gn_, kp_, sv_, ky_, tm_, un_, nx_, pe_, ml_, ka_, kb_, kn_, rch_, ho_, ac_, dn2_, sN, sX, sNow, sDn, sF, sGb, sY, sFF, kX, kA, kB, kN, va_up, c_root, c_jr, c_st, c_bl, c_pa, c_sw, c_mo, c_ru, c_sa, c_sn, c_mi]) (fun q hq => ?_)
  obtain ⟨a, b⟩ := q
  match a with
  | 0 => rfl
  | 1 => rfl
  | 2 => rfl
  | 3 => rfl
  | 4 => rfl
  | 5 => rfl
  | 6 => rfl
  | 7 => rfl
  | 8 => rfl
  | 9 => rfl
  | 10 => rfl
  | 11 => rfl
  | 12 => rfl
  | 13 => rfl
  | 14 =>
    have hb : b ≠ i := fun e => hq (by rw [e])
    show on_ b _ _ = on_ b _ _
    simp [on_, hb, cap_, nb_, nfr_, nrv_, np_, nan_, shr_, ns_, nh_, nsw_, ph_, rf_, rt_, end_, cut_, wr_, now_, dn_, fs_, gs_, ys_, ff_, sz_, cm_, ch_, pk_, pp_, wt_, al_, tg_, rm_, ro_, hk_, hw_, md_, le_, um_, us_, km_, ks_, ru_, rw_, th_, mk_, gn_, kp_, sv_, ky_, tm_, un_, nx_, pe_, ml_, ka_, kb_, kn_, rch_, ho_, ac_, dn2_, sN, sX, sNow, sDn, sF, sGb, sY, sFF, kX, kA, kB, kN, va_up, c_root, c_jr, c_st, c_bl, c_pa, c_sw, c_mo, c_ru, c_sa, c_sn, c_mi]
  | 15 => rfl
  | 16 => rfl
  | 17 => rfl
  | 18 => rfl
  | 19 => rfl
  | 20 => rfl
  | 21 => rfl
  | n + 22 => rfl
set_option maxRecDepth 10000 in
theorem up_rmb (s : SG) (k : KG) (i : Nat) (hi : i < 3) (j : Nat) (v : Bool) : kw_up (hC s k) (20, i) (rb_ 80 (va_up (kb_ k (1 + i)) j v)) = hC (s) (kB k (1 + i) (va_up (kb_ k (1 + i)) j v)) := by
  refine kw_up_eq (by show on_ i _ _ = _; simp [on_, hi, cap_, nb_, nfr_, nrv_, np_, nan_, shr_, ns_, nh_, nsw_, ph_, rf_, rt_, end_, cut_, wr_, now_, dn_, fs_, gs_, ys_, ff_, sz_, cm_, ch_, pk_, pp_, wt_, al_, tg_, rm_, ro_, hk_, hw_, md_, le_, um_, us_, km_, ks_, ru_, rw_, th_, mk_, gn_, kp_, sv_, ky_, tm_, un_, nx_, pe_, ml_, ka_, kb_, kn_, rch_, ho_, ac_, dn2_, sN, sX, sNow, sDn, sF, sGb, sY, sFF, kX, kA, kB, kN, va_up, c_root, c_jr, c_st, c_bl, c_pa, c_sw, c_mo, c_ru, c_sa, c_sn, c_mi]) (fun q hq => ?_)
  obtain ⟨a, b⟩ := q
  match a with
  | 4 =>
    match b with
    | 0 => rfl
    | 1 => rfl
    | 2 =>
      show some (rb_ 80 (rch_ k)) = some (rb_ 80 (rch_ _))
      have e : ¬ 0 = 1 + i := by omega
      simp [cap_, nb_, nfr_, nrv_, np_, nan_, shr_, ns_, nh_, nsw_, ph_, rf_, rt_, end_, cut_, wr_, now_, dn_, fs_, gs_, ys_, ff_, sz_, cm_, ch_, pk_, pp_, wt_, al_, tg_, rm_, ro_, hk_, hw_, md_, le_, um_, us_, km_, ks_, ru_, rw_, th_, mk_, gn_, kp_, sv_, ky_, tm_, un_, nx_, pe_, ml_, ka_, kb_, kn_, rch_, ho_, ac_, dn2_, sN, sX, sNow, sDn, sF, sGb, sY, sFF, kX, kA, kB, kN, va_up, c_root, c_jr, c_st, c_bl, c_pa, c_sw, c_mo, c_ru, c_sa, c_sn, c_mi, e]
    | n + 3 => rfl
  | 21 =>
    show on_ b _ _ = on_ b _ _
    by_cases hb3 : b < 3
    · have e : ¬ 4 + b = 1 + i := by omega
      simp [on_, cap_, nb_, nfr_, nrv_, np_, nan_, shr_, ns_, nh_, nsw_, ph_, rf_, rt_, end_, cut_, wr_, now_, dn_, fs_, gs_, ys_, ff_, sz_, cm_, ch_, pk_, pp_, wt_, al_, tg_, rm_, ro_, hk_, hw_, md_, le_, um_, us_, km_, ks_, ru_, rw_, th_, mk_, gn_, kp_, sv_, ky_, tm_, un_, nx_, pe_, ml_, ka_, kb_, kn_, rch_, ho_, ac_, dn2_, sN, sX, sNow, sDn, sF, sGb, sY, sFF, kX, kA, kB, kN, va_up, c_root, c_jr, c_st, c_bl, c_pa, c_sw, c_mo, c_ru, c_sa, c_sn, c_mi, e]
    · simp [on_, hb3]
  | 0 => rfl
  | 1 => rfl
  | 2 => rfl
  | 3 => rfl
  | 5 => rfl
  | 6 => rfl
  | 7 => rfl
  | 8 => rfl
  | 9 => rfl
  | 10 => rfl
  | 11 => rfl
  | 12 => rfl
  | 13 => rfl
  | 14 => rfl
  | 15 => rfl
  | 16 => rfl
  | 17 => rfl
  | 18 => rfl
  | 19 => rfl
  | 20 =>
    have hb : b ≠ i := fun e => hq (by rw [e])
    show on_ b _ _ = on_ b _ _
    simp [on_, hb, cap_, nb_, nfr_, nrv_, np_, nan_, shr_, ns_, nh_, nsw_, ph_, rf_, rt_, end_, cut_, wr_, now_, dn_, fs_, gs_, ys_, ff_, sz_, cm_, ch_, pk_, pp_, wt_, al_, tg_, rm_, ro_, hk_, hw_, md_, le_, um_, us_, km_, ks_, ru_, rw_, th_, mk_, gn_, kp_, sv_, ky_, tm_, un_, nx_, pe_, ml_, ka_, kb_, kn_, rch_, ho_, ac_, dn2_, sN, sX, sNow, sDn, sF, sGb, sY, sFF, kX, kA, kB, kN, va_up, c_root, c_jr, c_st, c_bl, c_pa, c_sw, c_mo, c_ru, c_sa, c_sn, c_mi]
  | n + 22 => rfl
set_option maxRecDepth 10000 in
theorem up_rms (s : SG) (k : KG) (i : Nat) (hi : i < 3) (j : Nat) (v : Bool) : kw_up (hC s k) (21, i) (rb_ 40 (va_up (kb_ k (4 + i)) j v)) = hC (s) (kB k (4 + i) (va_up (kb_ k (4 + i)) j v)) := by
  refine kw_up_eq (by show on_ i _ _ = _; simp [on_, hi, cap_, nb_, nfr_, nrv_, np_, nan_, shr_, ns_, nh_, nsw_, ph_, rf_, rt_, end_, cut_, wr_, now_, dn_, fs_, gs_, ys_, ff_, sz_, cm_, ch_, pk_, pp_, wt_, al_, tg_, rm_, ro_, hk_, hw_, md_, le_, um_, us_, km_, ks_, ru_, rw_, th_, mk_, gn_, kp_, sv_, ky_, tm_, un_, nx_, pe_, ml_, ka_, kb_, kn_, rch_, ho_, ac_, dn2_, sN, sX, sNow, sDn, sF, sGb, sY, sFF, kX, kA, kB, kN, va_up, c_root, c_jr, c_st, c_bl, c_pa, c_sw, c_mo, c_ru, c_sa, c_sn, c_mi]) (fun q hq => ?_)
  obtain ⟨a, b⟩ := q
  match a with
  | 4 =>
    match b with
    | 0 => rfl
    | 1 => rfl
    | 2 =>
      show some (rb_ 80 (rch_ k)) = some (rb_ 80 (rch_ _))
      have e : ¬ 0 = 4 + i := by omega
      simp [cap_, nb_, nfr_, nrv_, np_, nan_, shr_, ns_, nh_, nsw_, ph_, rf_, rt_, end_, cut_, wr_, now_, dn_, fs_, gs_, ys_, ff_, sz_, cm_, ch_, pk_, pp_, wt_, al_, tg_, rm_, ro_, hk_, hw_, md_, le_, um_, us_, km_, ks_, ru_, rw_, th_, mk_, gn_, kp_, sv_, ky_, tm_, un_, nx_, pe_, ml_, ka_, kb_, kn_, rch_, ho_, ac_, dn2_, sN, sX, sNow, sDn, sF, sGb, sY, sFF, kX, kA, kB, kN, va_up, c_root, c_jr, c_st, c_bl, c_pa, c_sw, c_mo, c_ru, c_sa, c_sn, c_mi, e]
    | n + 3 => rfl
  | 20 =>
    show on_ b _ _ = on_ b _ _
    by_cases hb3 : b < 3
    · have e : ¬ 1 + b = 4 + i := by omega
      simp [on_, cap_, nb_, nfr_, nrv_, np_, nan_, shr_, ns_, nh_, nsw_, ph_, rf_, rt_, end_, cut_, wr_, now_, dn_, fs_, gs_, ys_, ff_, sz_, cm_, ch_, pk_, pp_, wt_, al_, tg_, rm_, ro_, hk_, hw_, md_, le_, um_, us_, km_, ks_, ru_, rw_, th_, mk_, gn_, kp_, sv_, ky_, tm_, un_, nx_, pe_, ml_, ka_, kb_, kn_, rch_, ho_, ac_, dn2_, sN, sX, sNow, sDn, sF, sGb, sY, sFF, kX, kA, kB, kN, va_up, c_root, c_jr, c_st, c_bl, c_pa, c_sw, c_mo, c_ru, c_sa, c_sn, c_mi, e]
    · simp [on_, hb3]
  | 0 => rfl
  | 1 => rfl
  | 2 => rfl
  | 3 => rfl
  | 5 => rfl
  | 6 => rfl
  | 7 => rfl
  | 8 => rfl
  | 9 => rfl
  | 10 => rfl
  | 11 => rfl
  | 12 => rfl
  | 13 => rfl
  | 14 => rfl
  | 15 => rfl
  | 16 => rfl
  | 17 => rfl
  | 18 => rfl
  | 19 => rfl
  | 21 =>
    have hb : b ≠ i := fun e => hq (by rw [e])
    show on_ b _ _ = on_ b _ _
    simp [on_, hb, cap_, nb_, nfr_, nrv_, np_, nan_, shr_, ns_, nh_, nsw_, ph_, rf_, rt_, end_, cut_, wr_, now_, dn_, fs_, gs_, ys_, ff_, sz_, cm_, ch_, pk_, pp_, wt_, al_, tg_, rm_, ro_, hk_, hw_, md_, le_, um_, us_, km_, ks_, ru_, rw_, th_, mk_, gn_, kp_, sv_, ky_, tm_, un_, nx_, pe_, ml_, ka_, kb_, kn_, rch_, ho_, ac_, dn2_, sN, sX, sNow, sDn, sF, sGb, sY, sFF, kX, kA, kB, kN, va_up, c_root, c_jr, c_st, c_bl, c_pa, c_sw, c_mo, c_ru, c_sa, c_sn, c_mi]
  | n + 22 => rfl
