/-! NEW CELLS OF THE CLASS -/
theorem nm_ref {h : PH} {key q : KK} (hkey : h key = none) (hq : h q ≠ none) : q ≠ key := fun e => hq (by rw [e]; exact hkey)
theorem nm_some {h : PH} {q : KK} {c : PC} (e : h q = some c) : h q ≠ none := by rw [e]; exact fun z => by cases z
set_option maxRecDepth 20000 in
theorem hC_nm {s : SG} {k : KG} {key : KK} (hkey : hC s k key = none) (hns : ns_ s ≤ 40) (hnb : nb_ s ≤ 80) (hnp : np_ s ≤ 40) : ∀ (q : KK) (c : PC), hC s k q = some c → kw_nmc key c := by
  rintro ⟨a, b⟩ c hq
  match a, hq with
  | 0, hq =>
    have hq : o1_ b _ = some c := hq
    unfold o1_ at hq
    split at hq
    · cases hq
      intro v hv
      simp only [List.mem_cons, List.not_mem_nil, or_false] at hv
      rcases hv with rfl | rfl | rfl | rfl | rfl | rfl | rfl | rfl | rfl | rfl
      · exact nm_ref hkey (nm_some (show hC s k (1, 0) = some _ from rfl))
      · exact nm_ref hkey (nm_some (show hC s k (3, 0) = some _ from rfl))
      · exact nm_ref hkey (nm_some (show hC s k (8, 0) = some _ from rfl))
      · exact nm_ref hkey (nm_some (show hC s k (10, 0) = some _ from rfl))
      · exact nm_ref hkey (nm_some (show hC s k (11, 0) = some _ from rfl))
      · exact nm_ref hkey (nm_some (show hC s k (15, 0) = some _ from rfl))
      · exact nm_ref hkey (nm_some (show hC s k (18, 0) = some _ from rfl))
      · exact nm_ref hkey (nm_some (show hC s k (19, 2) = some _ from rfl))
      · exact trivial
      · exact trivial
    · cases hq
  | 1, hq =>
    have hq : o1_ b _ = some c := hq
    unfold o1_ at hq
    split at hq
    · cases hq
      intro v hv
      simp only [List.mem_cons, List.not_mem_nil, or_false] at hv
      rcases hv with rfl | rfl | rfl | rfl | rfl | rfl
      · exact nm_ref hkey (nm_some (show hC s k (2, 0) = some _ from rfl))
      · exact nm_ref hkey (nm_some (show hC s k (2, 1) = some _ from rfl))
      · exact trivial
      · exact trivial
      · exact trivial
      · exact trivial
    · cases hq
  | 2, hq =>
    match b, hq with
    | 0, hq => cases hq; exact trivial
    | 1, hq => cases hq; exact trivial
    | n + 2, hq => cases hq
  | 3, hq =>
    have hq : o1_ b _ = some c := hq
    unfold o1_ at hq
    split at hq
    · cases hq
      intro v hv
      simp only [List.mem_cons, List.not_mem_nil, or_false] at hv
      rcases hv with rfl | rfl | rfl | rfl | rfl | rfl | rfl | rfl | rfl | rfl
      · exact trivial
      · exact nm_ref hkey (nm_some (show hC s k (1, 0) = some _ from rfl))
      · exact nm_ref hkey (nm_some (show hC s k (4, 0) = some _ from rfl))
      · exact nm_ref hkey (nm_some (show hC s k (4, 1) = some _ from rfl))
      · exact nm_ref hkey (nm_some (show hC s k (4, 2) = some _ from rfl))
      · exact trivial
      · exact trivial
      · exact trivial
      · exact trivial
      · exact trivial
    · cases hq
  | 4, hq =>
    match b, hq with
    | 0, hq =>
      cases hq
      intro j hj e
      by_cases hj2 : j < nb_ s
      · rw [if_pos hj2] at e
        cases e
        exact absurd hkey (nm_some (hC_bl (s := s) (k := k) hj2))
      · rw [if_neg hj2] at e; cases e
    | 1, hq =>
      cases hq
      intro j hj e
      by_cases hj2 : j < np_ s
      · rw [if_pos hj2] at e
        cases e
        exact absurd hkey (nm_some (hC_pa (s := s) (k := k) hj2))
      · rw [if_neg hj2] at e; cases e
    | 2, hq => cases hq; exact trivial
    | n + 3, hq => cases hq
  | 5, hq =>
    have hq : on_ b _ _ = some c := hq
    unfold on_ at hq
    by_cases hb : b < nb_ s
    · rw [if_pos hb] at hq
      cases hq
      intro v hv
      simp only [List.mem_cons, List.not_mem_nil, or_false] at hv
      rcases hv with rfl | rfl | rfl | rfl | rfl | rfl | rfl | rfl
      · exact trivial
      · exact trivial
      · exact nm_ref hkey (nm_some (hC_ch (s := s) (k := k) hb))
      · exact trivial
      · exact trivial
      · exact trivial
      · exact trivial
      · exact trivial
    · rw [if_neg hb] at hq; cases hq
  | 6, hq =>
    have hq : on_ b _ _ = some c := hq
    unfold on_ at hq
    split at hq
    · cases hq; exact trivial
    · cases hq
  | 7, hq =>
    have hq : on_ b _ _ = some c := hq
    unfold on_ at hq
    by_cases hb : b < np_ s
    · rw [if_pos hb] at hq
      cases hq
      intro v hv
      simp only [List.mem_cons, List.not_mem_nil, or_false] at hv
      rcases hv with rfl | rfl | rfl
      · exact trivial
      · exact trivial
      · exact trivial
    · rw [if_neg hb] at hq; cases hq
  | 8, hq =>
    match b, hq with
    | 0, hq =>
      cases hq
      intro v hv
      simp only [List.mem_cons, List.not_mem_nil, or_false] at hv
      rcases hv with rfl | rfl | rfl | rfl | rfl | rfl | rfl | rfl | rfl | rfl | rfl
      · exact nm_ref hkey (nm_some (show hC s k (3, 0) = some _ from rfl))
      · exact nm_ref hkey (nm_some (show hC s k (9, 0) = some _ from rfl))
      · exact nm_ref hkey (nm_some (show hC s k (8, 1) = some _ from rfl))
      · exact trivial
      · exact trivial
      · exact trivial
      · exact trivial
      · exact trivial
      · exact trivial
      · exact trivial
      · exact trivial
    | 1, hq => cases hq; exact trivial
    | n + 2, hq => cases hq
  | 9, hq =>
    match b, hq with
    | 0, hq =>
      cases hq
      intro v hv
      simp only [List.mem_cons, List.not_mem_nil, or_false] at hv
      rcases hv with rfl | rfl | rfl | rfl | rfl | rfl
      · exact nm_ref hkey (nm_some (show hC s k (3, 0) = some _ from rfl))
      · exact nm_ref hkey (nm_some (show hC s k (1, 0) = some _ from rfl))
      · exact nm_ref hkey (nm_some (show hC s k (9, 1) = some _ from rfl))
      · exact nm_ref hkey (nm_some (show hC s k (9, 2) = some _ from rfl))
      · exact nm_ref hkey (nm_some (show hC s k (9, 3) = some _ from rfl))
      · exact trivial
    | 1, hq => cases hq; exact trivial
    | 2, hq => cases hq; exact trivial
    | 3, hq => cases hq; exact trivial
    | n + 4, hq => cases hq
  | 10, hq =>
    match b, hq with
    | 0, hq =>
      cases hq
      intro v hv
      simp only [List.mem_cons, List.not_mem_nil, or_false] at hv
      rcases hv with rfl | rfl
      · exact nm_ref hkey (nm_some (show hC s k (10, 1) = some _ from rfl))
      · exact nm_ref hkey (nm_some (show hC s k (10, 2) = some _ from rfl))
    | 1, hq => cases hq; exact trivial
    | 2, hq => cases hq; exact trivial
    | n + 3, hq => cases hq
  | 11, hq =>
    have hq : o1_ b _ = some c := hq
    unfold o1_ at hq
    split at hq
    · cases hq
      intro j hj e
      by_cases hj2 : j < 4
      · rw [if_pos hj2] at e
        cases e
        exact absurd hkey (nm_some (hC_sa (s := s) (k := k) hj2))
      · rw [if_neg hj2] at e; cases e
    · cases hq
  | 12, hq =>
    have hq : on_ b _ _ = some c := hq
    unfold on_ at hq
    by_cases hb : b < 4
    · rw [if_pos hb] at hq
      cases hq
      intro v hv
      simp only [List.mem_cons, List.not_mem_nil, or_false] at hv
      rcases hv with rfl | rfl | rfl | rfl | rfl | rfl | rfl
      · exact nm_ref hkey (nm_some (hC_us (s := s) (k := k) hb))
      · exact nm_ref hkey (nm_some (hC_kd (s := s) (k := k) hb))
      · exact trivial
      · exact trivial
      · exact trivial
      · exact trivial
      · exact trivial
    · rw [if_neg hb] at hq; cases hq
  | 13, hq =>
    have hq : on_ b _ _ = some c := hq
    unfold on_ at hq
    split at hq
    · cases hq; exact trivial
    · cases hq
  | 14, hq =>
    have hq : on_ b _ _ = some c := hq
    unfold on_ at hq
    split at hq
    · cases hq; exact trivial
    · cases hq
  | 15, hq =>
    have hq : o1_ b _ = some c := hq
    unfold o1_ at hq
    split at hq
    · cases hq
      intro j hj e
      by_cases hj2 : j < ns_ s
      · rw [if_pos hj2] at e
        cases e
        exact absurd hkey (nm_some (hC_sn (s := s) (k := k) hj2))
      · rw [if_neg hj2] at e; cases e
    · cases hq
  | 16, hq =>
    have hq : on_ b _ _ = some c := hq
    unfold on_ at hq
    by_cases hb : b < ns_ s
    · rw [if_pos hb] at hq
      cases hq
      intro v hv
      simp only [List.mem_cons, List.not_mem_nil, or_false] at hv
      rcases hv with rfl | rfl | rfl | rfl
      · exact trivial
      · exact trivial
      · exact nm_ref hkey (nm_some (hC_rt (s := s) (k := k) hb))
      · exact trivial
    · rw [if_neg hb] at hq; cases hq
  | 17, hq =>
    have hq : on_ b _ _ = some c := hq
    unfold on_ at hq
    split at hq
    · cases hq; exact trivial
    · cases hq
  | 18, hq =>
    have hq : o1_ b _ = some c := hq
    unfold o1_ at hq
    split at hq
    · cases hq
      intro j hj e
      by_cases hj2 : j < 2
      · rw [if_pos hj2] at e
        cases e
        exact absurd hkey (nm_some (hC_mi (s := s) (k := k) (i := j) (by omega)))
      · rw [if_neg hj2] at e; cases e
    · cases hq
  | 19, hq =>
    have hq : on_ b _ _ = some c := hq
    unfold on_ at hq
    by_cases hb : b < 3
    · rw [if_pos hb] at hq
      cases hq
      intro v hv
      simp only [List.mem_cons, List.not_mem_nil, or_false] at hv
      rcases hv with rfl | rfl | rfl
      · exact nm_ref hkey (nm_some (hC_mb (s := s) (k := k) hb))
      · exact nm_ref hkey (nm_some (hC_ms (s := s) (k := k) hb))
      · exact trivial
    · rw [if_neg hb] at hq; cases hq
  | 20, hq =>
    have hq : on_ b _ _ = some c := hq
    unfold on_ at hq
    split at hq
    · cases hq; exact trivial
    · cases hq
  | 21, hq =>
    have hq : on_ b _ _ = some c := hq
    unfold on_ at hq
    split at hq
    · cases hq; exact trivial
    · cases hq
  | n + 22, hq => cases hq
def s_np (s : SG) : SG := sN (sGb s 2 (va_up (gn_ s) (np_ s) false)) 4 (np_ s + 1)
def k_np (s : SG) (k : KG) : KG := kN (kN k 0 (va_up (ho_ k) (np_ s) 0)) 1 (va_up (ac_ k) (np_ s) 0)
abbrev f_pk (n : Nat) : Nat → Option KK := fun i => if i < n then some (7, i) else none
abbrev f_bl (n : Nat) : Nat → Option KK := fun i => if i < n then some (5, i) else none
abbrev f_sn (n : Nat) : Nat → Option KK := fun i => if i < n then some (16, i) else none
theorem va_up_f (a n : Nat) : va_up (fun i => if i < n then some ((a, i) : KK) else none) n (some (a, n)) = fun i => if i < n + 1 then some (a, i) else none := by
  funext i
  by_cases h1 : i = n
  · subst h1; simp [va_up]
  · by_cases h2 : i < n
    · have : i < n + 1 := by omega
      simp [va_up, h1, h2, this]
    · have : ¬ i < n + 1 := by omega
      simp [va_up, h1, h2, this]
set_option maxRecDepth 20000 in
theorem up_newpack (s : SG) (k : KG) : kw_up (kw_up (kw_up (hC s k) (7, np_ s) (.inr (4, [pi_ 0, pi_ 0, pi_ 0]))) (4, 1) (ro2_ RX5 40 (va_up (f_pk (np_ s)) (np_ s) (some (7, np_ s))))) (3, 0) (.inr (8, [pi_ (nI (cap_ s)), pr_ (1, 0), pr_ (4, 0), pr_ (4, 1), pr_ (4, 2), pi_ (nI (nb_ s)), pi_ (nI (nfr_ s)), pi_ (nI (nrv_ s)), pi_ (nI (np_ s + 1)), pi_ (nI (nan_ s))])) = hC (s_np s) (k_np s k) := by
  funext q
  obtain ⟨a, b⟩ := q
  match a with
  | 0 => rfl
  | 1 => rfl
  | 2 => rfl
  | 3 =>
    match b with
    | 0 => rfl
    | n + 1 => rfl
  | 4 =>
    match b with
    | 0 => rfl
    | 1 =>
      show some (ro2_ RX5 40 (va_up (f_pk (np_ s)) (np_ s) (some (7, np_ s)))) = some (ro2_ RX5 40 _)
      rw [va_up_f]; rfl
    | 2 => rfl
    | n + 3 => rfl
  | 5 => rfl
  | 6 => rfl
  | 7 =>
    refine (kw_up_n _ _ (fun z => by cases z)).trans ?_
    refine (kw_up_n _ _ (fun z => by cases z)).trans ?_
    by_cases e : b = np_ s
    · subst e
      refine (kw_up_s _ _ _).trans ?_
      show _ = on_ _ _ _
      simp [on_, s_np, k_np, b2, nI_0, cap_, nb_, nfr_, nrv_, np_, nan_, shr_, ns_, nh_, nsw_, ph_, rf_, rt_, end_, cut_, wr_, now_, dn_, fs_, gs_, ys_, ff_, sz_, cm_, ch_, pk_, pp_, wt_, al_, tg_, rm_, ro_, hk_, hw_, md_, le_, um_, us_, km_, ks_, ru_, rw_, th_, mk_, gn_, kp_, sv_, ky_, tm_, un_, nx_, pe_, ml_, ka_, kb_, kn_, rch_, ho_, ac_, dn2_, sN, sX, sNow, sDn, sF, sGb, sY, sFF, kX, kA, kB, kN, va_up, c_root, c_jr, c_st, c_bl, c_pa, c_sw, c_mo, c_ru, c_sa, c_sn, c_mi]
    · refine (kw_up_n _ _ (fun z => e (by cases z; rfl))).trans ?_
      show on_ b _ _ = on_ b _ _
      by_cases h2 : b < np_ s
      · have h3 : b < np_ s + 1 := by omega
        simp only [nb_, np_, ns_] at h2 h3 e
        simp [on_, s_np, k_np, cap_, nb_, nfr_, nrv_, np_, nan_, shr_, ns_, nh_, nsw_, ph_, rf_, rt_, end_, cut_, wr_, now_, dn_, fs_, gs_, ys_, ff_, sz_, cm_, ch_, pk_, pp_, wt_, al_, tg_, rm_, ro_, hk_, hw_, md_, le_, um_, us_, km_, ks_, ru_, rw_, th_, mk_, gn_, kp_, sv_, ky_, tm_, un_, nx_, pe_, ml_, ka_, kb_, kn_, rch_, ho_, ac_, dn2_, sN, sX, sNow, sDn, sF, sGb, sY, sFF, kX, kA, kB, kN, va_up, c_root, c_jr, c_st, c_bl, c_pa, c_sw, c_mo, c_ru, c_sa, c_sn, c_mi, e, h2, h3]
      · have h3 : ¬ b < np_ s + 1 := by omega
        simp only [nb_, np_, ns_] at h2 h3 e
        simp [on_, s_np, k_np, cap_, nb_, nfr_, nrv_, np_, nan_, shr_, ns_, nh_, nsw_, ph_, rf_, rt_, end_, cut_, wr_, now_, dn_, fs_, gs_, ys_, ff_, sz_, cm_, ch_, pk_, pp_, wt_, al_, tg_, rm_, ro_, hk_, hw_, md_, le_, um_, us_, km_, ks_, ru_, rw_, th_, mk_, gn_, kp_, sv_, ky_, tm_, un_, nx_, pe_, ml_, ka_, kb_, kn_, rch_, ho_, ac_, dn2_, sN, sX, sNow, sDn, sF, sGb, sY, sFF, kX, kA, kB, kN, va_up, c_root, c_jr, c_st, c_bl, c_pa, c_sw, c_mo, c_ru, c_sa, c_sn, c_mi, e, h2, h3]
  | 8 => rfl
  | 9 => rfl
  | 10 => rfl
  | 11 => rfl
  | 12 => rfl
  | 13 => rfl
  | 14 => rfl
  | 15 => rfl
  | 16 => rfl
  | 17 => rfl
  | 18 => rfl
  | 19 => rfl
  | 20 => rfl
  | 21 => rfl
  | n + 22 => rfl
