/-! COPIES, NEW BLOCKS, NEW SNAPSHOTS -/
def kw_one (q : KK) (c : PC) : PH := fun k => if k = q then some c else none
theorem kw_un_one {h : PH} {q : KK} {c : PC} (hq : h q = none) : kw_un h (kw_one q c) = kw_up h q c := by
  funext k
  by_cases e : k = q
  · subst e; rw [kw_un_r hq, kw_up_s]; simp [kw_one]
  · rw [kw_up_n _ _ e]
    cases e2 : h k with
    | none => rw [kw_un_r e2]; simp [kw_one, e]
    | some c2 => rw [kw_un_l e2]
theorem kw_dj_one {h : PH} {q : KK} {c : PC} (hq : h q = none) : kw_dj h (kw_one q c) := by
  intro k hk
  have : k ≠ q := fun e => hk (by rw [e]; exact hq)
  simp [kw_one, this]
theorem kw_F.up1 {l : Launch} {y : MethodName} {cc : ByteArray} {nL : Nat} {ret : Option FieldType} {R : Room} {As : List PV} {h h0 : PH} {r0 : Option PV} {q : KK} (c : PC) (hM : kw_F l y cc nL ret R As h r0 h0) (hq : h q = none) (hq0 : h0 q = none) : kw_F l y cc nL ret R As (kw_up h q c) r0 (kw_up h0 q c) := by
  rw [← kw_un_one (c := c) hq, ← kw_un_one (c := c) hq0]
  exact kw_F.fr hM (kw_dj_one hq) (kw_dj_one hq0)
theorem kw_heqv_up {h : PH} {k : KK} {c c' : PC} (hc : kw_ceq c c') : kw_heqv (kw_up h k c) (kw_up h k c') := by
  intro q
  by_cases e : q = k
  · subst e; rw [kw_up_s, kw_up_s]; exact hc
  · rw [kw_up_n _ _ e, kw_up_n _ _ e]
    cases h2 : h q with
    | none => trivial
    | some c2 =>
      match c2 with
      | .inr o => exact rfl
      | .inl (t, n, .inl f) => exact ⟨rfl, rfl, fun _ _ => rfl⟩
      | .inl (t, n, .inr (.inl f)) => exact ⟨rfl, rfl, fun _ _ => rfl⟩
      | .inl (t, n, .inr (.inr f)) => exact ⟨rfl, rfl, fun _ _ => rfl⟩
theorem cpy0 {α : Type} (f g : Nat → α) (n : Nat) : ∀ j, j < n → va_cpy f g 0 0 n j = f j := by
  intro j hj
  simp [va_cpy, hj]
set_option maxRecDepth 100000 in
theorem w_same : (Jvm.Cond.sameMethod "[I" "java/lang/Object" "clone" "()Ljava/lang/Object;") ∈ kw_tbl := kts_2 (i := 132) rfl rfl
set_option maxRecDepth 100000 in
theorem w_nat : (Jvm.Cond.native ({ cls := "java/lang/Object", name := "clone", desc := "()Ljava/lang/Object;" } : Jvm.MethodName)) ∈ kw_tbl := kts_2 (i := 133) rfl rfl
set_option maxRecDepth 100000 in
theorem w_cop : (Jvm.Cond.native ({ cls := "java/lang/System", name := "arraycopy", desc := "(Ljava/lang/Object;ILjava/lang/Object;II)V" } : Jvm.MethodName)) ∈ kw_tbl := kts_2 (i := 141) rfl rfl
set_option maxHeartbeats 4000000 in
set_option maxRecDepth 100000 in
theorem m_copy (l : Launch) (h : PH) (q0 key : KK) (N n : Nat) (f : Nat → Int32) (hq : h q0 = some (.inl (.int, N, .inl f))) (hn : n ≤ N) (hN : N ≤ 8) (hkey : h key = none) (hnm : ∀ k' c', h k' = some c' → kw_nmc key c') (hne : q0 ≠ key) : kw_Q l yJ7_copyOf_59c91 cJ7_copyOf_59c91 3 (Option.some (Jvm.ClassFile.FieldType.array Jvm.ClassFile.FieldType.int)) { frames := 1, cells := 1, slots := 8, locals := 40 } [pr_ q0, pi_ (nI n)] h (fun r h' => r = some (pr_ key) ∧ h' = kw_up h key (.inl (.int, n, .inl f))) := by
  refine kw_M_ofF RJ7 "copyOf" [some (pr_ q0), some (pi_ (nI n)), none] (by decide +kernel) rfl rfl rfl (Nat.le_of_ble_eq_true rfl) ?_
  intro D ad A
  refine kw_Kgen (fun K hK => ?_)
  have hlv1 : kw_nmv key (pr_ q0) := hne
  refine kw_iload_n dJ7_copyOf_59c91_0 rfl ?_
  refine kw_aload_n dJ7_copyOf_59c91_1 rfl ?_
  refine kw_alen dJ7_copyOf_59c91_2 hq ?_
  refine kw_icmp_ne (tgt := 14) dJ7_copyOf_59c91_3 (by decide) (fun c3 => ?_) (fun c3 => ?_)
  · skip
    refine kw_iload_n dJ7_copyOf_59c91_14 rfl ?_
    refine kw_newarr (N := n) (x := .inl (fun _ => 0)) key dJ7_copyOf_59c91_15 rfl kt_57 (fun _ _ => rfl) (nI_pos (by omega)) (nI_clamp (by omega)) (by show n * 4 ≤ _; omega) (fun _ _ h9 => h9) hkey hnm (by simp [kw_all, kw_nmo, kw_nmv, hne]) (by simp [kw_all, kw_nmo, kw_nmv, hne]) (Nat.le_of_ble_eq_true rfl) (by show 0 + n ≤ 8; omega) (fun a9 => ?_)
    refine kw_wid (c2 := 1) (s2 := 8) (Nat.le_refl _) (by show 0 + n ≤ 8; omega) ?_
    refine kw_astore_n dJ7_copyOf_59c91_17 (Nat.le_of_ble_eq_true rfl) ?_
    refine kw_aload_n dJ7_copyOf_59c91_18 rfl ?_
    refine kw_iconst (v := 0) dJ7_copyOf_59c91_19 (by decide) ?_
    refine kw_aload_n dJ7_copyOf_59c91_20 rfl ?_
    refine kw_iconst (v := 0) dJ7_copyOf_59c91_21 (by decide) ?_
    refine kw_aload_n dJ7_copyOf_59c91_22 rfl ?_
    refine kw_alen dJ7_copyOf_59c91_23 ((kw_up_n _ _ hne).trans hq) ?_
    refine kw_iload_n dJ7_copyOf_59c91_24 rfl ?_
    refine kw_callSf (As := [pi_ (nI N), pi_ (nI n)]) (m_min l _ _ _) dJ7_copyOf_59c91_25 cl_J7_304 rfl rfl (Nat.le_of_ble_eq_true rfl) ⟨(Nat.le_of_ble_eq_true rfl), (Nat.le_of_ble_eq_true rfl), (Nat.le_of_ble_eq_true rfl), (Nat.le_of_ble_eq_true rfl)⟩ ?_
    refine kw_top (v' := pi_ (nI n)) (congrArg pi_ (by rw [nI_min (by omega) (by omega), Nat.min_eq_right hn])) ?_
    refine kw_copyi (n := n) dJ7_copyOf_59c91_28 kt_379 w_cop kt_380 kt_12 ((kw_up_n _ _ hne).trans hq) (kw_up_s _ _ _) hn (Nat.le_refl _) (by omega) (Nat.le_of_ble_eq_true rfl) (Nat.le_of_ble_eq_true rfl) ?_
    rw [kw_up2]
    refine kw_ext (kw_heqv_up (c' := .inl (.int, n, .inl f)) ⟨rfl, rfl, cpy0 _ _ _⟩) ?_
    refine kw_aload_n dJ7_copyOf_59c91_31 rfl ?_
    exact kw_aret dJ7_copyOf_59c91_32 rfl (Or.inr ⟨_, rfl⟩) (Nat.le_of_ble_eq_true rfl) (Nat.le_of_ble_eq_true rfl) (hK _ _ _ ⟨fun q hq2 => kw_ad_n _ _ (fun z => by rw [z] at hq2; exact hq2 hkey), rfl, rfl⟩)
  · skip
    have e3 : n = N := nI_eq' (b := N) (by omega) (by omega) c3
    subst e3
    refine kw_aload_n dJ7_copyOf_59c91_6 rfl ?_
    refine kw_clone key dJ7_copyOf_59c91_7 kt_371 w_same w_nat kt_374 kt_375 hq hkey hnm (by simp [kw_all, kw_nmo, kw_nmv, hne]) (by simp [kw_all, kw_nmo, kw_nmv, hne]) (Nat.le_of_ble_eq_true rfl) (Nat.le_of_ble_eq_true rfl) (Nat.le_of_ble_eq_true rfl) (by show 0 + n ≤ 8; omega) (fun a9 => ?_)
    refine kw_wid (c2 := 1) (s2 := 8) (Nat.le_refl _) (by show 0 + n ≤ 8; omega) ?_
    refine kw_castI dJ7_copyOf_59c91_10 kt_377 (kw_up_s _ _ _) ?_
    exact kw_aret dJ7_copyOf_59c91_13 rfl (Or.inr ⟨_, rfl⟩) (Nat.le_of_ble_eq_true rfl) (Nat.le_of_ble_eq_true rfl) (hK _ _ _ ⟨fun q hq2 => kw_ad_n _ _ (fun z => by rw [z] at hq2; exact hq2 hkey), rfl, rfl⟩)
def s_blk (s : SG) (key : Int64) (z n : Nat) (f : Nat → Nat) : SG := sN (sFF (sY (sGb (sGb (sF (sF (sF (sF (sF s 0 (va_up (sz_ s) (nb_ s) z)) 1 (va_up (cm_ s) (nb_ s) n)) 3 (va_up (pk_ s) (nb_ s) 0)) 4 (va_up (pp_ s) (nb_ s) 0)) 5 (va_up (wt_ s) (nb_ s) 0)) 0 (va_up (th_ s) (nb_ s) true)) 1 (va_up (mk_ s) (nb_ s) false)) 0 (va_up (ky_ s) (nb_ s) key)) 0 (va_up (ch_ s) (nb_ s) f)) 1 (nb_ s + 1)
def s_snp (s : SG) (t : Int64) (g n : Nat) (f : Nat → Nat) : SG := sN (sFF (sY (sGb (sF (sF s 7 (va_up (tg_ s) (ns_ s) g)) 8 (va_up (rm_ s) (ns_ s) n)) 3 (va_up (kp_ s) (ns_ s) true)) 1 (va_up (tm_ s) (ns_ s) t)) 1 (va_up (ro_ s) (ns_ s) f)) 7 (ns_ s + 1)
set_option maxRecDepth 20000 in
set_option maxHeartbeats 1000000 in
theorem up_newblock (s : SG) (k : KG) (key : Int64) (z n : Nat) (f : Nat → Nat) : kw_up (kw_up (kw_up (kw_up (hC s k) (6, nb_ s) (ri_ n f)) (5, nb_ s) (.inr (0, [pl_ key, pi_ (nI z), pr_ (6, nb_ s), pi_ 0, pi_ 0, pi_ 0, pi_ 0, pi_ 0]))) (4, 0) (ro2_ RX0 80 (va_up (f_bl (nb_ s)) (nb_ s) (some (5, nb_ s))))) (3, 0) (.inr (8, [pi_ (nI (cap_ s)), pr_ (1, 0), pr_ (4, 0), pr_ (4, 1), pr_ (4, 2), pi_ (nI (nb_ s + 1)), pi_ (nI (nfr_ s)), pi_ (nI (nrv_ s)), pi_ (nI (np_ s)), pi_ (nI (nan_ s))])) = hC (s_blk s key z n f) k := by
  funext q
  obtain ⟨a, b⟩ := q
  match a with
  | 0 => rfl
  | 1 => rfl
  | 2 => rfl
  | 3 =>
    match b with
    | 0 => rfl
    | n + 1 => rfl
  | 4 =>
    match b with
    | 0 =>
      show some (ro2_ RX0 80 (va_up (f_bl (nb_ s)) (nb_ s) (some (5, nb_ s)))) = some (ro2_ RX0 80 _)
      rw [va_up_f]; rfl
    | 1 => rfl
    | 2 => rfl
    | n + 3 => rfl
  | 5 =>
    refine (kw_up_n _ _ (fun z => by cases z)).trans ?_
    refine (kw_up_n _ _ (fun z => by cases z)).trans ?_
    by_cases e : b = nb_ s
    · subst e
      refine (kw_up_s _ _ _).trans ?_
      show _ = on_ _ _ _
      simp [on_, s_blk, b2, nI_0, cap_, nb_, nfr_, nrv_, np_, nan_, shr_, ns_, nh_, nsw_, ph_, rf_, rt_, end_, cut_, wr_, now_, dn_, fs_, gs_, ys_, ff_, sz_, cm_, ch_, pk_, pp_, wt_, al_, tg_, rm_, ro_, hk_, hw_, md_, le_, um_, us_, km_, ks_, ru_, rw_, th_, mk_, gn_, kp_, sv_, ky_, tm_, un_, nx_, pe_, ml_, ka_, kb_, kn_, rch_, ho_, ac_, dn2_, sN, sX, sNow, sDn, sF, sGb, sY, sFF, kX, kA, kB, kN, va_up, c_root, c_jr, c_st, c_bl, c_pa, c_sw, c_mo, c_ru, c_sa, c_sn, c_mi]
    · refine (kw_up_n _ _ (fun z => e (by cases z; rfl))).trans ?_
      refine (kw_up_n _ _ (fun z => by cases z)).trans ?_
      show on_ b _ _ = on_ b _ _
      by_cases h2 : b < nb_ s
      · have h3 : b < nb_ s + 1 := by omega
        simp only [nb_, np_, ns_] at h2 h3 e
        simp [on_, s_blk, cap_, nb_, nfr_, nrv_, np_, nan_, shr_, ns_, nh_, nsw_, ph_, rf_, rt_, end_, cut_, wr_, now_, dn_, fs_, gs_, ys_, ff_, sz_, cm_, ch_, pk_, pp_, wt_, al_, tg_, rm_, ro_, hk_, hw_, md_, le_, um_, us_, km_, ks_, ru_, rw_, th_, mk_, gn_, kp_, sv_, ky_, tm_, un_, nx_, pe_, ml_, ka_, kb_, kn_, rch_, ho_, ac_, dn2_, sN, sX, sNow, sDn, sF, sGb, sY, sFF, kX, kA, kB, kN, va_up, c_root, c_jr, c_st, c_bl, c_pa, c_sw, c_mo, c_ru, c_sa, c_sn, c_mi, e, h2, h3]
      · have h3 : ¬ b < nb_ s + 1 := by omega
        simp only [nb_, np_, ns_] at h2 h3 e
        simp [on_, s_blk, cap_, nb_, nfr_, nrv_, np_, nan_, shr_, ns_, nh_, nsw_, ph_, rf_, rt_, end_, cut_, wr_, now_, dn_, fs_, gs_, ys_, ff_, sz_, cm_, ch_, pk_, pp_, wt_, al_, tg_, rm_, ro_, hk_, hw_, md_, le_, um_, us_, km_, ks_, ru_, rw_, th_, mk_, gn_, kp_, sv_, ky_, tm_, un_, nx_, pe_, ml_, ka_, kb_, kn_, rch_, ho_, ac_, dn2_, sN, sX, sNow, sDn, sF, sGb, sY, sFF, kX, kA, kB, kN, va_up, c_root, c_jr, c_st, c_bl, c_pa, c_sw, c_mo, c_ru, c_sa, c_sn, c_mi, e, h2, h3]
  | 6 =>
    refine (kw_up_n _ _ (fun z => by cases z)).trans ?_
    refine (kw_up_n _ _ (fun z => by cases z)).trans ?_
    refine (kw_up_n _ _ (fun z => by cases z)).trans ?_
    by_cases e : b = nb_ s
    · subst e
      refine (kw_up_s _ _ _).trans ?_
      show _ = on_ _ _ _
      simp [on_, s_blk, b2, nI_0, cap_, nb_, nfr_, nrv_, np_, nan_, shr_, ns_, nh_, nsw_, ph_, rf_, rt_, end_, cut_, wr_, now_, dn_, fs_, gs_, ys_, ff_, sz_, cm_, ch_, pk_, pp_, wt_, al_, tg_, rm_, ro_, hk_, hw_, md_, le_, um_, us_, km_, ks_, ru_, rw_, th_, mk_, gn_, kp_, sv_, ky_, tm_, un_, nx_, pe_, ml_, ka_, kb_, kn_, rch_, ho_, ac_, dn2_, sN, sX, sNow, sDn, sF, sGb, sY, sFF, kX, kA, kB, kN, va_up, c_root, c_jr, c_st, c_bl, c_pa, c_sw, c_mo, c_ru, c_sa, c_sn, c_mi]
    · refine (kw_up_n _ _ (fun z => e (by cases z; rfl))).trans ?_
      show on_ b _ _ = on_ b _ _
      by_cases h2 : b < nb_ s
      · have h3 : b < nb_ s + 1 := by omega
        simp only [nb_, np_, ns_] at h2 h3 e
        simp [on_, s_blk, cap_, nb_, nfr_, nrv_, np_, nan_, shr_, ns_, nh_, nsw_, ph_, rf_, rt_, end_, cut_, wr_, now_, dn_, fs_, gs_, ys_, ff_, sz_, cm_, ch_, pk_, pp_, wt_, al_, tg_, rm_, ro_, hk_, hw_, md_, le_, um_, us_, km_, ks_, ru_, rw_, th_, mk_, gn_, kp_, sv_, ky_, tm_, un_, nx_, pe_, ml_, ka_, kb_, kn_, rch_, ho_, ac_, dn2_, sN, sX, sNow, sDn, sF, sGb, sY, sFF, kX, kA, kB, kN, va_up, c_root, c_jr, c_st, c_bl, c_pa, c_sw, c_mo, c_ru, c_sa, c_sn, c_mi, e, h2, h3]
      · have h3 : ¬ b < nb_ s + 1 := by omega
        simp only [nb_, np_, ns_] at h2 h3 e
        simp [on_, s_blk, cap_, nb_, nfr_, nrv_, np_, nan_, shr_, ns_, nh_, nsw_, ph_, rf_, rt_, end_, cut_, wr_, now_, dn_, fs_, gs_, ys_, ff_, sz_, cm_, ch_, pk_, pp_, wt_, al_, tg_, rm_, ro_, hk_, hw_, md_, le_, um_, us_, km_, ks_, ru_, rw_, th_, mk_, gn_, kp_, sv_, ky_, tm_, un_, nx_, pe_, ml_, ka_, kb_, kn_, rch_, ho_, ac_, dn2_, sN, sX, sNow, sDn, sF, sGb, sY, sFF, kX, kA, kB, kN, va_up, c_root, c_jr, c_st, c_bl, c_pa, c_sw, c_mo, c_ru, c_sa, c_sn, c_mi, e, h2, h3]
  | 7 => rfl
  | 8 => rfl
  | 9 => rfl
  | 10 => rfl
  | 11 => rfl
  | 12 => rfl
  | 13 => rfl
  | 14 => rfl
  | 15 => rfl
  | 16 => rfl
  | 17 => rfl
  | 18 => rfl
  | 19 => rfl
  | 20 => rfl
  | 21 => rfl
  | n + 22 => rfl
set_option maxRecDepth 20000 in
set_option maxHeartbeats 1000000 in
theorem up_newsnap (s : SG) (k : KG) (t : Int64) (g n : Nat) (f : Nat → Nat) : kw_up (kw_up (kw_up (kw_up (hC s k) (17, ns_ s) (ri_ n f)) (16, ns_ s) (.inr (7, [pl_ t, pi_ (nI g), pr_ (17, ns_ s), pi_ 0]))) (15, 0) (ro2_ RX8 40 (va_up (f_sn (ns_ s)) (ns_ s) (some (16, ns_ s))))) (0, 0) (.inr (10, [pr_ (1, 0), pr_ (3, 0), pr_ (8, 0), pr_ (10, 0), pr_ (11, 0), pr_ (15, 0), pr_ (18, 0), pr_ (19, 2), pi_ (nI (ns_ s + 1)), pl_ (now_ s)])) = hC (s_snp s t g n f) k := by
  funext q
  obtain ⟨a, b⟩ := q
  match a with
  | 0 =>
    match b with
    | 0 => rfl
    | n + 1 => rfl
  | 1 => rfl
  | 2 => rfl
  | 3 => rfl
  | 4 => rfl
  | 5 => rfl
  | 6 => rfl
  | 7 => rfl
  | 8 => rfl
  | 9 => rfl
  | 10 => rfl
  | 11 => rfl
  | 12 => rfl
  | 13 => rfl
  | 14 => rfl
  | 15 =>
    match b with
    | 0 =>
      show some (ro2_ RX8 40 (va_up (f_sn (ns_ s)) (ns_ s) (some (16, ns_ s)))) = some (ro2_ RX8 40 _)
      rw [va_up_f]; rfl
    | n + 1 => rfl
  | 16 =>
    refine (kw_up_n _ _ (fun z => by cases z)).trans ?_
    refine (kw_up_n _ _ (fun z => by cases z)).trans ?_
    by_cases e : b = ns_ s
    · subst e
      refine (kw_up_s _ _ _).trans ?_
      show _ = on_ _ _ _
      simp [on_, s_snp, b2, nI_0, cap_, nb_, nfr_, nrv_, np_, nan_, shr_, ns_, nh_, nsw_, ph_, rf_, rt_, end_, cut_, wr_, now_, dn_, fs_, gs_, ys_, ff_, sz_, cm_, ch_, pk_, pp_, wt_, al_, tg_, rm_, ro_, hk_, hw_, md_, le_, um_, us_, km_, ks_, ru_, rw_, th_, mk_, gn_, kp_, sv_, ky_, tm_, un_, nx_, pe_, ml_, ka_, kb_, kn_, rch_, ho_, ac_, dn2_, sN, sX, sNow, sDn, sF, sGb, sY, sFF, kX, kA, kB, kN, va_up, c_root, c_jr, c_st, c_bl, c_pa, c_sw, c_mo, c_ru, c_sa, c_sn, c_mi]
    · refine (kw_up_n _ _ (fun z => e (by cases z; rfl))).trans ?_
      refine (kw_up_n _ _ (fun z => by cases z)).trans ?_
      show on_ b _ _ = on_ b _ _
      by_cases h2 : b < ns_ s
      · have h3 : b < ns_ s + 1 := by omega
        simp only [nb_, np_, ns_] at h2 h3 e
        simp [on_, s_snp, cap_, nb_, nfr_, nrv_, np_, nan_, shr_, ns_, nh_, nsw_, ph_, rf_, rt_, end_, cut_, wr_, now_, dn_, fs_, gs_, ys_, ff_, sz_, cm_, ch_, pk_, pp_, wt_, al_, tg_, rm_, ro_, hk_, hw_, md_, le_, um_, us_, km_, ks_, ru_, rw_, th_, mk_, gn_, kp_, sv_, ky_, tm_, un_, nx_, pe_, ml_, ka_, kb_, kn_, rch_, ho_, ac_, dn2_, sN, sX, sNow, sDn, sF, sGb, sY, sFF, kX, kA, kB, kN, va_up, c_root, c_jr, c_st, c_bl, c_pa, c_sw, c_mo, c_ru, c_sa, c_sn, c_mi, e, h2, h3]
      · have h3 : ¬ b < ns_ s + 1 := by omega
        simp only [nb_, np_, ns_] at h2 h3 e
        simp [on_, s_snp, cap_, nb_, nfr_, nrv_, np_, nan_, shr_, ns_, nh_, nsw_, ph_, rf_, rt_, end_, cut_, wr_, now_, dn_, fs_, gs_, ys_, ff_, sz_, cm_, ch_, pk_, pp_, wt_, al_, tg_, rm_, ro_, hk_, hw_, md_, le_, um_, us_, km_, ks_, ru_, rw_, th_, mk_, gn_, kp_, sv_, ky_, tm_, un_, nx_, pe_, ml_, ka_, kb_, kn_, rch_, ho_, ac_, dn2_, sN, sX, sNow, sDn, sF, sGb, sY, sFF, kX, kA, kB, kN, va_up, c_root, c_jr, c_st, c_bl, c_pa, c_sw, c_mo, c_ru, c_sa, c_sn, c_mi, e, h2, h3]
  | 17 =>
    refine (kw_up_n _ _ (fun z => by cases z)).trans ?_
    refine (kw_up_n _ _ (fun z => by cases z)).trans ?_
    refine (kw_up_n _ _ (fun z => by cases z)).trans ?_
    by_cases e : b = ns_ s
    · subst e
      refine (kw_up_s _ _ _).trans ?_
      show _ = on_ _ _ _
      simp [on_, s_snp, b2, nI_0, cap_, nb_, nfr_, nrv_, np_, nan_, shr_, ns_, nh_, nsw_, ph_, rf_, rt_, end_, cut_, wr_, now_, dn_, fs_, gs_, ys_, ff_, sz_, cm_, ch_, pk_, pp_, wt_, al_, tg_, rm_, ro_, hk_, hw_, md_, le_, um_, us_, km_, ks_, ru_, rw_, th_, mk_, gn_, kp_, sv_, ky_, tm_, un_, nx_, pe_, ml_, ka_, kb_, kn_, rch_, ho_, ac_, dn2_, sN, sX, sNow, sDn, sF, sGb, sY, sFF, kX, kA, kB, kN, va_up, c_root, c_jr, c_st, c_bl, c_pa, c_sw, c_mo, c_ru, c_sa, c_sn, c_mi]
    · refine (kw_up_n _ _ (fun z => e (by cases z; rfl))).trans ?_
      show on_ b _ _ = on_ b _ _
      by_cases h2 : b < ns_ s
      · have h3 : b < ns_ s + 1 := by omega
        simp only [nb_, np_, ns_] at h2 h3 e
        simp [on_, s_snp, cap_, nb_, nfr_, nrv_, np_, nan_, shr_, ns_, nh_, nsw_, ph_, rf_, rt_, end_, cut_, wr_, now_, dn_, fs_, gs_, ys_, ff_, sz_, cm_, ch_, pk_, pp_, wt_, al_, tg_, rm_, ro_, hk_, hw_, md_, le_, um_, us_, km_, ks_, ru_, rw_, th_, mk_, gn_, kp_, sv_, ky_, tm_, un_, nx_, pe_, ml_, ka_, kb_, kn_, rch_, ho_, ac_, dn2_, sN, sX, sNow, sDn, sF, sGb, sY, sFF, kX, kA, kB, kN, va_up, c_root, c_jr, c_st, c_bl, c_pa, c_sw, c_mo, c_ru, c_sa, c_sn, c_mi, e, h2, h3]
      · have h3 : ¬ b < ns_ s + 1 := by omega
        simp only [nb_, np_, ns_] at h2 h3 e
        simp [on_, s_snp, cap_, nb_, nfr_, nrv_, np_, nan_, shr_, ns_, nh_, nsw_, ph_, rf_, rt_, end_, cut_, wr_, now_, dn_, fs_, gs_, ys_, ff_, sz_, cm_, ch_, pk_, pp_, wt_, al_, tg_, rm_, ro_, hk_, hw_, md_, le_, um_, us_, km_, ks_, ru_, rw_, th_, mk_, gn_, kp_, sv_, ky_, tm_, un_, nx_, pe_, ml_, ka_, kb_, kn_, rch_, ho_, ac_, dn2_, sN, sX, sNow, sDn, sF, sGb, sY, sFF, kX, kA, kB, kN, va_up, c_root, c_jr, c_st, c_bl, c_pa, c_sw, c_mo, c_ru, c_sa, c_sn, c_mi, e, h2, h3]
  | 18 => rfl
  | 19 => rfl
  | 20 => rfl
  | 21 => rfl
  | n + 22 => rfl
