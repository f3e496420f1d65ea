/-! WHAT HOLDS BETWEEN CALLS, 5: mirrors, links, calendar -/
theorem mrep_end (s : SG) (i : Nat) (m : (Nat → Bool) × (Nat → Bool)) : mrep s (i + 1) 0 m = mone s i (mrep s i 0 m) := by
  rw [mrep_add, Nat.zero_add]
  rfl
/-- what no word of the history tells of -/
theorem mrep_out (s : SG) {nb ns : Nat} (m : (Nat → Bool) × (Nat → Bool)) : ∀ i, (∀ j, j < i → (hk_ s j ≤ 1 → hw_ s j < nb) ∧ (2 ≤ hk_ s j → hw_ s j < ns)) → (∀ q, nb ≤ q → (mrep s i 0 m).1 q = m.1 q) ∧ ∀ q, ns ≤ q → (mrep s i 0 m).2 q = m.2 q := by
  intro i
  induction i with
  | zero => intro _; exact ⟨fun _ _ => rfl, fun _ _ => rfl⟩
  | succ i ih =>
    intro h
    obtain ⟨h1, h2⟩ := ih (fun j hj => h j (by omega))
    obtain ⟨x, y⟩ := h i (Nat.lt_succ_self _)
    rw [mrep_end]
    unfold mone
    by_cases e : hk_ s i = 0 ∨ hk_ s i = 1
    · rw [if_pos e]
      refine ⟨fun q hq => ?_, h2⟩
      show va_up (mrep s i 0 m).1 (hw_ s i) _ q = _
      rw [va_n _ _ (by have := x (by omega); omega)]
      exact h1 q hq
    · rw [if_neg e]
      refine ⟨h1, fun q hq => ?_⟩
      show va_up (mrep s i 0 m).2 (hw_ s i) _ q = _
      rw [va_n _ _ (by have := y (by omega); omega)]
      exact h2 q hq
theorem mir_out {n : Nat} {s : SG} {k : KG} (h : JI n s k) {m : Nat} (hm : m < 2) : (∀ q, nb_ s ≤ q → (mirS s m).1 q = false) ∧ ∀ q, ns_ s ≤ q → (mirS s m).2 q = false := by
  have h6 := h.A.1.2.2.2.2.2.1.2.2.2.2
  have hd := (h.A.2.2 m hm).1.2
  obtain ⟨x, y⟩ := mrep_out s (nb := nb_ s) (ns := ns_ s) (fun _ => false, fun _ => false) (md_ s m) (fun j hj => h6 j (by omega))
  exact ⟨x, y⟩
/-- closed under children -/
def rcl (s : SG) (r : Nat → Bool) : Prop := ∀ j, j < nb_ s → r j = true → ∀ i, i < cm_ s j → r (ch_ s j i) = true
theorem rdown_or {s : SG} {r : Nat → Bool} (hr : rcl s r) : ∀ (n : Nat) (x : Nat → Bool), n ≤ nb_ s → rdown s n (fun q => r q || x q) = fun q => r q || rdown s n x q := by
  intro n
  induction n with
  | zero => intro x _; rfl
  | succ n ih =>
    intro x hn
    rw [rdown, rdown]
    have e : (if (r n || x n) = true then rcK s n (fun q => r q || x q) else fun q => r q || x q) = fun q => r q || (if x n = true then rcK s n x else x) q := by
      cases hx : x n with
      | true =>
        rw [Bool.or_true, if_pos rfl, if_pos rfl]
        funext q
        unfold rcK rcP
        rw [Bool.or_assoc]
      | false =>
        rw [Bool.or_false, if_neg (show ¬ (false = true) by decide)]
        cases hn2 : r n with
        | false => rw [if_neg (by decide)]
        | true =>
          rw [if_pos rfl]
          funext q
          unfold rcK rcP
          cases ha : anyN (fun a => decide (ch_ s n a = q)) (cm_ s n) with
          | false => rw [Bool.or_false]
          | true =>
            obtain ⟨a, ha1, ha2⟩ := anyN_iff.mp ha
            have := hr n (by omega) hn2 a ha1
            rw [of_decide_eq_true ha2] at this
            show ((r q || x q) || true) = (r q || x q)
            rw [this]
            rfl
    rw [e]
    exact ih _ (by omega)
theorem rfrom_or {s : SG} {r : Nat → Bool} (hr : rcl s r) {b : Nat} (hb : b < nb_ s) : rfrom s b r = fun q => r q || rC s b q := by
  unfold rC rfrom
  rw [← rdown_or hr (b + 1) _ hb]
  congr 1
  funext q
  by_cases e : q = b
  · rw [e, va_s, va_s, Bool.or_true]
  · rw [va_n _ _ e, va_n _ _ e, Bool.or_false]
theorem rrow_e {s : SG} (hkd : kidsOk s) {f : Nat → Nat} : ∀ n, (∀ j, j < n → f j < nb_ s) → rrow s f (fun _ => false) n = fun q => anyN (fun i => rC s (f i) q) n := by
  intro n
  induction n with
  | zero => intro _; rfl
  | succ n ih =>
    intro h
    rw [rrow, ih (fun j hj => h j (by omega)), rfrom_or ?_ (h n (by omega))]
    · rfl
    · intro j hj e i hi
      obtain ⟨a, ha1, ha2⟩ := anyN_iff.mp e
      exact anyN_t ha1 (rC_cl hkd (h a (by omega)) ha2 hi)
def lackB (s : SG) (m j : Nat) : Bool := anyN (fun i => anyN (fun q => rC s (ro_ s j i) q && !(mirS s m).1 q) (nb_ s)) (rm_ s j)
def a_mirrored (s : SG) (x w : Int32) : Int32 := if x < 0 ∨ 2 ≤ x then -101 else if w = 0 then nI (md_ s (cl_ x)) else if w = 1 then nI (cntN (fun q => (mirS s (cl_ x)).1 q) (nb_ s)) else if w = 2 then nI (cntN (fun q => (mirS s (cl_ x)).2 q) (ns_ s)) else if w = 3 then nI (cntN (fun j => (mirS s (cl_ x)).2 j && lackB s (cl_ x) j) (ns_ s)) else -102
theorem cntN_ext {p : Nat → Bool} {a b : Nat} (h : a ≤ b) (h2 : ∀ q, a ≤ q → p q = false) : cntN p b = cntN p a := by
  induction b with
  | zero => rw [show a = 0 by omega]
  | succ b ih =>
    by_cases e : a = b + 1
    · rw [e]
    · rw [cntN, ih (by omega), h2 b (by omega)]
      rfl
theorem cntN_pos {p : Nat → Bool} : ∀ {n : Nat}, 0 < cntN p n ↔ anyN p n = true := by
  intro n
  induction n with
  | zero => exact ⟨fun x => absurd x (Nat.lt_irrefl _), fun x => by cases x⟩
  | succ n ih =>
    rw [cntN, anyN, Bool.or_eq_true, ← ih]
    cases p n with
    | true => exact ⟨fun _ => Or.inr rfl, fun _ => by show 0 < _ + 1; omega⟩
    | false => exact ⟨fun x => Or.inl x, fun x => x.elim (fun y => y) (fun y => by cases y)⟩
theorem mirrored_e {n : Nat} {s : SG} {k : KG} (h : JI n s k) (x w : Int32) : a_mirrored0 s k x w = a_mirrored s x w := by
  unfold a_mirrored0 a_mirrored
  by_cases hx : x < 0 ∨ 2 ≤ x
  · rw [if_pos hx, if_pos hx]
  · rw [if_neg hx, if_neg hx]
    obtain ⟨j, hj31, rfl⟩ := nI_of (x := x) (fun q => hx (Or.inl q))
    have hj : j < 2 := Nat.not_le.mp (fun q => hx (Or.inr (nI_le (a := 2) q hj31)))
    rw [show cl_ (nI j) = j from nI_clamp hj31]
    obtain ⟨⟨d1, d2⟩, d3, d4⟩ := h.A.2.2 j hj
    obtain ⟨o1, o2⟩ := mir_out h hj
    have hb := h.A.1.1.1
    have hro := h.A.1.2.2.1
    have hkd := h.A.1.2.1
    have c1 : cntN (kb_ k (1 + j)) 80 = cntN (fun q => (mirS s j).1 q) (nb_ s) := (cntN_congr (fun q hq => d3 q hq)).trans (cntN_ext hb o1)
    have c2 : cntN (kb_ k (4 + j)) 40 = cntN (fun q => (mirS s j).2 q) (ns_ s) := (cntN_congr (fun q hq => d4 q hq)).trans (cntN_ext hro.1 o2)
    have c3 : brkN s k j = cntN (fun q => (mirS s j).2 q && lackB s j q) (ns_ s) := by
      unfold brkN
      refine cntN_congr (fun q hq => ?_)
      rw [d4 q (by have := hro.1; omega)]
      congr 1
      unfold brkS lackB
      rw [rrow_e hkd _ (hro.2 q hq).2]
      refine Bool.eq_iff_iff.mpr ?_
      rw [decide_eq_true_iff, cntN_pos, anyN_iff, anyN_iff]
      constructor
      · rintro ⟨r, hr, e⟩
        rw [Bool.and_eq_true, d3 r (by omega)] at e
        obtain ⟨i, hi, e1⟩ := anyN_iff.mp e.1
        exact ⟨i, hi, anyN_t hr (by rw [e1, e.2]; rfl)⟩
      · rintro ⟨i, hi, e⟩
        obtain ⟨r, hr, e1⟩ := anyN_iff.mp e
        rw [Bool.and_eq_true] at e1
        refine ⟨r, hr, ?_⟩
        rw [Bool.and_eq_true, d3 r (by omega)]
        exact ⟨anyN_t hi e1.1, e1.2⟩
    rw [d1, c1, c2, c3]
/-! the calendar by months from the first of January of a year that 400 divides -/
def SN (y : Nat) : Nat := 365 * y + y / 4 - y / 100
def cumN (m : Nat) : Nat := if m < 2 then 31 * m else 60 + SN ((m - 2) / 12) + (153 * ((m - 2) % 12) + 2) / 5
def leapB (y : Nat) : Bool := decide (y % 4 = 0) && (!decide (y % 100 = 0) || decide (y % 400 = 0))
def dimN (y m : Nat) : Nat := if m = 2 then (if leapB y then 29 else 28) else if m = 4 ∨ m = 6 ∨ m = 9 ∨ m = 11 then 30 else 31
def ckM (y : Nat) : Nat → Bool
  | 0 => true
  | m + 1 => ckM y m && decide (cumN (12 * y + m) + dimN y (m + 1) = cumN (12 * y + m + 1))
def ckY : Nat → Bool
  | 0 => true
  | y + 1 => ckY y && ckM y 12
theorem ckY4 : ckY 400 = true := by decide +kernel
theorem ckM_get : ∀ {n y m : Nat}, ckM y n = true → m < n → cumN (12 * y + m) + dimN y (m + 1) = cumN (12 * y + m + 1) := by
  intro n
  induction n with
  | zero => intro y m _ h; exact absurd h (Nat.not_lt_zero _)
  | succ n ih =>
    intro y m h hm
    rw [ckM, Bool.and_eq_true] at h
    by_cases e : m = n
    · rw [e]; exact of_decide_eq_true h.2
    · exact ih h.1 (by omega)
theorem ckY_get : ∀ {n y : Nat}, ckY n = true → y < n → ckM y 12 = true := by
  intro n
  induction n with
  | zero => intro y _ h; exact absurd h (Nat.not_lt_zero _)
  | succ n ih =>
    intro y h hy
    rw [ckY, Bool.and_eq_true] at h
    by_cases e : y = n
    · rw [e]; exact h.2
    · exact ih h.1 (by omega)
theorem cum_s {y m : Nat} (hy : y < 400) (hm : m < 12) : cumN (12 * y + m) + dimN y (m + 1) = cumN (12 * y + m + 1) := ckM_get (ckY_get ckY4 hy) hm
theorem dim_b (y m : Nat) : 28 ≤ dimN y m ∧ dimN y m ≤ 31 := by
  unfold dimN
  split
  · split <;> omega
  · split <;> omega
theorem cum_4800 : cumN 4800 = 146097 := by decide
theorem cum_mono : ∀ (d a : Nat), a + d ≤ 4800 → cumN a ≤ cumN (a + d) := by
  intro d
  induction d with
  | zero => intro a _; exact Nat.le_refl _
  | succ d ih =>
    intro a h
    have h1 := ih a (by omega)
    have h2 := cum_s (y := (a + d) / 12) (m := (a + d) % 12) (by omega) (by omega)
    rw [show 12 * ((a + d) / 12) + (a + d) % 12 = a + d by omega] at h2
    rw [← Nat.add_assoc]
    omega
theorem cum_uniq {e a b : Nat} (ha : a < 4800) (hb : b < 4800) (h1 : cumN a ≤ e) (h2 : e < cumN (a + 1)) (h3 : cumN b ≤ e) (h4 : e < cumN (b + 1)) : a = b := by
  rcases Nat.lt_trichotomy a b with h | h | h
  · have := cum_mono (b - (a + 1)) (a + 1) (by omega)
    rw [show a + 1 + (b - (a + 1)) = b by omega] at this
    omega
  · exact h
  · have := cum_mono (a - (b + 1)) (b + 1) (by omega)
    rw [show b + 1 + (a - (b + 1)) = a by omega] at this
    omega
theorem SN_SI (y : Nat) : (SN y : Int) = SI (y : Int) := by unfold SN SI; omega
/-- the class's months and days, as the model finds them -/
theorem cal_eq {d : Int} {μ : Nat} (hμ : μ < 4800) {e : Nat} (he : (e : Int) = (d + 719528) % 146097) (h1 : cumN μ ≤ e) (h2 : e < cumN (μ + 1)) : monI d = 4800 * ((d + 719528) / 146097) + μ ∧ domI d = (e : Int) - cumN μ + 1 := by
  have hd := doe_b d
  have hy := yoe_ok hd.1 hd.2
  have hmm := mm_b d
  have hdoy := doy_b d
  obtain ⟨⟨y0, y1⟩, y2, y3⟩ := hy
  obtain ⟨Y, hY⟩ : ∃ Y : Nat, (Y : Int) = yoeI (doeI d) := ⟨(yoeI (doeI d)).toNat, by omega⟩
  obtain ⟨M, hM⟩ : ∃ M : Nat, (M : Int) = mmI d := ⟨(mmI d).toNat, by omega⟩
  have hYs := SN_SI Y
  have hY1 := SN_SI (Y + 1)
  have hdo : doyI d = doeI d - SI (yoeI (doeI d)) := rfl
  have hmd : mmI d = (5 * doyI d + 2) / 153 := rfl
  rw [← hY] at y0 y1 y2 y3 hdo
  rw [← hM] at hmm hmd
  have eM : monI d = 12 * (400 * eraI d + Y) + M + 2 := by unfold monI; rw [← hY, ← hM]
  have eD : domI d = doyI d - (153 * M + 2) / 5 + 1 := by unfold domI; rw [← hM]
  have er : eraI d = (d + 719468) / 146097 := rfl
  have ed : doeI d = (d + 719468) % 146097 := rfl
  rw [← hYs] at y2 hdo
  have hY1 : (SN (Y + 1) : Int) = SI ((Y : Int) + 1) := by rw [hY1]; rfl
  rw [← hY1] at y3
  by_cases hc : doeI d + 60 < 146097
  · have e1 : (d + 719528) / 146097 = eraI d := by omega
    have e2 : (e : Int) = doeI d + 60 := by omega
    have hlt : doeI d < SN (Y + 1) := by
      rcases y3 with y3 | y3
      · exact y3
      · omega
    have hcu : cumN (12 * Y + M + 2) = 60 + SN Y + (153 * M + 2) / 5 := by
      unfold cumN
      rw [if_neg (by omega), show (12 * Y + M + 2 - 2) / 12 = Y by omega, show (12 * Y + M + 2 - 2) % 12 = M by omega]
    have hcv : e < cumN (12 * Y + M + 2 + 1) := by
      unfold cumN
      rw [if_neg (by omega)]
      by_cases hm11 : M = 11
      · rw [show (12 * Y + M + 2 + 1 - 2) / 12 = Y + 1 by omega, show (12 * Y + M + 2 + 1 - 2) % 12 = 0 by omega]
        omega
      · rw [show (12 * Y + M + 2 + 1 - 2) / 12 = Y by omega, show (12 * Y + M + 2 + 1 - 2) % 12 = M + 1 by omega]
        omega
    have h4800 : 12 * Y + M + 2 < 4800 := by
      apply Nat.lt_of_not_le
      intro hge
      have : cumN 4800 ≤ cumN (12 * Y + M + 2) := by
        rw [hcu, cum_4800]
        have hY399 : Y = 399 := by omega
        subst hY399
        have : SN 399 = 145731 := by decide
        omega
      rw [cum_4800] at this
      omega
    have := cum_uniq hμ h4800 h1 h2 (by omega) hcv
    rw [this, hcu, eM, eD, e1]
    constructor
    · omega
    · omega
  · have e1 : (d + 719528) / 146097 = eraI d + 1 := by omega
    have e2 : (e : Int) = doeI d + 60 - 146097 := by omega
    have hY399 : Y = 399 := by
      have hS : SN 399 = 145731 := by decide
      rcases y3 with y3 | y3
      · apply Classical.byContradiction
        intro hne
        have : SN (Y + 1) ≤ SN 399 := by
          unfold SN
          omega
        omega
      · omega
    subst hY399
    have hS : SN 399 = 145731 := by decide
    have hM10 : 10 ≤ M := by omega
    have hμ2 : μ < 2 := by
      apply Nat.lt_of_not_le
      intro hge
      have h9 := cum_mono (μ - 2) 2 (by omega)
      rw [show 2 + (μ - 2) = μ by omega] at h9
      have : cumN 2 = 60 := by decide
      omega
    have c0 : cumN 0 = 0 := by decide
    have c1 : cumN 1 = 31 := by decide
    have c2 : cumN 2 = 60 := by decide
    rw [eM, eD, e1]
    have : μ = 0 ∨ μ = 1 := by omega
    rcases this with rfl | rfl
    · rw [c0] at h1 ⊢
      rw [show 0 + 1 = 1 from rfl, c1] at h2
      constructor <;> omega
    · rw [c1] at h1 ⊢
      rw [show 1 + 1 = 2 from rfl, c2] at h2
      constructor <;> omega
theorem nI_rem {a b : Nat} (ha : a < 2 ^ 31) (hb : b < 2 ^ 31) : nI a % nI b = nI (a % b) := by
  apply Int32.toInt_inj.mp
  rw [Int32.toInt_mod, nI_toInt ha, nI_toInt hb, nI_toInt (by have := Nat.mod_le a b; omega)]
  exact Int.ofNat_tmod a b |>.symm
