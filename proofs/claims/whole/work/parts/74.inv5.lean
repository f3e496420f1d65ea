/-! WHAT HOLDS BETWEEN CALLS, 5: mirrors, links, calendar, rules -/
theorem mrep_end (s : SG) (i : Nat) (m : (Nat → Bool) × (Nat → Bool)) : mrep s (i + 1) 0 m = mone s i (mrep s i 0 m) := by
  rw [mrep_add, Nat.zero_add]
  rfl
/-- what no word of the history tells of -/
theorem mrep_out (s : SG) {nb ns : Nat} (m : (Nat → Bool) × (Nat → Bool)) : ∀ i, (∀ j, j < i → (hk_ s j ≤ 1 → hw_ s j < nb) ∧ (2 ≤ hk_ s j → hw_ s j < ns)) → (∀ q, nb ≤ q → (mrep s i 0 m).1 q = m.1 q) ∧ ∀ q, ns ≤ q → (mrep s i 0 m).2 q = m.2 q := by
  intro i
  induction i with
  | zero => intro _; exact ⟨fun _ _ => rfl, fun _ _ => rfl⟩
  | succ i ih =>
    intro h
    obtain ⟨h1, h2⟩ := ih (fun j hj => h j (by omega))
    obtain ⟨x, y⟩ := h i (Nat.lt_succ_self _)
    rw [mrep_end]
    unfold mone
    by_cases e : hk_ s i = 0 ∨ hk_ s i = 1
    · rw [if_pos e]
      refine ⟨fun q hq => ?_, h2⟩
      show va_up (mrep s i 0 m).1 (hw_ s i) _ q = _
      rw [va_n _ _ (by have := x (by omega); omega)]
      exact h1 q hq
    · rw [if_neg e]
      refine ⟨h1, fun q hq => ?_⟩
      show va_up (mrep s i 0 m).2 (hw_ s i) _ q = _
      rw [va_n _ _ (by have := y (by omega); omega)]
      exact h2 q hq
theorem mir_out {n : Nat} {s : SG} {k : KG} (h : JI n s k) {m : Nat} (hm : m < 2) : (∀ q, nb_ s ≤ q → (mirS s m).1 q = false) ∧ ∀ q, ns_ s ≤ q → (mirS s m).2 q = false := by
  have h6 := h.A.1.2.2.2.2.2.1.2.2.2.2
  have hd := (h.A.2.2 m hm).1.2
  obtain ⟨x, y⟩ := mrep_out s (nb := nb_ s) (ns := ns_ s) (fun _ => false, fun _ => false) (md_ s m) (fun j hj => h6 j (by omega))
  exact ⟨x, y⟩
theorem rdown_or {s : SG} : ∀ (n : Nat) (a b : Nat → Bool), rdown s n (fun q => a q || b q) = fun q => rdown s n a q || rdown s n b q := by
  intro n
  induction n with
  | zero => intro a b; rfl
  | succ n ih =>
    intro a b
    rw [rdown, rdown, rdown]
    have e : (if (a n || b n) = true then rcK s n (fun q => a q || b q) else fun q => a q || b q) = fun q => (if a n = true then rcK s n a else a) q || (if b n = true then rcK s n b else b) q := by
      funext q
      cases ha : a n <;> cases hb : b n <;> simp only [Bool.or_true, Bool.or_false, Bool.false_eq_true, if_true, if_false, rcK, rcP] <;> cases a q <;> cases b q <;> cases anyN (fun a => decide (ch_ s n a = q)) (cm_ s n) <;> rfl
    rw [e]
    exact ih _ _
theorem rall_e {s : SG} {f : Nat → Nat} : ∀ n, (∀ j, j < n → f j < nb_ s) → rall s f n = fun q => anyN (fun i => rC s (f i) q) n := by
  intro n
  induction n with
  | zero =>
    intro _
    have e := rdown_top s (m := 0) (r := fun _ => false) (nb_ s) (fun _ _ _ => rfl)
    rw [Nat.zero_add] at e
    exact e
  | succ n ih =>
    intro h
    have e1 : rst f (fun _ => false) (n + 1) = fun q => rst f (fun _ => false) n q || va_up (fun _ => false) (f n) true q := by
      funext q
      rw [rst]
      by_cases e : q = f n
      · rw [e, va_s, va_s, Bool.or_true]
      · rw [va_n _ _ e, va_n _ _ e, Bool.or_false]
    have e2 := ih (fun j hj => h j (by omega))
    unfold rall at e2 ⊢
    rw [e1, rdown_or, e2, rdown_from s (h n (by omega)) (fun _ _ => rfl)]
    rfl
def lackB (s : SG) (m j : Nat) : Bool := anyN (fun i => anyN (fun q => rC s (ro_ s j i) q && !(mirS s m).1 q) (nb_ s)) (rm_ s j)
def a_mirrored (s : SG) (x w : Int32) : Int32 := if x < 0 ∨ 2 ≤ x then -101 else if w = 0 then nI (md_ s (cl_ x)) else if w = 1 then nI (cntN (fun q => (mirS s (cl_ x)).1 q) (nb_ s)) else if w = 2 then nI (cntN (fun q => (mirS s (cl_ x)).2 q) (ns_ s)) else if w = 3 then nI (cntN (fun j => (mirS s (cl_ x)).2 j && lackB s (cl_ x) j) (ns_ s)) else -102
theorem cntN_ext {p : Nat → Bool} {a b : Nat} (h : a ≤ b) (h2 : ∀ q, a ≤ q → p q = false) : cntN p b = cntN p a := by
  induction b with
  | zero => rw [show a = 0 by omega]
  | succ b ih =>
    by_cases e : a = b + 1
    · rw [e]
    · rw [cntN, ih (by omega), h2 b (by omega)]
      rfl
theorem cntN_pos {p : Nat → Bool} : ∀ {n : Nat}, 0 < cntN p n ↔ anyN p n = true := by
  intro n
  induction n with
  | zero => exact ⟨fun x => absurd x (Nat.lt_irrefl _), fun x => by cases x⟩
  | succ n ih =>
    rw [cntN, anyN, Bool.or_eq_true, ← ih]
    cases p n with
    | true => exact ⟨fun _ => Or.inr rfl, fun _ => by show 0 < _ + 1; omega⟩
    | false => exact ⟨fun x => Or.inl x, fun x => x.elim (fun y => y) (fun y => by cases y)⟩
theorem mirrored_e {n : Nat} {s : SG} {k : KG} (h : JI n s k) (x w : Int32) : a_mirrored0 s k x w = a_mirrored s x w := by
  unfold a_mirrored0 a_mirrored
  by_cases hx : x < 0 ∨ 2 ≤ x
  · rw [if_pos hx, if_pos hx]
  · rw [if_neg hx, if_neg hx]
    obtain ⟨j, hj31, rfl⟩ := nI_of (x := x) (fun q => hx (Or.inl q))
    have hj : j < 2 := Nat.not_le.mp (fun q => hx (Or.inr (nI_le (a := 2) q hj31)))
    rw [show cl_ (nI j) = j from nI_clamp hj31]
    obtain ⟨⟨d1, d2⟩, d3, d4⟩ := h.A.2.2 j hj
    obtain ⟨o1, o2⟩ := mir_out h hj
    have hb := h.A.1.1.1
    have hro := h.A.1.2.2.1
    have hkd := h.A.1.2.1
    have c1 : cntN (kb_ k (1 + j)) 80 = cntN (fun q => (mirS s j).1 q) (nb_ s) := (cntN_congr (fun q hq => d3 q hq)).trans (cntN_ext hb o1)
    have c2 : cntN (kb_ k (4 + j)) 40 = cntN (fun q => (mirS s j).2 q) (ns_ s) := (cntN_congr (fun q hq => d4 q hq)).trans (cntN_ext hro.1 o2)
    have c3 : brkN s k j = cntN (fun q => (mirS s j).2 q && lackB s j q) (ns_ s) := by
      unfold brkN
      refine cntN_congr (fun q hq => ?_)
      rw [d4 q (by have := hro.1; omega)]
      congr 1
      unfold brkS lackB
      rw [rall_e _ (hro.2 q hq).2]
      refine Bool.eq_iff_iff.mpr ?_
      rw [decide_eq_true_iff, cntN_pos, anyN_iff, anyN_iff]
      constructor
      · rintro ⟨r, hr, e⟩
        rw [Bool.and_eq_true, d3 r (by omega)] at e
        obtain ⟨i, hi, e1⟩ := anyN_iff.mp e.1
        exact ⟨i, hi, anyN_t hr (by rw [e1, e.2]; rfl)⟩
      · rintro ⟨i, hi, e⟩
        obtain ⟨r, hr, e1⟩ := anyN_iff.mp e
        rw [Bool.and_eq_true] at e1
        refine ⟨r, hr, ?_⟩
        rw [Bool.and_eq_true, d3 r (by omega)]
        exact ⟨anyN_t hi e1.1, e1.2⟩
    rw [d1, c1, c2, c3]
/-! the calendar by months from the first of January of a year that 400 divides -/
def SN (y : Nat) : Nat := 365 * y + y / 4 - y / 100
def cumN (m : Nat) : Nat := if m < 2 then 31 * m else 60 + SN ((m - 2) / 12) + (153 * ((m - 2) % 12) + 2) / 5
def leapB (y : Nat) : Bool := decide (y % 4 = 0) && (!decide (y % 100 = 0) || decide (y % 400 = 0))
def dimN (y m : Nat) : Nat := if m = 2 then (if leapB y then 29 else 28) else if m = 4 ∨ m = 6 ∨ m = 9 ∨ m = 11 then 30 else 31
def ckM (y : Nat) : Nat → Bool
  | 0 => true
  | m + 1 => ckM y m && decide (cumN (12 * y + m) + dimN y (m + 1) = cumN (12 * y + m + 1))
def ckY : Nat → Bool
  | 0 => true
  | y + 1 => ckY y && ckM y 12
theorem ckY4 : ckY 400 = true := by decide +kernel
theorem ckM_get : ∀ {n y m : Nat}, ckM y n = true → m < n → cumN (12 * y + m) + dimN y (m + 1) = cumN (12 * y + m + 1) := by
  intro n
  induction n with
  | zero => intro y m _ h; exact absurd h (Nat.not_lt_zero _)
  | succ n ih =>
    intro y m h hm
    rw [ckM, Bool.and_eq_true] at h
    by_cases e : m = n
    · rw [e]; exact of_decide_eq_true h.2
    · exact ih h.1 (by omega)
theorem ckY_get : ∀ {n y : Nat}, ckY n = true → y < n → ckM y 12 = true := by
  intro n
  induction n with
  | zero => intro y _ h; exact absurd h (Nat.not_lt_zero _)
  | succ n ih =>
    intro y h hy
    rw [ckY, Bool.and_eq_true] at h
    by_cases e : y = n
    · rw [e]; exact h.2
    · exact ih h.1 (by omega)
theorem cum_s {y m : Nat} (hy : y < 400) (hm : m < 12) : cumN (12 * y + m) + dimN y (m + 1) = cumN (12 * y + m + 1) := ckM_get (ckY_get ckY4 hy) hm
theorem dim_b (y m : Nat) : 28 ≤ dimN y m ∧ dimN y m ≤ 31 := by
  unfold dimN
  split
  · split <;> omega
  · split <;> omega
theorem cum_4800 : cumN 4800 = 146097 := by decide
theorem cum_mono : ∀ (d a : Nat), a + d ≤ 4800 → cumN a ≤ cumN (a + d) := by
  intro d
  induction d with
  | zero => intro a _; exact Nat.le_refl _
  | succ d ih =>
    intro a h
    have h1 := ih a (by omega)
    have h2 := cum_s (y := (a + d) / 12) (m := (a + d) % 12) (by omega) (by omega)
    rw [show 12 * ((a + d) / 12) + (a + d) % 12 = a + d by omega] at h2
    rw [← Nat.add_assoc]
    omega
theorem cum_uniq {e a b : Nat} (ha : a < 4800) (hb : b < 4800) (h1 : cumN a ≤ e) (h2 : e < cumN (a + 1)) (h3 : cumN b ≤ e) (h4 : e < cumN (b + 1)) : a = b := by
  rcases Nat.lt_trichotomy a b with h | h | h
  · have := cum_mono (b - (a + 1)) (a + 1) (by omega)
    rw [show a + 1 + (b - (a + 1)) = b by omega] at this
    omega
  · exact h
  · have := cum_mono (a - (b + 1)) (b + 1) (by omega)
    rw [show b + 1 + (a - (b + 1)) = a by omega] at this
    omega
theorem SN_SI (y : Nat) : (SN y : Int) = SI (y : Int) := by unfold SN SI; omega
/-- the class's months and days, as the model finds them -/
theorem cal_eq {d : Int} {μ : Nat} (hμ : μ < 4800) {e : Nat} (he : (e : Int) = (d + 719528) % 146097) (h1 : cumN μ ≤ e) (h2 : e < cumN (μ + 1)) : monI d = 4800 * ((d + 719528) / 146097) + μ ∧ domI d = (e : Int) - cumN μ + 1 := by
  have hd := doe_b d
  have hy := yoe_ok hd.1 hd.2
  have hmm := mm_b d
  have hdoy := doy_b d
  obtain ⟨⟨y0, y1⟩, y2, y3⟩ := hy
  obtain ⟨Y, hY⟩ : ∃ Y : Nat, (Y : Int) = yoeI (doeI d) := ⟨(yoeI (doeI d)).toNat, by omega⟩
  obtain ⟨M, hM⟩ : ∃ M : Nat, (M : Int) = mmI d := ⟨(mmI d).toNat, by omega⟩
  have hYs := SN_SI Y
  have hY1 := SN_SI (Y + 1)
  have hdo : doyI d = doeI d - SI (yoeI (doeI d)) := rfl
  have hmd : mmI d = (5 * doyI d + 2) / 153 := rfl
  rw [← hY] at y0 y1 y2 y3 hdo
  rw [← hM] at hmm hmd
  have eM : monI d = 12 * (400 * eraI d + Y) + M + 2 := by unfold monI; rw [← hY, ← hM]
  have eD : domI d = doyI d - (153 * M + 2) / 5 + 1 := by unfold domI; rw [← hM]
  have er : eraI d = (d + 719468) / 146097 := rfl
  have ed : doeI d = (d + 719468) % 146097 := rfl
  rw [← hYs] at y2 hdo
  have hY1 : (SN (Y + 1) : Int) = SI ((Y : Int) + 1) := by rw [hY1]; rfl
  rw [← hY1] at y3
  by_cases hc : doeI d + 60 < 146097
  · have e1 : (d + 719528) / 146097 = eraI d := by omega
    have e2 : (e : Int) = doeI d + 60 := by omega
    have hlt : doeI d < SN (Y + 1) := by
      rcases y3 with y3 | y3
      · exact y3
      · omega
    have hcu : cumN (12 * Y + M + 2) = 60 + SN Y + (153 * M + 2) / 5 := by
      unfold cumN
      rw [if_neg (by omega), show (12 * Y + M + 2 - 2) / 12 = Y by omega, show (12 * Y + M + 2 - 2) % 12 = M by omega]
    have hcv : e < cumN (12 * Y + M + 2 + 1) := by
      unfold cumN
      rw [if_neg (by omega)]
      by_cases hm11 : M = 11
      · rw [show (12 * Y + M + 2 + 1 - 2) / 12 = Y + 1 by omega, show (12 * Y + M + 2 + 1 - 2) % 12 = 0 by omega]
        omega
      · rw [show (12 * Y + M + 2 + 1 - 2) / 12 = Y by omega, show (12 * Y + M + 2 + 1 - 2) % 12 = M + 1 by omega]
        omega
    have h4800 : 12 * Y + M + 2 < 4800 := by
      apply Nat.lt_of_not_le
      intro hge
      have : cumN 4800 ≤ cumN (12 * Y + M + 2) := by
        rw [hcu, cum_4800]
        have hY399 : Y = 399 := by omega
        subst hY399
        have : SN 399 = 145731 := by decide
        omega
      rw [cum_4800] at this
      omega
    have := cum_uniq hμ h4800 h1 h2 (by omega) hcv
    rw [this, hcu, eM, eD, e1]
    constructor
    · omega
    · omega
  · have e1 : (d + 719528) / 146097 = eraI d + 1 := by omega
    have e2 : (e : Int) = doeI d + 60 - 146097 := by omega
    have hY399 : Y = 399 := by
      have hS : SN 399 = 145731 := by decide
      rcases y3 with y3 | y3
      · apply Classical.byContradiction
        intro hne
        have : SN (Y + 1) ≤ SN 399 := by
          unfold SN
          omega
        omega
      · omega
    subst hY399
    have hS : SN 399 = 145731 := by decide
    have hM10 : 10 ≤ M := by omega
    have hμ2 : μ < 2 := by
      apply Nat.lt_of_not_le
      intro hge
      have h9 := cum_mono (μ - 2) 2 (by omega)
      rw [show 2 + (μ - 2) = μ by omega] at h9
      have : cumN 2 = 60 := by decide
      omega
    have c0 : cumN 0 = 0 := by decide
    have c1 : cumN 1 = 31 := by decide
    have c2 : cumN 2 = 60 := by decide
    rw [eM, eD, e1]
    have : μ = 0 ∨ μ = 1 := by omega
    rcases this with rfl | rfl
    · rw [c0] at h1 ⊢
      rw [show 0 + 1 = 1 from rfl, c1] at h2
      constructor <;> omega
    · rw [c1] at h1 ⊢
      rw [show 1 + 1 = 2 from rfl, c2] at h2
      constructor <;> omega
theorem nI_rem {a b : Nat} (ha : a < 2 ^ 31) (hb : b < 2 ^ 31) : nI a % nI b = nI (a % b) := by
  apply Int32.toInt_inj.mp
  rw [Int32.toInt_mod, nI_toInt ha, nI_toInt hb, nI_toInt (by have := Nat.mod_le a b; omega)]
  exact Int.ofNat_tmod a b |>.symm
def prevK (g : Nat → Bool) : Nat → Option Nat
  | 0 => none
  | n + 1 => if g n = true then some n else prevK g n
theorem prevK_some {g : Nat → Bool} : ∀ {n c : Nat}, prevK g n = some c → c < n ∧ g c = true ∧ ∀ q, c < q → q < n → g q = false := by
  intro n
  induction n with
  | zero => intro c h; cases h
  | succ n ih =>
    intro c h
    rw [prevK] at h
    by_cases e : g n = true
    · rw [if_pos e] at h
      cases h
      exact ⟨Nat.lt_succ_self _, e, fun q h1 h2 => by omega⟩
    · rw [if_neg e] at h
      obtain ⟨h1, h2, h3⟩ := ih h
      refine ⟨by omega, h2, fun q h4 h5 => ?_⟩
      by_cases x : q = n
      · rw [x]; cases y : g n with | false => rfl | true => exact absurd y e
      · exact h3 q h4 (by omega)
theorem prevK_none {g : Nat → Bool} : ∀ {n : Nat}, prevK g n = none → ∀ q, q < n → g q = false := by
  intro n
  induction n with
  | zero => intro _ q hq; exact absurd hq (Nat.not_lt_zero _)
  | succ n ih =>
    intro h q hq
    rw [prevK] at h
    by_cases e : g n = true
    · rw [if_pos e] at h; cases h
    · rw [if_neg e] at h
      by_cases x : q = n
      · rw [x]; cases y : g n with | false => rfl | true => exact absurd y e
      · exact ih h q (by omega)
theorem prevK_lt {g : Nat → Bool} {b : Nat} : ∀ {n : Nat}, b ≤ n → prevK (fun q => g q && decide (q < b)) n = prevK g b := by
  intro n
  induction n with
  | zero => intro h; rw [show b = 0 by omega]; rfl
  | succ n ih =>
    intro h
    by_cases e : b = n + 1
    · subst e
      have : ∀ m, m ≤ n + 1 → prevK (fun q => g q && decide (q < n + 1)) m = prevK g m := by
        intro m
        induction m with
        | zero => intro _; rfl
        | succ m ihm =>
          intro hm
          rw [prevK, prevK, ihm (by omega), decide_eq_true (show m < n + 1 by omega), Bool.and_true]
      exact this _ (Nat.le_refl _)
    · rw [prevK, if_neg (by rw [decide_eq_false (by omega : ¬ n < b), Bool.and_false]; decide)]
      exact ih (by omega)
theorem jst_skip {s : SG} {kd c : Nat} : ∀ (d : Nat), c + 1 + d ≤ ns_ s → (∀ q, c < q → q < c + 1 + d → kp_ s q = false) → jst s kd (ns_ s - (c + 1)) = jst s kd (ns_ s - (c + 1 + d)) := by
  intro d
  induction d with
  | zero => intro _ _; rfl
  | succ d ih =>
    intro h1 h2
    rw [ih (by omega) (fun q h3 h4 => h2 q h3 (by omega)), jst_s (j := c + 1 + d) (by omega), if_neg, Nat.add_assoc (c + 1) d 1]
    rw [chB_e]
    unfold jc
    rw [h2 (c + 1 + d) (by omega) (by omega), Bool.false_and, Bool.and_false]
    decide
theorem jst_prev {s : SG} {kd n c : Nat} (hn : n ≤ ns_ s) (h : prevK (kp_ s) n = some c) : jst s kd (ns_ s - n) = jst s kd (ns_ s - (c + 1)) := by
  obtain ⟨h1, h2, h3⟩ := prevK_some h
  have := jst_skip (s := s) (kd := kd) (c := c) (n - (c + 1)) (by omega) (fun q h4 h5 => h3 q h4 (by omega))
  rw [show c + 1 + (n - (c + 1)) = n by omega] at this
  exact this.symm
/-- how many from a on -/
def cK (g : Nat → Bool) (a N : Nat) : Nat := cntN (fun q => g q && decide (a ≤ q)) N
theorem cK_step {g : Nat → Bool} {a N : Nat} (ha : a < N) : cK g a N = cK g (a + 1) N + (if g a then 1 else 0) := by
  unfold cK
  induction N with
  | zero => exact absurd ha (Nat.not_lt_zero _)
  | succ N ih =>
    rw [cntN, cntN]
    by_cases e : a = N
    · subst e
      rw [cntN_0 (fun q hq => by rw [decide_eq_false (by omega : ¬ a ≤ q), Bool.and_false]), cntN_0 (fun q hq => by rw [decide_eq_false (by omega : ¬ a + 1 ≤ q), Bool.and_false]), decide_eq_true (Nat.le_refl a), decide_eq_false (by omega : ¬ a + 1 ≤ a), Bool.and_true, Bool.and_false]
      simp
    · rw [ih (by omega), show decide (a ≤ N) = decide (a + 1 ≤ N) from decide_eq_decide.mpr (by omega)]
      omega
theorem cK_skip {g : Nat → Bool} {N c : Nat} : ∀ d, c + d ≤ N → (∀ q, c ≤ q → q < c + d → g q = false) → cK g c N = cK g (c + d) N := by
  intro d
  induction d with
  | zero => intro _ _; rfl
  | succ d ih =>
    intro h1 h2
    rw [ih (by omega) (fun q h3 h4 => h2 q h3 (by omega)), cK_step (show c + d < N by omega), h2 (c + d) (by omega) (by omega)]
    rfl
theorem cK_prev {g : Nat → Bool} {N n c : Nat} (hn : n ≤ N) (h : prevK g n = some c) : cK g (c + 1) N = cK g n N ∧ cK g c N = cK g n N + 1 := by
  obtain ⟨h1, h2, h3⟩ := prevK_some h
  have e := cK_skip (g := g) (N := N) (c := c + 1) (n - (c + 1)) (by omega) (fun q h4 h5 => h3 q (by omega) (by omega))
  rw [show c + 1 + (n - (c + 1)) = n by omega] at e
  refine ⟨e, ?_⟩
  rw [cK_step (show c < N by omega), e, h2]
  rfl
theorem cK_le (g : Nat → Bool) (a N : Nat) : cK g a N ≤ N := cntN_le _
theorem jst0 {s : SG} : ∀ m, m ≤ ns_ s → (jst s 0 m).1 = min (ru_ s 0) (cK (kp_ s) (ns_ s - m) (ns_ s)) ∧ ((jst s 0 m).1 ≠ 0 → ((ns_ s - m : Nat) : Int) ≤ (jst s 0 m).2) := by
  intro m
  induction m with
  | zero =>
    intro _
    have : cK (kp_ s) (ns_ s - 0) (ns_ s) = 0 := cntN_0 (fun q hq => by rw [decide_eq_false (by omega : ¬ ns_ s - 0 ≤ q), Bool.and_false])
    rw [this]
    exact ⟨by simp [jst], fun h => absurd rfl h⟩
  | succ m ih =>
    intro hm
    obtain ⟨h1, h2⟩ := ih (by omega)
    have hi : ns_ s - 1 - m = ns_ s - (m + 1) := by omega
    have hstep := cK_step (g := kp_ s) (a := ns_ s - (m + 1)) (N := ns_ s) (by omega)
    rw [show ns_ s - (m + 1) + 1 = ns_ s - m by omega] at hstep
    have hjc : jc s 0 (jst s 0 m) (ns_ s - (m + 1)) = (decide ((jst s 0 m).1 < ru_ s 0) && kp_ s (ns_ s - (m + 1))) := by
      unfold jc
      have : (decide ((jst s 0 m).1 = 0) || !decide (perI s 0 (ns_ s - (m + 1)) = (jst s 0 m).2)) = true := by
        by_cases e : (jst s 0 m).1 = 0
        · rw [decide_eq_true e]; rfl
        · have := h2 e
          rw [decide_eq_false (p := perI s 0 (ns_ s - (m + 1)) = (jst s 0 m).2) (by show ¬ ((ns_ s - (m + 1) : Nat) : Int) = _; omega)]
          simp
      rw [this, Bool.and_true]
    rw [jst, hi, hjc]
    by_cases e : (decide ((jst s 0 m).1 < ru_ s 0) && kp_ s (ns_ s - (m + 1))) = true
    · rw [if_pos e]
      rw [Bool.and_eq_true, decide_eq_true_iff] at e
      rw [e.2] at hstep
      refine ⟨?_, fun _ => Int.le_refl _⟩
      show (jst s 0 m).1 + 1 = _
      rw [hstep, if_pos rfl]
      omega
    · rw [if_neg e]
      refine ⟨?_, fun h => by have := h2 h; omega⟩
      rw [h1, hstep]
      cases hk : kp_ s (ns_ s - (m + 1)) with
      | false => rfl
      | true =>
        rw [hk, Bool.and_true] at e
        have : ¬ (jst s 0 m).1 < ru_ s 0 := fun q => e (decide_eq_true q)
        rw [if_pos rfl]
        omega
theorem chB0 {s : SG} {i : Nat} (hi : i < ns_ s) (hk : kp_ s i = true) : chB s 0 i = decide (cK (kp_ s) (i + 1) (ns_ s) < ru_ s 0) := by
  obtain ⟨h1, h2⟩ := jst0 (s := s) (ns_ s - (i + 1)) (by omega)
  rw [show ns_ s - (ns_ s - (i + 1)) = i + 1 by omega] at h1 h2
  rw [chB_e]
  unfold jc
  rw [hk, Bool.true_and]
  have e2 : (decide ((jst s 0 (ns_ s - (i + 1))).1 = 0) || !decide (perI s 0 i = (jst s 0 (ns_ s - (i + 1))).2)) = true := by
    by_cases e : (jst s 0 (ns_ s - (i + 1))).1 = 0
    · rw [decide_eq_true e]; rfl
    · have := h2 e
      rw [decide_eq_false (p := perI s 0 i = (jst s 0 (ns_ s - (i + 1))).2) (by show ¬ (i : Int) = _; omega)]
      simp
  rw [e2, Bool.and_true]
  exact decide_eq_decide.mpr (by omega)
def sumB (s : SG) (i : Nat) : Nat → Int32
  | 0 => 0
  | n + 1 => sumB s i n + (if chB s n i = true then bitV n else 0)
theorem kb_sum {s : SG} {i : Nat} (hk : kp_ s i = true) : sumB s i 5 + (if tagB s i = true then 32 else 0) = kbits s i 5 := by
  unfold sumB sumB sumB sumB sumB sumB kbits kbits kbits kbits kbits kbits
  rw [hk]
  cases chB s 0 i <;> cases chB s 1 i <;> cases chB s 2 i <;> cases chB s 3 i <;> cases chB s 4 i <;> cases tagB s i <;> decide
theorem findF_skip {h : Nat → Bool} {N a : Nat} : ∀ d, a + d ≤ N → (∀ q, a ≤ q → q < a + d → h q = false) → findF h (N - a) a = findF h (N - (a + d)) (a + d) := by
  intro d
  induction d with
  | zero => intro _ _; rfl
  | succ d ih =>
    intro h1 h2
    rw [ih (by omega) (fun q h3 h4 => h2 q h3 (by omega)), show N - (a + d) = (N - (a + (d + 1))) + 1 by omega, findF, if_neg (by rw [h2 (a + d) (by omega) (by omega)]; decide)]
    rfl
theorem findF_prev {h g : Nat → Bool} {N n c : Nat} (hn : n ≤ N) (hg : ∀ q, g q = false → h q = false) (e : prevK g n = some c) : findF h (N - c) c = if h c = true then nI c else findF h (N - n) n := by
  obtain ⟨h1, h2, h3⟩ := prevK_some e
  rw [show N - c = (N - (c + 1)) + 1 by omega, findF]
  by_cases x : h c = true
  · rw [if_pos x, if_pos x]
  · rw [if_neg x, if_neg x]
    have := findF_skip (h := h) (N := N) (a := c + 1) (n - (c + 1)) (by omega) (fun q h4 h5 => hg q (h3 q (by omega) (by omega)))
    rw [show c + 1 + (n - (c + 1)) = n by omega] at this
    exact this
theorem findF_end {h g : Nat → Bool} {N n : Nat} (hn : n ≤ N) (hg : ∀ q, g q = false → h q = false) (e : prevK g n = none) : findF h N 0 = findF h (N - n) n := by
  have := findF_skip (h := h) (N := N) (a := 0) n (by omega) (fun q _ h5 => hg q (prevK_none e q (by omega)))
  rw [Nat.zero_add, Nat.sub_zero] at this
  exact this
theorem findF_min {p : Nat → Bool} : ∀ (n i : Nat), (∀ b, i ≤ b → b < i + n → p b = false) ∨ ∃ b, i ≤ b ∧ b < i + n ∧ p b = true ∧ findF p n i = nI b ∧ ∀ q, i ≤ q → q < b → p q = false := by
  intro n
  induction n with
  | zero => intro i; exact Or.inl (fun b h1 h2 => by omega)
  | succ n ih =>
    intro i
    by_cases e : p i = true
    · exact Or.inr ⟨i, Nat.le_refl _, by omega, e, by rw [findF, if_pos e], fun q h1 h2 => by omega⟩
    · have e' : p i = false := by cases x : p i with | false => rfl | true => exact absurd x e
      rcases ih (i + 1) with h | ⟨b, h1, h2, h3, h4, h5⟩
      · refine Or.inl (fun b h1 h2 => ?_)
        by_cases x : b = i
        · rw [x]; exact e'
        · exact h b (by omega) (by omega)
      · refine Or.inr ⟨b, by omega, by omega, h3, by rw [findF, if_neg e]; exact h4, fun q h6 h7 => ?_⟩
        by_cases x : q = i
        · rw [x]; exact e'
        · exact h5 q (by omega) h7
theorem prL_skip {g : Nat → Bool} {N : Nat} {t : SG} {p : Nat} : ∀ d, p + d ≤ N → (∀ q, p ≤ q → q < p + d → g q = false) → prL g (N - p) p t = prL g (N - (p + d)) (p + d) t := by
  intro d
  induction d with
  | zero => intro _ _; rfl
  | succ d ih =>
    intro h1 h2
    rw [ih (by omega) (fun q h3 h4 => h2 q h3 (by omega)), show N - (p + d) = (N - (p + (d + 1))) + 1 by omega, prL, if_neg (by rw [h2 (p + d) (by omega) (by omega)]; decide)]
    rfl
theorem cK_0 {g : Nat → Bool} {a N : Nat} (h : cK g a N = 0) : ∀ q, a ≤ q → q < N → g q = false := by
  intro q h1 h2
  cases e : g q with
  | false => rfl
  | true =>
    have : 0 < cK g a N := cntN_pos.mpr (anyN_t h2 (by rw [e, decide_eq_true h1]; rfl))
    omega
theorem cK_all (g : Nat → Bool) (N : Nat) : cK g 0 N = cntN g N := cntN_congr (fun q _ => by rw [decide_eq_true (Nat.zero_le q), Bool.and_true])
theorem stay_e {s : SG} : cntN (unkB s) (ns_ s) + cntN (fun q => kp_ s q && !unkB s q) (ns_ s) = thereN s := by
  unfold thereN
  generalize ns_ s = N
  induction N with
  | zero => rfl
  | succ N ih =>
    rw [cntN, cntN, cntN]
    have : (if unkB s N = true then 1 else 0) + (if (kp_ s N && !unkB s N) = true then 1 else 0) = if kp_ s N = true then 1 else 0 := by
      unfold unkB
      cases kp_ s N <;> cases (decide (kbits s N 5 = 0)) <;> rfl
    have ih : cntN (unkB s) N + cntN (fun q => kp_ s q && !unkB s q) N = cntN (fun j => kp_ s j) N := ih
    omega
