/-! How a wish is spread, in numbers. -/
def lft (S dn : Nat → Bool) (r : Nat) : Bool := S r && !dn r
def cB (f : Nat → Bool) : Nat → Nat
  | 0 => 0
  | n + 1 => if f n = true then cB f n + 1 else cB f n
def upb (dn : Nat → Bool) (r : Nat) : Nat → Bool := fun i => if i = r then true else dn i
def upN (f : Nat → Nat) (k v : Nat) : Nat → Nat := fun i => if i = k then v else f i
theorem lft_t {S dn : Nat → Bool} {r : Nat} : lft S dn r = true ↔ S r = true ∧ dn r = false := by
  unfold lft
  cases S r <;> cases dn r <;> decide
section CB
variable {f g : Nat → Bool} {r n : Nat}
theorem cB_s (f : Nat → Bool) (n : Nat) : cB f (n + 1) = if f n = true then cB f n + 1 else cB f n := rfl
theorem cB_le (f : Nat → Bool) : ∀ n, cB f n ≤ n
  | 0 => Nat.le_refl 0
  | n + 1 => by
    rw [cB_s]
    have := cB_le f n
    split <;> omega
theorem cB_e : ∀ n, (∀ i, i < n → f i = g i) → cB f n = cB g n
  | 0, _ => rfl
  | n + 1, h => by rw [cB_s, cB_s, h n (Nat.lt_succ_self n), cB_e n (fun i hi => h i (by omega))]
theorem cB_dec (h1 : f r = true) (h2 : g r = false) (h3 : ∀ i, ¬ i = r → g i = f i) : ∀ n, r < n → cB g n + 1 = cB f n
  | 0, h => absurd h (Nat.not_lt_zero r)
  | n + 1, h => by
    rw [cB_s, cB_s]
    by_cases e : n = r
    · rw [e, if_neg (by rw [h2]; decide), if_pos h1, cB_e r (fun i hi => h3 i (by omega))]
    · rw [h3 n e]
      have := cB_dec h1 h2 h3 n (by omega)
      split <;> omega
theorem cB_mono : ∀ n, (∀ i, i < n → f i = true → g i = true) → cB f n ≤ cB g n
  | 0, _ => Nat.le_refl 0
  | n + 1, h => by
    have ih := cB_mono n (fun i hi => h i (by omega))
    have hn := h n (Nat.lt_succ_self n)
    rw [cB_s, cB_s]
    by_cases a : f n = true
    · rw [if_pos a, if_pos (hn a)]; omega
    · rw [if_neg a]
      split <;> omega
theorem cB_lt (h1 : g r = true) (h2 : f r = false) : ∀ n, r < n → (∀ i, i < n → f i = true → g i = true) → cB f n < cB g n
  | 0, h, _ => absurd h (Nat.not_lt_zero r)
  | n + 1, h, hh => by
    rw [cB_s, cB_s]
    by_cases e : n = r
    · rw [e, if_neg (by rw [h2]; decide), if_pos h1]
      have := cB_mono r (fun i hi => hh i (by omega))
      omega
    · have ih := cB_lt h1 h2 n (by omega) (fun i hi => hh i (by omega))
      have hn := hh n (Nat.lt_succ_self n)
      by_cases a : f n = true
      · rw [if_pos a, if_pos (hn a)]; omega
      · rw [if_neg a]
        split <;> omega
theorem cB_pos (h1 : f r = true) : ∀ n, r < n → 0 < cB f n
  | 0, h => absurd h (Nat.not_lt_zero r)
  | n + 1, h => by
    rw [cB_s]
    by_cases e : n = r
    · rw [e, if_pos h1]; omega
    · have := cB_pos h1 n (by omega)
      split <;> omega
theorem cB_0 (h : cB f n = 0) (hr : r < n) : f r = false := by
  cases q : f r with
  | false => rfl
  | true =>
    have := cB_pos q n hr
    omega
end CB
theorem least_of {P : Nat → Prop} : ∀ n, P n → ∃ r, P r ∧ ∀ t, t < r → ¬ P t := by
  intro n
  induction n using Nat.strongRecOn with
  | ind n ih =>
    intro h
    by_cases q : ∃ t, t < n ∧ P t
    · obtain ⟨t, ht, pt⟩ := q
      exact ih t ht pt
    · exact ⟨n, h, fun t ht pt => q ⟨t, ht, pt⟩⟩
/-- the recipe that is taken next -/
def freeP (R : Nat → Row) (k : Nat) (S dn : Nat → Bool) (r : Nat) : Prop := lft S dn r = true ∧ ∀ o, o < k → lft S dn o = true → ¬ dp R k o r
def pickP (R : Nat → Row) (k : Nat) (S dn : Nat → Bool) (r : Nat) : Prop := r < k ∧ freeP R k S dn r ∧ ∀ t, t < r → ¬ freeP R k S dn t
noncomputable def NB (R : Nat → Row) (k r o : Nat) : Bool := @decide (Wv R k k o r) (Classical.propDecidable _)
theorem NB_t {R : Nat → Row} {k r o : Nat} : NB R k r o = true ↔ Wv R k k o r := by
  unfold NB
  exact @decide_eq_true_iff _ (Classical.propDecidable _)
/-- what is done is done above, too -/
def UC (R : Nat → Row) (k : Nat) (S dn : Nat → Bool) : Prop := ∀ o p, S o = true → Wv R k k o p → dn p = true → dn o = true
/-- the recipes that are wanted -/
def SOk (R : Nat → Row) (k : Nat) (S : Nat → Bool) : Prop := (∀ r, S r = true → r < k) ∧ ∀ r o, S r = true → Wv R k k r o → S o = true
section PK
variable {R : Nat → Row} {k r t n : Nat} {S dn : Nat → Bool}
theorem pickP_u (a : pickP R k S dn r) (b : pickP R k S dn t) : r = t := by
  rcases Nat.lt_trichotomy r t with q | q | q
  · exact absurd a.2.1 (b.2.2 r q)
  · exact q
  · exact absurd b.2.1 (a.2.2 t q)
theorem free_N (so : SOk R k S) (uc : UC R k S dn) (l : lft S dn r = true) : freeP R k S dn r ↔ ∀ o, lft S dn o = true → ¬ Wv R k k o r := by
  constructor
  · intro f o lo w
    have so1 := lft_t.mp lo
    rcases Wv_last k (Nat.le_refl k) w with d | ⟨m, a, d⟩
    · exact f.2 o d.1 lo d
    · have sm := so.2 o m so1.1 a
      have dm : dn m = false := by
        cases q : dn m with
        | false => rfl
        | true =>
          have := uc o m so1.1 a q
          rw [so1.2] at this
          cases this
      exact f.2 m d.1 (lft_t.mpr ⟨sm, dm⟩) d
  · intro f
    exact ⟨l, fun o _ lo d => f o lo (Wv_dp d)⟩
theorem free_ex (so : SOk R k S) (ac : ∀ r, S r = true → ¬ Wv R k k r r) : ∀ c r, lft S dn r = true → cB (NB R k r) k ≤ c → ∃ r, freeP R k S dn r := by
  intro c
  induction c with
  | zero =>
    intro r l hc
    by_cases f : freeP R k S dn r
    · exact ⟨r, f⟩
    · exfalso
      apply f
      refine ⟨l, fun o ho lo d => ?_⟩
      have := cB_0 (f := NB R k r) (n := k) (r := o) (by omega) ho
      rw [NB_t.mpr (Wv_dp d)] at this
      cases this
  | succ c ih =>
    intro r l hc
    by_cases f : freeP R k S dn r
    · exact ⟨r, f⟩
    · have : ∃ o, o < k ∧ lft S dn o = true ∧ dp R k o r := by
        apply Classical.byContradiction
        intro q
        exact f ⟨l, fun o ho lo d => q ⟨o, ho, lo, d⟩⟩
      obtain ⟨o, ho, lo, d⟩ := this
      have so1 := (lft_t.mp lo).1
      refine ih o lo ?_
      have n1 : NB R k o o = false := by
        cases q : NB R k o o with
        | false => rfl
        | true => exact absurd (NB_t.mp q) (ac o so1)
      have := cB_lt (f := NB R k o) (g := NB R k r) (r := o) (NB_t.mpr (Wv_dp d)) n1 k ho (fun i _ q => NB_t.mpr (Wv_tr (NB_t.mp q) (Wv_dp d)))
      omega
theorem pick_ex (so : SOk R k S) (ac : ∀ r, S r = true → ¬ Wv R k k r r) (h : ∃ r, lft S dn r = true) : ∃ r, pickP R k S dn r := by
  obtain ⟨r, l⟩ := h
  obtain ⟨r1, f⟩ := free_ex so ac _ r l (Nat.le_refl _)
  obtain ⟨r2, f2, m⟩ := least_of r1 f
  exact ⟨r2, so.1 r2 (lft_t.mp f2.1).1, f2, m⟩
theorem UC_up (so : SOk R k S) (uc : UC R k S dn) (p : pickP R k S dn r) : UC R k S (upb dn r) := by
  intro o q so1 w d
  unfold upb at d ⊢
  by_cases e : o = r
  · rw [if_pos e]
  · rw [if_neg e]
    by_cases e2 : q = r
    · have := (free_N so uc p.2.1.1).mp p.2.1 o
      rw [e2] at w
      cases z : dn o with
      | true => rfl
      | false => exact absurd w (this (lft_t.mpr ⟨so1, z⟩))
    · rw [if_neg e2] at d
      exact uc o q so1 w d
theorem lft_up (S dn : Nat → Bool) (r : Nat) : lft S (upb dn r) r = false ∧ ∀ i, ¬ i = r → lft S (upb dn r) i = lft S dn i := by
  refine ⟨?_, fun i hi => ?_⟩
  · unfold lft upb
    rw [if_pos rfl]
    cases S r <;> rfl
  · unfold lft upb
    rw [if_neg hi]
theorem cB_pick (p : pickP R k S dn r) : cB (lft S (upb dn r)) k + 1 = cB (lft S dn) k :=
  cB_dec p.2.1.1 (lft_up S dn r).1 (lft_up S dn r).2 k p.1
end PK
/-! Products, fractions. -/
def pr (f : Nat → Nat) : Nat → Nat
  | 0 => 1
  | n + 1 => pr f n * f n
theorem pr_s (f : Nat → Nat) (n : Nat) : pr f (n + 1) = pr f n * f n := rfl
theorem pr_e {f g : Nat → Nat} : ∀ n, (∀ i, i < n → f i = g i) → pr f n = pr g n
  | 0, _ => rfl
  | n + 1, h => by rw [pr_s, pr_s, h n (Nat.lt_succ_self n), pr_e n (fun i hi => h i (by omega))]
theorem pr_split (f : Nat → Nat) (r : Nat) : ∀ n, r < n → ∃ P, ∀ g : Nat → Nat, (∀ i, ¬ i = r → g i = f i) → pr g n = P * g r
  | 0, h => absurd h (Nat.not_lt_zero r)
  | n + 1, h => by
    by_cases e : n = r
    · refine ⟨pr f n, fun g hg => ?_⟩
      rw [pr_s, pr_e n (fun i hi => hg i (by omega)), e]
    · obtain ⟨P, hP⟩ := pr_split f r n (by omega)
      refine ⟨P * f n, fun g hg => ?_⟩
      rw [pr_s, hP g hg, hg n e]
      ac_rfl
theorem pr_le {f : Nat → Nat} {b : Nat} : ∀ n, (∀ i, i < n → f i ≤ b) → pr f n ≤ b ^ n
  | 0, _ => Nat.le_refl 1
  | n + 1, h => by
    rw [pr_s, Nat.pow_succ]
    exact Nat.mul_le_mul (pr_le n (fun i hi => h i (by omega))) (h n (Nat.lt_succ_self n))
theorem pr_pos {f : Nat → Nat} : ∀ n, (∀ i, i < n → 0 < f i) → 0 < pr f n
  | 0, _ => Nat.one_pos
  | n + 1, h => Nat.mul_pos (pr_pos n (fun i hi => h i (by omega))) (h n (Nat.lt_succ_self n))
theorem frac_eq {P Q X B : Nat} (h : P * B = X * Q) (hQ : 0 < Q) (hB : 0 < B) : P / Nat.gcd P Q = X / Nat.gcd X B ∧ Q / Nat.gcd P Q = B / Nat.gcd X B := by
  have g1 : 0 < Nat.gcd P Q := Nat.gcd_pos_of_pos_right P hQ
  have g2 : 0 < Nat.gcd X B := Nat.gcd_pos_of_pos_right X hB
  have c1 := Nat.coprime_div_gcd_div_gcd g1
  have c2 := Nat.coprime_div_gcd_div_gcd g2
  have e1 := Nat.div_mul_cancel (Nat.gcd_dvd_left P Q)
  have e2 := Nat.div_mul_cancel (Nat.gcd_dvd_right P Q)
  have e3 := Nat.div_mul_cancel (Nat.gcd_dvd_left X B)
  have e4 := Nat.div_mul_cancel (Nat.gcd_dvd_right X B)
  generalize P / Nat.gcd P Q = p at *
  generalize Q / Nat.gcd P Q = q at *
  generalize X / Nat.gcd X B = x at *
  generalize B / Nat.gcd X B = b at *
  generalize Nat.gcd P Q = g at *
  generalize Nat.gcd X B = d at *
  have key : p * b = x * q := by
    have : (g * d) * (p * b) = (g * d) * (x * q) := by
      calc (g * d) * (p * b) = (p * g) * (b * d) := by ac_rfl
        _ = P * B := by rw [e1, e4]
        _ = X * Q := h
        _ = (x * d) * (q * g) := by rw [e3, e2]
        _ = (g * d) * (x * q) := by ac_rfl
    exact Nat.eq_of_mul_eq_mul_left (Nat.mul_pos g1 g2) this
  have qb : q ∣ b := (c1.symm).dvd_of_dvd_mul_left (by rw [key]; exact Nat.dvd_mul_left q x)
  have bq : b ∣ q := (c2.symm).dvd_of_dvd_mul_left (by rw [← key]; exact Nat.dvd_mul_left b p)
  have eb : q = b := Nat.dvd_antisymm qb bq
  refine ⟨?_, eb⟩
  have bp : 0 < b := by
    apply Nat.pos_of_ne_zero
    intro z
    rw [z] at e4
    omega
  rw [eb] at key
  exact Nat.eq_of_mul_eq_mul_right bp key
theorem ceil_u {X B c : Nat} (hB : 0 < B) (h1 : X ≤ c * B) (h2 : c * B < X + B) : (X + B - 1) / B = c := by
  apply Nat.div_eq_of_lt_le
  · omega
  · rw [Nat.succ_mul]; omega
theorem ceil_b {X B : Nat} (hB : 0 < B) : X ≤ (X + B - 1) / B * B ∧ (X + B - 1) / B * B < X + B := by
  have h1 := Nat.div_mul_le_self (X + B - 1) B
  have h2 := Nat.lt_mul_div_succ (X + B - 1) hB
  rw [Nat.mul_add, Nat.mul_one, Nat.mul_comm B] at h2
  omega
theorem ceil_eq {X B Y b : Nat} (hB : 0 < B) (hb : 0 < b) (h : X * b = Y * B) : (Y + b - 1) / b = (X + B - 1) / B := by
  obtain ⟨a1, a2⟩ := ceil_b (X := X) hB
  generalize (X + B - 1) / B = c at *
  refine ceil_u hb ?_ ?_
  · have : Y * B ≤ (c * b) * B := by
      calc Y * B = X * b := h.symm
        _ ≤ (c * B) * b := Nat.mul_le_mul_right b a1
        _ = (c * b) * B := by ac_rfl
    exact Nat.le_of_mul_le_mul_right this hB
  · have : (c * b) * B < (Y + b) * B := by
      calc (c * b) * B = (c * B) * b := by ac_rfl
        _ < (X + B) * b := Nat.mul_lt_mul_of_pos_right a2 hb
        _ = X * b + B * b := Nat.add_mul _ _ _
        _ = (Y + b) * B := by rw [h, Nat.add_mul, Nat.mul_comm B b]
    exact Nat.lt_of_mul_lt_mul_right this
/-! The amounts: tp i over B is the rate of item i. -/
def gF (R : Nat → Row) (dn : Nat → Bool) (r : Nat) : Nat := if dn r = true then 1 else rn (R r) 1
def fF (R : Nat → Row) (dn : Nat → Bool) (r : Nat) : Nat := if dn r = true then 8 else rn (R r) 1
def rnsN (R : Nat → Row) (tp : Nat → Nat) (r : Nat) : Nat := tp (rn (R r) 0) / rn (R r) 1
def tp1 (R : Nat → Row) (tp : Nat → Nat) (r : Nat) : Nat → Nat := upN tp (rn (R r) 4) (tp (rn (R r) 4) + rnsN R tp r * rn (R r) 5)
def tpN (R : Nat → Row) (tp : Nat → Nat) (r : Nat) : Nat → Nat := upN (tp1 R tp r) (rn (R r) 6) (tp1 R tp r (rn (R r) 6) + rnsN R tp r * rn (R r) 7)
def mcN (R : Nat → Row) (tp : Nat → Nat) (B r : Nat) : Nat := (rnsN R tp r * rn (R r) 2 + B - 1) / B
def INV (R : Nat → Row) (k : Nat) (dn : Nat → Bool) (tp : Nat → Nat) (B n : Nat) : Prop := ∀ i, pr (gF R dn) k ∣ tp i ∧ tp i ≤ 60 * pr (fF R dn) k ∧ tp i ≤ 60 * 5 ^ n * B
section NM
variable {R : Nat → Row} {k r n B : Nat} {dn : Nat → Bool} {tp : Nat → Nat}
theorem gF_up (hd : dn r = false) : gF R dn r = rn (R r) 1 ∧ gF R (upb dn r) r = 1 ∧ ∀ i, ¬ i = r → gF R (upb dn r) i = gF R dn i := by
  refine ⟨by unfold gF; rw [hd]; rfl, by unfold gF upb; rw [if_pos rfl]; rfl, fun i hi => by unfold gF upb; rw [if_neg hi]⟩
theorem fF_up (hd : dn r = false) : fF R dn r = rn (R r) 1 ∧ fF R (upb dn r) r = 8 ∧ ∀ i, ¬ i = r → fF R (upb dn r) i = fF R dn i := by
  refine ⟨by unfold fF; rw [hd]; rfl, by unfold fF upb; rw [if_pos rfl]; rfl, fun i hi => by unfold fF upb; rw [if_neg hi]⟩
theorem mk_dvd (hr : r < k) (hd : dn r = false) (inv : INV R k dn tp B n) (i : Nat) : rn (R r) 1 ∣ tp i := by
  obtain ⟨P, hP⟩ := pr_split (gF R dn) r k hr
  have e := hP (gF R dn) (fun _ _ => rfl)
  rw [(gF_up hd).1] at e
  refine Nat.dvd_trans ?_ (inv i).1
  rw [e]
  exact Nat.dvd_mul_left _ P
theorem tpN_le (gb : GB k R) (hr : r < k) (i : Nat) : ∃ c, tpN R tp r i = tp i + rnsN R tp r * c ∧ c ≤ 4 := by
  obtain ⟨-, -, -, -, -, -, -, -, -, -, -, c1, -, c2, -, -, ne, -, -⟩ := gb r hr
  unfold tpN tp1 upN
  by_cases e : i = rn (R r) 6
  · rw [if_pos e, if_neg (fun q => ne q.symm), e]
    exact ⟨_, rfl, c2⟩
  · rw [if_neg e]
    by_cases e2 : i = rn (R r) 4
    · rw [if_pos e2, e2]
      exact ⟨_, rfl, c1⟩
    · rw [if_neg e2]
      exact ⟨0, by rw [Nat.mul_zero, Nat.add_zero], by decide⟩
theorem INV_step (gb : GB k R) (hr : r < k) (hd : dn r = false) (inv : INV R k dn tp B n) : INV R k (upb dn r) (tpN R tp r) B (n + 1) := by
  obtain ⟨-, -, -, m1, m4, -⟩ := gb r hr
  obtain ⟨G, hG⟩ := pr_split (gF R dn) r k hr
  obtain ⟨F, hF⟩ := pr_split (fF R dn) r k hr
  have g0 := hG (gF R dn) (fun _ _ => rfl)
  have g1 := hG (gF R (upb dn r)) (gF_up hd).2.2
  have f0 := hF (fF R dn) (fun _ _ => rfl)
  have f1 := hF (fF R (upb dn r)) (fF_up hd).2.2
  rw [(gF_up hd).1] at g0
  rw [(gF_up hd).2.1, Nat.mul_one] at g1
  rw [(fF_up hd).1] at f0
  rw [(fF_up hd).2.1] at f1
  obtain ⟨d1, d2, d3⟩ := inv (rn (R r) 0)
  have dv := mk_dvd hr hd inv (rn (R r) 0)
  have xm : rnsN R tp r * rn (R r) 1 = tp (rn (R r) 0) := Nat.div_mul_cancel dv
  have gx : G ∣ rnsN R tp r := by
    rw [g0, ← xm] at d1
    exact Nat.dvd_of_mul_dvd_mul_right (by omega) d1
  have xF : rnsN R tp r ≤ 60 * F := by
    rw [f0, ← xm, ← Nat.mul_assoc] at d2
    exact Nat.le_of_mul_le_mul_right d2 (by omega)
  have xB : rnsN R tp r ≤ 60 * 5 ^ n * B := Nat.le_trans (Nat.div_le_self _ _) d3
  intro i
  obtain ⟨c, ec, hc⟩ := tpN_le (tp := tp) gb hr i
  obtain ⟨i1, i2, i3⟩ := inv i
  have x4 : rnsN R tp r * c ≤ rnsN R tp r * 4 := Nat.mul_le_mul_left _ hc
  rw [ec, g1, f1]
  refine ⟨?_, ?_, ?_⟩
  · refine Nat.dvd_add ?_ (Nat.dvd_mul_right_of_dvd gx c)
    rw [g0] at i1
    exact Nat.dvd_trans (Nat.dvd_mul_right G _) i1
  · rw [f0] at i2
    have : 60 * (F * rn (R r) 1) ≤ 60 * (F * 4) := Nat.mul_le_mul_left _ (Nat.mul_le_mul_left _ m4)
    omega
  · rw [Nat.pow_succ]
    have : 60 * (5 ^ n * 5) * B = 5 * (60 * 5 ^ n * B) := by ac_rfl
    omega
theorem mcN_le (gb : GB k R) (hr : r < k) (hB : 0 < B) (inv : INV R k dn tp B n) : mcN R tp B r ≤ 3600 * 5 ^ n + 1 := by
  obtain ⟨-, -, -, m1, m4, t1, t2, -⟩ := gb r hr
  obtain ⟨-, -, d3⟩ := inv (rn (R r) 0)
  have x3 : rnsN R tp r ≤ 60 * 5 ^ n * B := Nat.le_trans (Nat.div_le_self _ _) d3
  have x4 : rnsN R tp r * rn (R r) 2 ≤ 60 * 5 ^ n * B * 60 := Nat.mul_le_mul x3 t2
  have e : 60 * 5 ^ n * B * 60 = 3600 * 5 ^ n * B := by
    calc 60 * 5 ^ n * B * 60 = (60 * 60) * 5 ^ n * B := by ac_rfl
      _ = 3600 * 5 ^ n * B := rfl
  obtain ⟨a1, a2⟩ := ceil_b (X := rnsN R tp r * rn (R r) 2) hB
  unfold mcN
  generalize (rnsN R tp r * rn (R r) 2 + B - 1) / B = c at *
  have : c * B < (3600 * 5 ^ n + 1) * B := by rw [Nat.add_mul, Nat.one_mul]; omega
  exact Nat.le_of_lt (Nat.lt_of_mul_lt_mul_right this)
theorem fF_le (gb : GB k R) (hk : k ≤ 8) : pr (fF R dn) k ≤ 16777216 := by
  have h1 : pr (fF R dn) k ≤ 8 ^ k := pr_le k (fun i hi => by
    obtain ⟨-, -, -, m1, m4, -⟩ := gb i hi
    unfold fF
    split <;> omega)
  have h2 : 8 ^ k ≤ 8 ^ 8 := Nat.pow_le_pow_right (by decide) hk
  exact Nat.le_trans h1 h2
theorem INV_lt (gb : GB k R) (hk : k ≤ 8) (inv : INV R k dn tp B n) (i : Nat) : tp i < 2 ^ 30 := by
  have h1 := (inv i).2.1
  have h2 := fF_le (dn := dn) gb hk
  omega
theorem tp1_lt (gb : GB k R) (hk : k ≤ 8) (hr : r < k) (inv : INV R k dn tp B n) (i : Nat) : tp1 R tp r i < 2 ^ 33 := by
  obtain ⟨-, -, -, m1, -, -, -, -, -, -, -, c1, -⟩ := gb r hr
  have h1 := INV_lt gb hk inv i
  have h2 := INV_lt gb hk inv (rn (R r) 0)
  have h5 := INV_lt gb hk inv (rn (R r) 4)
  have h3 : rnsN R tp r ≤ tp (rn (R r) 0) := Nat.div_le_self _ _
  have h4 : rnsN R tp r * rn (R r) 5 ≤ rnsN R tp r * 4 := Nat.mul_le_mul_left _ c1
  unfold tp1 upN
  split <;> omega
end NM
