/-! When a sequence comes again. -/
def ShE (E : Nat → Nat → Prop) : Prop := (∀ i, E i i) ∧ (∀ i j, E i j → E j i) ∧ (∀ i j l, E i j → E j l → E i l) ∧ (∀ i j, E i j → E (i + 1) (j + 1))
def Cyc (E : Nat → Nat → Prop) (mu la : Nat) : Prop := 1 ≤ la ∧ E mu (mu + la) ∧ ∀ i j, i < j → j < mu + la → ¬ E i j
section CY
variable {E : Nat → Nat → Prop} {mu la : Nat}
theorem ShE_n (h : ShE E) {i j : Nat} (e : E i j) : ∀ n, E (i + n) (j + n)
  | 0 => e
  | n + 1 => h.2.2.2 _ _ (ShE_n h e n)
/-- behind mu, la steps bring the same -/
theorem Cyc_la (h : ShE E) (c : Cyc E mu la) {n : Nat} (hn : mu ≤ n) : E n (n + la) := by
  have := ShE_n h c.2.1 (n - mu)
  rw [show mu + (n - mu) = n by omega, show mu + la + (n - mu) = n + la by omega] at this
  exact this
theorem Cyc_m (h : ShE E) (c : Cyc E mu la) {n : Nat} (hn : mu ≤ n) : ∀ m, E n (n + m * la)
  | 0 => by rw [Nat.zero_mul]; exact h.1 _
  | m + 1 => by
    have h1 := Cyc_m h c hn m
    have h2 := Cyc_la h c (n := n + m * la) (by omega)
    have := h.2.2.1 _ _ _ h1 h2
    rw [show n + m * la + la = n + (m + 1) * la by rw [Nat.succ_mul]; omega] at this
    exact this
/-- the place below mu + la that is the same as n -/
theorem Cyc_norm (h : ShE E) (c : Cyc E mu la) {n : Nat} (hn : mu ≤ n) : E (mu + (n - mu) % la) n := by
  have := Cyc_m h c (n := mu + (n - mu) % la) (by omega) ((n - mu) / la)
  have e : mu + (n - mu) % la + (n - mu) / la * la = n := by
    have := Nat.mod_add_div (n - mu) la
    rw [Nat.mul_comm] at this
    omega
  rw [e] at this
  exact this
theorem Cyc_lt (h : ShE E) (c : Cyc E mu la) {i j : Nat} (hij : i < j) (e : E i j) : mu ≤ i ∧ (j - i) % la = 0 := by
  have hl := c.1
  have no : ∀ a b, a < mu + la → b < mu + la → E a b → a = b := by
    intro a b ha hb eab
    rcases Nat.lt_trichotomy a b with q | q | q
    · exact absurd eab (c.2.2 a b q hb)
    · exact q
    · exact absurd (h.2.1 _ _ eab) (c.2.2 b a q ha)
  have hm : ∀ x, x % la < la := fun x => Nat.mod_lt _ hl
  have hi : mu ≤ i := by
    apply Decidable.byContradiction
    intro q
    by_cases hj : mu ≤ j
    · have e1 := h.2.2.1 _ _ _ e (h.2.1 _ _ (Cyc_norm h c hj))
      have := no i _ (by omega) (by have := hm (j - mu); omega) e1
      omega
    · have := no i j (by omega) (by omega) e
      omega
  refine ⟨hi, ?_⟩
  have e1 := h.2.2.1 _ _ _ (Cyc_norm h c hi) (h.2.2.1 _ _ _ e (h.2.1 _ _ (Cyc_norm h c (show mu ≤ j by omega))))
  have e2 := no _ _ (by have := hm (i - mu); omega) (by have := hm (j - mu); omega) e1
  have e3 : (i - mu) % la = (j - mu) % la := by omega
  have d1 := Nat.mod_add_div (i - mu) la
  have d2 := Nat.mod_add_div (j - mu) la
  have : j - i = la * ((j - mu) / la - (i - mu) / la) := by
    rw [Nat.mul_sub]
    omega
  rw [this]
  exact Nat.mul_mod_right _ _
theorem Cyc_uni (h : ShE E) {mu' la' : Nat} (c : Cyc E mu la) (c' : Cyc E mu' la') : mu = mu' ∧ la = la' := by
  have a := Cyc_lt h c (show mu' < mu' + la' by have := c'.1; omega) c'.2.1
  have b := Cyc_lt h c' (show mu < mu + la by have := c.1; omega) c.2.1
  have e : mu = mu' := by omega
  refine ⟨e, ?_⟩
  rw [show mu' + la' - mu' = la' by omega] at a
  rw [show mu + la - mu = la by omega] at b
  have l1 := c.1
  have l2 := c'.1
  have := Nat.le_of_dvd (by omega) (Nat.dvd_of_mod_eq_zero a.2)
  have := Nat.le_of_dvd (by omega) (Nat.dvd_of_mod_eq_zero b.2)
  omega
/-- the first time that something comes again -/
theorem Cyc_of {t k : Nat} (hk : k < t) (e : E k t) (hmin : ∀ i j, i < j → j < t → ¬ E i j) : Cyc E k (t - k) := by
  refine ⟨by omega, by rw [show k + (t - k) = t by omega]; exact e, fun i j hij hj => hmin i j hij (by omega)⟩
/-- what comes again once has a first time -/
theorem Cyc_ex : ∀ (t : Nat), (∃ i j, i < j ∧ j ≤ t ∧ E i j) → ∃ mu la, Cyc E mu la ∧ mu + la ≤ t
  | 0, h => by obtain ⟨i, j, h1, h2, -⟩ := h; omega
  | t + 1, h => by
    by_cases q : ∃ i j, i < j ∧ j ≤ t ∧ E i j
    · obtain ⟨mu, la, c, h1⟩ := Cyc_ex t q
      exact ⟨mu, la, c, by omega⟩
    · obtain ⟨i, j, h1, h2, h3⟩ := h
      have hj : j = t + 1 := by
        apply Decidable.byContradiction
        intro z
        exact q ⟨i, j, h1, by omega, h3⟩
      subst hj
      exact ⟨i, t + 1 - i, Cyc_of h1 h3 (fun a b hab hb e => q ⟨a, b, hab, by omega, e⟩), by omega⟩
/-- Brent: what the anchor finds is the length -/
theorem Brent_f (h : ShE E) {a i : Nat} (hi : 1 ≤ i) (e : E a (a + i)) (hno : ∀ i', 1 ≤ i' → i' < i → ¬ E a (a + i')) : ∃ mu, Cyc E mu i := by
  obtain ⟨mu, la, c, -⟩ := Cyc_ex (a + i) ⟨a, a + i, by omega, Nat.le_refl _, e⟩
  have q := Cyc_lt h c (show a < a + i by omega) e
  rw [show a + i - a = i by omega] at q
  have l1 := c.1
  have := Nat.le_of_dvd (by omega) (Nat.dvd_of_mod_eq_zero q.2)
  have : la = i := by
    apply Decidable.byContradiction
    intro z
    exact hno la l1 (by omega) (Cyc_la h c q.1)
  exact ⟨mu, this ▸ c⟩
/-- Brent: when it finds nothing for so long, nothing comes again early -/
theorem Brent_n (h : ShE E) {lim a p len : Nat} (hs : a + len = 4 * lim) (hl : len ≤ a + 1) (ha : a = 2 * p + 1) (hp : ∀ i, 1 ≤ i → i ≤ p + 1 → ¬ E p (p + i)) : ∀ mu la, Cyc E mu la → lim < mu + la := by
  intro mu la c
  apply Decidable.byContradiction
  intro z
  have l1 := c.1
  exact hp la l1 (by omega) (Cyc_la h c (by omega))
end CY
/-! The states of a table's steps. -/
def EQS (A B : Nat → Row) : Prop := ∀ c, c < 144 → ∀ j, 5 ≤ j → j < 14 → A c j = B c j
section EQ
variable {R T : Nat → Row} {k : Nat}
theorem itT_st (R T : Nat → Row) (n c : Nat) : itT R T n c 0 = T c 0 ∧ itT R T n c 2 = T c 2 ∧ itT R T n c 1 = T c 1 ∧ itT R T n c 3 = T c 3 := by
  induction n with
  | zero => exact ⟨rfl, rfl, rfl, rfl⟩
  | succ n ih =>
    have h := mv_0 (R := R) (T := prT R (itT R T n)) 144 144 c
    have p : ∀ x : Row, prp R x 1 = x 1 ∧ prp R x 3 = x 3 := by
      intro x
      have b : ∀ (r x : Row), begW r x 1 = x 1 ∧ begW r x 3 = x 3 := fun r x => ⟨begW_o (by decide), begW_o (by decide)⟩
      unfold prp
      split
      · split
        · unfold prpS
          split <;> simp [up_a]
        · exact ⟨rfl, rfl⟩
      · split
        · exact ⟨prpM_o (by decide), prpM_o (by decide)⟩
        · exact ⟨rfl, rfl⟩
    have q := prp_0 R (itT R T n c)
    refine ⟨h.1.trans (q.1.trans ih.1), h.2.1.trans (q.2.trans ih.2.1), h.2.2.1.trans ((p _).1.trans ih.2.2.1), h.2.2.2.trans ((p _).2.trans ih.2.2.2)⟩
theorem EQS_RE {m n : Nat} (e : EQS (itT R T m) (itT R T n)) {c : Nat} (hc : c < 144) : RE (offs (itT R T m c) (itT R T n c)) (itT R T m c) (itT R T n c) := by
  have h1 := itT_st R T m c
  have h2 := itT_st R T n c
  refine RE_off (h1.1.trans h2.1.symm) (fun _ j hj h4 => ?_)
  by_cases h5 : 5 ≤ j
  · exact e c hc j h5 hj
  · rcases (show j = 0 ∨ j = 1 ∨ j = 2 ∨ j = 3 by omega) with rfl | rfl | rfl | rfl
    · exact h1.1.trans h2.1.symm
    · exact h1.2.2.1.trans h2.2.2.1.symm
    · exact h1.2.1.trans h2.2.1.symm
    · exact h1.2.2.2.trans h2.2.2.2.symm
theorem EQS_ShE (hB : GB k R) (hk : k < 9) (hG : ∀ c, c < 144 → GR k R (T c)) : ShE (fun i j => EQS (itT R T i) (itT R T j)) := by
  refine ⟨fun i c _ j _ _ => rfl, fun i j e c hc a h5 h14 => (e c hc a h5 h14).symm, fun i j l e1 e2 c hc a h5 h14 => (e1 c hc a h5 h14).trans (e2 c hc a h5 h14), fun i j e c hc a h5 h14 => ?_⟩
  have te : TE k (fun c => offs (itT R T i c) (itT R T j c)) (itT R T i) (itT R T j) := fun c hc => ⟨EQS_RE e hc, GR_AK (itT_G hB hk hG i c hc)⟩
  have t2 := stp_e (RR_r k R) hk te (fun c hc => GR_PG hB hk (GR_prp hB hk (itT_G hB hk hG i c hc)))
  by_cases z : stp R (itT R T i) c 0 = 0
  · have g1 := itT_G hB hk hG (i + 1) c hc
    have g2 := itT_G hB hk hG (j + 1) c hc
    have z2 : itT R T (j + 1) c 0 = 0 := (t2 c hc).1.1.symm.trans z
    show itT R T (i + 1) c a = itT R T (j + 1) c a
    rw [g1.2.1 z a (by omega) (by omega), g2.2.1 z2 a (by omega) (by omega)]
  · exact ((t2 c hc).1.2 z).1 a h14 (by omega)
end EQ
