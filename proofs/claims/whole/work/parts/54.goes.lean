/-! The reference measures the turn. -/
def mvd (R A : Nat → Row) : Nat → Bool
  | 0 => false
  | n + 1 => mvd R A n || anw R (prT R (itT R A n)) 144
section GE
variable {L : Nat} {xs : Nat → Int32} {h : Hp} {k : Nat} {R A T : Nat → Row}
theorem anw_iff (R T : Nat → Row) : ∀ n, anw R T n = true ↔ ∃ t v, t < n ∧ win R T 144 t = some v
  | 0 => ⟨fun h => (by cases h), fun ⟨t, v, h, _⟩ => by omega⟩
  | n + 1 => by
    show (anw R T n || (win R T 144 n).isSome) = true ↔ _
    rw [Bool.or_eq_true, anw_iff R T n]
    constructor
    · rintro (⟨t, v, h1, h2⟩ | h)
      · exact ⟨t, v, by omega, h2⟩
      · cases hv : win R T 144 n with
        | none => rw [hv] at h; cases h
        | some v => exact ⟨n, v, by omega, hv⟩
    · rintro ⟨t, v, h1, h2⟩
      by_cases e : t = n
      · subst e; right; rw [h2]; rfl
      · left; exact ⟨t, v, by omega, h2⟩
/-- a step's givers -/
theorem stp_15i {c : Nat} (hc : c < 144) : (∀ t v, t < 144 → win R (prT R T) 144 t = some v → ¬ v.1 = c) → stp R T c 15 = T c 15 := by
  intro no
  have hg : mvG R (prT R T) 144 c = prT R T c := by
    cases hb : bd R (prT R T) c with
    | none => unfold mvG; rw [hb]
    | some b =>
      have : mvG R (prT R T) 144 c = if b.1 < 144 ∧ win R (prT R T) 144 b.1 = some (c, b.2) then giv (prT R T c) (nI ((b.2.1 + 2) % 4)) else prT R T c := by unfold mvG; rw [hb]
      rw [this, if_neg]
      rintro ⟨h1, h2⟩
      exact no b.1 _ h1 h2 rfl
  show mv R (prT R T) 144 144 c 15 = _
  have e : prT R T c 15 = T c 15 := prp_15 R (T c)
  cases hv : win R (prT R T) 144 c with
  | none =>
    have : mv R (prT R T) 144 144 c = mvG R (prT R T) 144 c := by unfold mv; rw [if_pos hc, hv]
    rw [this, hg, e]
  | some v =>
    have : mv R (prT R T) 144 144 c = rcv R (mvG R (prT R T) 144 c) (ofd R (prT R T v.1)) (nI v.2.1) := by unfold mv; rw [if_pos hc, hv]
    rw [this, rcv_o (by decide), hg, e]
theorem stp_15g {t : Nat} {v : Nat × Nat × Nat} (ht : t < 144) (hv : win R (prT R T) 144 t = some v) : stp R T v.1 15 = T v.1 15 + 1 := by
  obtain ⟨v1, v2⟩ := win_s _ _ _ hv
  have e : prT R T v.1 15 = T v.1 15 := prp_15 R (T v.1)
  have hg : mvG R (prT R T) 144 v.1 15 = T v.1 15 + 1 := by
    have : mvG R (prT R T) 144 v.1 = giv (prT R T v.1) (nI ((v.2.1 + 2) % 4)) := by
      unfold mvG
      rw [v2]
      show (if t < 144 ∧ win R (prT R T) 144 t = some (v.1, v.2) then _ else _) = _
      rw [if_pos ⟨ht, hv⟩]
    rw [this]
    unfold giv
    rw [up_s, e]
  show mv R (prT R T) 144 144 v.1 15 = _
  cases hz : win R (prT R T) 144 v.1 with
  | none =>
    have : mv R (prT R T) 144 144 v.1 = mvG R (prT R T) 144 v.1 := by unfold mv; rw [if_pos v1, hz]
    rw [this, hg]
  | some z =>
    have : mv R (prT R T) 144 144 v.1 = rcv R (mvG R (prT R T) 144 v.1) (ofd R (prT R T z.1)) (nI z.2.1) := by unfold mv; rw [if_pos v1, hz]
    rw [this, rcv_o (by decide), hg]
theorem anyG_iff (B : Nat → Row) : ∀ n, anyG B n = true ↔ ∃ c, c < n ∧ ¬ B c 15 = 0
  | 0 => ⟨fun h => (by cases h), fun ⟨c, h, _⟩ => by omega⟩
  | n + 1 => by
    rw [anyG_s, Bool.or_eq_true, anyG_iff B n]
    constructor
    · rintro (⟨c, h1, h2⟩ | h)
      · exact ⟨c, by omega, h2⟩
      · refine ⟨n, by omega, fun z => ?_⟩
        rw [decide_eq_true z] at h
        cases h
    · rintro ⟨c, h1, h2⟩
      by_cases e : c = n
      · subst e; right; rw [decide_eq_false h2]; rfl
      · left; exact ⟨c, by omega, h2⟩
theorem mvd_anyG (hA : ∀ c, A c 15 = 0) : ∀ n, n < 2000 → mvd R A n = anyG (itT R A n) 144
  | 0, _ => by
    have : ¬ anyG (itT R A 0) 144 = true := by
      rw [anyG_iff]
      rintro ⟨c, -, h⟩
      exact h (hA c)
    show false = _
    cases h : anyG (itT R A 0) 144 with
    | false => rfl
    | true => exact absurd h this
  | n + 1, hn => by
    have ih := mvd_anyG hA n (by omega)
    have key : mvd R A (n + 1) = true ↔ anyG (itT R A (n + 1)) 144 = true := by
      show (mvd R A n || anw R (prT R (itT R A n)) 144) = true ↔ _
      rw [Bool.or_eq_true, ih, anyG_iff, anyG_iff, anw_iff]
      constructor
      · rintro (⟨c, h1, h2⟩ | ⟨t, v, h1, h2⟩)
        · refine ⟨c, h1, fun z => ?_⟩
          obtain ⟨g, g1, g2⟩ := cnt15 (R := R) hA n c
          have z : stp R (itT R A n) c 15 = 0 := z
          rcases stp_15 R (itT R A n) c with e | e
          · exact h2 (e ▸ z)
          · rw [e, g2, nI_1] at z
            exact nI_ne0 (by omega) (by omega) z
        · obtain ⟨v1, -⟩ := win_s _ _ _ h2
          refine ⟨v.1, v1, fun z => ?_⟩
          obtain ⟨g, g1, g2⟩ := cnt15 (R := R) hA n v.1
          have z : stp R (itT R A n) v.1 15 = 0 := z
          rw [stp_15g h1 h2, g2, nI_1] at z
          exact nI_ne0 (by omega) (by omega) z
      · rintro ⟨c, h1, h2⟩
        apply Classical.byContradiction
        intro q
        apply h2
        show stp R (itT R A n) c 15 = 0
        rw [stp_15i h1 (fun t v ht hv _ => q (Or.inr ⟨t, v, ht, hv⟩))]
        apply Decidable.byContradiction
        intro z
        exact q (Or.inl ⟨c, h1, z⟩)
    cases a : mvd R A (n + 1) <;> cases b : anyG (itT R A (n + 1)) 144
    · rfl
    · rw [a, b] at key; exact absurd (key.mpr rfl) (by decide)
    · rw [a, b] at key; exact absurd (key.mp rfl) (by decide)
    · rfl
theorem ix7 (c : Nat) : 144 + nI c = nI (144 + c) := by
  show nI 144 + nI c = _
  rw [nI_add]
theorem ix8 (c j : Nat) : 5 * nI c + nI j = nI (5 * c + j) := by
  show nI 5 * nI c + nI j = _
  rw [pk_mul, nI_add]
/-- the machine's numbers as the reference has them -/
theorem PJ_m (p : PJ k R A h 1) (hr : RR k R (MRc h)) (hk : k < 9) {c : Nat} (hc : c < 144) (k6 : A c 0 = 6) : ∃ a, a < 8 ∧ gI h 407 c = nI a ∧ gI h 404 a = rc R (A c) 3 ∧ gI h 399 a = rc R (A c) 1 := by
  obtain ⟨p1, p2, p3, p4⟩ := p c hc
  obtain ⟨a, ha, ea, -⟩ := p1.2.2.2.2.2.2.2.2.2.2 k6
  have e2 : gI h 407 c = A c 2 := (p3 (by rw [k6]; decide) 2 (by decide) (by decide)).symm
  have er : rc R (A c) = R a := by unfold rc; rw [ea, nI_c (by omega)]
  exact ⟨a, by omega, e2.trans ea, by rw [er]; exact (hr a ha 3 (by decide)).symm, by rw [er]; exact (hr a ha 1 (by decide)).symm⟩
theorem c171l (hw : HW h) (p : PJ k R A h 1) (hr : RR k R (MRc h)) (hk : k < 9) : ∀ (m n : Nat), n + m = 144 → WP L xs 171 4 [some (.ref 397), some (.int (powS R A n)), some (.int (nI n))] [] h (fun r h' => r = some (.int (powS R A 144)) ∧ h' = h)
  | 0, n, hn => by
    obtain rfl : n = 144 := by omega
    exact v171_4 hw ⟨fun _ => ⟨rfl, rfl⟩, fun q => absurd (nI_le (Nat.le_refl _) (by decide)) q⟩
  | m + 1, n, hn => by
    have hn4 : n < 144 := by omega
    obtain ⟨p1, p2, p3, p4⟩ := p n hn4
    have ih := c171l hw p hr hk m (n + 1) (by omega)
    refine v171_4 hw ⟨fun q => absurd q (nI_ge hn4 (by decide)), fun _ => ⟨n, rfl, hn4, fun q => ⟨_, ix7 n, by omega, fun q2 => ?_, fun q2 => ?_⟩, fun q => ?_⟩⟩
    · have k6 : A n 0 = 6 := p2.trans q
      have e11 : A n 11 = gI h 416 (144 + n) := p3 (by rw [k6]; decide) 11 (by decide) (by decide)
      have wk : wkC (A n) = false := by unfold wkC; rw [decide_eq_true (e11.trans q2)]; simp
      rw [powS_s, if_neg (by rw [wk]; decide)] at ih
      rw [Int32.add_zero, nI_1]
      exact ih
    · have k6 : A n 0 = 6 := p2.trans q
      have e11 : A n 11 = gI h 416 (144 + n) := p3 (by rw [k6]; decide) 11 (by decide) (by decide)
      have wk : wkC (A n) = true := by unfold wkC; rw [decide_eq_true k6, decide_eq_false (fun z => q2 (e11.symm.trans z))]; rfl
      obtain ⟨a, ha, e2, e4, -⟩ := PJ_m p hr hk hn4 k6
      rw [powS_s, if_pos wk] at ih
      refine ⟨a, e2, ha, ?_⟩
      rw [e4, nI_1]
      exact ih
    · have k6 : ¬ A n 0 = 6 := fun z => q (p2.symm.trans z)
      have wk : wkC (A n) = false := by unfold wkC; rw [decide_eq_false k6]; rfl
      rw [powS_s, if_neg (by rw [wk]; decide)] at ih
      rw [Int32.add_zero, nI_1]
      exact ih
theorem c171 (hw : HW h) (p : PJ k R A h 1) (hr : RR k R (MRc h)) (hk : k < 9) : Sp L xs 171 [.ref 397] h (some (.int (powS R A 144))) h := sp_eq (v171 hw (c171l hw p hr hk 144 0 rfl))
theorem ofd_z (hB : GB k R) (hk : k < 9) {x : Row} (g : GR k R x) : ofd R x = 0 ↔ (if x 0 = 6 then x 9 ≤ 0 else x 5 = 0) := by
  by_cases k6 : x 0 = 6
  · rw [ofd_6 k6, if_pos k6]
    obtain ⟨a, ha, ea, -⟩ := g.2.2.2.2.2.2.2.2.2.2 k6
    have er : rc R x = R a := by unfold rc; rw [ea, nI_c (by omega)]
    obtain ⟨hr, b1, b2, -⟩ := hB a ha
    by_cases z : x 9 ≤ 0
    · rw [if_pos z]; simp [z]
    · rw [if_neg z, er, hr 0 (by decide)]
      exact ⟨fun e => absurd e (nI_ne0 (by omega) (by omega)), fun e => absurd e z⟩
  · rw [ofd_n k6, if_neg k6]
/-- the cells' entries: n ticks done, the first m cells of the next one too -/
def CTn (h : Hp) (R A : Nat → Row) (n m : Nat) : Prop := ∀ c, c < 144 → ¬ A c 0 = 0 → gI h 435 (5 * c + 3) = b2i (stkB R A c (if c < m then n + 1 else n)) ∧ gI h 435 (5 * c + 4) = b2i (strB R A c (if c < m then n + 1 else n))
/-- only array 435 has changed -/
def O5 (h h' : Hp) : Prop := IE h h' ∧ SX h h' (fun a => a = 435)
theorem O5_s {h h' : Hp} {i : Nat} {v : Int32} (o : O5 h h') : O5 h (sI h' 435 i v) := ⟨IE_s o.1, fun a ha => by rw [gIo ha]; exact o.2 a ha⟩
theorem strB_n6 {c : Nat} (h6 : ¬ A c 0 = 6) : ∀ n, strB R A c n = false
  | 0 => decide_eq_false h6
  | n + 1 => by
    show (strB R A c n && _) = false
    rw [strB_n6 h6 n]
    rfl
theorem c172c {t : Nat} (hB : GB k R) (hk : k < 9) (h0 : Hp) (hw0 : HW h0) (hr : RR k R (MRc h0)) (p : PJ k R (itT R A (t + 1)) h0 1) {l1 l2 l4 : Int32} {z5 : Option Value} (hz5 : x_wide (some z5) = false) {Q : Option Value → Hp → Prop} (K : ∀ (h : Hp) (z6 z7 z8 : Option Value), O5 h0 h → CTn h R A (t + 1) 0 → WP L xs 172 90 [some (.ref 397), some (.int l1), some (.int l2), some (.int (b2i (wrk R A (t + 1)))), some (.int (l4 + 1)), z5, z6, z7, z8] [] h Q) : ∀ (m n : Nat) (h : Hp) (z7 z8 : Option Value), n + m = 144 → O5 h0 h → CTn h R A t n → WP L xs 172 123 [some (.ref 397), some (.int l1), some (.int l2), some (.int (b2i (wrk R A t || anyW (itT R A (t + 1)) n))), some (.int l4), z5, some (.int (nI n)), z7, z8] [] h Q
  | 0, n, h, z7, z8, hn, o, ct => by
    obtain rfl : n = 144 := by omega
    refine v172_123 (IE_w o.1 hw0) hz5 ⟨fun _ => K h _ _ _ o (fun c hc q => ?_), fun q => absurd (nI_le (Nat.le_refl _) (by decide)) q⟩
    have := ct c hc q
    rw [if_pos hc] at this
    rw [if_neg (Nat.not_lt_zero _)]
    exact this
  | m + 1, n, h, z7, z8, hn, o, ct => by
    have hn4 : n < 144 := by omega
    have hw := IE_w o.1 hw0
    obtain ⟨p1, p2, p3, p4⟩ := p n hn4
    have ob : ∀ a, ¬ a = 435 → gI h a = gI h0 a := o.2
    have ek := itT_st R A (t + 1) n
    have oz := ofd_z hB hk p1
    have i3 : (5 * nI n) + 3 = nI (5 * n + 3) := ix8 n 3
    have i4 : (5 * nI n) + 4 = nI (5 * n + 4) := ix8 n 4
    have k0 : gI h 405 n = itT R A (t + 1) n 0 := by rw [ob 405 (by decide)]; exact p2.symm
    have go : ∀ (F : Bool) (h' : Hp) (z7 z8 : Option Value), F = (wrk R A t || anyW (itT R A (t + 1)) (n + 1)) → O5 h0 h' → (∀ i, ¬ i = 5 * n + 3 → ¬ i = 5 * n + 4 → gI h' 435 i = gI h 435 i) → (¬ A n 0 = 0 → gI h' 435 (5 * n + 3) = b2i (stkB R A n (t + 1)) ∧ gI h' 435 (5 * n + 4) = b2i (strB R A n (t + 1))) → WP L xs 172 123 [some (.ref 397), some (.int l1), some (.int l2), some (.int (b2i F)), some (.int l4), z5, some (.int (nI n + 1)), z7, z8] [] h' Q := by
      intro F h' z7 z8 eF o' oth new
      subst eF
      rw [nI_1]
      refine c172c hB hk h0 hw0 hr p hz5 K m (n + 1) h' z7 z8 (by omega) o' (fun c hc q => ?_)
      by_cases e : c = n
      · subst e
        rw [if_pos (Nat.lt_succ_self _)]
        exact new q
      · rw [oth _ (by omega) (by omega), oth _ (by omega) (by omega)]
        have := ct c hc q
        have l : (c < n + 1) = (c < n) := propext (by omega)
        simp only [l]
        exact this
    have cn := fun (q : ¬ A n 0 = 0) => by
      have := ct n hn4 q
      rw [if_neg (Nat.lt_irrefl _)] at this
      exact this
    have sk : stkB R A n (t + 1) = (stkB R A n t && !decide (ofd R (itT R A (t + 1) n) = 0)) := rfl
    have sr : strB R A n (t + 1) = (strB R A n t && !bzC R (itT R A (t + 1) n)) := rfl
    have aw := anyW_s (itT R A (t + 1)) n
    refine v172_123 hw hz5 ⟨fun q => absurd q (nI_ge hn4 (by decide)), fun _ => ⟨n, rfl, hn4, fun q => ⟨_, ix7 n, by omega, ?_⟩, fun q => ⟨_, ix7 n, by omega, ?_⟩⟩⟩
    · -- a machine
      have k6 : itT R A (t + 1) n 0 = 6 := k0.symm.trans q
      have nz : ¬ itT R A (t + 1) n 0 = 0 := by rw [k6]; decide
      have nzA : ¬ A n 0 = 0 := by rw [← ek.1]; exact nz
      obtain ⟨a, ha, e2, e4, e1⟩ := PJ_m p hr hk hn4 k6
      rw [← ob 407 (by decide)] at e2
      rw [← ob 399 (by decide)] at e1
      have e9 : gI h 414 (144 + n) = itT R A (t + 1) n 9 := by rw [ob 414 (by decide)]; exact (p3 nz 9 (by decide) (by decide)).symm
      have e11 : gI h 416 (144 + n) = itT R A (t + 1) n 11 := by rw [ob 416 (by decide)]; exact (p3 nz 11 (by decide) (by decide)).symm
      rw [if_pos k6] at oz
      rw [e9, e11, e2]
      obtain ⟨c3, c4⟩ := cn nzA
      have wk : wkC (itT R A (t + 1) n) = !decide (itT R A (t + 1) n 11 = 0) := by unfold wkC; rw [decide_eq_true k6, Bool.true_and]
      have bz : bzC R (itT R A (t + 1) n) = (!decide (itT R A (t + 1) n 11 = 0) || !decide (itT R A (t + 1) n 9 ≤ rc R (itT R A (t + 1) n) 1)) := by unfold bzC; rw [decide_eq_true k6, Bool.true_and]
      -- what follows the entry 3, with its value
      have rest : ∀ (v3 : Int32) (Z : Option Value), v3 = b2i (stkB R A n (t + 1)) → (((b2i (wrk R A t || anyW (itT R A (t + 1)) n)) = 0) → ((((itT R A (t + 1) n 11) = 0) → (∃ k130 : Nat, nI a = nI k130 ∧ k130 < 8 ∧ (((itT R A (t + 1) n 9) ≤ (gI h 399 k130)) → (∃ k135 : Nat, ((5 * nI n) + 4) = nI k135 ∧ k135 < 720 ∧ WP L xs 172 123 [some (.ref 397), some (.int l1), some (.int l2), some (.int (b2i (if (itT R A (t + 1) n 11) = 0 then (false) else (true)))), some (.int l4), z5, some (.int (nI n + 1)), some (.int (144 + nI n)), Z] [] (sI (sI h 435 (5 * n + 3) v3) 435 k135 (gI (sI h 435 (5 * n + 3) v3) 435 k135)) Q)) ∧ (¬ ((itT R A (t + 1) n 9) ≤ (gI h 399 k130)) → (∃ k140 : Nat, ((5 * nI n) + 4) = nI k140 ∧ k140 < 720 ∧ WP L xs 172 123 [some (.ref 397), some (.int l1), some (.int l2), some (.int (b2i (if (itT R A (t + 1) n 11) = 0 then (false) else (true)))), some (.int l4), z5, some (.int (nI n + 1)), some (.int (144 + nI n)), Z] [] (sI (sI h 435 (5 * n + 3) v3) 435 k140 0) Q)))) ∧ (¬ ((itT R A (t + 1) n 11) = 0) → (∃ k125 : Nat, ((5 * nI n) + 4) = nI k125 ∧ k125 < 720 ∧ WP L xs 172 123 [some (.ref 397), some (.int l1), some (.int l2), some (.int (b2i (if (itT R A (t + 1) n 11) = 0 then (false) else (true)))), some (.int l4), z5, some (.int (nI n + 1)), some (.int (144 + nI n)), Z] [] (sI (sI h 435 (5 * n + 3) v3) 435 k125 0) Q)))) ∧ (¬ ((b2i (wrk R A t || anyW (itT R A (t + 1)) n)) = 0) → ((((itT R A (t + 1) n 11) = 0) → (∃ k104 : Nat, nI a = nI k104 ∧ k104 < 8 ∧ (((itT R A (t + 1) n 9) ≤ (gI h 399 k104)) → (∃ k109 : Nat, ((5 * nI n) + 4) = nI k109 ∧ k109 < 720 ∧ WP L xs 172 123 [some (.ref 397), some (.int l1), some (.int l2), some (.int 1), some (.int l4), z5, some (.int (nI n + 1)), some (.int (144 + nI n)), Z] [] (sI (sI h 435 (5 * n + 3) v3) 435 k109 (gI (sI h 435 (5 * n + 3) v3) 435 k109)) Q)) ∧ (¬ ((itT R A (t + 1) n 9) ≤ (gI h 399 k104)) → (∃ k114 : Nat, ((5 * nI n) + 4) = nI k114 ∧ k114 < 720 ∧ WP L xs 172 123 [some (.ref 397), some (.int l1), some (.int l2), some (.int 1), some (.int l4), z5, some (.int (nI n + 1)), some (.int (144 + nI n)), Z] [] (sI (sI h 435 (5 * n + 3) v3) 435 k114 0) Q)))) ∧ (¬ ((itT R A (t + 1) n 11) = 0) → (∃ k99 : Nat, ((5 * nI n) + 4) = nI k99 ∧ k99 < 720 ∧ WP L xs 172 123 [some (.ref 397), some (.int l1), some (.int l2), some (.int 1), some (.int l4), z5, some (.int (nI n + 1)), some (.int (144 + nI n)), Z] [] (sI (sI h 435 (5 * n + 3) v3) 435 k99 0) Q)))) := by
        intro v3 Z ev3
        have fin : ∀ (F : Bool) (v4 : Int32), F = (wrk R A t || anyW (itT R A (t + 1)) (n + 1)) → v4 = b2i (strB R A n (t + 1)) → WP L xs 172 123 [some (.ref 397), some (.int l1), some (.int l2), some (.int (b2i F)), some (.int l4), z5, some (.int (nI n + 1)), some (.int (144 + nI n)), Z] [] (sI (sI h 435 (5 * n + 3) v3) 435 (5 * n + 4) v4) Q := by
          intro F v4 eF e4
          refine go F _ _ _ eF (O5_s (O5_s o)) (fun i h3 h4 => ?_) (fun _ => ⟨?_, ?_⟩)
          · rw [gIs, up_o h4, gIs, up_o h3]
          · rw [gIs, up_o (by omega), gIs, up_s, ev3]
          · rw [gIs, up_s, e4]
        have keep : gI (sI h 435 (5 * n + 3) v3) 435 (5 * n + 4) = b2i (strB R A n t) := by
          rw [gIs, up_o (by omega), c4]
        refine ⟨fun f0 => ⟨fun w0 => ⟨a, rfl, ha, fun l0 => ⟨_, i4, by omega, ?_⟩, fun l0 => ⟨_, i4, by omega, ?_⟩⟩, fun w0 => ⟨_, i4, by omega, ?_⟩⟩, fun f0 => ⟨fun w0 => ⟨a, rfl, ha, fun l0 => ⟨_, i4, by omega, ?_⟩, fun l0 => ⟨_, i4, by omega, ?_⟩⟩, fun w0 => ⟨_, i4, by omega, ?_⟩⟩⟩
        · rw [b2i_0] at f0
          rw [e1] at l0
          rw [keep]
          refine fin _ _ ?_ ?_
          · rw [if_pos w0, aw, ← Bool.or_assoc, f0, wk, decide_eq_true w0]; rfl
          · rw [sr, bz, decide_eq_true w0, decide_eq_true l0]; simp
        · rw [b2i_0] at f0
          rw [e1] at l0
          refine fin _ _ ?_ ?_
          · rw [if_pos w0, aw, ← Bool.or_assoc, f0, wk, decide_eq_true w0]; rfl
          · rw [sr, bz, decide_eq_true w0, decide_eq_false l0]; simp [b2i]
        · rw [b2i_0] at f0
          refine fin _ _ ?_ ?_
          · rw [if_neg w0, aw, ← Bool.or_assoc, f0, wk, decide_eq_false w0]; rfl
          · rw [sr, bz, decide_eq_false w0]; simp [b2i]
        · rw [b2i_n] at f0
          rw [e1] at l0
          rw [keep]
          refine fin true _ ?_ ?_
          · rw [aw, ← Bool.or_assoc, f0]; rfl
          · rw [sr, bz, decide_eq_true w0, decide_eq_true l0]; simp
        · rw [b2i_n] at f0
          rw [e1] at l0
          refine fin true _ ?_ ?_
          · rw [aw, ← Bool.or_assoc, f0]; rfl
          · rw [sr, bz, decide_eq_true w0, decide_eq_false l0]; simp [b2i]
        · rw [b2i_n] at f0
          refine fin true _ ?_ ?_
          · rw [aw, ← Bool.or_assoc, f0]; rfl
          · rw [sr, bz, decide_eq_false w0]; simp [b2i]
      refine ⟨fun z => ⟨_, i3, by omega, ?_⟩, fun z => ⟨_, i3, by omega, ?_⟩⟩
      · have z9 : ¬ itT R A (t + 1) n 9 ≤ 0 := by
          intro y
          rw [if_pos y] at z
          cases z
        exact rest _ _ (by rw [c3, sk, decide_eq_false (fun y => z9 (oz.mp y))]; simp)
      · have z9 : itT R A (t + 1) n 9 ≤ 0 := by
          apply Decidable.byContradiction
          intro y
          rw [if_neg y] at z
          exact z rfl
        exact rest 0 _ (by rw [sk, decide_eq_true (oz.mpr z9)]; simp [b2i])
    · -- none
      have k6 : ¬ itT R A (t + 1) n 0 = 6 := fun z => q (k0.trans z)
      have k6A : ¬ A n 0 = 6 := by rw [← ek.1]; exact k6
      rw [if_neg k6] at oz
      have wk : wkC (itT R A (t + 1) n) = false := by unfold wkC; rw [decide_eq_false k6]; rfl
      have eF : (wrk R A t || anyW (itT R A (t + 1)) n) = (wrk R A t || anyW (itT R A (t + 1)) (n + 1)) := by rw [aw, wk, Bool.or_false]
      have e5 : ¬ A n 0 = 0 → gI h 412 (144 + n) = itT R A (t + 1) n 5 := fun nz => by
        rw [ob 412 (by decide)]
        exact (p3 (by rw [ek.1]; exact nz) 5 (by decide) (by decide)).symm
      refine ⟨fun z => ⟨_, i3, by omega, go _ _ _ _ eF (O5_s o) (fun i h3 h4 => ?_) (fun nz => ⟨?_, ?_⟩)⟩, fun z => ⟨_, i3, by omega, go _ _ _ _ eF (O5_s o) (fun i h3 h4 => ?_) (fun nz => ⟨?_, ?_⟩)⟩⟩
      · rw [gIs, up_o h3]
      · have z5 : ¬ itT R A (t + 1) n 5 = 0 := by
          intro y
          rw [if_pos ((e5 nz).trans y)] at z
          cases z
        rw [gIs, up_s, (cn nz).1, sk, decide_eq_false (fun y => z5 (oz.mp y))]
        simp
      · rw [gIs, up_o (by omega), (cn nz).2, strB_n6 k6A, strB_n6 k6A]
      · rw [gIs, up_o h3]
      · have z5 : itT R A (t + 1) n 5 = 0 := by
          apply Decidable.byContradiction
          intro y
          rw [if_neg (fun w => y ((e5 nz).symm.trans w))] at z
          exact z rfl
        rw [gIs, up_s, sk, decide_eq_true (oz.mpr z5)]
        simp [b2i]
      · rw [gIs, up_o (by omega), (cn nz).2, strB_n6 k6A, strB_n6 k6A]
end GE
