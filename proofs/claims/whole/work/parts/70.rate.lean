/-! The call rate. -/
theorem lN_ti {n : Nat} (h : n < 2 ^ 63) : (lN n).toInt = n := Int64.toInt_ofNat_of_lt h
theorem lN_div {a b : Nat} (ha : a < 2 ^ 63) (hb : b < 2 ^ 63) : lN a / lN b = lN (a / b) := by
  apply Int64.toInt_inj.mp
  have := Nat.div_le_self a b
  rw [Int64.toInt_div, lN_ti ha, lN_ti hb, lN_ti (by omega), ← Int.ofNat_tdiv]
  generalize a / b = q at *
  exact Int.bmod_eq_of_le (by omega) (by omega)
theorem lN_mod {a b : Nat} (ha : a < 2 ^ 63) (hb : b < 2 ^ 63) : lN a - lN a / lN b * lN b = lN (a % b) := by
  rw [lN_div ha hb, lN_mul]
  have e : lN a = lN (a % b) + lN (a / b * b) := by
    rw [lN_add]
    congr 1
    rw [Nat.mul_comm]
    exact (Nat.mod_add_div a b).symm
  rw [e, Int64.add_sub_cancel]
theorem lN_0 {b : Nat} (hb : b < 2 ^ 63) : lN b = 0 ↔ b = 0 := by
  constructor
  · intro q
    have := congrArg Int64.toInt q
    rw [lN_ti hb] at this
    have h0 : (0 : Int64).toInt = 0 := by decide
    omega
  · intro q
    rw [q]; rfl
theorem mod_half {a b : Nat} (hr : 0 < a) (h : a ≤ b) : 2 * (b % a) < b ∨ b = 0 := by
  left
  have h1 := Nat.mod_lt b hr
  have h2 := Nat.mod_add_div b a
  have h3 : 1 ≤ b / a := Nat.div_pos h hr
  have h4 : a * 1 ≤ a * (b / a) := Nat.mul_le_mul_left a h3
  omega
section RA
variable {L : Nat} {xs : Nat → Int32} {h : Hp} {k : Nat} {x : Int32}
theorem c61l (hw : HW h) {z0 z1 z2 z3 z4 : Option Value} (hz : x_wide (some z4) = false) : ∀ (n a b i : Nat) (z10 z11 : Option Value), b < 2 ^ n → a < 2 ^ 63 → b < 2 ^ 63 → i + 2 * n + 1 ≤ 200 → WP L xs 61 9 [z0, z1, z2, z3, z4, some (.long (lN a)), none, some (.long (lN b)), none, some (.int (nI i)), z10, z11] [] h (fun r h' => r = some (.long (lN (Nat.gcd a b))) ∧ h' = h) := by
  intro n
  have stop : ∀ (a i : Nat) (z10 z11 : Option Value), i < 200 → WP L xs 61 9 [z0, z1, z2, z3, z4, some (.long (lN a)), none, some (.long (lN 0)), none, some (.int (nI i)), z10, z11] [] h (fun r h' => r = some (.long (lN (Nat.gcd a 0))) ∧ h' = h) := fun a i z10 z11 hi => by
    refine v61_9 hw hz ⟨fun q => absurd q (nI_ge hi (by decide)), fun _ => ⟨fun _ => ⟨by rw [Nat.gcd_zero_right], rfl⟩, fun q => absurd ((lN_e (by decide) (by decide)).mpr rfl) q⟩⟩
  induction n with
  | zero =>
    intro a b i z10 z11 hb ha hb3 hi
    obtain rfl : b = 0 := by omega
    exact stop a i z10 z11 (by omega)
  | succ n ih =>
    intro a b i z10 z11 hb ha hb3 hi
    by_cases b0 : b = 0
    · subst b0
      exact stop a i z10 z11 (by omega)
    · have nb : ¬ lN b = 0 := fun q => b0 ((lN_0 hb3).mp q)
      have nc : ¬ lg_cmp (lN b) 0 = 0 := fun q => b0 ((lN_e hb3 (by decide)).mp q)
      refine v61_9 hw hz ⟨fun q => absurd q (nI_ge (show i < 200 by omega) (by decide)), fun _ => ⟨fun q => absurd q nc, fun _ => ⟨nb, ?_⟩⟩⟩
      have hr : a % b < b := Nat.mod_lt a (by omega)
      rw [lN_mod ha hb3, nI_1, Nat.gcd_comm, Nat.gcd_rec, Nat.gcd_comm]
      by_cases r0 : a % b = 0
      · rw [r0]
        exact stop b (i + 1) _ _ (by omega)
      · have nr : ¬ lN (a % b) = 0 := fun q => r0 ((lN_0 (by omega)).mp q)
        have nd : ¬ lg_cmp (lN (a % b)) 0 = 0 := fun q => r0 ((lN_e (by omega) (by decide)).mp q)
        refine v61_9 hw hz ⟨fun q => absurd q (nI_ge (show i + 1 < 200 by omega) (by decide)), fun _ => ⟨fun q => absurd q nd, fun _ => ⟨nr, ?_⟩⟩⟩
        have hm := (mod_half (a := a % b) (b := b) (by omega) (by omega)).resolve_right b0
        have p2 : 2 ^ (n + 1) = 2 * 2 ^ n := by rw [Nat.pow_succ, Nat.mul_comm]
        rw [lN_mod hb3 (by omega), nI_1, Nat.gcd_comm, Nat.gcd_rec, Nat.gcd_comm]
        exact ih (a % b) (b % (a % b)) (i + 1 + 1) _ _ (by omega) (by omega) (by omega) (by omega)
theorem c61 (hw : HW h) {a b : Nat} (ha : a < 2 ^ 62) (hb : b < 2 ^ 62) : Sp L xs 61 [.ref 393, .long (lN a), .long (lN b)] h (some (.long (lN (Nat.gcd a b)))) h :=
  sp_eq (v61 hw (c61l hw rfl 62 a b 0 none none hb (by omega) (by omega) (by decide)))
theorem op_rate {y : Bool} : OPT L xs 105 184 [.ref 0, .int x, .int (b2i y)] [.ref 397, .int x, .int (b2i y)] := by
  intro h k r
  have hw := r.1.1
  obtain ⟨-, bt, b1, b2, e3, tp⟩ := r.2.2.2.2.2
  by_cases hx : x_isItem x = true
  · obtain ⟨i, i1, i2, rfl⟩ := isItem_n hx
    obtain ⟨t, t1, e5, e7, e8⟩ := tp i i2
    have s61 := c61 (L := L) (xs := xs) hw t1 b2
    have gp : 1 ≤ Nat.gcd t bt := Nat.gcd_pos_of_pos_right t (by omega)
    have gl : Nat.gcd t bt ≤ bt := Nat.gcd_le_right t (by omega)
    have ng : (if lN (Nat.gcd t bt) < (1 : Int64) then 1 else lN (Nat.gcd t bt)) = lN (Nat.gcd t bt) := by
      apply if_neg
      intro q
      have := Int64.lt_iff_toInt_lt.mp q
      rw [lN_ti (by omega)] at this
      have h1 : (1 : Int64).toInt = 1 := by decide
      omega
    have nz : ¬ (if lN (Nat.gcd t bt) < (1 : Int64) then 1 else lN (Nat.gcd t bt)) = 0 := by
      rw [ng]
      intro q
      have := (lN_0 (by omega)).mp q
      omega
    refine ⟨if y = true then lN (bt / Nat.gcd t bt) else lN (t / Nat.gcd t bt), sp_eq (v105 hw ⟨fun _ => ⟨_, sp_eq (v60 hw ⟨i, rfl, i2, _, by rw [e5, e3]; exact s61, fun q => ⟨nz, ?_, rfl⟩, fun q => ⟨nz, ?_, rfl⟩⟩), rfl, rfl⟩, fun q => absurd hx q⟩), sp_eq (v184 hw ⟨fun _ => ⟨fun q => ⟨i, rfl, i2, by rw [e8, if_pos q], rfl⟩, fun q => ⟨i, rfl, i2, by rw [e7, if_neg q], rfl⟩⟩, fun q => absurd hx q⟩)⟩
    · rw [ng, e3, lN_div (by omega) (by omega), if_pos q]
    · rw [ng, e5, lN_div (by omega) (by omega), if_neg q]
  · exact ⟨_, sp_eq (v105 hw ⟨fun q => absurd q hx, fun _ => ⟨rfl, rfl⟩⟩), sp_eq (v184 hw ⟨fun q => absurd q hx, fun _ => ⟨rfl, rfl⟩⟩)⟩
end RA
