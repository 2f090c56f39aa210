/-! Pieces: take, partsIn. -/
def cntN (f : Nat → Int32) : Nat → Nat
  | 0 => 0
  | n + 1 => if f n = 0 then cntN f n else cntN f n + 1
theorem cntN_s (f : Nat → Int32) (n : Nat) : cntN f (n + 1) = if f n = 0 then cntN f n else cntN f n + 1 := rfl
theorem cntN_le (f : Nat → Int32) : ∀ n, cntN f n ≤ n
  | 0 => Nat.le_refl _
  | n + 1 => by
    rw [cntN_s]
    have := cntN_le f n
    split <;> omega
theorem cntN_mono (f : Nat → Int32) : ∀ m n, cntN f n ≤ cntN f (n + m)
  | 0, n => Nat.le_refl _
  | m + 1, n => by
    have := cntN_mono f m n
    have e : cntN f (n + (m + 1)) = if f (n + m) = 0 then cntN f (n + m) else cntN f (n + m) + 1 := cntN_s f (n + m)
    rw [e]
    split <;> omega
theorem cntN_lt {f : Nat → Int32} {i n : Nat} (hi : i < n) (hz : ¬ f i = 0) : cntN f i < cntN f n := by
  have h1 := cntN_mono f (n - (i + 1)) (i + 1)
  rw [show i + 1 + (n - (i + 1)) = n by omega, cntN_s, if_neg hz] at h1
  omega
theorem cntN_e {f g : Nat → Int32} : ∀ n, (∀ i, i < n → f i = g i) → cntN f n = cntN g n
  | 0, _ => rfl
  | n + 1, e => by rw [cntN_s, cntN_s, e n (Nat.lt_succ_self n), cntN_e n (fun i hi => e i (by omega))]
theorem pcN_c (h : Hp) (s : Nat) : ∀ n, pcN h s n = cntN (pcK h s) n
  | 0 => rfl
  | n + 1 => by
    rw [cntN_s, ← pcN_c h s n]
    rfl
section PC
variable {L : Nat} {xs : Nat → Int32} {h : Hp} {k c s b p o : Nat} {x y z u : Int32}
theorem c44 (hw : HW h) (hb : SB b) (ho : PT o) (n : ∀ j, 3 ≤ j → j ≤ 9 → ¬ o = b + j) (hp : p < 144) (ep : gI h (b + 3) 8 = nI p) : ∃ h', Sp L xs 44 [.ref (b + 3), .ref o, .int y, .int z] h none h' ∧ IE h h' ∧ SX h h' (fun a => b + 3 ≤ a ∧ a ≤ b + 9) ∧ gI h' (b + 3) = up (gI h (b + 3)) 8 (nI (p + 1)) ∧ gI h' (b + 4) = up (gI h (b + 4)) p y ∧ gI h' (b + 5) = up (gI h (b + 5)) p z ∧ gI h' (b + 6) = up (gI h (b + 6)) p (gI h o 0) ∧ gI h' (b + 7) = up (gI h (b + 7)) p (gI h o 1) ∧ gI h' (b + 8) = up (gI h (b + 8)) p (gI h o 2) ∧ gI h' (b + 9) = up (gI h (b + 9)) p (gI h o 3) := by
  have n4 := n 4 (by decide) (by decide)
  have n5 := n 5 (by decide) (by decide)
  have n6 := n 6 (by decide) (by decide)
  have n7 := n 7 (by decide) (by decide)
  have n8 := n 8 (by decide) (by decide)
  have n9 := n 9 (by decide) (by decide)
  refine ⟨_, sp_eq (v44 hw hb ho ⟨p, ep, hp, p, ?_, hp, p, ?_, hp, p, ?_, hp, p, ?_, hp, p, ?_, hp, rfl, rfl⟩), IE_s (IE_s (IE_s (IE_s (IE_s (IE_s (IE_s (IE_r h))))))), fun a ha => ?_, ?_, ?_, ?_, ?_, ?_, ?_, ?_⟩
  · simp [gI_sI, ep]
  · simp [gI_sI, ep]
  · simp [gI_sI, ep]
  · simp [gI_sI, ep]
  · simp [gI_sI, ep]
  · rw [gIo (by omega), gIo (by omega), gIo (by omega), gIo (by omega), gIo (by omega), gIo (by omega), gIo (by omega)]
  · funext j; simp [gI_sI, up_a, ep, ← nI_1]
  · funext j; simp [gI_sI, up_a]
  · funext j; simp [gI_sI, up_a]
  · funext j; simp [gI_sI, up_a, n4, n5]
  · funext j; simp [gI_sI, up_a, n4, n5, n6]
  · funext j; simp [gI_sI, up_a, n4, n5, n6, n7]
  · funext j; simp [gI_sI, up_a, n4, n5, n6, n7, n8]
/-- the cell under place i of a piece of width w laid at c -/
def clP (c w i : Nat) : Nat := c + 12 * (i / w) + i % w
/-- the first i places of the piece read -/
def TK (h0 h : Hp) (b c w g i : Nat) : Prop := IE h0 h ∧ SX h0 h (fun a => b + 3 ≤ a ∧ a ≤ b + 9) ∧ gI h (b + 3) 6 = nI w ∧ gI h (b + 3) 7 = nI g ∧ gI h (b + 3) 8 = nI (cntN (fun j => gI h0 (10 + clP c w j) 0) i) ∧ ∀ j, j < i → ¬ gI h0 (10 + clP c w j) 0 = 0 → gI h (b + 4) (cntN (fun j => gI h0 (10 + clP c w j) 0) j) = nI (j % w) ∧ gI h (b + 5) (cntN (fun j => gI h0 (10 + clP c w j) 0) j) = nI (j / w) ∧ gI h (b + 6) (cntN (fun j => gI h0 (10 + clP c w j) 0) j) = gI h0 (10 + clP c w j) 0 ∧ gI h (b + 7) (cntN (fun j => gI h0 (10 + clP c w j) 0) j) = gI h0 (10 + clP c w j) 1 ∧ gI h (b + 8) (cntN (fun j => gI h0 (10 + clP c w j) 0) j) = gI h0 (10 + clP c w j) 2 ∧ gI h (b + 9) (cntN (fun j => gI h0 (10 + clP c w j) 0) j) = gI h0 (10 + clP c w j) 3
theorem TK_skip {h0 : Hp} {w g i : Nat} (t : TK h0 h b c w g i) (z : gI h0 (10 + clP c w i) 0 = 0) : TK h0 h b c w g (i + 1) := by
  obtain ⟨t1, t2, t3, t4, t5, t6⟩ := t
  refine ⟨t1, t2, t3, t4, ?_, fun j hj hz => ?_⟩
  · rw [cntN_s, if_pos (show (fun j => gI h0 (10 + clP c w j) 0) i = 0 from z)]; exact t5
  · by_cases e : j = i
    · rw [e] at hz; exact absurd z hz
    · exact t6 j (by omega) hz
theorem TK_add {h0 : Hp} {w g i : Nat} (hw : HW h0) (hb : SB b) (hc : clP c w i < 144) (hi : i < 144) (t : TK h0 h b c w g i) (z : ¬ gI h0 (10 + clP c w i) 0 = 0) : ∃ h', Sp L xs 44 [.ref (b + 3), .ref (10 + clP c w i), .int (nI (i % w)), .int (nI (i / w))] h none h' ∧ TK h0 h' b c w g (i + 1) := by
  obtain ⟨t1, t2, t3, t4, t5, t6⟩ := t
  obtain ⟨s, hs, hbs⟩ := id hb
  have le := cntN_le (fun j => gI h0 (10 + clP c w j) 0) i
  obtain ⟨h', s1, s2, s3, a3, a4, a5, a6, a7, a8, a9⟩ := c44 (L := L) (xs := xs) (y := nI (i % w)) (z := nI (i / w)) (IE_w t1 hw) hb (PT_4 hc) (fun j _ _ => by omega) (by omega) t5
  have eo : gI h (10 + clP c w i) = gI h0 (10 + clP c w i) := t2 _ (by omega)
  refine ⟨h', s1, IE_t t1 s2, SX_t t2 s3, ?_, ?_, ?_, fun j hj hz => ?_⟩
  · rw [a3, up_o (by decide)]; exact t3
  · rw [a3, up_o (by decide)]; exact t4
  · rw [a3, up_s, cntN_s, if_neg (show ¬ (fun j => gI h0 (10 + clP c w j) 0) i = 0 from z)]
  · by_cases e : j = i
    · subst e
      rw [a4, a5, a6, a7, a8, a9, up_s, up_s, up_s, up_s, up_s, up_s, eo]
      exact ⟨rfl, rfl, rfl, rfl, rfl, rfl⟩
    · have ne := Nat.ne_of_lt (cntN_lt (f := fun j => gI h0 (10 + clP c w j) 0) (show j < i by omega) hz)
      rw [a4, a5, a6, a7, a8, a9, up_o ne, up_o ne, up_o ne, up_o ne, up_o ne, up_o ne]
      exact t6 j (by omega) hz
theorem c43r {h0 : Hp} (hw : HW h0) (hb : SB b) {w g r : Nat} (hw1 : 1 ≤ w) (hc : ∀ i, i < w * g → clP c w i < 144) (hwg : w * g ≤ 144) (hr : r < g) {Q : Option Value → Hp → Prop} (K : ∀ h z7, TK h0 h b c w g (r * w + w) → WP L xs 43 19 [some (.ref (b + 3)), some (.ref 4), some (.int (nI c)), some (.int (nI w)), some (.int (nI g)), some (.int (nI (r + 1))), some (.int (nI w)), z7] [] h Q) : ∀ (m q : Nat) (h : Hp) (z7 : Option Value), q + m = w → TK h0 h b c w g (r * w + q) → WP L xs 43 29 [some (.ref (b + 3)), some (.ref 4), some (.int (nI c)), some (.int (nI w)), some (.int (nI g)), some (.int (nI r)), some (.int (nI q)), z7] [] h Q
  | 0, q, h, z7, hq, t => by
    obtain rfl : q = w := by omega
    have q144 : q ≤ 144 := Nat.le_trans (Nat.le_mul_of_pos_right q (by omega)) hwg
    refine v43_29 (IE_w t.1 hw) hb ⟨fun _ => ?_, fun y => absurd (nI_le (Nat.le_refl _) (by omega)) y⟩
    rw [nI_1]
    exact K h z7 t
  | m + 1, q, h, z7, hq, t => by
    have w144 : w ≤ 144 := Nat.le_trans (Nat.le_mul_of_pos_right w (by omega)) hwg
    have lt : r * w + q < w * g := by
      have : (r + 1) * w ≤ g * w := Nat.mul_le_mul_right w (by omega)
      rw [Nat.mul_comm w g]
      rw [Nat.add_mul] at this
      omega
    have dv : (r * w + q) / w = r := by
      rw [Nat.mul_comm, Nat.mul_add_div (by omega), Nat.div_eq_of_lt (by omega), Nat.add_zero]
    have md : (r * w + q) % w = q := by
      rw [Nat.mul_comm, Nat.mul_add_mod, Nat.mod_eq_of_lt (by omega)]
    have hcc := hc _ lt
    have ec : c + 12 * r + q = clP c w (r * w + q) := by unfold clP; rw [dv, md]
    have ix : nI c + 12 * nI r + nI q = nI (clP c w (r * w + q)) := by
      show nI c + nI 12 * nI r + nI q = _
      rw [pk_mul, nI_add, nI_add, ec]
    have eo : gI h (10 + clP c w (r * w + q)) = gI h0 (10 + clP c w (r * w + q)) := by
      obtain ⟨s, hs, rfl⟩ := hb
      exact t.2.1 _ (by omega)
    refine v43_29 (IE_w t.1 hw) hb ⟨fun y => absurd y (nI_ge (show q < w by omega) (by omega)), fun _ => ⟨_, ix, hcc, fun z => ?_, fun z => ?_⟩⟩
    · rw [eo] at z
      rw [nI_1]
      exact c43r hw hb hw1 hc hwg hr K m (q + 1) h _ (by omega) (TK_skip t z)
    · rw [eo] at z
      obtain ⟨h', s1, t'⟩ := TK_add (L := L) (xs := xs) hw hb hcc (by omega) t z
      rw [dv, md] at s1
      refine ⟨h', s1, ?_⟩
      rw [nI_1]
      exact c43r hw hb hw1 hc hwg hr K m (q + 1) h' _ (by omega) t'
theorem c43l {h0 : Hp} (hw : HW h0) (hb : SB b) {w g : Nat} (hw1 : 1 ≤ w) (hc : ∀ i, i < w * g → clP c w i < 144) (hwg : w * g ≤ 144) : ∀ (m r : Nat) (h : Hp) (z6 z7 : Option Value), r + m = g → TK h0 h b c w g (r * w) → WP L xs 43 19 [some (.ref (b + 3)), some (.ref 4), some (.int (nI c)), some (.int (nI w)), some (.int (nI g)), some (.int (nI r)), z6, z7] [] h (fun r h' => r = none ∧ TK h0 h' b c w g (w * g))
  | 0, r, h, z6, z7, hr, t => by
    obtain rfl : r = g := by omega
    have r144 : r ≤ 144 := Nat.le_trans (Nat.le_mul_of_pos_left r hw1) hwg
    rw [Nat.mul_comm] at t
    exact v43_19 (IE_w t.1 hw) hb ⟨fun _ => ⟨rfl, t⟩, fun y => absurd (nI_le (Nat.le_refl _) (by omega)) y⟩
  | m + 1, r, h, z6, z7, hr, t => by
    have g144 : g ≤ 144 := Nat.le_trans (Nat.le_mul_of_pos_left g hw1) hwg
    refine v43_19 (IE_w t.1 hw) hb ⟨fun y => absurd y (nI_ge (show r < g by omega) (by omega)), fun _ => ?_⟩
    refine c43r hw hb hw1 hc hwg (show r < g by omega) (fun h' z7 t' => ?_) w 0 h z7 (by omega) t
    refine c43l hw hb hw1 hc hwg m (r + 1) h' _ _ (by omega) ?_
    rw [Nat.add_mul, Nat.one_mul]
    exact t'
end PC
