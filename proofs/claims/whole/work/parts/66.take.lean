/-! The calls take and partsIn. -/
theorem ndv {a b : Nat} (ha : a < 2147483648) (hb : b < 2147483648) : nI a / nI b = nI (a / b) := by
  apply Int32.toInt_inj.mp
  have := Nat.div_le_self a b
  rw [Int32.toInt_div, nI_toInt (by omega), nI_toInt (by omega), nI_toInt (by omega), ← Int.ofNat_tdiv]
  generalize a / b = q at *
  exact Int.bmod_eq_of_le (by omega) (by omega)
theorem nmd {a b : Nat} (ha : a < 2147483648) (hb : b < 2147483648) : nI a - nI a / nI b * nI b = nI (a % b) := by
  rw [ndv ha hb, pk_mul]
  have e : nI a = nI (a % b) + nI (a / b * b) := by
    rw [nI_add]
    congr 1
    rw [Nat.mul_comm]
    exact (Nat.mod_add_div a b).symm
  rw [e, Int32.add_sub_cancel]
theorem c12 : ∀ c, c < 144 → 12 - (nI c - nI c / 12 * 12) = nI (12 - c % 12) ∧ 12 - nI c / 12 = nI (12 - c / 12) := by decide +kernel
theorem clP_lt {c w g i : Nat} (hc : c < 144) (h1 : 1 ≤ w) (hw : w ≤ 12 - c % 12) (hg : g ≤ 12 - c / 12) (hi : i < w * g) : clP c w i < 144 := by
  unfold clP
  have a1 : i / w < g := Nat.div_lt_of_lt_mul hi
  have a2 : i % w < w := Nat.mod_lt _ (by omega)
  omega
section TA
variable {L : Nat} {xs : Nat → Int32} {h : Hp} {k c s b p o : Nat} {x y z u : Int32}
theorem gx (s i t : Nat) : 576 * nI s + 4 * nI i = nI (576 * s + 4 * i) := by
  show nI 576 * nI s + nI 4 * nI i = _
  rw [pk_mul, pk_mul, nI_add]
/-- the reference's grid, read so far -/
def RK (h0 h : Hp) (s c w i : Nat) : Prop := IE h0 h ∧ SX h0 h (fun a => a = 426) ∧ (∀ q, ¬ (576 * s ≤ q ∧ q < 576 * s + 4 * i) → gI h 426 q = gI h0 426 q) ∧ ∀ j, j < i → gI h 426 (576 * s + 4 * j) = gI h0 405 (clP c w j) ∧ gI h 426 (576 * s + 4 * j + 1) = gI h0 406 (clP c w j) ∧ gI h 426 (576 * s + 4 * j + 2) = gI h0 407 (clP c w j) ∧ gI h 426 (576 * s + 4 * j + 3) = gI h0 408 (clP c w j)
theorem c149l (hw : HW h) (hs : s < 8) {w g : Nat} (hwg : w * g ≤ 144) (e4 : gI h 424 s = nI w) (e5 : gI h 425 s = nI g) : ∀ (m i : Nat), i + m = w * g → WP L xs 149 4 [some (.ref 397), some (.int (nI s)), some (.int (nI (pcN h s i))), some (.int (nI i))] [] h (fun r h' => r = some (.int (nI (pcN h s (w * g)))) ∧ h' = h)
  | 0, i, hi => by
    have hi' : i = w * g := by omega
    refine v149_4 hw ⟨s, rfl, hs, ?_⟩
    rw [e4, e5, pk_mul, hi']
    exact ⟨fun _ => ⟨rfl, rfl⟩, fun y => absurd (nI_le (Nat.le_refl _) (by omega)) y⟩
  | m + 1, i, hi => by
    refine v149_4 hw ⟨s, rfl, hs, ?_⟩
    rw [e4, e5, pk_mul]
    refine ⟨fun y => absurd y (nI_ge (show i < w * g by omega) (by omega)), fun _ => ⟨_, gx s i 0, by omega, ?_⟩⟩
    have e : nI (pcN h s i) + b2i (if gI h 426 (576 * s + 4 * i) = 0 then false else true) = nI (pcN h s (i + 1)) := by
      show _ = nI (if pcK h s i = 0 then pcN h s i else pcN h s i + 1)
      by_cases z : gI h 426 (576 * s + 4 * i) = 0
      · rw [if_pos z, if_pos (show pcK h s i = 0 from z)]
        exact Int32.add_zero _
      · rw [if_neg z, if_neg (show ¬ pcK h s i = 0 from z)]
        exact nI_1 _
    rw [e, nI_1]
    exact c149l hw hs hwg e4 e5 m (i + 1) (by omega)
theorem c149 (hw : HW h) (hs : s < 8) {w g : Nat} (hwg : w * g ≤ 144) (e4 : gI h 424 s = nI w) (e5 : gI h 425 s = nI g) : Sp L xs 149 [.ref 397, .int (nI s)] h (some (.int (nI (pcN h s (w * g))))) h :=
  sp_eq (v149 hw (c149l hw hs hwg e4 e5 (w * g) 0 (by omega)))
theorem c148l {h0 : Hp} (hw : HW h0) (hs : s < 8) {w g : Nat} (hw1 : 1 ≤ w) (hw13 : w < 13) (hc : ∀ i, i < w * g → clP c w i < 144) (hwg : w * g ≤ 144) (e4 : gI h0 424 s = nI w) (e5 : gI h0 425 s = nI g) : ∀ (m i : Nat) (h : Hp) (z6 z7 : Option Value), i + m = w * g → RK h0 h s c w i → WP L xs 148 100 [some (.ref 397), some (.int (nI s)), some (.int (nI c)), some (.int (nI w)), some (.int (nI g)), some (.int (nI i)), z6, z7] [] h (fun r h' => r = some (.int (nI (pcN h' s (w * g)))) ∧ RK h0 h' s c w (w * g))
  | 0, i, h, z6, z7, hi, t => by
    have hi' : i = w * g := by omega
    have s1 := c149 (L := L) (xs := xs) (IE_w t.1 hw) hs hwg (by rw [t.2.1 424 (by decide)]; exact e4) (by rw [t.2.1 425 (by decide)]; exact e5)
    refine v148_100 (IE_w t.1 hw) ?_
    rw [pk_mul]
    rw [hi'] at t ⊢
    exact ⟨fun _ => ⟨_, s1, rfl, t⟩, fun y => absurd (nI_le (Nat.le_refl _) (by omega)) y⟩
  | m + 1, i, h, z6, z7, hi, t => by
    have lt : i < w * g := by omega
    refine v148_100 (IE_w t.1 hw) ?_
    rw [pk_mul]
    have w0 : ¬ nI w = 0 := nI_ne0 (by omega) (by omega)
    have ix : nI c + 12 * (nI i / nI w) + (nI i - nI i / nI w * nI w) = nI (clP c w i) := by
      rw [nmd (by omega) (by omega), ndv (by omega) (by omega)]
      show nI c + nI 12 * nI (i / w) + nI (i % w) = _
      rw [pk_mul, nI_add, nI_add]
      rfl
    have g0 := gx s i 0
    refine ⟨fun y => absurd y (nI_ge lt (by omega)), fun _ => ⟨w0, w0, _, ix, hc i lt, _, g0, by omega, _, by rw [g0]; exact nI_1 _, by omega, _, by rw [g0]; exact nI_add _ 2, by omega, _, by rw [g0]; exact nI_add _ 3, by omega, ?_⟩⟩
    rw [nI_1]
    obtain ⟨t1, t2, t3, t4⟩ := t
    refine c148l hw hs hw1 hw13 hc hwg e4 e5 m (i + 1) _ _ _ (by omega) ⟨IE_s (IE_s (IE_s (IE_s t1))), fun a ha => ?_, fun q hq => ?_, fun j hj => ?_⟩
    · rw [gIo ha, gIo ha, gIo ha, gIo ha]; exact t2 a ha
    · rw [gIs, up_o (by omega), gIs, up_o (by omega), gIs, up_o (by omega), gIs, up_o (by omega)]
      exact t3 q (by omega)
    · by_cases e : j = i
      · subst e
        rw [t2 405 (by decide), t2 406 (by decide), t2 407 (by decide), t2 408 (by decide)]
        refine ⟨?_, ?_, ?_, ?_⟩
        · rw [gIs, up_o (by omega), gIs, up_o (by omega), gIs, up_o (by omega), gIs, up_s]
        · rw [gIs, up_o (by omega), gIs, up_o (by omega), gIs, up_s]
        · rw [gIs, up_o (by omega), gIs, up_s]
        · rw [gIs, up_s]
      · have := t4 j (by omega)
        refine ⟨?_, ?_, ?_, ?_⟩
        · rw [gIs, up_o (by omega), gIs, up_o (by omega), gIs, up_o (by omega), gIs, up_o (by omega)]; exact this.1
        · rw [gIs, up_o (by omega), gIs, up_o (by omega), gIs, up_o (by omega), gIs, up_o (by omega)]; exact this.2.1
        · rw [gIs, up_o (by omega), gIs, up_o (by omega), gIs, up_o (by omega), gIs, up_o (by omega)]; exact this.2.2.1
        · rw [gIs, up_o (by omega), gIs, up_o (by omega), gIs, up_o (by omega), gIs, up_o (by omega)]; exact this.2.2.2
/-- a good part may be built again -/
theorem GR_GP {R : Nat → Row} {x : Row} (g : GR k R x) (z : ¬ x 0 = 0) : GP k (x 0) (x 1) (x 2) (x 3) := by
  obtain ⟨⟨d, d1, d2⟩, -, g3, -, -, -, -, g8, -, -, g11⟩ := g
  refine ⟨⟨d, ?_, d1, d2⟩, fun n4 n7 => g3 z n4, fun k5 => ?_, fun k6 => ?_⟩
  · apply Decidable.byContradiction
    intro q
    have : d = 0 := by omega
    rw [this] at d2
    exact z d2
  · obtain ⟨i, p, c, i1, i2, i3, p1, p2, p3, -⟩ := g8 k5
    exact ⟨i, p, i1, i2, i3, by omega, p1, p2⟩
  · obtain ⟨a, ha, e, -⟩ := g11 k6
    exact ⟨a, ha, e⟩
theorem op_take : OPI L xs 94 148 [.ref 0, .int x, .int y, .int z, .int u] [.ref 397, .int x, .int y, .int z, .int u] := by
  intro h k r
  have hw := r.1.1
  have r4 := r.2.2.2.1
  have refuse : ∀ {t : Int32} {n : Nat}, RV t n → (∀ h1, Sp L xs 109 [.ref 0, .int t] h (some (.int t)) h1 → Sp L xs 94 [.ref 0, .int x, .int y, .int z, .int u] h (some (.int t)) h1) → (∀ h1 h2, HW h1 → Sp L xs 124 [.ref 397, .int t] h1 (some (.int t)) h2 → Sp L xs 148 [.ref 397, .int x, .int y, .int z, .int u] h1 (some (.int t)) h2) → ∃ (r : Int32) (h1 h2 : Hp) (k2 : Nat), Sp L xs 94 [.ref 0, .int x, .int y, .int z, .int u] h (some (.int r)) h1 ∧ HW h1 ∧ Sp L xs 148 [.ref 397, .int x, .int y, .int z, .int u] h1 (some (.int r)) h2 ∧ Rel h2 k2 := by
    intro t n rv f1 f2
    obtain ⟨h1, h2, s1, w1, s2, rr, e1, -⟩ := op_ref (L := L) (xs := xs) r rv
    exact ⟨t, h1, h2, k, f1 _ s1, w1, f2 _ _ w1 s2, rr⟩
  by_cases hx : x_isShelf x = true
  · by_cases hy : x_isCell y = true
    · by_cases z0 : z < 0
      · exact refuse rv4 (fun h1 q => sp_eq (v94 hw ⟨fun _ => ⟨fun _ => ⟨fun _ => ⟨_, _, q, rfl, rfl⟩, fun w => absurd z0 w⟩, fun w => absurd hy w⟩, fun w => absurd hx w⟩)) (fun h1 h2 w1 q => sp_eq (v148 w1 ⟨fun _ => ⟨fun _ => ⟨fun _ => ⟨_, _, q, rfl, rfl⟩, fun w => absurd z0 w⟩, fun w => absurd hy w⟩, fun w => absurd hx w⟩))
      · by_cases u0 : 0 ≤ u
        · by_cases z1 : z = 0
          · exact refuse rv6 (fun h1 q => sp_eq (v94 hw ⟨fun _ => ⟨fun _ => ⟨fun w => absurd w z0, fun _ => ⟨fun _ => ⟨fun _ => ⟨_, _, q, rfl, rfl⟩, fun w => absurd z1 w⟩, fun w => absurd u0 w⟩⟩, fun w => absurd hy w⟩, fun w => absurd hx w⟩)) (fun h1 h2 w1 q => sp_eq (v148 w1 ⟨fun _ => ⟨fun _ => ⟨fun w => absurd w z0, fun _ => ⟨fun _ => ⟨fun _ => ⟨_, _, q, rfl, rfl⟩, fun w => absurd z1 w⟩, fun w => absurd u0 w⟩⟩, fun w => absurd hy w⟩, fun w => absurd hx w⟩))
          · by_cases u1 : u = 0
            · exact refuse rv6 (fun h1 q => sp_eq (v94 hw ⟨fun _ => ⟨fun _ => ⟨fun w => absurd w z0, fun _ => ⟨fun _ => ⟨fun w => absurd w z1, fun _ => ⟨fun _ => ⟨_, _, q, rfl, rfl⟩, fun w => absurd u1 w⟩⟩, fun w => absurd u0 w⟩⟩, fun w => absurd hy w⟩, fun w => absurd hx w⟩)) (fun h1 h2 w1 q => sp_eq (v148 w1 ⟨fun _ => ⟨fun _ => ⟨fun w => absurd w z0, fun _ => ⟨fun _ => ⟨fun w => absurd w z1, fun _ => ⟨fun _ => ⟨_, _, q, rfl, rfl⟩, fun w => absurd u1 w⟩⟩, fun w => absurd u0 w⟩⟩, fun w => absurd hy w⟩, fun w => absurd hx w⟩))
            · by_cases hf : onF y z u = true
              · obtain ⟨s, hs, rfl⟩ := isShelf_n hx
                obtain ⟨c, hc, rfl⟩ := isCell_n hy
                obtain ⟨w, hw2, rfl⟩ := ns_pos (Int32.not_lt.mp z0)
                obtain ⟨g, hg2, rfl⟩ := ns_pos u0
                have hb := SB_of hs
                have f0 := hf
                unfold onF at f0
                rw [Bool.and_eq_true, decide_eq_true_iff, decide_eq_true_iff] at f0
                obtain ⟨f1, f2⟩ := f0
                obtain ⟨d1, d2⟩ := c12 c hc
                have w1 : 1 ≤ w := by
                  apply Decidable.byContradiction
                  intro q
                  exact z1 (by rw [show w = 0 by omega]; rfl)
                have g1 : 1 ≤ g := by
                  apply Decidable.byContradiction
                  intro q
                  exact u1 (by rw [show g = 0 by omega]; rfl)
                have w2 : w ≤ 12 - c % 12 := (nI_leI hw2 (by omega)).mp (by rw [d1] at f1; exact Int32.not_lt.mp f1)
                have g2 : g ≤ 12 - c / 12 := (nI_leI hg2 (by omega)).mp (by rw [d2] at f2; exact Int32.not_lt.mp f2)
                have hcl : ∀ i, i < w * g → clP c w i < 144 := fun i hi => clP_lt hc w1 w2 g2 hi
                have wg : w * g ≤ 144 := Nat.le_trans (Nat.mul_le_mul (show w ≤ 12 by omega) (show g ≤ 12 by omega)) (by decide)
                have key := c43l (L := L) (xs := xs) (h0 := sI h (155 + 10 * s) 2 2) (HW_sI hw) hb w1 hcl wg g 0 (sI (sI (sI (sI h (155 + 10 * s) 2 2) (155 + 10 * s + 3) 6 (nI w)) (155 + 10 * s + 3) 7 (nI g)) (155 + 10 * s + 3) 8 0) none none (by omega) ⟨IE_s (IE_s (IE_s (IE_r _))), fun a ha => by rw [gIo (by omega), gIo (by omega), gIo (by omega)], by simp [gI_sI], by simp [gI_sI], by rw [gIs, up_s, Nat.zero_mul]; rfl, fun j hj => absurd hj (by omega)⟩
                obtain ⟨rc, hA, sA, rfl, tA⟩ := v43 (L := L) (xs := xs) (HW_sI hw) hb key
                have wA : HW hA := IE_w tA.1 (HW_sI hw)
                obtain ⟨tA1, tA2, tA3, tA4, tA5, tA6⟩ := tA
                have oA : ∀ a, ¬ (155 + 10 * s ≤ a ∧ a ≤ 155 + 10 * s + 9) → gI hA a = gI h a := fun a ha => by rw [tA2 a (by omega), gIo (by omega)]
                have key2 := c148l (L := L) (xs := xs) (h0 := sI (sI (sI hA 420 s 0) 424 s (nI w)) 425 s (nI g)) (HW_sI (HW_sI (HW_sI wA))) hs w1 (by omega) hcl wg (by simp [gI_sI]) (by simp [gI_sI]) (w * g) 0 _ none none (by omega) ⟨IE_r _, fun a ha => rfl, fun q hq => rfl, fun j hj => absurd hj (Nat.not_lt_zero j)⟩
                have n1 : ¬ 12 - (nI c - nI c / 12 * 12) < nI w := f1
                have n2 : nI g ≤ 12 - nI c / 12 := Int32.not_lt.mp f2
                obtain ⟨rm, h2, s2, rfl, m1, m2, m3, m4⟩ := v148 (L := L) (xs := xs) (x := nI s) (y := nI c) (z := nI w) (u := nI g) wA ⟨fun _ => ⟨fun _ => ⟨fun q => absurd q z0, fun _ => ⟨fun _ => ⟨fun q => absurd q z1, fun _ => ⟨fun q => absurd q u1, fun _ => ⟨fun q => absurd q n1, fun _ => ⟨fun _ => ⟨s, rfl, hs, key2⟩, fun q => absurd n2 q⟩⟩⟩⟩, fun q => absurd u0 q⟩⟩, fun q => absurd hy q⟩, fun q => absurd hx q⟩
                have o2 : ∀ a, ¬ (155 + 10 * s ≤ a ∧ a ≤ 155 + 10 * s + 9) → ¬ a = 420 → ¬ a = 424 → ¬ a = 425 → ¬ a = 426 → gI h2 a = gI h a := fun a q1 q2 q3 q4 q5 => by rw [m2 a q5, gIo q4, gIo q3, gIo q2, oA a q1]
                have ob : ∀ a, 155 + 10 * s ≤ a → a ≤ 155 + 10 * s + 9 → gI h2 a = gI hA a := fun a q1 q2 => by rw [m2 a (by omega), gIo (by omega), gIo (by omega), gIo (by omega)]
                have cell : ∀ j, j < w * g → ∀ i, i < 4 → (gI (sI (sI (sI hA 420 s 0) 424 s (nI w)) 425 s (nI g)) (405 + i) (clP c w j)) = gI h (405 + i) (clP c w j) := fun j hj i hi => by rw [gIo (by omega), gIo (by omega), gIo (by omega), oA _ (by omega)]
                have fl : ∀ j, j < w * g → gI (sI h (155 + 10 * s) 2 2) (10 + clP c w j) = gI h (10 + clP c w j) := fun j hj => gIo (by have := hcl j hj; omega)
                have k0 : ∀ j, j < w * g → pcK h2 s j = gI (sI h (155 + 10 * s) 2 2) (10 + clP c w j) 0 := fun j hj => by
                  have := (r.2.1.1 _ (hcl j hj)).2.2.1.1
                  rw [fl j hj, this]
                  exact (m4 j hj).1.trans (cell j hj 0 (by decide))
                have cn : ∀ i, i ≤ w * g → pcN h2 s i = cntN (fun j => gI (sI h (155 + 10 * s) 2 2) (10 + clP c w j) 0) i := fun i hi => by
                  rw [pcN_c]
                  exact cntN_e i (fun j hj => k0 j (by omega))
                have k3 : ∀ j, j < w * g → ¬ pcK h2 s j = 0 → gI h (10 + clP c w j) 1 = gI h2 426 (576 * s + 4 * j + 1) ∧ gI h (10 + clP c w j) 2 = gI h2 426 (576 * s + 4 * j + 2) ∧ gI h (10 + clP c w j) 3 = gI h2 426 (576 * s + 4 * j + 3) := fun j hj hz => by
                  rw [k0 j hj, fl j hj] at hz
                  have ce := (r.2.1.1 _ (hcl j hj)).2.2.1.2 hz
                  have e1 := cell j hj 1 (by decide)
                  have e2 := cell j hj 2 (by decide)
                  have e3 := cell j hj 3 (by decide)
                  refine ⟨?_, ?_, ?_⟩
                  · rw [(m4 j hj).2.1, ce 1 (by decide) (by decide), MV0]; exact e1.symm
                  · rw [(m4 j hj).2.2.1, ce 2 (by decide) (by decide), MV0]; exact e2.symm
                  · rw [(m4 j hj).2.2.2, ce 3 (by decide) (by decide), MV0]; exact e3.symm
                refine ⟨nI (pcN h2 s (w * g)), hA, h2, k, sp_eq (v94 hw ⟨fun _ => ⟨fun _ => ⟨fun q => absurd q z0, fun _ => ⟨fun _ => ⟨fun q => absurd q z1, fun _ => ⟨fun q => absurd q u1, fun _ => ⟨fun _ => ⟨s, rfl, hs, hA, sA, by rw [tA5, cn _ (Nat.le_refl _)], rfl⟩, fun q => absurd hf q⟩⟩⟩, fun q => absurd u0 q⟩⟩, fun q => absurd hy q⟩, fun q => absurd hx q⟩), wA, s2, ?_⟩
                refine Rel_sh r (m1.1.trans tA1.1) (m1.2.2.trans tA1.2.2) (fun a ha => o2 a (by unfold inS at ha; omega) (by unfold inS at ha; omega) (by unfold inS at ha; omega) (by unfold inS at ha; omega) (by unfold inS at ha; omega)) (fun a ha => by rw [m1.2.1]; show gL hA a = _; rw [tA1.2.1]; rfl) (fun s' hs' => ?_)
                have lg : gL h2 = gL h := m1.2.1.trans tA1.2.1
                by_cases e : s' = s
                · subst e
                  refine Or.inr (Or.inr ⟨?_, ?_, ⟨w, g, w1, by omega, g1, by omega, ?_, ?_, ?_, ?_, ?_, fun j hj hz => ?_⟩, fun j hj hz hbd => ?_⟩)
                  · rw [ob _ (by omega) (by omega), tA2 _ (by omega), gIs, up_s]
                  · rw [m2 420 (by decide), gIo (by decide), gIo (by decide), gIs, up_s]
                  · rw [ob _ (by omega) (by omega)]; exact tA3
                  · rw [m2 424 (by decide), gIo (by decide), gIs, up_s]
                  · rw [ob _ (by omega) (by omega)]; exact tA4
                  · rw [m2 425 (by decide), gIs, up_s]
                  · rw [ob _ (by omega) (by omega), cn _ (Nat.le_refl _)]; exact tA5
                  · have k3j := k3 j hj hz
                    rw [ob (155 + 10 * s' + 4) (by omega) (by omega), ob (155 + 10 * s' + 5) (by omega) (by omega), ob (155 + 10 * s' + 6) (by omega) (by omega), ob (155 + 10 * s' + 7) (by omega) (by omega), ob (155 + 10 * s' + 8) (by omega) (by omega), ob (155 + 10 * s' + 9) (by omega) (by omega), cn j (by omega), ← k3j.1, ← k3j.2.1, ← k3j.2.2]
                    rw [k0 j hj] at hz ⊢
                    have := tA6 j hj hz
                    rw [fl j hj] at this ⊢
                    exact this
                  · obtain ⟨w', g', ew, eg, w13, g13, lt⟩ := hbd
                    rw [m2 424 (by decide), gIo (by decide), gIs, up_s] at ew
                    rw [m2 425 (by decide), gIs, up_s] at eg
                    obtain rfl := nI_inj hw2 (by omega) ew
                    obtain rfl := nI_inj hg2 (by omega) eg
                    have k3j := k3 j lt hz
                    have k0j := k0 j lt
                    rw [fl j lt] at k0j
                    rw [← k3j.1, ← k3j.2.1, ← k3j.2.2, k0j]
                    rw [k0j] at hz
                    exact GR_GP (r.2.1.1 _ (hcl j lt)).2.1 hz
                · refine RSh_at (h := h) (fun j hj => by rw [o2 _ (by omega) (by omega) (by omega) (by omega) (by omega)]) (by rw [lg]) ?_ (by rw [o2 421 (by omega) (by omega) (by omega) (by omega) (by omega)]) ?_ ?_ (fun j hj => ?_) (fun i hi => by rw [lg]) (r4 s' hs')
                  · rw [m2 420 (by decide), gIo (by decide), gIo (by decide), gIs, up_o e, oA 420 (by omega)]
                  · rw [m2 424 (by decide), gIo (by decide), gIs, up_o e, gIo (by decide), oA 424 (by omega)]
                  · rw [m2 425 (by decide), gIs, up_o e, gIo (by decide), gIo (by decide), oA 425 (by omega)]
                  · rw [m3 _ (by omega), gIo (by decide), gIo (by decide), gIo (by decide), oA 426 (by omega)]
              · have nf : ¬ (¬ 12 - (y - y / 12 * 12) < z ∧ u ≤ 12 - y / 12) := fun q => hf (by unfold onF; rw [decide_eq_true q.1, decide_eq_true (Int32.not_lt.mpr q.2)]; rfl)
                exact refuse rv6 (fun h1 q => sp_eq (v94 hw ⟨fun _ => ⟨fun _ => ⟨fun w => absurd w z0, fun _ => ⟨fun _ => ⟨fun w => absurd w z1, fun _ => ⟨fun w => absurd w u1, fun _ => ⟨fun w => absurd w hf, fun _ => ⟨_, _, q, rfl, rfl⟩⟩⟩⟩, fun w => absurd u0 w⟩⟩, fun w => absurd hy w⟩, fun w => absurd hx w⟩)) (fun h1 h2 w1 q => sp_eq (v148 w1 ⟨fun _ => ⟨fun _ => ⟨fun w => absurd w z0, fun _ => ⟨fun _ => ⟨fun w => absurd w z1, fun _ => ⟨fun w => absurd w u1, fun _ => ⟨fun _ => ⟨_, _, q, rfl, rfl⟩, fun n1 => ⟨fun n2 => absurd ⟨n1, n2⟩ nf, fun _ => ⟨_, _, q, rfl, rfl⟩⟩⟩⟩⟩, fun w => absurd u0 w⟩⟩, fun w => absurd hy w⟩, fun w => absurd hx w⟩))
        · exact refuse rv4 (fun h1 q => sp_eq (v94 hw ⟨fun _ => ⟨fun _ => ⟨fun w => absurd w z0, fun _ => ⟨fun w => absurd w u0, fun _ => ⟨_, _, q, rfl, rfl⟩⟩⟩, fun w => absurd hy w⟩, fun w => absurd hx w⟩)) (fun h1 h2 w1 q => sp_eq (v148 w1 ⟨fun _ => ⟨fun _ => ⟨fun w => absurd w z0, fun _ => ⟨fun w => absurd w u0, fun _ => ⟨_, _, q, rfl, rfl⟩⟩⟩, fun w => absurd hy w⟩, fun w => absurd hx w⟩))
    · exact refuse rv1 (fun h1 q => sp_eq (v94 hw ⟨fun _ => ⟨fun w => absurd w hy, fun _ => ⟨_, _, q, rfl, rfl⟩⟩, fun w => absurd hx w⟩)) (fun h1 h2 w1 q => sp_eq (v148 w1 ⟨fun _ => ⟨fun w => absurd w hy, fun _ => ⟨_, _, q, rfl, rfl⟩⟩, fun w => absurd hx w⟩))
  · exact refuse rv1 (fun h1 q => sp_eq (v94 hw ⟨fun w => absurd w hx, fun _ => ⟨_, _, q, rfl, rfl⟩⟩)) (fun h1 h2 w1 q => sp_eq (v148 w1 ⟨fun w => absurd w hx, fun _ => ⟨_, _, q, rfl, rfl⟩⟩))
end TA
