/-! Calls that only look: turned, cellTurn, part, sunk, holds, element, status; clear. -/
theorem OPI_same {L : Nat} {xs : Nat → Int32} {kc km : Nat} {Ac Am : List Value} (f : ∀ (h : Hp) (k : Nat), Rel h k → ∃ v : Int32, Sp L xs kc Ac h (some (.int v)) h ∧ Sp L xs km Am h (some (.int v)) h) : OPI L xs kc km Ac Am := by
  intro h k r
  obtain ⟨v, s1, s2⟩ := f h k r
  exact ⟨v, h, h, k, s1, r.1.1, s2, r⟩
/-- the same for calls that answer a long -/
def OPL (L : Nat) (xs : Nat → Int32) (kc km : Nat) (Ac Am : List Value) : Prop := ∀ (h : Hp) (k : Nat), Rel h k → ∃ (r : Int64) (h1 h2 : Hp) (k2 : Nat), Sp L xs kc Ac h (some (.long r)) h1 ∧ HW h1 ∧ Sp L xs km Am h1 (some (.long r)) h2 ∧ Rel h2 k2
theorem OPL_same {L : Nat} {xs : Nat → Int32} {kc km : Nat} {Ac Am : List Value} (f : ∀ (h : Hp) (k : Nat), Rel h k → ∃ v : Int64, Sp L xs kc Ac h (some (.long v)) h ∧ Sp L xs km Am h (some (.long v)) h) : OPL L xs kc km Ac Am := by
  intro h k r
  obtain ⟨v, s1, s2⟩ := f h k r
  exact ⟨v, h, h, k, s1, r.1.1, s2, r⟩
/-- calls that leave the heap as it was -/
def OPS (L : Nat) (xs : Nat → Int32) (kc km : Nat) (Ac Am : List Value) : Prop := ∀ (h : Hp) (k : Nat), Rel h k → ∃ v : Int32, Sp L xs kc Ac h (some (.int v)) h ∧ Sp L xs km Am h (some (.int v)) h
def OPT (L : Nat) (xs : Nat → Int32) (kc km : Nat) (Ac Am : List Value) : Prop := ∀ (h : Hp) (k : Nat), Rel h k → ∃ v : Int64, Sp L xs kc Ac h (some (.long v)) h ∧ Sp L xs km Am h (some (.long v)) h
theorem b01 {x : Int32} (h : x = 0 ∨ x = 1) : b2i (if x = 0 then false else true) = x := by
  rcases h with h | h <;> (rw [h]; decide)
section LK
variable {L : Nat} {xs : Nat → Int32} {h : Hp} {k c : Nat} {x y : Int32}
theorem in3_5 {x : Int32} (h : x_in3 x 0 4 = true) : x = 0 ∨ x = 1 ∨ x = 2 ∨ x = 3 ∨ x = 4 := by
  obtain ⟨n, -, h2, e⟩ := in3_n (a := 0) (b := 4) (by decide) (by decide) h
  rcases (show n = 0 ∨ n = 1 ∨ n = 2 ∨ n = 3 ∨ n = 4 by omega) with w | w | w | w | w <;> (rw [w] at e; rw [e]; decide)
theorem in3_15 {x : Int32} (h : x_in3 x 0 14 = true) : x = 0 ∨ x = 1 ∨ x = 2 ∨ x = 3 ∨ x = 4 ∨ x = 5 ∨ x = 6 ∨ x = 7 ∨ x = 8 ∨ x = 9 ∨ x = 10 ∨ x = 11 ∨ x = 12 ∨ x = 13 ∨ x = 14 := by
  obtain ⟨n, -, h2, e⟩ := in3_n (a := 0) (b := 14) (by decide) (by decide) h
  rcases (show n = 0 ∨ n = 1 ∨ n = 2 ∨ n = 3 ∨ n = 4 ∨ n = 5 ∨ n = 6 ∨ n = 7 ∨ n = 8 ∨ n = 9 ∨ n = 10 ∨ n = 11 ∨ n = 12 ∨ n = 13 ∨ n = 14 by omega) with w | w | w | w | w | w | w | w | w | w | w | w | w | w | w <;> (rw [w] at e; rw [e]; decide)
theorem op_turned : OPS L xs 99 174 [.ref 0, .int x] [.ref 397, .int x] := by
  intro h k r
  have hw := r.1.1
  obtain ⟨t1, t2, t3⟩ := r.2.2.2.2.1
  by_cases z : gI h 397 40 = 0
  · exact ⟨-1, sp_eq (v99 hw ⟨-1, sp_eq (v11 hw ⟨fun _ => ⟨rfl, rfl⟩, fun q => absurd (t1.trans z) q⟩), rfl, rfl⟩), sp_eq (v174 hw ⟨fun _ => ⟨rfl, rfl⟩, fun q => absurd z q⟩)⟩
  · have z1 : ¬ gI h 235 5 = 0 := fun q => z (t1.symm.trans q)
    obtain ⟨a0, a1, a2, a3, a4, a5, -⟩ := t3 (t2.resolve_left z)
    have a4' : b2i (if gI h 235 10 = 0 then false else true) = gI h 434 4 := by rw [a4]; exact b01 a5
    by_cases hx : x_in3 x 0 4 = true
    · rcases in3_5 hx with rfl | rfl | rfl | rfl | rfl
      · exact ⟨gI h 434 0, sp_eq (v99 hw ⟨_, sp_eq (v11 hw ⟨fun q => absurd q z1, fun _ => ⟨fun _ => ⟨by rw [a0], rfl⟩, fun q => absurd rfl q⟩⟩), rfl, rfl⟩), sp_eq (v174 hw ⟨fun q => absurd q z, fun _ => ⟨fun _ => ⟨0, rfl, by decide, rfl, rfl⟩, fun q => absurd hx q⟩⟩)⟩
      · exact ⟨gI h 434 1, sp_eq (v99 hw ⟨_, sp_eq (v11 hw ⟨fun q => absurd q z1, fun _ => ⟨fun q => absurd q (by decide), fun _ => ⟨fun _ => ⟨by rw [a1], rfl⟩, fun q => absurd rfl q⟩⟩⟩), rfl, rfl⟩), sp_eq (v174 hw ⟨fun q => absurd q z, fun _ => ⟨fun _ => ⟨1, rfl, by decide, rfl, rfl⟩, fun q => absurd hx q⟩⟩)⟩
      · exact ⟨gI h 434 2, sp_eq (v99 hw ⟨_, sp_eq (v11 hw ⟨fun q => absurd q z1, fun _ => ⟨fun q => absurd q (by decide), fun _ => ⟨fun q => absurd q (by decide), fun _ => ⟨fun _ => ⟨by rw [a2], rfl⟩, fun q => absurd rfl q⟩⟩⟩⟩), rfl, rfl⟩), sp_eq (v174 hw ⟨fun q => absurd q z, fun _ => ⟨fun _ => ⟨2, rfl, by decide, rfl, rfl⟩, fun q => absurd hx q⟩⟩)⟩
      · exact ⟨gI h 434 3, sp_eq (v99 hw ⟨_, sp_eq (v11 hw ⟨fun q => absurd q z1, fun _ => ⟨fun q => absurd q (by decide), fun _ => ⟨fun q => absurd q (by decide), fun _ => ⟨fun q => absurd q (by decide), fun _ => ⟨fun _ => ⟨by rw [a3], rfl⟩, fun q => absurd rfl q⟩⟩⟩⟩⟩), rfl, rfl⟩), sp_eq (v174 hw ⟨fun q => absurd q z, fun _ => ⟨fun _ => ⟨3, rfl, by decide, rfl, rfl⟩, fun q => absurd hx q⟩⟩)⟩
      · exact ⟨gI h 434 4, sp_eq (v99 hw ⟨_, sp_eq (v11 hw ⟨fun q => absurd q z1, fun _ => ⟨fun q => absurd q (by decide), fun _ => ⟨fun q => absurd q (by decide), fun _ => ⟨fun q => absurd q (by decide), fun _ => ⟨fun q => absurd q (by decide), fun _ => ⟨fun _ => ⟨by rw [a4'], rfl⟩, fun q => absurd rfl q⟩⟩⟩⟩⟩⟩), rfl, rfl⟩), sp_eq (v174 hw ⟨fun q => absurd q z, fun _ => ⟨fun _ => ⟨4, rfl, by decide, rfl, rfl⟩, fun q => absurd hx q⟩⟩)⟩
    · exact ⟨-1, sp_eq (v99 hw ⟨_, sp_eq (v11 hw ⟨fun q => absurd q z1, fun _ => ⟨fun q => absurd (by rw [q]; decide) hx, fun _ => ⟨fun q => absurd (by rw [q]; decide) hx, fun _ => ⟨fun q => absurd (by rw [q]; decide) hx, fun _ => ⟨fun q => absurd (by rw [q]; decide) hx, fun _ => ⟨fun q => absurd (by rw [q]; decide) hx, fun _ => ⟨rfl, rfl⟩⟩⟩⟩⟩⟩⟩), rfl, rfl⟩), sp_eq (v174 hw ⟨fun q => absurd q z, fun _ => ⟨fun q => absurd q hx, fun _ => ⟨rfl, rfl⟩⟩⟩)⟩
theorem op_cellTurn : OPS L xs 100 175 [.ref 0, .int x, .int y] [.ref 397, .int x, .int y] := by
  intro h k r
  have hw := r.1.1
  obtain ⟨t1, t2, t3⟩ := r.2.2.2.2.1
  by_cases hc : x_isCell x = true
  · obtain ⟨c, hc2, rfl⟩ := isCell_n hc
    by_cases z : gI h 397 40 = 0
    · exact ⟨-1, sp_eq (v100 hw ⟨fun _ => ⟨-1, sp_eq (v12 hw ⟨c, rfl, hc2, fun _ => ⟨rfl, rfl⟩, fun q => absurd (t1.trans z) q⟩), rfl, rfl⟩, fun q => absurd hc q⟩), sp_eq (v175 hw ⟨fun _ => ⟨rfl, rfl⟩, fun q => absurd z q⟩)⟩
    · have z1 : ¬ gI h 235 5 = 0 := fun q => z (t1.symm.trans q)
      obtain ⟨-, -, -, -, -, -, a6⟩ := t3 (t2.resolve_left z)
      obtain ⟨b1, b2⟩ := a6 c hc2
      by_cases p0 : gI h 436 c = 0
      · exact ⟨-1, sp_eq (v100 hw ⟨fun _ => ⟨-1, sp_eq (v12 hw ⟨c, rfl, hc2, fun q => absurd q z1, fun _ => ⟨fun _ => ⟨rfl, rfl⟩, fun q => absurd (b1.mpr p0) q⟩⟩), rfl, rfl⟩, fun q => absurd hc q⟩), sp_eq (v175 hw ⟨fun q => absurd q z, fun _ => ⟨fun _ => ⟨c, rfl, hc2, fun _ => ⟨rfl, rfl⟩, fun q => absurd p0 q⟩, fun q => absurd hc q⟩⟩)⟩
      · have p1 : ¬ gI h (246 + c) 0 = 0 := fun q => p0 (b1.mp q)
        obtain ⟨d0, d1, d2, d3, d4, d5, d6⟩ := b2 p1
        have d3' : b2i (if gI h 238 c = 0 then false else true) = gI h 435 (5 * c + 3) := by rw [d3]; exact b01 d5
        have d4' : b2i (if gI h 239 c = 0 then false else true) = gI h 435 (5 * c + 4) := by rw [d4]; exact b01 d6
        by_cases hy : x_in3 y 0 4 = true
        · rcases in3_5 hy with rfl | rfl | rfl | rfl | rfl
          · exact ⟨gI h 435 (5 * c), sp_eq (v100 hw ⟨fun _ => ⟨_, sp_eq (v12 hw ⟨c, rfl, hc2, fun q => absurd q z1, fun _ => ⟨fun q => absurd q p1, fun _ => ⟨fun _ => ⟨by rw [d0], rfl⟩, fun q => absurd rfl q⟩⟩⟩), rfl, rfl⟩, fun q => absurd hc q⟩), sp_eq (v175 hw ⟨fun q => absurd q z, fun _ => ⟨fun _ => ⟨c, rfl, hc2, fun q => absurd q p0, fun _ => ⟨fun _ => ⟨5 * c, ix8 c 0, by omega, rfl, rfl⟩, fun q => absurd hy q⟩⟩, fun q => absurd hc q⟩⟩)⟩
          · exact ⟨gI h 435 (5 * c + 1), sp_eq (v100 hw ⟨fun _ => ⟨_, sp_eq (v12 hw ⟨c, rfl, hc2, fun q => absurd q z1, fun _ => ⟨fun q => absurd q p1, fun _ => ⟨fun q => absurd q (by decide), fun _ => ⟨fun _ => ⟨by rw [d1], rfl⟩, fun q => absurd rfl q⟩⟩⟩⟩), rfl, rfl⟩, fun q => absurd hc q⟩), sp_eq (v175 hw ⟨fun q => absurd q z, fun _ => ⟨fun _ => ⟨c, rfl, hc2, fun q => absurd q p0, fun _ => ⟨fun _ => ⟨5 * c + 1, ix8 c 1, by omega, rfl, rfl⟩, fun q => absurd hy q⟩⟩, fun q => absurd hc q⟩⟩)⟩
          · exact ⟨gI h 435 (5 * c + 2), sp_eq (v100 hw ⟨fun _ => ⟨_, sp_eq (v12 hw ⟨c, rfl, hc2, fun q => absurd q z1, fun _ => ⟨fun q => absurd q p1, fun _ => ⟨fun q => absurd q (by decide), fun _ => ⟨fun q => absurd q (by decide), fun _ => ⟨fun _ => ⟨by rw [d2], rfl⟩, fun q => absurd rfl q⟩⟩⟩⟩⟩), rfl, rfl⟩, fun q => absurd hc q⟩), sp_eq (v175 hw ⟨fun q => absurd q z, fun _ => ⟨fun _ => ⟨c, rfl, hc2, fun q => absurd q p0, fun _ => ⟨fun _ => ⟨5 * c + 2, ix8 c 2, by omega, rfl, rfl⟩, fun q => absurd hy q⟩⟩, fun q => absurd hc q⟩⟩)⟩
          · exact ⟨gI h 435 (5 * c + 3), sp_eq (v100 hw ⟨fun _ => ⟨_, sp_eq (v12 hw ⟨c, rfl, hc2, fun q => absurd q z1, fun _ => ⟨fun q => absurd q p1, fun _ => ⟨fun q => absurd q (by decide), fun _ => ⟨fun q => absurd q (by decide), fun _ => ⟨fun q => absurd q (by decide), fun _ => ⟨fun _ => ⟨by rw [d3'], rfl⟩, fun q => absurd rfl q⟩⟩⟩⟩⟩⟩), rfl, rfl⟩, fun q => absurd hc q⟩), sp_eq (v175 hw ⟨fun q => absurd q z, fun _ => ⟨fun _ => ⟨c, rfl, hc2, fun q => absurd q p0, fun _ => ⟨fun _ => ⟨5 * c + 3, ix8 c 3, by omega, rfl, rfl⟩, fun q => absurd hy q⟩⟩, fun q => absurd hc q⟩⟩)⟩
          · exact ⟨gI h 435 (5 * c + 4), sp_eq (v100 hw ⟨fun _ => ⟨_, sp_eq (v12 hw ⟨c, rfl, hc2, fun q => absurd q z1, fun _ => ⟨fun q => absurd q p1, fun _ => ⟨fun q => absurd q (by decide), fun _ => ⟨fun q => absurd q (by decide), fun _ => ⟨fun q => absurd q (by decide), fun _ => ⟨fun q => absurd q (by decide), fun _ => ⟨fun _ => ⟨by rw [d4'], rfl⟩, fun q => absurd rfl q⟩⟩⟩⟩⟩⟩⟩), rfl, rfl⟩, fun q => absurd hc q⟩), sp_eq (v175 hw ⟨fun q => absurd q z, fun _ => ⟨fun _ => ⟨c, rfl, hc2, fun q => absurd q p0, fun _ => ⟨fun _ => ⟨5 * c + 4, ix8 c 4, by omega, rfl, rfl⟩, fun q => absurd hy q⟩⟩, fun q => absurd hc q⟩⟩)⟩
        · exact ⟨-1, sp_eq (v100 hw ⟨fun _ => ⟨_, sp_eq (v12 hw ⟨c, rfl, hc2, fun q => absurd q z1, fun _ => ⟨fun q => absurd q p1, fun _ => ⟨fun q => absurd (by rw [q]; decide) hy, fun _ => ⟨fun q => absurd (by rw [q]; decide) hy, fun _ => ⟨fun q => absurd (by rw [q]; decide) hy, fun _ => ⟨fun q => absurd (by rw [q]; decide) hy, fun _ => ⟨fun q => absurd (by rw [q]; decide) hy, fun _ => ⟨rfl, rfl⟩⟩⟩⟩⟩⟩⟩⟩), rfl, rfl⟩, fun q => absurd hc q⟩), sp_eq (v175 hw ⟨fun q => absurd q z, fun _ => ⟨fun _ => ⟨c, rfl, hc2, fun q => absurd q p0, fun _ => ⟨fun q => absurd q hy, fun _ => ⟨rfl, rfl⟩⟩⟩, fun q => absurd hc q⟩⟩)⟩
  · refine ⟨-1, sp_eq (v100 hw ⟨fun q => absurd q hc, fun _ => ⟨rfl, rfl⟩⟩), sp_eq (v175 hw ⟨fun _ => ⟨rfl, rfl⟩, fun _ => ⟨fun q => absurd q hc, fun _ => ⟨rfl, rfl⟩⟩⟩)⟩
theorem ce_ofd (r : Rel h k) (hc : c < 144) (hz : ¬ gI h (10 + c) 0 = 0) : Sp L xs 156 [.ref 397, .int 0, .int (nI c)] h (some (.int (ofd (RC h) (gI h (10 + c))))) h := by
  obtain ⟨r1, r2, -⟩ := r
  obtain ⟨a1, a2, ⟨a3, a4⟩, -⟩ := r2.1 c hc
  have e : ∀ j, j < 14 → ¬ j = 4 → gI h (10 + c) j = MV h 0 c j := a4 hz
  have k0 : gI h (10 + c) 0 = gI h 405 c := a3
  have k9 : gI h (10 + c) 9 = gI h 414 c := by rw [e 9 (by decide) (by decide), MV0]; rfl
  have k5 : gI h (10 + c) 5 = gI h 412 c := by rw [e 5 (by decide) (by decide), MV0]; rfl
  have k2 : gI h (10 + c) 2 = gI h 407 c := by rw [e 2 (by decide) (by decide), MV0]; rfl
  have i0 : 144 * (0 : Int32) + nI c = nI c := by
    rw [show (144 : Int32) * 0 = 0 by decide, Int32.zero_add]
  refine sp_eq (v156 r1.1 ⟨c, rfl, hc, fun q => ⟨c, i0, by omega, fun q2 => ⟨?_, rfl⟩, fun q2 => ?_⟩, fun q => ⟨c, i0, by omega, ?_, rfl⟩⟩)
  · rw [← k0] at q
    rw [← k9] at q2
    rw [ofd_6 q, if_pos q2]
  · rw [← k0] at q
    rw [← k9] at q2
    obtain ⟨a, ha, e2, -⟩ := a2.2.2.2.2.2.2.2.2.2.2 q
    refine ⟨a, by rw [← k2, e2], by have := r1.2.1; omega, ?_, rfl⟩
    have : gI h 400 a = RC h a 0 := (r1.2.2.2.2.2.2.1 a ha 0 (by decide)).symm
    rw [ofd_6 q, if_neg q2, this]
    unfold rc
    have hk := r1.2.1
    rw [e2, nI_c (by omega)]
  · rw [← k0] at q
    rw [ofd_n q, k5]
theorem op_part : OPS L xs 101 176 [.ref 0, .int x, .int y] [.ref 397, .int x, .int y] := by
  intro h k r
  have hw := r.1.1
  by_cases hc : x_isCell x = true
  · obtain ⟨c, hc2, rfl⟩ := isCell_n hc
    have hp : PT (10 + c) := PT_4 hc2
    obtain ⟨a1, a2, ⟨a3, a4⟩, a5, -⟩ := r.2.1.1 c hc2
    have s34 := c34 (L := L) (xs := xs) hw hp a1
    by_cases hy : x_in3 y 0 14 = true
    · by_cases z : gI h (10 + c) 0 = 0
      · have z5 : gI h 405 c = 0 := a3.symm.trans z
        have zz := a2.2.1 z
        have z34 : ofd (RC h) (gI h (10 + c)) = 0 := by
          rw [ofd_n (by rw [z]; decide)]
          exact zz 5 (by decide) (by decide)
        rw [z34] at s34
        have fin : ∀ w : Int32, (Sp L xs 41 [.ref (10 + c), .int y] h (some (.int w)) h) → w = 0 → ∃ v : Int32, Sp L xs 101 [.ref 0, .int (nI c), .int y] h (some (.int v)) h ∧ Sp L xs 176 [.ref 397, .int (nI c), .int y] h (some (.int v)) h := by
          intro w s e
          subst e
          exact ⟨0, sp_eq (v101 hw ⟨fun _ => ⟨c, rfl, hc2, 0, s, rfl, rfl⟩, fun q => absurd hc q⟩), sp_eq (v176 hw ⟨fun _ => ⟨fun _ => ⟨c, rfl, hc2, fun _ => ⟨rfl, rfl⟩, fun q => absurd z5 q⟩, fun q => absurd hy q⟩, fun q => absurd hc q⟩)⟩
        rcases in3_15 hy with rfl | rfl | rfl | rfl | rfl | rfl | rfl | rfl | rfl | rfl | rfl | rfl | rfl | rfl | rfl
        · exact fin _ (sp_eq (v41 hw hp ⟨fun _ => ⟨rfl, rfl⟩, fun q => absurd rfl q⟩)) z
        · exact fin _ (sp_eq (v41 hw hp ⟨fun q => absurd q (by decide), fun _ => ⟨fun _ => ⟨rfl, rfl⟩, fun q => absurd rfl q⟩⟩)) (zz 1 (by decide) (by decide))
        · exact fin _ (sp_eq (v41 hw hp ⟨fun q => absurd q (by decide), fun _ => ⟨fun q => absurd q (by decide), fun _ => ⟨fun _ => ⟨_, s34, rfl, rfl⟩, fun q => absurd rfl q⟩⟩⟩)) rfl
        · exact fin _ (sp_eq (v41 hw hp ⟨fun q => absurd q (by decide), fun _ => ⟨fun q => absurd q (by decide), fun _ => ⟨fun q => absurd q (by decide), fun _ => ⟨fun _ => ⟨rfl, rfl⟩, fun q => absurd rfl q⟩⟩⟩⟩)) (zz 6 (by decide) (by decide))
        · exact fin _ (sp_eq (v41 hw hp ⟨fun q => absurd q (by decide), fun _ => ⟨fun q => absurd q (by decide), fun _ => ⟨fun q => absurd q (by decide), fun _ => ⟨fun q => absurd q (by decide), fun _ => ⟨fun _ => ⟨rfl, rfl⟩, fun q => absurd rfl q⟩⟩⟩⟩⟩)) (zz 9 (by decide) (by decide))
        · exact fin _ (sp_eq (v41 hw hp ⟨fun q => absurd q (by decide), fun _ => ⟨fun q => absurd q (by decide), fun _ => ⟨fun q => absurd q (by decide), fun _ => ⟨fun q => absurd q (by decide), fun _ => ⟨fun q => absurd q (by decide), fun _ => ⟨fun _ => ⟨rfl, rfl⟩, fun q => absurd rfl q⟩⟩⟩⟩⟩⟩)) (zz 10 (by decide) (by decide))
        · exact fin _ (sp_eq (v41 hw hp ⟨fun q => absurd q (by decide), fun _ => ⟨fun q => absurd q (by decide), fun _ => ⟨fun q => absurd q (by decide), fun _ => ⟨fun q => absurd q (by decide), fun _ => ⟨fun q => absurd q (by decide), fun _ => ⟨fun q => absurd q (by decide), fun _ => ⟨fun _ => ⟨rfl, rfl⟩, fun q => absurd rfl q⟩⟩⟩⟩⟩⟩⟩)) (by rw [zz 11 (by decide) (by decide)]; decide)
        · exact fin _ (sp_eq (v41 hw hp ⟨fun q => absurd q (by decide), fun _ => ⟨fun q => absurd q (by decide), fun _ => ⟨fun q => absurd q (by decide), fun _ => ⟨fun q => absurd q (by decide), fun _ => ⟨fun q => absurd q (by decide), fun _ => ⟨fun q => absurd q (by decide), fun _ => ⟨fun q => absurd q (by decide), fun _ => ⟨fun _ => ⟨rfl, rfl⟩, fun q => absurd rfl q⟩⟩⟩⟩⟩⟩⟩⟩)) (zz 7 (by decide) (by decide))
        · exact fin _ (sp_eq (v41 hw hp ⟨fun q => absurd q (by decide), fun _ => ⟨fun q => absurd q (by decide), fun _ => ⟨fun q => absurd q (by decide), fun _ => ⟨fun q => absurd q (by decide), fun _ => ⟨fun q => absurd q (by decide), fun _ => ⟨fun q => absurd q (by decide), fun _ => ⟨fun q => absurd q (by decide), fun _ => ⟨fun q => absurd q (by decide), fun _ => ⟨fun _ => ⟨rfl, rfl⟩, fun q => absurd rfl q⟩⟩⟩⟩⟩⟩⟩⟩⟩)) (zz 8 (by decide) (by decide))
        · exact fin _ (sp_eq (v41 hw hp ⟨fun q => absurd q (by decide), fun _ => ⟨fun q => absurd q (by decide), fun _ => ⟨fun q => absurd q (by decide), fun _ => ⟨fun q => absurd q (by decide), fun _ => ⟨fun q => absurd q (by decide), fun _ => ⟨fun q => absurd q (by decide), fun _ => ⟨fun q => absurd q (by decide), fun _ => ⟨fun q => absurd q (by decide), fun _ => ⟨fun q => absurd q (by decide), fun _ => ⟨fun _ => ⟨rfl, rfl⟩, fun q => absurd rfl q⟩⟩⟩⟩⟩⟩⟩⟩⟩⟩)) (zz 12 (by decide) (by decide))
        · exact fin _ (sp_eq (v41 hw hp ⟨fun q => absurd q (by decide), fun _ => ⟨fun q => absurd q (by decide), fun _ => ⟨fun q => absurd q (by decide), fun _ => ⟨fun q => absurd q (by decide), fun _ => ⟨fun q => absurd q (by decide), fun _ => ⟨fun q => absurd q (by decide), fun _ => ⟨fun q => absurd q (by decide), fun _ => ⟨fun q => absurd q (by decide), fun _ => ⟨fun q => absurd q (by decide), fun _ => ⟨fun q => absurd q (by decide), fun _ => ⟨fun _ => ⟨rfl, rfl⟩, fun q => absurd rfl q⟩⟩⟩⟩⟩⟩⟩⟩⟩⟩⟩)) (zz 13 (by decide) (by decide))
        · exact fin _ (sp_eq (v41 hw hp ⟨fun q => absurd q (by decide), fun _ => ⟨fun q => absurd q (by decide), fun _ => ⟨fun q => absurd q (by decide), fun _ => ⟨fun q => absurd q (by decide), fun _ => ⟨fun q => absurd q (by decide), fun _ => ⟨fun q => absurd q (by decide), fun _ => ⟨fun q => absurd q (by decide), fun _ => ⟨fun q => absurd q (by decide), fun _ => ⟨fun q => absurd q (by decide), fun _ => ⟨fun q => absurd q (by decide), fun _ => ⟨fun q => absurd q (by decide), fun _ => ⟨fun _ => ⟨rfl, rfl⟩, fun q => absurd rfl q⟩⟩⟩⟩⟩⟩⟩⟩⟩⟩⟩⟩)) (zz 2 (by decide) (by decide))
        · exact fin _ (sp_eq (v41 hw hp ⟨fun q => absurd q (by decide), fun _ => ⟨fun q => absurd q (by decide), fun _ => ⟨fun q => absurd q (by decide), fun _ => ⟨fun q => absurd q (by decide), fun _ => ⟨fun q => absurd q (by decide), fun _ => ⟨fun q => absurd q (by decide), fun _ => ⟨fun q => absurd q (by decide), fun _ => ⟨fun q => absurd q (by decide), fun _ => ⟨fun q => absurd q (by decide), fun _ => ⟨fun q => absurd q (by decide), fun _ => ⟨fun q => absurd q (by decide), fun _ => ⟨fun q => absurd q (by decide), fun _ => ⟨fun _ => ⟨rfl, rfl⟩, fun q => absurd rfl q⟩⟩⟩⟩⟩⟩⟩⟩⟩⟩⟩⟩⟩)) (zz 3 (by decide) (by decide))
        · exact fin _ (sp_eq (v41 hw hp ⟨fun q => absurd q (by decide), fun _ => ⟨fun q => absurd q (by decide), fun _ => ⟨fun q => absurd q (by decide), fun _ => ⟨fun q => absurd q (by decide), fun _ => ⟨fun q => absurd q (by decide), fun _ => ⟨fun q => absurd q (by decide), fun _ => ⟨fun q => absurd q (by decide), fun _ => ⟨fun q => absurd q (by decide), fun _ => ⟨fun q => absurd q (by decide), fun _ => ⟨fun q => absurd q (by decide), fun _ => ⟨fun q => absurd q (by decide), fun _ => ⟨fun q => absurd q (by decide), fun _ => ⟨fun q => absurd q (by decide), fun _ => ⟨fun _ => ⟨rfl, rfl⟩, fun q => absurd rfl q⟩⟩⟩⟩⟩⟩⟩⟩⟩⟩⟩⟩⟩⟩)) (zz 14 (by decide) (by decide))
        · exact fin _ (sp_eq (v41 hw hp ⟨fun q => absurd q (by decide), fun _ => ⟨fun q => absurd q (by decide), fun _ => ⟨fun q => absurd q (by decide), fun _ => ⟨fun q => absurd q (by decide), fun _ => ⟨fun q => absurd q (by decide), fun _ => ⟨fun q => absurd q (by decide), fun _ => ⟨fun q => absurd q (by decide), fun _ => ⟨fun q => absurd q (by decide), fun _ => ⟨fun q => absurd q (by decide), fun _ => ⟨fun q => absurd q (by decide), fun _ => ⟨fun q => absurd q (by decide), fun _ => ⟨fun q => absurd q (by decide), fun _ => ⟨fun q => absurd q (by decide), fun _ => ⟨fun q => absurd q (by decide), fun _ => ⟨fun _ => ⟨rfl, rfl⟩, fun q => absurd rfl q⟩⟩⟩⟩⟩⟩⟩⟩⟩⟩⟩⟩⟩⟩⟩)) (zz 15 (by decide) (by decide))
      · have z5 : ¬ gI h 405 c = 0 := fun q => z (a3.trans q)
        have e : ∀ j, j < 14 → ¬ j = 4 → gI h (10 + c) j = MV h 0 c j := a4 z
        have a5 := a5 z
        have s156 := ce_ofd (L := L) (xs := xs) r hc2 z
        have m1 : gI h (10 + c) 1 = gI h 406 c := by rw [e 1 (by decide) (by decide), MV0]; rfl
        have m3 : gI h (10 + c) 6 = gI h 413 c := by rw [e 6 (by decide) (by decide), MV0]; rfl
        have m4 : gI h (10 + c) 9 = gI h 414 c := by rw [e 9 (by decide) (by decide), MV0]; rfl
        have m5 : gI h (10 + c) 10 = gI h 415 c := by rw [e 10 (by decide) (by decide), MV0]; rfl
        have m6 : gI h (10 + c) 11 = gI h 416 c := by rw [e 11 (by decide) (by decide), MV0]; rfl
        have m7 : gI h (10 + c) 7 = gI h 417 (2 * c) := by rw [e 7 (by decide) (by decide), MV0]; rfl
        have m8 : gI h (10 + c) 8 = gI h 417 (2 * c + 1) := by rw [e 8 (by decide) (by decide), MV0]; rfl
        have m9 : gI h (10 + c) 12 = gI h 418 c := by rw [e 12 (by decide) (by decide), MV0]; rfl
        have m10 : gI h (10 + c) 13 = gI h 419 c := by rw [e 13 (by decide) (by decide), MV0]; rfl
        have m11 : gI h (10 + c) 2 = gI h 407 c := by rw [e 2 (by decide) (by decide), MV0]; rfl
        have m12 : gI h (10 + c) 3 = gI h 408 c := by rw [e 3 (by decide) (by decide), MV0]; rfl
        have fin : ∀ w : Int32, (Sp L xs 41 [.ref (10 + c), .int y] h (some (.int w)) h) → (Sp L xs 176 [.ref 397, .int (nI c), .int y] h (some (.int w)) h) → ∃ v : Int32, Sp L xs 101 [.ref 0, .int (nI c), .int y] h (some (.int v)) h ∧ Sp L xs 176 [.ref 397, .int (nI c), .int y] h (some (.int v)) h := by
          intro w s t
          exact ⟨w, sp_eq (v101 hw ⟨fun _ => ⟨c, rfl, hc2, w, s, rfl, rfl⟩, fun q => absurd hc q⟩), t⟩
        rcases in3_15 hy with rfl | rfl | rfl | rfl | rfl | rfl | rfl | rfl | rfl | rfl | rfl | rfl | rfl | rfl | rfl
        · exact fin (gI h 405 c) (sp_eq (v41 hw hp ⟨fun _ => ⟨by rw [show gI h (10 + c) 0 = gI h 405 c from a3], rfl⟩, fun q => absurd rfl q⟩)) (sp_eq (v176 hw ⟨fun _ => ⟨fun _ => ⟨c, rfl, hc2, fun q => absurd q z5, fun _ => ⟨fun _ => ⟨rfl, rfl⟩, fun q => absurd rfl q⟩⟩, fun q => absurd hy q⟩, fun q => absurd hc q⟩))
        · exact fin (gI h 406 c) (sp_eq (v41 hw hp ⟨fun q => absurd q (by decide), fun _ => ⟨fun _ => ⟨by rw [m1], rfl⟩, fun q => absurd rfl q⟩⟩)) (sp_eq (v176 hw ⟨fun _ => ⟨fun _ => ⟨c, rfl, hc2, fun q => absurd q z5, fun _ => ⟨fun q => absurd q (by decide), fun _ => ⟨fun _ => ⟨rfl, rfl⟩, fun q => absurd rfl q⟩⟩⟩, fun q => absurd hy q⟩, fun q => absurd hc q⟩))
        · exact fin (ofd (RC h) (gI h (10 + c))) (sp_eq (v41 hw hp ⟨fun q => absurd q (by decide), fun _ => ⟨fun q => absurd q (by decide), fun _ => ⟨fun _ => ⟨_, s34, rfl, rfl⟩, fun q => absurd rfl q⟩⟩⟩)) (sp_eq (v176 hw ⟨fun _ => ⟨fun _ => ⟨c, rfl, hc2, fun q => absurd q z5, fun _ => ⟨fun q => absurd q (by decide), fun _ => ⟨fun q => absurd q (by decide), fun _ => ⟨fun _ => ⟨_, s156, rfl, rfl⟩, fun q => absurd rfl q⟩⟩⟩⟩, fun q => absurd hy q⟩, fun q => absurd hc q⟩))
        · exact fin (gI h 413 c) (sp_eq (v41 hw hp ⟨fun q => absurd q (by decide), fun _ => ⟨fun q => absurd q (by decide), fun _ => ⟨fun q => absurd q (by decide), fun _ => ⟨fun _ => ⟨by rw [m3], rfl⟩, fun q => absurd rfl q⟩⟩⟩⟩)) (sp_eq (v176 hw ⟨fun _ => ⟨fun _ => ⟨c, rfl, hc2, fun q => absurd q z5, fun _ => ⟨fun q => absurd q (by decide), fun _ => ⟨fun q => absurd q (by decide), fun _ => ⟨fun q => absurd q (by decide), fun _ => ⟨fun _ => ⟨rfl, rfl⟩, fun q => absurd rfl q⟩⟩⟩⟩⟩, fun q => absurd hy q⟩, fun q => absurd hc q⟩))
        · exact fin (gI h 414 c) (sp_eq (v41 hw hp ⟨fun q => absurd q (by decide), fun _ => ⟨fun q => absurd q (by decide), fun _ => ⟨fun q => absurd q (by decide), fun _ => ⟨fun q => absurd q (by decide), fun _ => ⟨fun _ => ⟨by rw [m4], rfl⟩, fun q => absurd rfl q⟩⟩⟩⟩⟩)) (sp_eq (v176 hw ⟨fun _ => ⟨fun _ => ⟨c, rfl, hc2, fun q => absurd q z5, fun _ => ⟨fun q => absurd q (by decide), fun _ => ⟨fun q => absurd q (by decide), fun _ => ⟨fun q => absurd q (by decide), fun _ => ⟨fun q => absurd q (by decide), fun _ => ⟨fun _ => ⟨rfl, rfl⟩, fun q => absurd rfl q⟩⟩⟩⟩⟩⟩, fun q => absurd hy q⟩, fun q => absurd hc q⟩))
        · exact fin (gI h 415 c) (sp_eq (v41 hw hp ⟨fun q => absurd q (by decide), fun _ => ⟨fun q => absurd q (by decide), fun _ => ⟨fun q => absurd q (by decide), fun _ => ⟨fun q => absurd q (by decide), fun _ => ⟨fun q => absurd q (by decide), fun _ => ⟨fun _ => ⟨by rw [m5], rfl⟩, fun q => absurd rfl q⟩⟩⟩⟩⟩⟩)) (sp_eq (v176 hw ⟨fun _ => ⟨fun _ => ⟨c, rfl, hc2, fun q => absurd q z5, fun _ => ⟨fun q => absurd q (by decide), fun _ => ⟨fun q => absurd q (by decide), fun _ => ⟨fun q => absurd q (by decide), fun _ => ⟨fun q => absurd q (by decide), fun _ => ⟨fun q => absurd q (by decide), fun _ => ⟨fun _ => ⟨rfl, rfl⟩, fun q => absurd rfl q⟩⟩⟩⟩⟩⟩⟩, fun q => absurd hy q⟩, fun q => absurd hc q⟩))
        · exact fin (b2i (if gI h 416 c = 0 then false else true)) (sp_eq (v41 hw hp ⟨fun q => absurd q (by decide), fun _ => ⟨fun q => absurd q (by decide), fun _ => ⟨fun q => absurd q (by decide), fun _ => ⟨fun q => absurd q (by decide), fun _ => ⟨fun q => absurd q (by decide), fun _ => ⟨fun q => absurd q (by decide), fun _ => ⟨fun _ => ⟨by rw [m6], rfl⟩, fun q => absurd rfl q⟩⟩⟩⟩⟩⟩⟩)) (sp_eq (v176 hw ⟨fun _ => ⟨fun _ => ⟨c, rfl, hc2, fun q => absurd q z5, fun _ => ⟨fun q => absurd q (by decide), fun _ => ⟨fun q => absurd q (by decide), fun _ => ⟨fun q => absurd q (by decide), fun _ => ⟨fun q => absurd q (by decide), fun _ => ⟨fun q => absurd q (by decide), fun _ => ⟨fun q => absurd q (by decide), fun _ => ⟨fun _ => ⟨rfl, rfl⟩, fun q => absurd rfl q⟩⟩⟩⟩⟩⟩⟩⟩, fun q => absurd hy q⟩, fun q => absurd hc q⟩))
        · exact fin (gI h 417 (2 * c)) (sp_eq (v41 hw hp ⟨fun q => absurd q (by decide), fun _ => ⟨fun q => absurd q (by decide), fun _ => ⟨fun q => absurd q (by decide), fun _ => ⟨fun q => absurd q (by decide), fun _ => ⟨fun q => absurd q (by decide), fun _ => ⟨fun q => absurd q (by decide), fun _ => ⟨fun q => absurd q (by decide), fun _ => ⟨fun _ => ⟨by rw [m7], rfl⟩, fun q => absurd rfl q⟩⟩⟩⟩⟩⟩⟩⟩)) (sp_eq (v176 hw ⟨fun _ => ⟨fun _ => ⟨c, rfl, hc2, fun q => absurd q z5, fun _ => ⟨fun q => absurd q (by decide), fun _ => ⟨fun q => absurd q (by decide), fun _ => ⟨fun q => absurd q (by decide), fun _ => ⟨fun q => absurd q (by decide), fun _ => ⟨fun q => absurd q (by decide), fun _ => ⟨fun q => absurd q (by decide), fun _ => ⟨fun q => absurd q (by decide), fun _ => ⟨fun _ => ⟨2 * c, ix4 c, by omega, rfl, rfl⟩, fun q => absurd rfl q⟩⟩⟩⟩⟩⟩⟩⟩⟩, fun q => absurd hy q⟩, fun q => absurd hc q⟩))
        · exact fin (gI h 417 (2 * c + 1)) (sp_eq (v41 hw hp ⟨fun q => absurd q (by decide), fun _ => ⟨fun q => absurd q (by decide), fun _ => ⟨fun q => absurd q (by decide), fun _ => ⟨fun q => absurd q (by decide), fun _ => ⟨fun q => absurd q (by decide), fun _ => ⟨fun q => absurd q (by decide), fun _ => ⟨fun q => absurd q (by decide), fun _ => ⟨fun q => absurd q (by decide), fun _ => ⟨fun _ => ⟨by rw [m8], rfl⟩, fun q => absurd rfl q⟩⟩⟩⟩⟩⟩⟩⟩⟩)) (sp_eq (v176 hw ⟨fun _ => ⟨fun _ => ⟨c, rfl, hc2, fun q => absurd q z5, fun _ => ⟨fun q => absurd q (by decide), fun _ => ⟨fun q => absurd q (by decide), fun _ => ⟨fun q => absurd q (by decide), fun _ => ⟨fun q => absurd q (by decide), fun _ => ⟨fun q => absurd q (by decide), fun _ => ⟨fun q => absurd q (by decide), fun _ => ⟨fun q => absurd q (by decide), fun _ => ⟨fun q => absurd q (by decide), fun _ => ⟨fun _ => ⟨2 * c + 1, ix5 c, by omega, rfl, rfl⟩, fun q => absurd rfl q⟩⟩⟩⟩⟩⟩⟩⟩⟩⟩, fun q => absurd hy q⟩, fun q => absurd hc q⟩))
        · exact fin (gI h 418 c) (sp_eq (v41 hw hp ⟨fun q => absurd q (by decide), fun _ => ⟨fun q => absurd q (by decide), fun _ => ⟨fun q => absurd q (by decide), fun _ => ⟨fun q => absurd q (by decide), fun _ => ⟨fun q => absurd q (by decide), fun _ => ⟨fun q => absurd q (by decide), fun _ => ⟨fun q => absurd q (by decide), fun _ => ⟨fun q => absurd q (by decide), fun _ => ⟨fun q => absurd q (by decide), fun _ => ⟨fun _ => ⟨by rw [m9], rfl⟩, fun q => absurd rfl q⟩⟩⟩⟩⟩⟩⟩⟩⟩⟩)) (sp_eq (v176 hw ⟨fun _ => ⟨fun _ => ⟨c, rfl, hc2, fun q => absurd q z5, fun _ => ⟨fun q => absurd q (by decide), fun _ => ⟨fun q => absurd q (by decide), fun _ => ⟨fun q => absurd q (by decide), fun _ => ⟨fun q => absurd q (by decide), fun _ => ⟨fun q => absurd q (by decide), fun _ => ⟨fun q => absurd q (by decide), fun _ => ⟨fun q => absurd q (by decide), fun _ => ⟨fun q => absurd q (by decide), fun _ => ⟨fun q => absurd q (by decide), fun _ => ⟨fun _ => ⟨rfl, rfl⟩, fun q => absurd rfl q⟩⟩⟩⟩⟩⟩⟩⟩⟩⟩⟩, fun q => absurd hy q⟩, fun q => absurd hc q⟩))
        · exact fin (gI h 419 c) (sp_eq (v41 hw hp ⟨fun q => absurd q (by decide), fun _ => ⟨fun q => absurd q (by decide), fun _ => ⟨fun q => absurd q (by decide), fun _ => ⟨fun q => absurd q (by decide), fun _ => ⟨fun q => absurd q (by decide), fun _ => ⟨fun q => absurd q (by decide), fun _ => ⟨fun q => absurd q (by decide), fun _ => ⟨fun q => absurd q (by decide), fun _ => ⟨fun q => absurd q (by decide), fun _ => ⟨fun q => absurd q (by decide), fun _ => ⟨fun _ => ⟨by rw [m10], rfl⟩, fun q => absurd rfl q⟩⟩⟩⟩⟩⟩⟩⟩⟩⟩⟩)) (sp_eq (v176 hw ⟨fun _ => ⟨fun _ => ⟨c, rfl, hc2, fun q => absurd q z5, fun _ => ⟨fun q => absurd q (by decide), fun _ => ⟨fun q => absurd q (by decide), fun _ => ⟨fun q => absurd q (by decide), fun _ => ⟨fun q => absurd q (by decide), fun _ => ⟨fun q => absurd q (by decide), fun _ => ⟨fun q => absurd q (by decide), fun _ => ⟨fun q => absurd q (by decide), fun _ => ⟨fun q => absurd q (by decide), fun _ => ⟨fun q => absurd q (by decide), fun _ => ⟨fun q => absurd q (by decide), fun _ => ⟨fun _ => ⟨rfl, rfl⟩, fun q => absurd rfl q⟩⟩⟩⟩⟩⟩⟩⟩⟩⟩⟩⟩, fun q => absurd hy q⟩, fun q => absurd hc q⟩))
        · exact fin (gI h 407 c) (sp_eq (v41 hw hp ⟨fun q => absurd q (by decide), fun _ => ⟨fun q => absurd q (by decide), fun _ => ⟨fun q => absurd q (by decide), fun _ => ⟨fun q => absurd q (by decide), fun _ => ⟨fun q => absurd q (by decide), fun _ => ⟨fun q => absurd q (by decide), fun _ => ⟨fun q => absurd q (by decide), fun _ => ⟨fun q => absurd q (by decide), fun _ => ⟨fun q => absurd q (by decide), fun _ => ⟨fun q => absurd q (by decide), fun _ => ⟨fun q => absurd q (by decide), fun _ => ⟨fun _ => ⟨by rw [m11], rfl⟩, fun q => absurd rfl q⟩⟩⟩⟩⟩⟩⟩⟩⟩⟩⟩⟩)) (sp_eq (v176 hw ⟨fun _ => ⟨fun _ => ⟨c, rfl, hc2, fun q => absurd q z5, fun _ => ⟨fun q => absurd q (by decide), fun _ => ⟨fun q => absurd q (by decide), fun _ => ⟨fun q => absurd q (by decide), fun _ => ⟨fun q => absurd q (by decide), fun _ => ⟨fun q => absurd q (by decide), fun _ => ⟨fun q => absurd q (by decide), fun _ => ⟨fun q => absurd q (by decide), fun _ => ⟨fun q => absurd q (by decide), fun _ => ⟨fun q => absurd q (by decide), fun _ => ⟨fun q => absurd q (by decide), fun _ => ⟨fun q => absurd q (by decide), fun _ => ⟨fun _ => ⟨rfl, rfl⟩, fun q => absurd rfl q⟩⟩⟩⟩⟩⟩⟩⟩⟩⟩⟩⟩⟩, fun q => absurd hy q⟩, fun q => absurd hc q⟩))
        · exact fin (gI h 408 c) (sp_eq (v41 hw hp ⟨fun q => absurd q (by decide), fun _ => ⟨fun q => absurd q (by decide), fun _ => ⟨fun q => absurd q (by decide), fun _ => ⟨fun q => absurd q (by decide), fun _ => ⟨fun q => absurd q (by decide), fun _ => ⟨fun q => absurd q (by decide), fun _ => ⟨fun q => absurd q (by decide), fun _ => ⟨fun q => absurd q (by decide), fun _ => ⟨fun q => absurd q (by decide), fun _ => ⟨fun q => absurd q (by decide), fun _ => ⟨fun q => absurd q (by decide), fun _ => ⟨fun q => absurd q (by decide), fun _ => ⟨fun _ => ⟨by rw [m12], rfl⟩, fun q => absurd rfl q⟩⟩⟩⟩⟩⟩⟩⟩⟩⟩⟩⟩⟩)) (sp_eq (v176 hw ⟨fun _ => ⟨fun _ => ⟨c, rfl, hc2, fun q => absurd q z5, fun _ => ⟨fun q => absurd q (by decide), fun _ => ⟨fun q => absurd q (by decide), fun _ => ⟨fun q => absurd q (by decide), fun _ => ⟨fun q => absurd q (by decide), fun _ => ⟨fun q => absurd q (by decide), fun _ => ⟨fun q => absurd q (by decide), fun _ => ⟨fun q => absurd q (by decide), fun _ => ⟨fun q => absurd q (by decide), fun _ => ⟨fun q => absurd q (by decide), fun _ => ⟨fun q => absurd q (by decide), fun _ => ⟨fun q => absurd q (by decide), fun _ => ⟨fun q => absurd q (by decide), fun _ => ⟨fun _ => ⟨rfl, rfl⟩, fun q => absurd rfl q⟩⟩⟩⟩⟩⟩⟩⟩⟩⟩⟩⟩⟩⟩, fun q => absurd hy q⟩, fun q => absurd hc q⟩))
        · exact fin (gI h 409 c) (sp_eq (v41 hw hp ⟨fun q => absurd q (by decide), fun _ => ⟨fun q => absurd q (by decide), fun _ => ⟨fun q => absurd q (by decide), fun _ => ⟨fun q => absurd q (by decide), fun _ => ⟨fun q => absurd q (by decide), fun _ => ⟨fun q => absurd q (by decide), fun _ => ⟨fun q => absurd q (by decide), fun _ => ⟨fun q => absurd q (by decide), fun _ => ⟨fun q => absurd q (by decide), fun _ => ⟨fun q => absurd q (by decide), fun _ => ⟨fun q => absurd q (by decide), fun _ => ⟨fun q => absurd q (by decide), fun _ => ⟨fun q => absurd q (by decide), fun _ => ⟨fun _ => ⟨by rw [a5.1], rfl⟩, fun q => absurd rfl q⟩⟩⟩⟩⟩⟩⟩⟩⟩⟩⟩⟩⟩⟩)) (sp_eq (v176 hw ⟨fun _ => ⟨fun _ => ⟨c, rfl, hc2, fun q => absurd q z5, fun _ => ⟨fun q => absurd q (by decide), fun _ => ⟨fun q => absurd q (by decide), fun _ => ⟨fun q => absurd q (by decide), fun _ => ⟨fun q => absurd q (by decide), fun _ => ⟨fun q => absurd q (by decide), fun _ => ⟨fun q => absurd q (by decide), fun _ => ⟨fun q => absurd q (by decide), fun _ => ⟨fun q => absurd q (by decide), fun _ => ⟨fun q => absurd q (by decide), fun _ => ⟨fun q => absurd q (by decide), fun _ => ⟨fun q => absurd q (by decide), fun _ => ⟨fun q => absurd q (by decide), fun _ => ⟨fun q => absurd q (by decide), fun _ => ⟨fun _ => ⟨rfl, rfl⟩, fun q => absurd rfl q⟩⟩⟩⟩⟩⟩⟩⟩⟩⟩⟩⟩⟩⟩⟩, fun q => absurd hy q⟩, fun q => absurd hc q⟩))
        · exact fin (gI h 410 c) (sp_eq (v41 hw hp ⟨fun q => absurd q (by decide), fun _ => ⟨fun q => absurd q (by decide), fun _ => ⟨fun q => absurd q (by decide), fun _ => ⟨fun q => absurd q (by decide), fun _ => ⟨fun q => absurd q (by decide), fun _ => ⟨fun q => absurd q (by decide), fun _ => ⟨fun q => absurd q (by decide), fun _ => ⟨fun q => absurd q (by decide), fun _ => ⟨fun q => absurd q (by decide), fun _ => ⟨fun q => absurd q (by decide), fun _ => ⟨fun q => absurd q (by decide), fun _ => ⟨fun q => absurd q (by decide), fun _ => ⟨fun q => absurd q (by decide), fun _ => ⟨fun q => absurd q (by decide), fun _ => ⟨fun _ => ⟨by rw [a5.2], rfl⟩, fun q => absurd rfl q⟩⟩⟩⟩⟩⟩⟩⟩⟩⟩⟩⟩⟩⟩⟩)) (sp_eq (v176 hw ⟨fun _ => ⟨fun _ => ⟨c, rfl, hc2, fun q => absurd q z5, fun _ => ⟨fun q => absurd q (by decide), fun _ => ⟨fun q => absurd q (by decide), fun _ => ⟨fun q => absurd q (by decide), fun _ => ⟨fun q => absurd q (by decide), fun _ => ⟨fun q => absurd q (by decide), fun _ => ⟨fun q => absurd q (by decide), fun _ => ⟨fun q => absurd q (by decide), fun _ => ⟨fun q => absurd q (by decide), fun _ => ⟨fun q => absurd q (by decide), fun _ => ⟨fun q => absurd q (by decide), fun _ => ⟨fun q => absurd q (by decide), fun _ => ⟨fun q => absurd q (by decide), fun _ => ⟨fun q => absurd q (by decide), fun _ => ⟨fun q => absurd q (by decide), fun _ => ⟨rfl, rfl⟩⟩⟩⟩⟩⟩⟩⟩⟩⟩⟩⟩⟩⟩⟩⟩, fun q => absurd hy q⟩, fun q => absurd hc q⟩))
    · exact ⟨-1, sp_eq (v101 hw ⟨fun _ => ⟨c, rfl, hc2, -1, sp_eq (v41 hw hp ⟨fun q => absurd (by rw [q]; decide) hy, fun _ => ⟨fun q => absurd (by rw [q]; decide) hy, fun _ => ⟨fun q => absurd (by rw [q]; decide) hy, fun _ => ⟨fun q => absurd (by rw [q]; decide) hy, fun _ => ⟨fun q => absurd (by rw [q]; decide) hy, fun _ => ⟨fun q => absurd (by rw [q]; decide) hy, fun _ => ⟨fun q => absurd (by rw [q]; decide) hy, fun _ => ⟨fun q => absurd (by rw [q]; decide) hy, fun _ => ⟨fun q => absurd (by rw [q]; decide) hy, fun _ => ⟨fun q => absurd (by rw [q]; decide) hy, fun _ => ⟨fun q => absurd (by rw [q]; decide) hy, fun _ => ⟨fun q => absurd (by rw [q]; decide) hy, fun _ => ⟨fun q => absurd (by rw [q]; decide) hy, fun _ => ⟨fun q => absurd (by rw [q]; decide) hy, fun _ => ⟨fun q => absurd (by rw [q]; decide) hy, fun _ => ⟨rfl, rfl⟩⟩⟩⟩⟩⟩⟩⟩⟩⟩⟩⟩⟩⟩⟩⟩), rfl, rfl⟩, fun q => absurd hc q⟩), sp_eq (v176 hw ⟨fun _ => ⟨fun q => absurd q hy, fun _ => ⟨rfl, rfl⟩⟩, fun q => absurd hc q⟩)⟩
  · exact ⟨-1, sp_eq (v101 hw ⟨fun q => absurd q hc, fun _ => ⟨rfl, rfl⟩⟩), sp_eq (v176 hw ⟨fun q => absurd q hc, fun _ => ⟨rfl, rfl⟩⟩)⟩
theorem op_sunk : OPS L xs 102 177 [.ref 0, .int x] [.ref 397, .int x] := by
  intro h k r
  have hw := r.1.1
  by_cases hx : x_isItem x = true
  · obtain ⟨i, i1, i2, rfl⟩ := isItem_n hx
    exact ⟨gI h 411 i, sp_eq (v102 hw ⟨fun _ => ⟨i, rfl, i2, by rw [r.2.1.2.2.1 i i2], rfl⟩, fun q => absurd hx q⟩), sp_eq (v177 hw ⟨fun _ => ⟨i, rfl, i2, rfl, rfl⟩, fun q => absurd hx q⟩)⟩
  · exact ⟨0, sp_eq (v102 hw ⟨fun q => absurd q hx, fun _ => ⟨rfl, rfl⟩⟩), sp_eq (v177 hw ⟨fun q => absurd q hx, fun _ => ⟨rfl, rfl⟩⟩)⟩
theorem op_holds : OPS L xs 93 145 [.ref 0, .int x] [.ref 397, .int x] := by
  intro h k r
  have hw := r.1.1
  by_cases hx : x_isShelf x = true
  · obtain ⟨s, hs, rfl⟩ := isShelf_n hx
    refine ⟨gI h 420 s, sp_eq (v93 hw ⟨fun _ => ⟨s, rfl, hs, ?_⟩, fun q => absurd hx q⟩), sp_eq (v145 hw ⟨fun _ => ⟨s, rfl, hs, rfl, rfl⟩, fun q => absurd hx q⟩)⟩
    rcases r.2.2.2.1 s hs with ⟨q1, q2⟩ | ⟨q1, t, n, ht, hn, q2, q3, -⟩ | ⟨q1, q2, -⟩
    · rw [q1, q2]; exact ⟨fun _ => ⟨rfl, rfl⟩, fun q => absurd rfl q⟩
    · rw [q1, q2, q3]
      refine ⟨fun q => absurd q (by decide), fun _ => ⟨fun q => absurd q (by decide), fun _ => ⟨?_, rfl⟩⟩⟩
      rw [show 100 + nI t = nI (100 + t) from nI_add 100 t]
    · rw [q1, q2]; exact ⟨fun q => absurd q (by decide), fun _ => ⟨fun _ => ⟨rfl, rfl⟩, fun q => absurd rfl q⟩⟩
  · exact ⟨-1, sp_eq (v93 hw ⟨fun q => absurd q hx, fun _ => ⟨rfl, rfl⟩⟩), sp_eq (v145 hw ⟨fun q => absurd q hx, fun _ => ⟨rfl, rfl⟩⟩)⟩
end LK
