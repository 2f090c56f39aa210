/-! Placing parts; the calls build and raze. -/
def CPL (h h1 : Hp) (P : Nat → Option Q4) : Prop := h1.1 = h.1 ∧ HW h1 ∧ gL h1 = gL h ∧ (∀ a, ¬ (10 ≤ a ∧ a < 154) → gI h1 a = gI h a ∧ ∀ j, gR h1 a j = gR h a j) ∧ ∀ c, c < 144 → (P c = none → gI h1 (10 + c) = gI h (10 + c) ∧ gR h1 (10 + c) 4 = gR h (10 + c) 4) ∧ (∀ q, P c = some q → (∀ j, j < 16 → ¬ j = 4 → gI h1 (10 + c) j = nwR q j) ∧ gR h1 (10 + c) 4 = if q.1 = 6 then some (444 + q.2.2.1.toNatClampNeg) else none)
def ryt (a : Nat) : Prop := (405 ≤ a ∧ a ≤ 410) ∨ (412 ≤ a ∧ a ≤ 419)
def RPL (h1 h2 : Hp) (P : Nat → Option Q4) : Prop := IE h1 h2 ∧ SX h1 h2 ryt ∧ ∀ c, c < 144 → SR (MV h2 0 c) ∧ (P c = none → MV h2 0 c 0 = MV h1 0 c 0 ∧ (¬ MV h1 0 c 0 = 0 → (∀ j, j < 14 → ¬ j = 4 → MV h2 0 c j = MV h1 0 c j) ∧ gI h2 409 c = gI h1 409 c ∧ gI h2 410 c = gI h1 410 c)) ∧ (∀ q, P c = some q → MV h2 0 c 0 = q.1 ∧ (¬ q.1 = 0 → (∀ j, j < 14 → ¬ j = 4 → MV h2 0 c j = nwR q j) ∧ gI h2 409 c = 0 ∧ gI h2 410 c = 0))
def GQ (k : Nat) (q : Q4) : Prop := q.1 = 0 ∨ GP k q.1 q.2.1 q.2.2.1 q.2.2.2
section PB
variable {L : Nat} {xs : Nat → Int32} {h h1 h2 : Hp} {k c : Nat} {R : Nat → Row} {P : Nat → Option Q4} {x kd sd ar pe : Int32}
theorem GR_new {q : Q4} (hB : GB k R) (g : GQ k q) {y : Row} (e : ∀ j, j < 16 → ¬ j = 4 → y j = nwR q j) : GR k R y := by
  have y0 : y 0 = q.1 := by
    rw [e 0 (by decide) (by decide)]
    unfold nwR
    by_cases z : q.1 = 0
    · rw [if_pos z, z]
    · rw [if_neg z]
  by_cases z : q.1 = 0
  · have ez : ∀ j, j < 16 → ¬ j = 4 → y j = 0 := fun j hj h4 => by rw [e j hj h4]; unfold nwR; rw [if_pos z]
    have z0 : y 0 = 0 := y0.trans z
    refine ⟨⟨0, by decide, z0⟩, fun _ => ez, fun q => absurd z0 q, ⟨0, by decide, ez 5 (by decide) (by decide)⟩, fun _ => ez 5 (by decide) (by decide), ⟨0, by decide, ez 12 (by decide) (by decide)⟩, ⟨0, by decide, ez 13 (by decide) (by decide)⟩, fun w => absurd (z0.symm.trans w) (by decide), fun _ => ez 6 (by decide) (by decide), fun _ => ⟨ez 7 (by decide) (by decide), ez 8 (by decide) (by decide), ez 9 (by decide) (by decide), ez 10 (by decide) (by decide), ez 11 (by decide) (by decide)⟩, fun w => absurd (z0.symm.trans w) (by decide)⟩
  · obtain ⟨⟨d, hd1, hd2, ed⟩, g2, g3, g4⟩ := g.resolve_left z
    have n : ∀ j, j < 16 → ¬ j = 4 → y j = (match j with
      | 0 => q.1
      | 1 => if q.1 = 7 then 0 else q.2.1
      | 2 => if q.1 = 5 then q.2.2.1 else if q.1 = 6 then q.2.2.1 else 0
      | 3 => if q.1 = 5 then q.2.2.2 else 0
      | 12 => 3
      | 13 => 3
      | _ => 0) := fun j hj h4 => by rw [e j hj h4]; unfold nwR; rw [if_neg z]
    have n1 := n 1 (by decide) (by decide)
    have n2 := n 2 (by decide) (by decide)
    have n3 := n 3 (by decide) (by decide)
    have n5 := n 5 (by decide) (by decide)
    have n6 := n 6 (by decide) (by decide)
    have n7 := n 7 (by decide) (by decide)
    have n8 := n 8 (by decide) (by decide)
    have n9 := n 9 (by decide) (by decide)
    have n10 := n 10 (by decide) (by decide)
    have n11 := n 11 (by decide) (by decide)
    have n12 := n 12 (by decide) (by decide)
    have n13 := n 13 (by decide) (by decide)
    refine ⟨⟨d, hd2, y0.trans ed⟩, fun w => absurd (y0.symm.trans w) z, fun _ w => ?_, ⟨0, by decide, n5⟩, fun _ => n5, ⟨3, by decide, n12⟩, ⟨3, by decide, n13⟩, fun w => ?_, fun _ => n6, fun _ => ⟨n7, n8, n9, n10, n11⟩, fun w => ?_⟩
    · rw [y0] at w
      by_cases k7 : q.1 = 7
      · exact ⟨0, by decide, by rw [n1]; exact if_pos k7⟩
      · obtain ⟨s, hs, es⟩ := g2 w
        exact ⟨s, hs, by rw [n1, ← es]; exact if_neg k7⟩
    · rw [y0] at w
      obtain ⟨i, p, i1, i2, i3, p1, p2, p3⟩ := g3 w
      exact ⟨i, p, 0, i1, i2, by rw [n2, ← i3]; exact if_pos w, p2, by rw [n3, ← p3]; exact if_pos w, by omega, n6⟩
    · rw [y0] at w
      obtain ⟨a, ha, ea⟩ := g4 w
      have b := hB a ha
      refine ⟨a, ha, ?_, 0, 0, 0, 0, n7, Nat.zero_le _, n8, Nat.zero_le _, n9, Nat.zero_le _, n10, b.2.2.2.2.2.1, Or.inl n11⟩
      rw [n2, ← ea]
      show (if q.1 = 5 then q.2.2.1 else if q.1 = 6 then q.2.2.1 else 0) = _
      rw [if_neg (by rw [w]; decide), if_pos w]
theorem Rel_places (r : Rel h k) (cc : CPL h h1 P) (m : RPL h1 h2 P) (hg : ∀ c q, c < 144 → P c = some q → GQ k q) : Rel h2 k := by
  obtain ⟨r1, r2, r3, r4, r5, r6⟩ := r
  obtain ⟨cn, cw, cl, co, cr⟩ := cc
  obtain ⟨mi, ms, mr⟩ := m
  have hk := r1.2.1
  have oo : ∀ a, ¬ (10 ≤ a ∧ a < 154) → ¬ ryt a → gI h2 a = gI h a := fun a q1 q2 => (ms a q2).trans (co a q1).1
  have gr : ∀ a, ¬ (10 ≤ a ∧ a < 154) → ∀ j, gR h2 a j = gR h a j := fun a q j => by rw [mi.2.2]; exact (co a q).2 j
  have gl : gL h2 = gL h := mi.2.1.trans cl
  have eR : RC h2 = RC h := by
    funext q
    exact oo (444 + q) (by omega) (by unfold ryt; omega)
  have mv1 : MV h1 = MV h := by
    funext b c j
    unfold MV
    have := AD_no b c j
    rw [(co _ (by omega)).1]
  refine ⟨RLb_of (h := h) (IE_w mi cw) (mi.1.trans cn) (fun a ha => oo a (by omega) (by unfold ryt; omega)) (by rw [oo 397 (by omega) (by unfold ryt; omega)]) (fun q => gr 3 (by omega) q) r1, ?_, RLr_of (h := h) (fun a ha => oo a (by omega) (by unfold ryt; omega)) r3, RLs_of (h := h) (fun a ha => oo a (by unfold inS at ha; omega) (by unfold inS at ha; unfold ryt; omega)) (fun a _ => by rw [gl]) r4, RLt_of (h := h) (fun a ha => oo a (by omega) (by unfold ryt; omega)) (by rw [oo 397 (by omega) (by unfold ryt; omega)]) r5, RLp_of (h := h) (oo 394 (by omega) (by unfold ryt; omega)) (oo 441 (by omega) (by unfold ryt; omega)) (fun a _ => by rw [gl]) r6⟩
  obtain ⟨f1, f2, f3, f4⟩ := r2
  refine ⟨fun c hc => ?_, ?_, ?_, ?_⟩
  · obtain ⟨a1, a2, a3, a4, a5⟩ := f1 c hc
    obtain ⟨s1, s2, s3⟩ := mr c hc
    obtain ⟨t2, t3⟩ := cr c hc
    have e2 : gI h2 (10 + c) = gI h1 (10 + c) := ms _ (by unfold ryt; omega)
    have g2 : gR h2 (10 + c) 4 = gR h1 (10 + c) 4 := by rw [mi.2.2]
    have k2 : gI h2 405 c = MV h2 0 c 0 := rfl
    cases hp : P c with
    | none =>
      obtain ⟨u1, u2⟩ := s2 hp
      obtain ⟨w1, w2⟩ := t2 hp
      rw [mv1] at u1 u2
      have k1 : gI h (10 + c) 0 = MV h 0 c 0 := a3.1
      refine ⟨LR_g (mi.1.trans cn) (e2.trans w1) (g2.trans w2) a1, by rw [eR, e2, w1]; exact a2, ⟨?_, fun z j hj h4 => ?_⟩, fun z => ?_, s1⟩
      · rw [e2, w1, k2, u1]; exact a3.1
      · rw [e2, w1] at z ⊢
        rw [(u2 (k1 ▸ z)).1 j hj h4]
        exact a3.2 z j hj h4
      · rw [e2, w1] at z ⊢
        obtain ⟨y1, y2, y3⟩ := u2 (k1 ▸ z)
        rw [y2, y3, (co 409 (by omega)).1, (co 410 (by omega)).1]
        exact a4 z
    | some q =>
      obtain ⟨u1, u2⟩ := s3 q hp
      obtain ⟨w1, w2⟩ := t3 q hp
      have gq := hg c q hc hp
      have y0 : gI h2 (10 + c) 0 = q.1 := by
        rw [e2, w1 0 (by decide) (by decide)]
        unfold nwR
        by_cases z : q.1 = 0
        · rw [if_pos z, z]
        · rw [if_neg z]
      refine ⟨⟨fun w => ?_, fun w => ?_⟩, ?_, ⟨?_, fun z j hj h4 => ?_⟩, fun z => ?_, s1⟩
      · rw [y0] at w
        have y2 : gI h2 (10 + c) 2 = q.2.2.1 := by
          rw [e2, w1 2 (by decide) (by decide)]
          unfold nwR
          rw [if_neg (by rw [w]; decide)]
          show (if q.1 = 5 then q.2.2.1 else if q.1 = 6 then q.2.2.1 else 0) = _
          rw [if_neg (by rw [w]; decide), if_pos w]
        obtain ⟨a, ha, ea⟩ := (gq.resolve_left (by rw [w]; decide)).2.2.2 w
        rw [g2, w2, if_pos w, y2]
        refine ⟨rfl, ?_⟩
        rw [ea, nI_c (by omega), mi.1, cn, r1.2.2.1]
        omega
      · rw [y0] at w
        rw [g2, w2, if_neg w]
      · rw [eR]
        exact GR_new r1.2.2.2.2.2.2.2.1 gq (fun j hj h4 => by rw [e2]; exact w1 j hj h4)
      · rw [y0, k2, u1]
      · rw [y0] at z
        rw [(u2 z).1 j hj h4, e2]
        exact w1 j (by omega) h4
      · rw [y0] at z
        rw [(u2 z).2.1, (u2 z).2.2, e2, w1 14 (by decide) (by decide), w1 15 (by decide) (by decide)]
        unfold nwR
        rw [if_neg z]
        exact ⟨rfl, rfl⟩
  · rw [oo 4 (by omega) (by unfold ryt; omega), oo 397 (by omega) (by unfold ryt; omega)]; exact f2
  · rw [oo 6 (by omega) (by unfold ryt; omega), oo 411 (by omega) (by unfold ryt; omega)]; exact f3
  · rw [oo 411 (by omega) (by unfold ryt; omega)]; exact f4
/-- the class's place -/
theorem c14 (hw : HW h) (hk : k < 9) (e1 : gI h 2 1 = nI k) (en : h.1 = 444 + k) (e3 : ∀ r, r < k → gR h 3 r = some (444 + r)) (hc : c < 144) (q : Q4) : Sp L xs 14 [.ref 4, .int (nI c), .int q.1, .int q.2.1, .int q.2.2.1, .int q.2.2.2] h none (sR (wO h (10 + c) (bcR q (gI h (10 + c)))) (10 + c) 4 (if q.1 = 6 then (if x_in3 q.2.2.1 0 (nI k - 1) = true then some (444 + q.2.2.1.toNatClampNeg) else none) else none)) := by
  have hrq : ∀ r, (if x_in3 q.2.2.1 0 (nI k - 1) = true then some (444 + q.2.2.1.toNatClampNeg) else none) = some r → RQ r h.1 := by
    intro r e
    by_cases hr : x_in3 q.2.2.1 0 (nI k - 1) = true
    · rw [if_pos hr] at e
      obtain ⟨a, ha, ea⟩ := (nI_range (by omega)).mp hr
      injection e with e
      subst e
      rw [ea, nI_c (by omega)]
      exact ⟨by omega, SH_rec (by omega)⟩
    · rw [if_neg hr] at e; cases e
  have s26 := c26 (L := L) (xs := xs) hw (PT_4 hc) q hrq
  have s2 := c2 (L := L) (xs := xs) (ar := q.2.2.1) hw hk e1 e3
  refine sp_eq (v14 hw FL_4 ⟨c, rfl, hc, _, s2, fun z => ⟨_, ?_, rfl, rfl⟩, fun q6 z => ⟨_, ?_, rfl, rfl⟩⟩)
  · rw [z] at s26 ⊢
    exact s26
  · rw [z] at s26 ⊢
    exact s26
/-- the reference's lays -/
theorem c133 (hw : HW h) (hc : c < 144) (q : Q4) (hz : ¬ q.1 = 0) : ∃ h', Sp L xs 133 [.ref 397, .int (nI c), .int q.1, .int q.2.1, .int q.2.2.1, .int q.2.2.2] h none h' ∧ IE h h' ∧ SX h h' ryt ∧ (∀ j, j < 14 → ¬ j = 4 → MV h' 0 c j = nwR q j) ∧ gI h' 409 c = 0 ∧ gI h' 410 c = 0 ∧ (∀ c', ¬ c' = c → (∀ j, j < 14 → MV h' 0 c' j = MV h 0 c' j) ∧ gI h' 409 c' = gI h 409 c' ∧ gI h' 410 c' = gI h 410 c') := by
  have i2 : 2 * nI c = nI (2 * c) := ix4 c
  have i3 : 2 * nI c + 1 = nI (2 * c + 1) := ix5 c
  refine ⟨_, sp_eq (v133 hw ⟨c, rfl, hc, 2 * c, i2, by omega, 2 * c + 1, i3, by omega, rfl, rfl⟩), IE_s (IE_s (IE_s (IE_s (IE_s (IE_s (IE_s (IE_s (IE_s (IE_s (IE_s (IE_s (IE_s (IE_s (IE_s (IE_r h))))))))))))))), fun a ha => ?_, fun j hj h4 => ?_, ?_, ?_, fun c' hne => ⟨fun j hj => ?_, ?_, ?_⟩⟩
  · unfold ryt at ha
    rw [gIo (by omega), gIo (by omega), gIo (by omega), gIo (by omega), gIo (by omega), gIo (by omega), gIo (by omega), gIo (by omega), gIo (by omega), gIo (by omega), gIo (by omega), gIo (by omega), gIo (by omega), gIo (by omega), gIo (by omega)]
  · rw [MV0]
    rcases (show j = 0 ∨ j = 1 ∨ j = 2 ∨ j = 3 ∨ j = 5 ∨ j = 6 ∨ j = 7 ∨ j = 8 ∨ j = 9 ∨ j = 10 ∨ j = 11 ∨ j = 12 ∨ j = 13 by omega) with rfl | rfl | rfl | rfl | rfl | rfl | rfl | rfl | rfl | rfl | rfl | rfl | rfl <;> simp [gI_sI, nwR, hz]
  · simp [gI_sI]
  · simp [gI_sI]
  · have a1 : ¬ 2 * c' = 2 * c := by omega
    have a2 : ¬ 2 * c' = 2 * c + 1 := by omega
    have a3 : ¬ 2 * c' + 1 = 2 * c := by omega
    have a4 : ¬ 2 * c' + 1 = 2 * c + 1 := by omega
    rw [MV0, MV0]
    rcases (show j = 0 ∨ j = 1 ∨ j = 2 ∨ j = 3 ∨ j = 4 ∨ j = 5 ∨ j = 6 ∨ j = 7 ∨ j = 8 ∨ j = 9 ∨ j = 10 ∨ j = 11 ∨ j = 12 ∨ j = 13 by omega) with rfl | rfl | rfl | rfl | rfl | rfl | rfl | rfl | rfl | rfl | rfl | rfl | rfl | rfl <;> simp only [gI_sI] <;> simp [hne, a1, a2, a3, a4]
  · simp [gI_sI, hne]
  · simp [gI_sI, hne]
theorem gd_GP (hk : k < 9) (h6 : ¬ (kd = 6 ∧ ¬ x_in3 ar 0 (nI k - 1) = true)) (g : gdB kd sd ar pe = true) : ¬ kd = 0 ∧ GP k kd sd ar pe := by
  unfold gdB at g
  rw [Bool.and_eq_true, Bool.and_eq_true] at g
  obtain ⟨g1, g2, g3⟩ := g
  obtain ⟨d, d1, d2, rfl⟩ := in3_n (a := 1) (b := 7) (by decide) (by decide) g1
  refine ⟨nI_ne0 (by omega) (by omega), ⟨d, d1, by omega, rfl⟩, fun n4 => ?_, fun k5 => ?_, fun k6 => ?_⟩
  · sorry
  · rw [if_pos k5, Bool.and_eq_true] at g3
    obtain ⟨i, i1, i2, e⟩ := isItem_n g3.1
    obtain ⟨p, p1, p2, e2⟩ := in3_n (a := 1) (b := 60) (by decide) (by decide) g3.2
    exact ⟨i, p, i1, i2, e, p1, p2, e2⟩
  · apply (nI_range (by omega)).mp
    apply Classical.byContradiction
    intro z
    exact h6 ⟨k6, z⟩
end PB
