/-! Placing parts; the calls build and raze. -/
def CPL (h h1 : Hp) (P : Nat → Option Q4) : Prop := h1.1 = h.1 ∧ HW h1 ∧ gL h1 = gL h ∧ (∀ a, ¬ (10 ≤ a ∧ a < 154) → gI h1 a = gI h a ∧ ∀ j, gR h1 a j = gR h a j) ∧ ∀ c, c < 144 → (P c = none → gI h1 (10 + c) = gI h (10 + c) ∧ gR h1 (10 + c) 4 = gR h (10 + c) 4) ∧ (∀ q, P c = some q → (∀ j, j < 16 → ¬ j = 4 → gI h1 (10 + c) j = nwR q j) ∧ gR h1 (10 + c) 4 = if q.1 = 6 then some (444 + q.2.2.1.toNatClampNeg) else none)
def ryt (a : Nat) : Prop := (405 ≤ a ∧ a ≤ 410) ∨ (412 ≤ a ∧ a ≤ 419)
def RPL (h1 h2 : Hp) (P : Nat → Option Q4) : Prop := IE h1 h2 ∧ SX h1 h2 ryt ∧ ∀ c, c < 144 → SR (MV h2 0 c) ∧ (P c = none → MV h2 0 c 0 = MV h1 0 c 0 ∧ (¬ MV h1 0 c 0 = 0 → (∀ j, j < 14 → ¬ j = 4 → MV h2 0 c j = MV h1 0 c j) ∧ gI h2 409 c = gI h1 409 c ∧ gI h2 410 c = gI h1 410 c)) ∧ (∀ q, P c = some q → MV h2 0 c 0 = q.1 ∧ (¬ q.1 = 0 → (∀ j, j < 14 → ¬ j = 4 → MV h2 0 c j = nwR q j) ∧ gI h2 409 c = 0 ∧ gI h2 410 c = 0))
def GQ (k : Nat) (q : Q4) : Prop := q.1 = 0 ∨ GP k q.1 q.2.1 q.2.2.1 q.2.2.2
section PB
variable {L : Nat} {xs : Nat → Int32} {h h1 h2 : Hp} {k c : Nat} {R : Nat → Row} {P : Nat → Option Q4} {x kd sd ar pe : Int32}
theorem GR_new {q : Q4} (hB : GB k R) (g : GQ k q) {y : Row} (e : ∀ j, j < 16 → ¬ j = 4 → y j = nwR q j) : GR k R y := by
  have y0 : y 0 = q.1 := by
    rw [e 0 (by decide) (by decide)]
    unfold nwR
    by_cases z : q.1 = 0
    · rw [if_pos z, z]
    · rw [if_neg z]; rfl
  by_cases z : q.1 = 0
  · have ez : ∀ j, j < 16 → ¬ j = 4 → y j = 0 := fun j hj h4 => by rw [e j hj h4]; unfold nwR; rw [if_pos z]
    have z0 : y 0 = 0 := y0.trans z
    refine ⟨⟨0, by decide, z0⟩, fun _ => ez, fun q => absurd z0 q, ⟨0, by decide, ez 5 (by decide) (by decide)⟩, fun _ => ez 5 (by decide) (by decide), ⟨0, by decide, ez 12 (by decide) (by decide)⟩, ⟨0, by decide, ez 13 (by decide) (by decide)⟩, fun w => absurd (z0.symm.trans w) (by decide), fun _ => ez 6 (by decide) (by decide), fun _ => ⟨ez 7 (by decide) (by decide), ez 8 (by decide) (by decide), ez 9 (by decide) (by decide), ez 10 (by decide) (by decide), ez 11 (by decide) (by decide)⟩, fun w => absurd (z0.symm.trans w) (by decide)⟩
  · obtain ⟨⟨d, hd1, hd2, ed⟩, g2, g3, g4⟩ := g.resolve_left z
    have n1 : y 1 = if q.1 = 7 then 0 else q.2.1 := by rw [e 1 (by decide) (by decide)]; unfold nwR; rw [if_neg z]; rfl
    have n2 : y 2 = if q.1 = 5 then q.2.2.1 else if q.1 = 6 then q.2.2.1 else 0 := by rw [e 2 (by decide) (by decide)]; unfold nwR; rw [if_neg z]; rfl
    have n3 : y 3 = if q.1 = 5 then q.2.2.2 else 0 := by rw [e 3 (by decide) (by decide)]; unfold nwR; rw [if_neg z]; rfl
    have n5 : y 5 = 0 := by rw [e 5 (by decide) (by decide)]; unfold nwR; rw [if_neg z]; rfl
    have n6 : y 6 = 0 := by rw [e 6 (by decide) (by decide)]; unfold nwR; rw [if_neg z]; rfl
    have n7 : y 7 = 0 := by rw [e 7 (by decide) (by decide)]; unfold nwR; rw [if_neg z]; rfl
    have n8 : y 8 = 0 := by rw [e 8 (by decide) (by decide)]; unfold nwR; rw [if_neg z]; rfl
    have n9 : y 9 = 0 := by rw [e 9 (by decide) (by decide)]; unfold nwR; rw [if_neg z]; rfl
    have n10 : y 10 = 0 := by rw [e 10 (by decide) (by decide)]; unfold nwR; rw [if_neg z]; rfl
    have n11 : y 11 = 0 := by rw [e 11 (by decide) (by decide)]; unfold nwR; rw [if_neg z]; rfl
    have n12 : y 12 = 3 := by rw [e 12 (by decide) (by decide)]; unfold nwR; rw [if_neg z]; rfl
    have n13 : y 13 = 3 := by rw [e 13 (by decide) (by decide)]; unfold nwR; rw [if_neg z]; rfl
    refine ⟨⟨d, hd2, y0.trans ed⟩, fun w => absurd (y0.symm.trans w) z, fun _ w => ?_, ⟨0, by decide, n5⟩, fun _ => n5, ⟨3, by decide, n12⟩, ⟨3, by decide, n13⟩, fun w => ?_, fun _ => n6, fun _ => ⟨n7, n8, n9, n10, n11⟩, fun w => ?_⟩
    · rw [y0] at w
      by_cases k7 : q.1 = 7
      · exact ⟨0, by decide, by rw [n1]; exact if_pos k7⟩
      · obtain ⟨s, hs, es⟩ := g2 w k7
        exact ⟨s, hs, by rw [n1, ← es]; exact if_neg k7⟩
    · rw [y0] at w
      obtain ⟨i, p, i1, i2, i3, p1, p2, p3⟩ := g3 w
      exact ⟨i, p, 0, i1, i2, by rw [n2, ← i3]; exact if_pos w, p2, by rw [n3, ← p3]; exact if_pos w, by omega, n6⟩
    · rw [y0] at w
      obtain ⟨a, ha, ea⟩ := g4 w
      have b := hB a ha
      refine ⟨a, ha, ?_, 0, 0, 0, 0, n7, Nat.zero_le _, n8, Nat.zero_le _, n9, Nat.zero_le _, n10, b.2.2.2.2.2.1, Or.inl n11⟩
      rw [n2, ← ea]
      show (if q.1 = 5 then q.2.2.1 else if q.1 = 6 then q.2.2.1 else 0) = _
      rw [if_neg (by rw [w]; decide), if_pos w]
theorem Rel_places (r : Rel h k) (cc : CPL h h1 P) (m : RPL h1 h2 P) (hg : ∀ c q, c < 144 → P c = some q → GQ k q) : Rel h2 k := by
  obtain ⟨r1, r2, r3, r4, r5, r6⟩ := r
  obtain ⟨cn, cw, cl, co, cr⟩ := cc
  obtain ⟨mi, ms, mr⟩ := m
  have hk := r1.2.1
  have oo : ∀ a, ¬ (10 ≤ a ∧ a < 154) → ¬ ryt a → gI h2 a = gI h a := fun a q1 q2 => (ms a q2).trans (co a q1).1
  have gr : ∀ a, ¬ (10 ≤ a ∧ a < 154) → ∀ j, gR h2 a j = gR h a j := fun a q j => by rw [mi.2.2]; exact (co a q).2 j
  have gl : gL h2 = gL h := mi.2.1.trans cl
  have eR : RC h2 = RC h := by
    funext q
    exact oo (444 + q) (by omega) (by unfold ryt; omega)
  have mv1 : MV h1 = MV h := by
    funext b c j
    unfold MV
    have := AD_no b c j
    rw [(co _ (by omega)).1]
  refine ⟨RLb_of (h := h) (IE_w mi cw) (mi.1.trans cn) (fun a ha => oo a (by omega) (by unfold ryt; omega)) (by rw [oo 397 (by omega) (by unfold ryt; omega)]) (fun q => gr 3 (by omega) q) r1, ?_, RLr_of (h := h) (fun a ha => oo a (by omega) (by unfold ryt; omega)) r3, RLs_of (h := h) (fun a ha => oo a (by unfold inS at ha; omega) (by unfold inS at ha; unfold ryt; omega)) (fun a _ => by rw [gl]) r4, RLt_of (h := h) (fun a ha => oo a (by omega) (by unfold ryt; omega)) (by rw [oo 397 (by omega) (by unfold ryt; omega)]) r5, RLp_of (h := h) (oo 394 (by omega) (by unfold ryt; omega)) (oo 441 (by omega) (by unfold ryt; omega)) (fun a _ => by rw [gl]) r6⟩
  obtain ⟨f1, f2, f3, f4⟩ := r2
  refine ⟨fun c hc => ?_, ?_, ?_, ?_⟩
  · obtain ⟨a1, a2, a3, a4, a5⟩ := f1 c hc
    obtain ⟨s1, s2, s3⟩ := mr c hc
    obtain ⟨t2, t3⟩ := cr c hc
    have e2 : gI h2 (10 + c) = gI h1 (10 + c) := ms _ (by unfold ryt; omega)
    have g2 : gR h2 (10 + c) 4 = gR h1 (10 + c) 4 := by rw [mi.2.2]
    have k2 : gI h2 405 c = MV h2 0 c 0 := rfl
    cases hp : P c with
    | none =>
      obtain ⟨u1, u2⟩ := s2 hp
      obtain ⟨w1, w2⟩ := t2 hp
      rw [mv1] at u1 u2
      have k1 : gI h (10 + c) 0 = MV h 0 c 0 := a3.1
      refine ⟨LR_g (mi.1.trans cn) (e2.trans w1) (g2.trans w2) a1, by rw [eR, e2, w1]; exact a2, ⟨?_, fun z j hj h4 => ?_⟩, fun z => ?_, s1⟩
      · rw [e2, w1, k2, u1]; exact a3.1
      · rw [e2, w1] at z ⊢
        rw [(u2 (k1 ▸ z)).1 j hj h4]
        exact a3.2 z j hj h4
      · rw [e2, w1] at z ⊢
        obtain ⟨y1, y2, y3⟩ := u2 (k1 ▸ z)
        rw [y2, y3, (co 409 (by omega)).1, (co 410 (by omega)).1]
        exact a4 z
    | some q =>
      obtain ⟨u1, u2⟩ := s3 q hp
      obtain ⟨w1, w2⟩ := t3 q hp
      have gq := hg c q hc hp
      have y0 : gI h2 (10 + c) 0 = q.1 := by
        rw [e2, w1 0 (by decide) (by decide)]
        unfold nwR
        by_cases z : q.1 = 0
        · rw [if_pos z, z]
        · rw [if_neg z]; rfl
      refine ⟨⟨fun w => ?_, fun w => ?_⟩, ?_, ⟨?_, fun z j hj h4 => ?_⟩, fun z => ?_, s1⟩
      · rw [y0] at w
        have y2 : gI h2 (10 + c) 2 = q.2.2.1 := by
          rw [e2, w1 2 (by decide) (by decide)]
          unfold nwR
          rw [if_neg (by rw [w]; decide)]
          show (if q.1 = 5 then q.2.2.1 else if q.1 = 6 then q.2.2.1 else 0) = _
          rw [if_neg (by rw [w]; decide), if_pos w]
        obtain ⟨a, ha, ea⟩ := (gq.resolve_left (by rw [w]; decide)).2.2.2 w
        rw [g2, w2, if_pos w, y2]
        refine ⟨rfl, ?_⟩
        rw [ea, nI_c (by omega), mi.1, cn, r1.2.2.1]
        omega
      · rw [y0] at w
        rw [g2, w2, if_neg w]
      · rw [eR]
        exact GR_new r1.2.2.2.2.2.2.2.1 gq (fun j hj h4 => by rw [e2]; exact w1 j hj h4)
      · rw [y0, k2, u1]
      · rw [y0] at z
        rw [(u2 z).1 j hj h4, e2]
        exact w1 j (by omega) h4
      · rw [y0] at z
        rw [(u2 z).2.1, (u2 z).2.2, e2, w1 14 (by decide) (by decide), w1 15 (by decide) (by decide)]
        unfold nwR
        rw [if_neg z, if_neg z]
        exact ⟨rfl, rfl⟩
  · rw [oo 4 (by omega) (by unfold ryt; omega), oo 397 (by omega) (by unfold ryt; omega)]; exact f2
  · rw [oo 6 (by omega) (by unfold ryt; omega), oo 411 (by omega) (by unfold ryt; omega)]; exact f3
  · rw [oo 411 (by omega) (by unfold ryt; omega)]; exact f4
/-- the class's place -/
theorem c14 (hw : HW h) (hk : k < 9) (e1 : gI h 2 1 = nI k) (en : h.1 = 444 + k) (e3 : ∀ r, r < k → gR h 3 r = some (444 + r)) (hc : c < 144) (q : Q4) : Sp L xs 14 [.ref 4, .int (nI c), .int q.1, .int q.2.1, .int q.2.2.1, .int q.2.2.2] h none (sR (wO h (10 + c) (bcR q (gI h (10 + c)))) (10 + c) 4 (if q.1 = 6 then (if x_in3 q.2.2.1 0 (nI k - 1) = true then some (444 + q.2.2.1.toNatClampNeg) else none) else none)) := by
  have hrq : ∀ r, (if x_in3 q.2.2.1 0 (nI k - 1) = true then some (444 + q.2.2.1.toNatClampNeg) else none) = some r → RQ r h.1 := by
    intro r e
    by_cases hr : x_in3 q.2.2.1 0 (nI k - 1) = true
    · rw [if_pos hr] at e
      obtain ⟨a, ha, ea⟩ := (nI_range (by omega)).mp hr
      injection e with e
      subst e
      rw [ea, nI_c (by omega)]
      exact ⟨by omega, SH_rec (by omega)⟩
    · rw [if_neg hr] at e; cases e
  have s26 := c26 (L := L) (xs := xs) hw (PT_4 hc) q hrq
  have s2 := c2 (L := L) (xs := xs) (ar := q.2.2.1) hw hk e1 e3
  refine sp_eq (v14 hw FL_4 ⟨c, rfl, hc, _, s2, fun z => ⟨_, ?_, rfl, rfl⟩, fun q6 z => ⟨_, ?_, rfl, rfl⟩⟩)
  · rw [z] at s26 ⊢
    exact s26
  · rw [z] at s26 ⊢
    exact s26
/-- the reference's lays -/
theorem c133 (hw : HW h) (hc : c < 144) (q : Q4) (hz : ¬ q.1 = 0) : ∃ h', Sp L xs 133 [.ref 397, .int (nI c), .int q.1, .int q.2.1, .int q.2.2.1, .int q.2.2.2] h none h' ∧ IE h h' ∧ SX h h' ryt ∧ (∀ j, j < 14 → ¬ j = 4 → MV h' 0 c j = nwR q j) ∧ gI h' 409 c = 0 ∧ gI h' 410 c = 0 ∧ (∀ c', ¬ c' = c → (∀ j, j < 14 → MV h' 0 c' j = MV h 0 c' j) ∧ gI h' 409 c' = gI h 409 c' ∧ gI h' 410 c' = gI h 410 c') := by
  have i2 : 2 * nI c = nI (2 * c) := ix4 c
  have i3 : 2 * nI c + 1 = nI (2 * c + 1) := ix5 c
  refine ⟨_, sp_eq (v133 hw ⟨c, rfl, hc, 2 * c, i2, by omega, 2 * c + 1, i3, by omega, rfl, rfl⟩), IE_s (IE_s (IE_s (IE_s (IE_s (IE_s (IE_s (IE_s (IE_s (IE_s (IE_s (IE_s (IE_s (IE_s (IE_s (IE_r h))))))))))))))), fun a ha => ?_, fun j hj h4 => ?_, ?_, ?_, fun c' hne => ⟨fun j hj => ?_, ?_, ?_⟩⟩
  · unfold ryt at ha
    rw [gIo (by omega), gIo (by omega), gIo (by omega), gIo (by omega), gIo (by omega), gIo (by omega), gIo (by omega), gIo (by omega), gIo (by omega), gIo (by omega), gIo (by omega), gIo (by omega), gIo (by omega), gIo (by omega), gIo (by omega)]
  · rw [MV0]
    rcases (show j = 0 ∨ j = 1 ∨ j = 2 ∨ j = 3 ∨ j = 5 ∨ j = 6 ∨ j = 7 ∨ j = 8 ∨ j = 9 ∨ j = 10 ∨ j = 11 ∨ j = 12 ∨ j = 13 by omega) with rfl | rfl | rfl | rfl | rfl | rfl | rfl | rfl | rfl | rfl | rfl | rfl | rfl <;> simp [gI_sI, nwR, hz]
  · simp [gI_sI]
  · simp [gI_sI]
  · have a1 : ¬ 2 * c' = 2 * c := by omega
    have a2 : ¬ 2 * c' = 2 * c + 1 := by omega
    have a3 : ¬ 2 * c' + 1 = 2 * c := by omega
    have a4 : ¬ 2 * c' + 1 = 2 * c + 1 := by omega
    rw [MV0, MV0]
    rcases (show j = 0 ∨ j = 1 ∨ j = 2 ∨ j = 3 ∨ j = 4 ∨ j = 5 ∨ j = 6 ∨ j = 7 ∨ j = 8 ∨ j = 9 ∨ j = 10 ∨ j = 11 ∨ j = 12 ∨ j = 13 by omega) with rfl | rfl | rfl | rfl | rfl | rfl | rfl | rfl | rfl | rfl | rfl | rfl | rfl | rfl <;> simp only [gI_sI] <;> simp [hne, a1, a2, a3, a4]
  · simp [gI_sI, hne]
  · simp [gI_sI, hne]
theorem gd_GP (hk : k < 9) (h6 : ¬ (kd = 6 ∧ ¬ x_in3 ar 0 (nI k - 1) = true)) (g : gdB kd sd ar pe = true) : ¬ kd = 0 ∧ GP k kd sd ar pe := by
  unfold gdB at g
  rw [Bool.and_eq_true, Bool.and_eq_true] at g
  obtain ⟨g1, g2, g3⟩ := g
  obtain ⟨d, d1, d2, rfl⟩ := in3_n (a := 1) (b := 7) (by decide) (by decide) g1
  refine ⟨nI_ne0 (by omega) (by omega), ⟨d, d1, by omega, rfl⟩, fun n4 n7 => ?_, fun k5 => ?_, fun k6 => ?_⟩
  · unfold sdB at g2
    rw [if_neg n7, if_neg n4] at g2
    obtain ⟨s, -, s2, e⟩ := in3_n (a := 0) (b := 3) (by decide) (by decide) g2
    exact ⟨s, by omega, e⟩
  · rw [if_pos k5, Bool.and_eq_true] at g3
    obtain ⟨i, i1, i2, e⟩ := isItem_n g3.1
    obtain ⟨p, p1, p2, e2⟩ := in3_n (a := 1) (b := 60) (by decide) (by decide) g3.2
    exact ⟨i, p, i1, i2, e, p1, p2, e2⟩
  · apply (nI_range (by omega)).mp
    apply Classical.byContradiction
    intro z
    exact h6 ⟨k6, z⟩
def upP (P : Nat → Option Q4) (c : Nat) (q : Option Q4) : Nat → Option Q4 := fun c' => if c' = c then q else P c'
theorem CPL_r (hw : HW h) : CPL h h (fun _ => none) := ⟨rfl, hw, rfl, fun _ _ => ⟨rfl, fun _ => rfl⟩, fun _ _ => ⟨fun _ => ⟨rfl, rfl⟩, fun _ e => by cases e⟩⟩
theorem RPL_r (hs : ∀ c, c < 144 → SR (MV h 0 c)) : RPL h h (fun _ => none) := ⟨IE_r h, fun _ _ => rfl, fun c hc => ⟨hs c hc, fun _ => ⟨rfl, fun _ => ⟨fun _ _ _ => rfl, rfl, rfl⟩⟩, fun _ e => by cases e⟩⟩
/-- one part of the class made new -/
theorem CPL_up {q : Q4} {rq : Option Nat} (hc : c < 144) (cc : CPL h h1 P) (hq : rq = if q.1 = 6 then some (444 + q.2.2.1.toNatClampNeg) else none) : CPL h (sR (wO h1 (10 + c) (bcR q (gI h1 (10 + c)))) (10 + c) 4 rq) (upP P c (some q)) := by
  obtain ⟨cn, cw, cl, co, cr⟩ := cc
  have hp : PT (10 + c) := PT_4 hc
  have g : ∀ a j, gR (sR (wO h1 (10 + c) (bcR q (gI h1 (10 + c)))) (10 + c) 4 rq) a j = if a = 10 + c ∧ j = 4 then rq else gR h1 a j := fun a j => gR_sR _ _ _ _ _ _
  refine ⟨cn, HW_sRp hp (HW_wO cw), cl, fun a ha => ⟨?_, fun j => ?_⟩, fun c' hc2 => ?_⟩
  · rw [gIsR, gI_wOo (by omega)]; exact (co a ha).1
  · rw [g, if_neg (by omega)]; exact (co a ha).2 j
  · by_cases e : c' = c
    · subst e
      refine ⟨fun z => ?_, fun q2 z => ?_⟩
      · unfold upP at z; rw [if_pos rfl] at z; cases z
      · unfold upP at z
        rw [if_pos rfl] at z
        injection z with z
        subst z
        refine ⟨fun j hj h4 => ?_, ?_⟩
        · rw [gIsR, gI_wO]
          unfold bcR
          exact if_pos ⟨by omega, h4⟩
        · rw [g, if_pos ⟨rfl, rfl⟩, hq]
    · have e1 : upP P c (some q) c' = P c' := if_neg e
      rw [e1]
      have i1 : gI (sR (wO h1 (10 + c) (bcR q (gI h1 (10 + c)))) (10 + c) 4 rq) (10 + c') = gI h1 (10 + c') := by rw [gIsR, gI_wOo (by omega)]
      have i2 : gR (sR (wO h1 (10 + c) (bcR q (gI h1 (10 + c)))) (10 + c) 4 rq) (10 + c') 4 = gR h1 (10 + c') 4 := by rw [g, if_neg (by omega)]
      rw [i1, i2]
      exact cr c' hc2
theorem CPL_14 {q : Q4} (b : RLb h k) (cc : CPL h h1 P) (hc : c < 144) (g : GP k q.1 q.2.1 q.2.2.1 q.2.2.2) : ∃ h', Sp L xs 14 [.ref 4, .int (nI c), .int q.1, .int q.2.1, .int q.2.2.1, .int q.2.2.2] h1 none h' ∧ CPL h h' (upP P c (some q)) := by
  have cc' := cc
  obtain ⟨cn, cw, cl, co, cr⟩ := cc
  refine ⟨_, c14 cw b.2.1 (by rw [(co 2 (by decide)).1]; exact b.2.2.2.1) (cn.trans b.2.2.1) (fun r hr => by rw [(co 3 (by decide)).2]; exact b.2.2.2.2.2.1 r hr) hc q, CPL_up hc cc' ?_⟩
  by_cases k6 : q.1 = 6
  · rw [if_pos k6, if_pos k6, if_pos ((nI_range (by have := b.2.1; omega)).mpr (g.2.2.2 k6))]
  · rw [if_neg k6, if_neg k6]
theorem RPL_133 {q : Q4} (hw : HW h1) (m : RPL h1 h2 P) (hc : c < 144) (hz : ¬ q.1 = 0) : ∃ h', Sp L xs 133 [.ref 397, .int (nI c), .int q.1, .int q.2.1, .int q.2.2.1, .int q.2.2.2] h2 none h' ∧ RPL h1 h' (upP P c (some q)) := by
  obtain ⟨m1, m2, m3⟩ := m
  obtain ⟨h', s1, s2, s3, s4, s5, s6, s7⟩ := c133 (L := L) (xs := xs) (IE_w m1 hw) hc q hz
  refine ⟨h', s1, IE_t m1 s2, SX_t m2 s3, fun c' hc2 => ?_⟩
  by_cases e : c' = c
  · subst e
    have n0 : MV h' 0 c' 0 = q.1 := by rw [s4 0 (by decide) (by decide)]; unfold nwR; rw [if_neg hz]; rfl
    have n11 : MV h' 0 c' 11 = 0 := by rw [s4 11 (by decide) (by decide)]; unfold nwR; rw [if_neg hz]; rfl
    have n12 : MV h' 0 c' 12 = 3 := by rw [s4 12 (by decide) (by decide)]; unfold nwR; rw [if_neg hz]; rfl
    have n13 : MV h' 0 c' 13 = 3 := by rw [s4 13 (by decide) (by decide)]; unfold nwR; rw [if_neg hz]; rfl
    refine ⟨⟨fun z => absurd (n0.symm.trans z) hz, ⟨3, by decide, n12⟩, ⟨3, by decide, n13⟩, by rw [n11]; decide⟩, fun z => ?_, fun q2 z => ?_⟩
    · unfold upP at z; rw [if_pos rfl] at z; cases z
    · unfold upP at z
      rw [if_pos rfl] at z
      injection z with z
      subst z
      exact ⟨n0, fun _ => ⟨s4, s5, s6⟩⟩
  · have e1 : upP P c (some q) c' = P c' := if_neg e
    rw [e1]
    obtain ⟨u1, u2, u3⟩ := m3 c' hc2
    obtain ⟨w1, w2, w3⟩ := s7 c' e
    unfold SR at u1 ⊢
    rw [w1 0 (by decide), w1 5 (by decide), w1 11 (by decide), w1 12 (by decide), w1 13 (by decide), w2, w3]
    refine ⟨u1, fun z => ⟨(u2 z).1, fun y => ⟨fun j hj h4 => ?_, ((u2 z).2 y).2⟩⟩, fun q z => ⟨(u3 q z).1, fun y => ⟨fun j hj h4 => ?_, ((u3 q z).2 y).2⟩⟩⟩
    · rw [w1 j hj]; exact ((u2 z).2 y).1 j hj h4
    · rw [w1 j hj]; exact ((u3 q z).2 y).1 j hj h4
theorem resB_v (k : Nat) (x kd sd ar pe v : Int32) : resB k x kd sd ar pe v = 0 ∨ resB k x kd sd ar pe v = -1 ∨ resB k x kd sd ar pe v = -6 := by
  unfold resB
  split
  · exact Or.inr (Or.inl rfl)
  · split
    · exact Or.inr (Or.inl rfl)
    · split
      · exact Or.inr (Or.inr rfl)
      · split
        · exact Or.inl rfl
        · exact Or.inr (Or.inr rfl)
theorem resB_0 {v : Int32} (e : resB k x kd sd ar pe v = 0) : x_isCell x = true ∧ ¬ (kd = 6 ∧ ¬ x_in3 ar 0 (nI k - 1) = true) ∧ gdB kd sd ar pe = true ∧ v = 0 := by
  unfold resB at e
  by_cases h1 : x_isCell x = false
  · rw [if_pos h1] at e; exact absurd e (by decide)
  · rw [if_neg h1] at e
    by_cases h2 : kd = 6 ∧ ¬ x_in3 ar 0 (nI k - 1) = true
    · rw [if_pos h2] at e; exact absurd e (by decide)
    · rw [if_neg h2] at e
      by_cases h3 : gdB kd sd ar pe = false
      · rw [if_pos h3] at e; exact absurd e (by decide)
      · rw [if_neg h3] at e
        by_cases h4 : v = 0
        · exact ⟨(Bool.not_eq_false _).mp h1, h2, (Bool.not_eq_false _).mp h3, h4⟩
        · rw [if_neg h4] at e; exact absurd e (by decide)
theorem resB_c {v w : Int32} (e : ∀ c, c < 144 → x = nI c → v = w) : resB k x kd sd ar pe v = resB k x kd sd ar pe w := by
  by_cases h1 : x_isCell x = true
  · obtain ⟨c, hc, e2⟩ := isCell_n h1
    rw [e c hc e2]
  · unfold resB
    rw [if_pos ((Bool.not_eq_true _).mp h1), if_pos ((Bool.not_eq_true _).mp h1)]
theorem in3_gp {q : Q4} (g : GP k q.1 q.2.1 q.2.2.1 q.2.2.2) : ¬ q.1 = 0 := by
  obtain ⟨⟨d, d1, d2, e⟩, -⟩ := g
  rw [e]
  exact nI_ne0 (by omega) (by omega)
end PB
theorem op_ref {L : Nat} {xs : Nat → Int32} {h : Hp} {k : Nat} {v : Int32} {n : Nat} (r : Rel h k) (q : RV v n) : ∃ (h1 h2 : Hp), Sp L xs 109 [.ref 0, .int v] h (some (.int v)) h1 ∧ HW h1 ∧ Sp L xs 124 [.ref 397, .int v] h1 (some (.int v)) h2 ∧ Rel h2 k ∧ h1 = hC h n ∧ h2 = hM h1 n := ⟨_, _, rfC r.1.1 q, HW_sI r.1.1, rfM (HW_sI r.1.1) q, Rel_ref r, rfl, rfl⟩
theorem op_build {L : Nat} {xs : Nat → Int32} {x y z u v : Int32} : OPI L xs 85 134 [.ref 0, .int x, .int y, .int z, .int u, .int v] [.ref 397, .int x, .int y, .int z, .int u, .int v] := by
  intro h k r
  obtain ⟨r1, r2, -⟩ := id r
  have hw := r1.1
  have ce : ∀ c, c < 144 → x = nI c → gI h 405 x.toNatClampNeg = gI h (10 + x.toNatClampNeg) 0 := fun c hc e => by
    rw [e, nI_c (by omega)]
    exact (r2.1 c hc).2.2.1.1.symm
  have s112 := c112 (L := L) (xs := xs) (x := x) (kd := y) (sd := z) (ar := u) (pe := v) hw r1.2.1 r1.2.2.2.1 r1.2.2.2.2.2.1
  have ec := resB_c (k := k) (x := x) (kd := y) (sd := z) (ar := u) (pe := v) ce
  by_cases z0 : resB k x y z u v (gI h (10 + x.toNatClampNeg) 0) = 0
  · obtain ⟨hx, h6, hg, hv⟩ := resB_0 z0
    obtain ⟨c, hc, rfl⟩ := isCell_n hx
    have gp := (gd_GP r1.2.1 h6 hg).2
    obtain ⟨h1, s1, c1⟩ := CPL_14 (L := L) (xs := xs) (q := (y, z, u, v)) r1 (CPL_r hw) hc gp
    have hw1 := c1.2.1
    have o1 : ∀ a, ¬ (10 ≤ a ∧ a < 154) → gI h1 a = gI h a := fun a ha => (c1.2.2.2.1 a ha).1
    have mv1 : MV h1 = MV h := by
      funext b c j
      unfold MV
      have := AD_no b c j
      rw [o1 _ (by omega)]
    obtain ⟨h2, s2, m2⟩ := RPL_133 (L := L) (xs := xs) (q := (y, z, u, v)) hw1 (RPL_r (fun c hc => by rw [mv1]; exact (r2.1 c hc).2.2.2.2)) hc (in3_gp (q := (y, z, u, v)) gp)
    have s132 := c132 (L := L) (xs := xs) (x := nI c) (kd := y) (sd := z) (ar := u) (pe := v) hw1 r1.2.1 (by rw [o1 397 (by decide)]; exact r1.2.2.2.2.1)
    rw [o1 405 (by decide), ec, z0, if_pos rfl] at s132
    rw [z0] at s112
    refine ⟨1, h1, h2, k, sp_eq (v85 hw ⟨_, s112, fun _ => ⟨h1, s1, rfl, rfl⟩, fun q => absurd rfl q⟩), hw1, sp_eq (v134 hw1 ⟨_, s132, fun _ => ⟨h2, s2, rfl, rfl⟩, fun q => absurd (by decide) q⟩), Rel_places r c1 m2 (fun c' q hc' e => ?_)⟩
    unfold upP at e
    by_cases e2 : c' = c
    · rw [if_pos e2] at e
      injection e with e
      subst e
      exact Or.inr gp
    · rw [if_neg e2] at e; cases e
  · have : ∃ n, RV (resB k x y z u v (gI h (10 + x.toNatClampNeg) 0)) n ∧ ¬ 0 ≤ resB k x y z u v (gI h (10 + x.toNatClampNeg) 0) := by
      rcases (resB_v k x y z u v (gI h (10 + x.toNatClampNeg) 0)).resolve_left z0 with e | e
      · rw [e]; exact ⟨1, rv1, by decide⟩
      · rw [e]; exact ⟨6, rv6, by decide⟩
    obtain ⟨n, rv, n0⟩ := this
    obtain ⟨h1, h2, s1, w1, s2, rr, e1, e2⟩ := op_ref (L := L) (xs := xs) r rv
    have s132 := c132 (L := L) (xs := xs) (x := x) (kd := y) (sd := z) (ar := u) (pe := v) w1 r1.2.1 (by rw [e1, hC_o (by decide)]; exact r1.2.2.2.2.1)
    rw [e1, hC_o (by decide), ec, if_neg z0] at s132
    rw [e1] at s1 w1 s2
    exact ⟨_, _, h2, k, sp_eq (v85 hw ⟨_, s112, fun q => absurd q z0, fun _ => ⟨_, _, s1, rfl, rfl⟩⟩), w1, sp_eq (v134 w1 ⟨_, s132, fun q => absurd q n0, fun _ => ⟨_, h2, s2, rfl, rfl⟩⟩), rr⟩
theorem op_raze {L : Nat} {xs : Nat → Int32} {x : Int32} : OPI L xs 87 135 [.ref 0, .int x] [.ref 397, .int x] := by
  intro h k r
  obtain ⟨r1, r2, -⟩ := id r
  have hw := r1.1
  by_cases hx : x_isCell x = true
  · obtain ⟨c, hc, rfl⟩ := isCell_n hx
    have s1 := c26 (L := L) (xs := xs) (rq := none) hw (PT_4 hc) (0, 0, 0, 0) (fun _ q => by cases q)
    rw [if_neg (show ¬ ((0 : Int32), (0 : Int32), (0 : Int32), (0 : Int32)).1 = 6 by decide)] at s1
    have c1 := CPL_up (rq := none) (q := (0, 0, 0, 0)) hc (CPL_r hw) (if_neg (show ¬ ((0 : Int32), (0 : Int32), (0 : Int32), (0 : Int32)).1 = 6 by decide)).symm
    refine ⟨gI h (10 + c) 0, _, _, k, sp_eq (v87 hw ⟨fun _ => ⟨c, rfl, hc, _, s1, rfl, rfl⟩, fun q => absurd hx q⟩), c1.2.1, sp_eq (v135 c1.2.1 ⟨fun _ => ⟨c, rfl, hc, ?_, rfl⟩, fun q => absurd hx q⟩), ?_⟩
    · rw [(c1.2.2.2.1 405 (by decide)).1, (r2.1 c hc).2.2.1.1]
    · refine Rel_places r c1 (P := upP (fun _ => none) c (some (0, 0, 0, 0))) ⟨IE_s (IE_s (IE_r _)), fun a ha => ?_, fun c' hc' => ?_⟩ (fun c' q hc' e => ?_)
      · unfold ryt at ha
        rw [gIo (by omega), gIo (by omega)]
      · have sr := (r2.1 c' hc').2.2.2.2
        have mh : ∀ b a j, MV (sR (wO h (10 + c) (bcR (0, 0, 0, 0) (gI h (10 + c)))) (10 + c) 4 none) b a j = MV h b a j := fun b a j => by
          unfold MV
          have := AD_no b a j
          rw [(c1.2.2.2.1 _ (by omega)).1]
        by_cases e : c' = c
        · subst e
          obtain ⟨-, t2, t3, t4⟩ := sr
          rw [← mh] at t2 t3 t4
          rw [MV0] at t2 t3 t4
          refine ⟨?_, fun z => ?_, fun q z => ?_⟩
          · unfold SR
            rw [MV0, MV0, MV0, MV0, MV0]
            simp only [gI_sI]
            simp
            exact ⟨t2, t3, t4⟩
          · unfold upP at z; rw [if_pos rfl] at z; cases z
          · unfold upP at z
            rw [if_pos rfl] at z
            injection z with z
            subst z
            refine ⟨?_, fun y => absurd rfl y⟩
            rw [MV0]
            simp [gI_sI]
        · have e1 : upP (fun _ => none) c (some ((0 : Int32), (0 : Int32), (0 : Int32), (0 : Int32))) c' = none := if_neg e
          rw [e1]
          have w : ∀ j, j < 14 → ¬ j = 4 → MV (sI (sI (sR (wO h (10 + c) (bcR (0, 0, 0, 0) (gI h (10 + c)))) (10 + c) 4 none) 405 c 0) 412 c 0) 0 c' j = MV (sR (wO h (10 + c) (bcR (0, 0, 0, 0) (gI h (10 + c)))) (10 + c) 4 none) 0 c' j := fun j hj h4 => by
            rw [MV0, MV0]
            rcases (show j = 0 ∨ j = 1 ∨ j = 2 ∨ j = 3 ∨ j = 5 ∨ j = 6 ∨ j = 7 ∨ j = 8 ∨ j = 9 ∨ j = 10 ∨ j = 11 ∨ j = 12 ∨ j = 13 by omega) with rfl | rfl | rfl | rfl | rfl | rfl | rfl | rfl | rfl | rfl | rfl | rfl | rfl <;> simp only [gI_sI] <;> simp [e]
          refine ⟨?_, fun _ => ⟨w 0 (by decide) (by decide), fun _ => ⟨w, by rw [gIo (by decide), gIo (by decide)], by rw [gIo (by decide), gIo (by decide)]⟩⟩, fun q z => by cases z⟩
          unfold SR at sr ⊢
          rw [w 0 (by decide) (by decide), w 5 (by decide) (by decide), w 11 (by decide) (by decide), w 12 (by decide) (by decide), w 13 (by decide) (by decide)]
          simp only [mh]
          exact sr
      · unfold upP at e
        by_cases e2 : c' = c
        · rw [if_pos e2] at e
          injection e with e
          subst e
          exact Or.inl rfl
        · rw [if_neg e2] at e; cases e
  · obtain ⟨h1, h2, s1, w1, s2, rr, e1, e2⟩ := op_ref (L := L) (xs := xs) r rv1
    exact ⟨-1, h1, h2, k, sp_eq (v87 hw ⟨fun q => absurd q hx, fun _ => ⟨_, _, s1, rfl, rfl⟩⟩), w1, sp_eq (v135 w1 ⟨fun q => absurd q hx, fun _ => ⟨_, _, s2, rfl, rfl⟩⟩), rr⟩
