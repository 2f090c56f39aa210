/-! The relation of the class's objects and the reference's, between calls. -/
def RLb (h : Hp) (k : Nat) : Prop := HW h ∧ k < 9 ∧ h.1 = 444 + k ∧ gI h 2 1 = nI k ∧ gI h 397 1 = nI k ∧ (∀ r, r < k → gR h 3 r = some (444 + r)) ∧ RR k (RC h) (MRc h) ∧ GB k (RC h) ∧ (∀ r r', r < k → r' < k → ¬ r = r' → ¬ RC h r 0 = RC h r' 0)
/-- a cell of the floor (object p) and of bank b -/
def CE (h : Hp) (p b c : Nat) : Prop := gI h p 0 = gI h 405 c ∧ (¬ gI h p 0 = 0 → ∀ j, j < 14 → ¬ j = 4 → gI h p j = MV h b c j)
/-- what a bare cell's old numbers are -/
def SR (x : Row) : Prop := (x 0 = 0 → x 5 = 0) ∧ (∃ t, t < 4 ∧ x 12 = nI t) ∧ (∃ g, g < 4 ∧ x 13 = nI g) ∧ x_ok01 (x 11) = true
def RLf (h : Hp) (k : Nat) : Prop := (∀ c, c < 144 → LR h (10 + c) ∧ GR k (RC h) (gI h (10 + c)) ∧ CE h (10 + c) 0 c ∧ (¬ gI h (10 + c) 0 = 0 → gI h (10 + c) 14 = gI h 409 c ∧ gI h (10 + c) 15 = gI h 410 c) ∧ SR (MV h 0 c)) ∧ (∃ t, t < 20001 ∧ gI h 4 3 = nI t ∧ gI h 397 14 = nI t) ∧ (∀ i, i < 21 → gI h 6 i = gI h 411 i) ∧ gI h 411 0 = 0
def RLr (h : Hp) : Prop := ∀ j, j < 8 → gI h 1 j = gI h 398 j
/-- a piece: its grid in the reference, its list in the class -/
def pcK (h : Hp) (s k : Nat) : Int32 := gI h 426 (576 * s + 4 * k)
def pcN (h : Hp) (s : Nat) : Nat → Nat
  | 0 => 0
  | k + 1 => if pcK h s k = 0 then pcN h s k else pcN h s k + 1
def RPc (h : Hp) (s b : Nat) : Prop := ∃ w g : Nat, 1 ≤ w ∧ w < 13 ∧ 1 ≤ g ∧ g < 13 ∧ gI h (b + 3) 6 = nI w ∧ gI h 424 s = nI w ∧ gI h (b + 3) 7 = nI g ∧ gI h 425 s = nI g ∧ gI h (b + 3) 8 = nI (pcN h s (w * g)) ∧ (∀ k, k < w * g → ¬ pcK h s k = 0 → gI h (b + 4) (pcN h s k) = nI (k % w) ∧ gI h (b + 5) (pcN h s k) = nI (k / w) ∧ gI h (b + 6) (pcN h s k) = pcK h s k ∧ gI h (b + 7) (pcN h s k) = gI h 426 (576 * s + 4 * k + 1) ∧ gI h (b + 8) (pcN h s k) = gI h 426 (576 * s + 4 * k + 2) ∧ gI h (b + 9) (pcN h s k) = gI h 426 (576 * s + 4 * k + 3))
/-- what is good to be built: kind, side, arg, period -/
def GP (k : Nat) (kd sd ar pe : Int32) : Prop := (∃ d, 1 ≤ d ∧ d < 8 ∧ kd = nI d) ∧ (¬ kd = 4 → ¬ kd = 7 → ∃ s, s < 4 ∧ sd = nI s) ∧ (kd = 5 → ∃ i p, 1 ≤ i ∧ i < 21 ∧ ar = nI i ∧ 1 ≤ p ∧ p ≤ 60 ∧ pe = nI p) ∧ (kd = 6 → ∃ a, a < k ∧ ar = nI a)
def RSh (h : Hp) (k s : Nat) : Prop := (gI h (155 + 10 * s) 2 = 0 ∧ gI h 420 s = -1) ∨ (gI h (155 + 10 * s) 2 = 1 ∧ ∃ t n : Nat, t < 4 ∧ n < 101 ∧ gI h (155 + 10 * s + 1) 1 = nI t ∧ gI h 420 s = nI (100 + t) ∧ gI h (155 + 10 * s + 1) 2 = nI n ∧ gI h 421 s = nI n ∧ ∀ i, i < 100 → gL h (155 + 10 * s + 2) i = gL h 422 (100 * s + i)) ∨ (gI h (155 + 10 * s) 2 = 2 ∧ gI h 420 s = 0 ∧ RPc h s (155 + 10 * s) ∧ ∀ j, j < 144 → ¬ pcK h s j = 0 → (∃ w g : Nat, gI h 424 s = nI w ∧ gI h 425 s = nI g ∧ w < 13 ∧ g < 13 ∧ j < w * g) → GP k (pcK h s j) (gI h 426 (576 * s + 4 * j + 1)) (gI h 426 (576 * s + 4 * j + 2)) (gI h 426 (576 * s + 4 * j + 3)))
def RLs (h : Hp) (k : Nat) : Prop := ∀ s, s < 8 → RSh h k s
def RLt (h : Hp) : Prop := gI h 235 5 = gI h 397 40 ∧ (gI h 397 40 = 0 ∨ gI h 397 40 = 1) ∧ (gI h 397 40 = 1 → gI h 235 6 = gI h 434 0 ∧ gI h 235 7 = gI h 434 1 ∧ gI h 235 8 = gI h 434 2 ∧ gI h 235 9 = gI h 434 3 ∧ gI h 235 10 = gI h 434 4 ∧ (gI h 434 4 = 0 ∨ gI h 434 4 = 1) ∧ ∀ c, c < 144 → (gI h (246 + c) 0 = 0 ↔ gI h 436 c = 0) ∧ (¬ gI h (246 + c) 0 = 0 → gI h (246 + c) 14 = gI h 435 (5 * c) ∧ gI h (246 + c) 15 = gI h 435 (5 * c + 1) ∧ gI h (246 + c) 16 = gI h 435 (5 * c + 2) ∧ gI h 238 c = gI h 435 (5 * c + 3) ∧ gI h 239 c = gI h 435 (5 * c + 4) ∧ (gI h 435 (5 * c + 3) = 0 ∨ gI h 435 (5 * c + 3) = 1) ∧ (gI h 435 (5 * c + 4) = 0 ∨ gI h 435 (5 * c + 4) = 1)))
def RLp (h : Hp) (k : Nat) : Prop := (∀ r, r < 8 → gI h 394 r = gI h 441 r ∧ (k ≤ r → gI h 441 r = 0)) ∧ ∃ bt : Nat, 1 ≤ bt ∧ bt < 2 ^ 62 ∧ gL h 393 3 = lN bt ∧ ∀ i, i < 21 → ∃ tp : Nat, tp < 2 ^ 62 ∧ gL h 395 i = lN tp ∧ gL h 437 i = lN (tp / Nat.gcd tp bt) ∧ gL h 438 i = lN (bt / Nat.gcd tp bt)
def Rel (h : Hp) (k : Nat) : Prop := RLb h k ∧ RLf h k ∧ RLr h ∧ RLs h k ∧ RLt h ∧ RLp h k
/-! What each part of it rests on. -/
theorem RLr_of {h h' : Hp} (e : ∀ a, a = 1 ∨ a = 398 → gI h' a = gI h a) (r : RLr h) : RLr h' := by
  intro j hj
  rw [e 1 (Or.inl rfl), e 398 (Or.inr rfl)]
  exact r j hj
def inS (a : Nat) : Prop := (155 ≤ a ∧ a < 235) ∨ a = 420 ∨ a = 421 ∨ a = 422 ∨ (424 ≤ a ∧ a ≤ 426)
theorem pcN_of {h h' : Hp} {s : Nat} (e : gI h' 426 = gI h 426) : ∀ k, pcN h' s k = pcN h s k
  | 0 => rfl
  | k + 1 => by
    unfold pcN pcK
    rw [e, pcN_of e k]
theorem RSh_of {h h' : Hp} {k s : Nat} (hs : s < 8) (e : ∀ a, inS a → gI h' a = gI h a) (eL : ∀ a, inS a → gL h' a = gL h a) (r : RSh h k s) : RSh h' k s := by
  have b : ∀ j, j < 10 → gI h' (155 + 10 * s + j) = gI h (155 + 10 * s + j) := fun j hj => e _ (Or.inl ⟨by omega, by omega⟩)
  have b0 : gI h' (155 + 10 * s) = gI h (155 + 10 * s) := b 0 (by decide)
  have bl : gL h' (155 + 10 * s + 2) = gL h (155 + 10 * s + 2) := eL _ (Or.inl ⟨by omega, by omega⟩)
  have e420 := e 420 (Or.inr (Or.inl rfl))
  have e421 := e 421 (Or.inr (Or.inr (Or.inl rfl)))
  have e424 := e 424 (Or.inr (Or.inr (Or.inr (Or.inr ⟨by decide, by decide⟩))))
  have e425 := e 425 (Or.inr (Or.inr (Or.inr (Or.inr ⟨by decide, by decide⟩))))
  have e426 := e 426 (Or.inr (Or.inr (Or.inr (Or.inr ⟨by decide, by decide⟩))))
  have l422 := eL 422 (Or.inr (Or.inr (Or.inr (Or.inl rfl))))
  have pk : ∀ j, pcK h' s j = pcK h s j := fun j => by unfold pcK; rw [e426]
  have pn := pcN_of (s := s) e426
  unfold RSh RPc at *
  rw [b0, b 1 (by decide), b 3 (by decide), b 4 (by decide), b 5 (by decide), b 6 (by decide), b 7 (by decide), b 8 (by decide), b 9 (by decide), bl, e420, e421, e424, e425, e426, l422]
  simp only [pk, pn]
  exact r
theorem RLs_of {h h' : Hp} {k : Nat} (e : ∀ a, inS a → gI h' a = gI h a) (eL : ∀ a, inS a → gL h' a = gL h a) (r : RLs h k) : RLs h' k := fun s hs => RSh_of hs e eL (r s hs)
theorem RLt_of {h h' : Hp} (e : ∀ a, (235 ≤ a ∧ a < 390) ∨ (434 ≤ a ∧ a ≤ 436) → gI h' a = gI h a) (e40 : gI h' 397 40 = gI h 397 40) (r : RLt h) : RLt h' := by
  obtain ⟨r1, r2, r3⟩ := r
  have e235 := e 235 (by omega)
  have e238 := e 238 (by omega)
  have e239 := e 239 (by omega)
  have e434 := e 434 (by omega)
  have e435 := e 435 (by omega)
  have e436 := e 436 (by omega)
  refine ⟨by rw [e235, e40]; exact r1, by rw [e40]; exact r2, fun q => ?_⟩
  rw [e40] at q
  obtain ⟨a1, a2, a3, a4, a5, a6, a7⟩ := r3 q
  rw [e235, e434, e435, e436, e238, e239]
  refine ⟨a1, a2, a3, a4, a5, a6, fun c hc => ?_⟩
  rw [e (246 + c) (by omega)]
  exact a7 c hc
theorem RLp_of {h h' : Hp} {k : Nat} (e1 : gI h' 394 = gI h 394) (e2 : gI h' 441 = gI h 441) (e3 : ∀ a, a = 393 ∨ a = 395 ∨ a = 437 ∨ a = 438 → gL h' a = gL h a) (r : RLp h k) : RLp h' k := by
  unfold RLp
  rw [e1, e2, e3 393 (Or.inl rfl), e3 395 (Or.inr (Or.inl rfl)), e3 437 (Or.inr (Or.inr (Or.inl rfl))), e3 438 (Or.inr (Or.inr (Or.inr rfl)))]
  exact r
theorem RLb_of {h h' : Hp} {k : Nat} (hw : HW h') (n : h'.1 = h.1) (e : ∀ a, a = 2 ∨ (399 ≤ a ∧ a ≤ 404) ∨ 444 ≤ a ∨ a = 0 → gI h' a = gI h a) (e1 : gI h' 397 1 = gI h 397 1) (g : ∀ r, gR h' 3 r = gR h 3 r) (r : RLb h k) : RLb h' k := by
  obtain ⟨b1, b2, b3, b4, b5, b6, b7, b8, b9⟩ := r
  have eR : RC h' = RC h := by
    funext r
    exact e _ (by omega)
  have eM : MRc h' = MRc h := by
    funext r j
    unfold MRc
    have := ARc_no r j
    rw [e _ (by omega)]
  refine ⟨hw, b2, n.trans b3, by rw [e 2 (Or.inl rfl)]; exact b4, e1.trans b5, fun r hr => (g r).trans (b6 r hr), ?_, ?_, ?_⟩
  · rw [eR, eM]; exact b7
  · rw [eR]; exact b8
  · rw [eR]; exact b9
def inF (a : Nat) : Prop := a = 4 ∨ a = 6 ∨ (10 ≤ a ∧ a < 154) ∨ (405 ≤ a ∧ a ≤ 419)
theorem MV0_of {h h' : Hp} (e : ∀ a, (405 ≤ a ∧ a ≤ 408) ∨ (412 ≤ a ∧ a ≤ 419) → gI h' a = gI h a) (b c : Nat) {j : Nat} (hj : j < 14) (h4 : ¬ j = 4) : MV h' b c j = MV h b c j := by
  unfold MV
  have : ∀ b c j : Nat, j < 14 → ¬ j = 4 → (405 ≤ (AD b c j).1 ∧ (AD b c j).1 ≤ 408) ∨ (412 ≤ (AD b c j).1 ∧ (AD b c j).1 ≤ 419) := by
    intro b c j hj h4
    rcases (show j = 0 ∨ j = 1 ∨ j = 2 ∨ j = 3 ∨ j = 5 ∨ j = 6 ∨ j = 7 ∨ j = 8 ∨ j = 9 ∨ j = 10 ∨ j = 11 ∨ j = 12 ∨ j = 13 by omega) with rfl | rfl | rfl | rfl | rfl | rfl | rfl | rfl | rfl | rfl | rfl | rfl | rfl <;> simp [AD]
  rw [e _ (this b c j hj h4)]
theorem CE_of {h h' : Hp} {p b c : Nat} (ep : gI h' p = gI h p) (e : ∀ a, (405 ≤ a ∧ a ≤ 408) ∨ (412 ≤ a ∧ a ≤ 419) → gI h' a = gI h a) (r : CE h p b c) : CE h' p b c := by
  refine ⟨by rw [ep, e 405 (by omega)]; exact r.1, fun q j hj h4 => ?_⟩
  rw [ep] at q
  rw [ep, MV0_of e b c hj h4]
  exact r.2 q j hj h4
theorem SR_of {h h' : Hp} {b c : Nat} (e : ∀ a, (405 ≤ a ∧ a ≤ 408) ∨ (412 ≤ a ∧ a ≤ 419) → gI h' a = gI h a) (r : SR (MV h b c)) : SR (MV h' b c) := by
  unfold SR
  rw [MV0_of e b c (by decide) (by decide), MV0_of e b c (by decide) (by decide), MV0_of e b c (by decide) (by decide), MV0_of e b c (by decide) (by decide), MV0_of e b c (by decide) (by decide)]
  exact r
theorem RLf_of {h h' : Hp} {k : Nat} (n : h'.1 = h.1) (eR : RC h' = RC h) (e : ∀ a, inF a → gI h' a = gI h a) (e14 : gI h' 397 14 = gI h 397 14) (g : ∀ c, c < 144 → gR h' (10 + c) = gR h (10 + c)) (r : RLf h k) : RLf h' k := by
  obtain ⟨r1, r2, r3, r4⟩ := r
  have e8 : ∀ a, (405 ≤ a ∧ a ≤ 408) ∨ (412 ≤ a ∧ a ≤ 419) → gI h' a = gI h a := fun a ha => e a (by unfold inF; omega)
  refine ⟨fun c hc => ?_, ?_, ?_, ?_⟩
  · obtain ⟨a1, a2, a3, a4, a5⟩ := r1 c hc
    have ep : gI h' (10 + c) = gI h (10 + c) := e _ (by unfold inF; omega)
    refine ⟨?_, by rw [eR, ep]; exact a2, CE_of ep e8 a3, by rw [ep, e 409 (by unfold inF; omega), e 410 (by unfold inF; omega)]; exact a4, SR_of e8 a5⟩
    unfold LR
    rw [ep, g c hc, n]
    exact a1
  · rw [e 4 (Or.inl rfl), e14]; exact r2
  · rw [e 6 (Or.inr (Or.inl rfl)), e 411 (by unfold inF; omega)]; exact r3
  · rw [e 411 (by unfold inF; omega)]; exact r4
