/-! The call recipe. -/
/-- which recipe makes item x, from i on -/
def fndI (R : Nat → Row) (x : Int32) : Nat → Nat → Int32
  | 0, _ => -1
  | m + 1, i => if R i 0 = x then nI i else fndI R x m (i + 1)
theorem fndI_n {R : Nat → Row} {x : Int32} : ∀ (m i : Nat), fndI R x m i = -1 → i + m < 100 → ∀ r, i ≤ r → r < i + m → ¬ R r 0 = x
  | 0, i, _, _, r, h1, h2 => absurd h2 (by omega)
  | m + 1, i, e, hb, r, h1, h2 => by
    have e2 : fndI R x (m + 1) i = if R i 0 = x then nI i else fndI R x m (i + 1) := rfl
    rw [e2] at e
    by_cases q : R i 0 = x
    · rw [if_pos q] at e
      exact absurd e (nI_m1 (by omega))
    · rw [if_neg q] at e
      by_cases w : r = i
      · rw [w]; exact q
      · exact fndI_n m (i + 1) e (by omega) r (by omega) (by omega)
theorem fndI_s {R : Nat → Row} {x : Int32} : ∀ (m i : Nat), ¬ fndI R x m i = -1 → ∃ r, i ≤ r ∧ r < i + m ∧ fndI R x m i = nI r ∧ R r 0 = x
  | 0, i, e => absurd rfl e
  | m + 1, i, e => by
    have e2 : fndI R x (m + 1) i = if R i 0 = x then nI i else fndI R x m (i + 1) := rfl
    rw [e2] at e ⊢
    by_cases q : R i 0 = x
    · rw [if_pos q]
      exact ⟨i, Nat.le_refl _, by omega, rfl, q⟩
    · rw [if_neg q] at e ⊢
      obtain ⟨r, h1, h2, h3⟩ := fndI_s m (i + 1) e
      exact ⟨r, by omega, by omega, h3⟩
section RP
variable {L : Nat} {xs : Nat → Int32} {h : Hp} {k c s : Nat} {x : Int32}
theorem c3l (hw : HW h) (hk : k < 9) (e1 : gI h 2 1 = nI k) (en : h.1 = 444 + k) (e3 : ∀ r, r < k → gR h 3 r = some (444 + r)) : ∀ (m i : Nat), i + m = k → WP L xs 3 2 [some (.ref 2), some (.int x), some (.int (nI i))] [] h (fun r h' => r = some (.int (fndI (RC h) x m i)) ∧ h' = h)
  | 0, i, hi => by
    obtain rfl : i = k := by omega
    refine v3_2 hw ?_
    rw [e1]
    exact ⟨fun _ => ⟨rfl, rfl⟩, fun q => absurd (nI_le (Nat.le_refl _) (by omega)) q⟩
  | m + 1, i, hi => by
    refine v3_2 hw ?_
    rw [e1]
    refine ⟨fun q => absurd q (nI_ge (show i < k by omega) (by omega)), fun _ => ⟨i, rfl, by omega, fun q => ?_, fun q8 q => ?_⟩⟩
    · rw [e3 i (by omega)] at q; cases q
    · rw [e3 i (by omega)] at q
      injection q with q
      subst q
      have e2 : fndI (RC h) x (m + 1) i = if RC h i 0 = x then nI i else fndI (RC h) x m (i + 1) := rfl
      refine ⟨⟨by omega, SH_rec (by omega)⟩, fun q => ⟨?_, rfl⟩, fun q => ?_⟩
      · rw [e2, if_pos (show RC h i 0 = x from q)]
      · rw [e2, if_neg (show ¬ RC h i 0 = x from q), nI_1]
        exact c3l hw hk e1 en e3 m (i + 1) (by omega)
theorem c3 (b : RLb h k) : Sp L xs 3 [.ref 2, .int x] h (some (.int (fndI (RC h) x k 0))) h :=
  sp_eq (v3 b.1 (c3l b.1 b.2.1 b.2.2.2.1 b.2.2.1 b.2.2.2.2.2.1 k 0 (by omega)))
theorem c129l {R : Nat → Row} (hw : HW h) (hk : k < 9) (e1 : gI h 397 1 = nI k) (er : ∀ r, r < k → gI h 400 r = R r 0) : ∀ (m i : Nat), i + m = k → WP L xs 129 2 [some (.ref 397), some (.int x), some (.int (nI i))] [] h (fun r h' => r = some (.int (fndI R x m i)) ∧ h' = h)
  | 0, i, hi => by
    obtain rfl : i = k := by omega
    refine v129_2 hw ?_
    rw [e1]
    exact ⟨fun _ => ⟨rfl, rfl⟩, fun q => absurd (nI_le (Nat.le_refl _) (by omega)) q⟩
  | m + 1, i, hi => by
    have e2 : fndI R x (m + 1) i = if R i 0 = x then nI i else fndI R x m (i + 1) := rfl
    refine v129_2 hw ?_
    rw [e1]
    refine ⟨fun q => absurd q (nI_ge (show i < k by omega) (by omega)), fun _ => ⟨i, rfl, by omega, fun q => ⟨?_, rfl⟩, fun q => ?_⟩⟩
    · rw [er i (by omega)] at q; rw [e2, if_pos q]
    · rw [er i (by omega)] at q; rw [e2, if_neg q, nI_1]
      exact c129l hw hk e1 er m (i + 1) (by omega)
theorem c129 {R : Nat → Row} (hw : HW h) (hk : k < 9) (e1 : gI h 397 1 = nI k) (er : ∀ r, r < k → gI h 400 r = R r 0) : Sp L xs 129 [.ref 397, .int x] h (some (.int (fndI R x k 0))) h :=
  sp_eq (v129 hw (c129l hw hk e1 er k 0 (by omega)))
theorem GR_up {R R' : Nat → Row} {x : Row} (e : ∀ a, a < k → R' a = R a) (g : GR k R x) : GR (k + 1) R' x := by
  obtain ⟨g1, g2, g3, g4, g5, g6, g7, g8, g9, g10, g11⟩ := g
  refine ⟨g1, g2, g3, g4, g5, g6, g7, g8, g9, g10, fun q => ?_⟩
  obtain ⟨a, ha, e2, m⟩ := g11 q
  exact ⟨a, by omega, e2, by rw [e a ha]; exact m⟩
theorem RSh_up (g : RSh h k s) : RSh h (k + 1) s := by
  rcases g with q | q | ⟨q1, q2, q3, q4⟩
  · exact Or.inl q
  · exact Or.inr (Or.inl q)
  · refine Or.inr (Or.inr ⟨q1, q2, q3, fun j hj hz hb => ?_⟩)
    obtain ⟨p1, p2, p3, p4⟩ := q4 j hj hz hb
    refine ⟨p1, p2, p3, fun q => ?_⟩
    obtain ⟨a, ha, e⟩ := p4 q
    exact ⟨a, by omega, e⟩
theorem Rel_rec {h' : Hp} (r : Rel h k) (hk : k < 8) (hw : HW h') (n : h'.1 = h.1 + 1) (e : ∀ a, ¬ a = 2 → ¬ a = 397 → ¬ (399 ≤ a ∧ a ≤ 404) → ¬ a = 444 + k → gI h' a = gI h a) (e97 : ∀ j, ¬ j = 1 → gI h' 397 j = gI h 397 j) (e1 : gI h' 397 1 = nI (k + 1)) (e2 : gI h' 2 1 = nI (k + 1)) (gr : ∀ a j, ¬ (a = 3 ∧ j = k) → ¬ a = 444 + k → gR h' a j = gR h a j) (gr3 : gR h' 3 k = some (444 + k)) (gl : ∀ a, ¬ a = 444 + k → gL h' a = gL h a) (row : ∀ j, j < 8 → MRc h' k j = gI h' (444 + k) j) (rows : ∀ a j, a < k → j < 8 → MRc h' a j = MRc h a j) (g : GB 1 (fun _ => gI h' (444 + k))) (di : ∀ r, r < k → ¬ RC h r 0 = gI h' (444 + k) 0) : Rel h' (k + 1) := by
  obtain ⟨r1, r2, r3, r4, r5, r6⟩ := r
  obtain ⟨b1, b2, b3, b4, b5, b6, b7, b8, b9⟩ := r1
  have eR : ∀ a, a < k → RC h' a = RC h a := fun a ha => e (444 + a) (by omega) (by omega) (by omega) (by omega)
  have e0 : ∀ a, ¬ a = 2 → ¬ a = 397 → ¬ (399 ≤ a ∧ a ≤ 404) → a < 444 → gI h' a = gI h a := fun a h1 h2 h3 h4 => e a h1 h2 h3 (by omega)
  refine ⟨⟨hw, by omega, by omega, e2, e1, fun r hr => ?_, fun a ha j hj => ?_, fun a ha => ?_, fun a a' ha ha' hne => ?_⟩, ⟨fun c hc => ?_, ?_, ?_, ?_⟩, RLr_of (h := h) (fun a ha => e0 a (by omega) (by omega) (by omega) (by omega)) r3, fun s hs => ?_, ?_, ?_⟩
  · by_cases q : r = k
    · rw [q]; exact gr3
    · rw [gr 3 r (by omega) (by omega)]; exact b6 r (by omega)
  · by_cases q : a = k
    · rw [q]; exact (row j hj).symm
    · rw [eR a (by omega), rows a j (by omega) hj]; exact b7 a (by omega) j hj
  · by_cases q : a = k
    · rw [q]; exact g 0 (by decide)
    · rw [eR a (by omega)]; exact b8 a (by omega)
  · by_cases q : a = k
    · subst q
      rw [eR a' (by omega)]
      exact fun w => di a' (by omega) w.symm
    · by_cases q' : a' = k
      · subst q'
        rw [eR a (by omega)]
        exact di a (by omega)
      · rw [eR a (by omega), eR a' (by omega)]
        exact b9 a a' (by omega) (by omega) hne
  · obtain ⟨a1, a2, a3, a4, a5⟩ := r2.1 c hc
    have ep : gI h' (10 + c) = gI h (10 + c) := e0 _ (by omega) (by omega) (by omega) (by omega)
    have eo : ∀ a, (405 ≤ a ∧ a ≤ 408) ∨ (412 ≤ a ∧ a ≤ 419) → gI h' a = gI h a := fun a ha => e0 a (by omega) (by omega) (by omega) (by omega)
    refine ⟨?_, by rw [ep]; exact GR_up eR a2, CE_of ep eo a3, ?_, SR_of eo a5⟩
    · unfold LR at a1 ⊢
      rw [ep, gr (10 + c) 4 (by omega) (by omega), n]
      exact ⟨fun q => ⟨(a1.1 q).1, Nat.lt_succ_of_lt (a1.1 q).2⟩, a1.2⟩
    · rw [ep, e0 409 (by decide) (by decide) (by decide) (by decide), e0 410 (by decide) (by decide) (by decide) (by decide)]
      exact a4
  · rw [e0 4 (by decide) (by decide) (by decide) (by decide), e97 14 (by decide)]; exact r2.2.1
  · rw [e0 6 (by decide) (by decide) (by decide) (by decide), e0 411 (by decide) (by decide) (by decide) (by decide)]; exact r2.2.2.1
  · rw [e0 411 (by decide) (by decide) (by decide) (by decide)]; exact r2.2.2.2
  · exact RSh_up (RSh_of hs (fun a ha => e0 a (by unfold inS at ha; omega) (by unfold inS at ha; omega) (by unfold inS at ha; omega) (by unfold inS at ha; omega)) (fun a ha => gl a (by unfold inS at ha; omega)) (r4 s hs))
  · exact RLt_of (h := h) (fun a ha => e0 a (by omega) (by omega) (by omega) (by omega)) (e97 40 (by decide)) r5
  · have := RLp_of (h' := h') (e0 394 (by decide) (by decide) (by decide) (by decide)) (e0 441 (by decide) (by decide) (by decide) (by decide)) (fun a ha => gl a (by omega)) r6
    exact ⟨fun r hr => ⟨(this.1 r hr).1, fun q => (this.1 r hr).2 (by omega)⟩, this.2⟩
theorem ifand (b e : Bool) : (if b = true then e else false) = (b && e) := by cases b <;> rfl
def rcB (x y z u v w t a : Int32) : Bool := x_isItem x && (x_in3 y 1 4 && (x_in3 z 1 60 && (x_in3 a 0 100 && (x_isItem u && (x_in3 v 1 4 && (if w = 0 then true else (x_isItem w && x_in3 t 1 4)))))))
variable {y z u v w t a : Int32}
theorem rcC : (if (x_isItem x) = true then (if (x_in3 y 1 4) = true then (if (x_in3 z 1 60) = true then (if (x_in3 a 0 100) = true then (if (x_isItem u) = true then (if (x_in3 v 1 4) = true then (if w = 0 then (true) else (if (x_isItem w) = true then (if (x_in3 t 1 4) = true then (true) else (false)) else (false))) else (false)) else (false)) else (false)) else (false)) else (false)) else (false)) = rcB x y z u v w t a := by
  simp only [ifand, Bool.and_true]
  rfl
def rcD (x u w : Int32) : Bool := !decide (u = x) && (!decide (w = x) && !decide (u = w))
theorem rcM : (if (if (x_isItem x) = true then (if (x_in3 y 1 4) = true then (if (x_in3 z 1 60) = true then (if (x_isItem u) = true then (if (x_in3 v 1 4) = true then (if (x_in3 a 0 100) = true then (true) else (false)) else (false)) else (false)) else (false)) else (false)) else (false)) = true then (if w = 0 then (if u = x then (false) else (if w = x then (false) else (if u = w then (false) else (true)))) else (if (x_isItem w) = true then (if (x_in3 t 1 4) = true then (if u = x then (false) else (if w = x then (false) else (if u = w then (false) else (true)))) else (false)) else (false))) else (false)) = (rcB x y z u v w t a && rcD x u w) := by
  have eD : (if u = x then (false) else (if w = x then (false) else (if u = w then (false) else (true)))) = rcD x u w := by
    unfold rcD
    by_cases h1 : u = x <;> by_cases h2 : w = x <;> by_cases h3 : u = w <;> simp [h1, h2, h3]
  rw [eD]
  simp only [ifand, Bool.and_true]
  unfold rcB
  by_cases w0 : w = 0
  · rw [if_pos w0, if_pos w0]
    simp only [Bool.and_true]
    ac_rfl
  · rw [if_neg w0, if_neg w0]
    ac_rfl
theorem rcD_t (h1 : ¬ u = x) (h2 : ¬ w = x) (h3 : ¬ u = w) : rcD x u w = true := by
  unfold rcD
  simp [h1, h2, h3]
/-- the new row -/
def rcR (x y z u v w t a : Int32) : Row := fun j => match j with
  | 0 => x
  | 1 => y
  | 2 => z
  | 3 => a
  | 4 => u
  | 5 => v
  | 6 => w
  | 7 => if w = 0 then 0 else t
  | _ => 0
theorem rc_good (hb : rcB x y z u v w t a = true) (h1 : ¬ u = x) (h2 : ¬ w = x) (h3 : ¬ u = w) {f : Row} (e : ∀ j, j < 8 → f j = rcR x y z u v w t a j) : GB 1 (fun _ => f) := by
  unfold rcB at hb
  simp only [Bool.and_eq_true] at hb
  obtain ⟨bx, by', bz, ba, bu, bv, bw⟩ := hb
  obtain ⟨xi, x1, x2, rfl⟩ := isItem_n bx
  obtain ⟨yi, y1, y2, rfl⟩ := in3_n (a := 1) (b := 4) (by decide) (by decide) by'
  obtain ⟨zi, z1, z2, rfl⟩ := in3_n (a := 1) (b := 60) (by decide) (by decide) bz
  obtain ⟨ai, a1, a2, rfl⟩ := in3_n (a := 0) (b := 100) (by decide) (by decide) ba
  obtain ⟨ui, u1, u2, rfl⟩ := isItem_n bu
  obtain ⟨vi, v1, v2, rfl⟩ := in3_n (a := 1) (b := 4) (by decide) (by decide) bv
  have W : ∃ wi ti : Nat, w = nI wi ∧ (if w = 0 then 0 else t) = nI ti ∧ wi < 21 ∧ ti ≤ 4 ∧ (wi = 0 → ti = 0) ∧ (¬ wi = 0 → 1 ≤ ti) := by
    by_cases w0 : w = 0
    · exact ⟨0, 0, w0, if_pos w0, by decide, by decide, fun _ => rfl, fun q => absurd rfl q⟩
    · rw [if_neg w0, Bool.and_eq_true] at bw
      obtain ⟨wi, w1, w2, rfl⟩ := isItem_n bw.1
      obtain ⟨ti, t1, t2, rfl⟩ := in3_n (a := 1) (b := 4) (by decide) (by decide) bw.2
      exact ⟨wi, ti, rfl, if_neg w0, w2, t2, fun q => absurd q (by omega), fun _ => t1⟩
  obtain ⟨wi, ti, ew, et, w1, t1, t2, t3⟩ := W
  have f0 : f 0 = nI xi := e 0 (by decide)
  have f1 : f 1 = nI yi := e 1 (by decide)
  have f2 : f 2 = nI zi := e 2 (by decide)
  have f3 : f 3 = nI ai := e 3 (by decide)
  have f4 : f 4 = nI ui := e 4 (by decide)
  have f5 : f 5 = nI vi := e 5 (by decide)
  have f6 : f 6 = nI wi := (e 6 (by decide)).trans ew
  have f7 : f 7 = nI ti := (e 7 (by decide)).trans et
  have n0 : rn f 0 = xi := by unfold rn; rw [f0, nI_c (by omega)]
  have n1 : rn f 1 = yi := by unfold rn; rw [f1, nI_c (by omega)]
  have n2 : rn f 2 = zi := by unfold rn; rw [f2, nI_c (by omega)]
  have n3 : rn f 3 = ai := by unfold rn; rw [f3, nI_c (by omega)]
  have n4 : rn f 4 = ui := by unfold rn; rw [f4, nI_c (by omega)]
  have n5 : rn f 5 = vi := by unfold rn; rw [f5, nI_c (by omega)]
  have n6 : rn f 6 = wi := by unfold rn; rw [f6, nI_c (by omega)]
  have n7 : rn f 7 = ti := by unfold rn; rw [f7, nI_c (by omega)]
  have d1 : ¬ ui = xi := fun q => h1 (by rw [q])
  have d2 : ¬ wi = xi := fun q => h2 (by rw [ew, q])
  have d3 : ¬ ui = wi := fun q => h3 (by rw [ew, q])
  intro b _
  show (∀ j, j < 8 → f j = nI (rn f j)) ∧ _
  rw [n0, n1, n2, n3, n4, n5, n6, n7]
  refine ⟨fun j hj => ?_, x1, x2, y1, y2, z1, z2, a2, u1, u2, v1, v2, w1, t1, d1, d2, d3, t2, t3⟩
  rcases (show j = 0 ∨ j = 1 ∨ j = 2 ∨ j = 3 ∨ j = 4 ∨ j = 5 ∨ j = 6 ∨ j = 7 by omega) with rfl | rfl | rfl | rfl | rfl | rfl | rfl | rfl
  · rw [n0]; exact f0
  · rw [n1]; exact f1
  · rw [n2]; exact f2
  · rw [n3]; exact f3
  · rw [n4]; exact f4
  · rw [n5]; exact f5
  · rw [n6]; exact f6
  · rw [n7]; exact f7
theorem gI_hNo (n : ¬ c = h.1) : gI (hN h) c = gI h c := by
  funext b
  unfold gI hN u1
  exact if_neg n
theorem gL_hNo (n : ¬ c = h.1) : gL (hN h) c = gL h c := by
  funext b
  unfold gL hN u1
  exact if_neg n
theorem gR_hNo (n : ¬ c = h.1) : gR (hN h) c = gR h c := by
  funext b
  unfold gR hN u1
  exact if_neg n
/-- the class's heap with the new recipe filled -/
def hRf (h : Hp) (q : Nat) (x y z u v w t a : Int32) : Hp := sI (sI (sI (sI (sI (sI (sI (sI (hN h) q 0 x) q 1 y) q 2 z) q 3 a) q 4 u) q 5 v) q 6 w) q 7 (if w = 0 then 0 else t)
theorem hRf_o (n : ¬ c = h.1) : gI (hRf h h.1 x y z u v w t a) c = gI h c := by
  unfold hRf
  rw [gIo n, gIo n, gIo n, gIo n, gIo n, gIo n, gIo n, gIo n, gI_hNo n]
theorem hRf_s {j : Nat} (hj : j < 8) : gI (hRf h h.1 x y z u v w t a) h.1 j = rcR x y z u v w t a j := by
  unfold hRf rcR
  rcases (show j = 0 ∨ j = 1 ∨ j = 2 ∨ j = 3 ∨ j = 4 ∨ j = 5 ∨ j = 6 ∨ j = 7 by omega) with rfl | rfl | rfl | rfl | rfl | rfl | rfl | rfl <;> simp [gI_sI]
/-- what the reference writes for it -/
def hRm (h : Hp) (k : Nat) (x y z u v w t a : Int32) : Hp := sI (sI (sI (sI (sI (sI (sI (sI (sI h 400 k x) 399 k y) 401 k z) 402 (2 * k) u) 403 (2 * k) v) 402 (2 * k + 1) w) 403 (2 * k + 1) (if w = 0 then 0 else t)) 404 k a) 397 1 (gI h 397 1 + 1)
theorem hRm_o (n : ¬ c = 397) (m : ¬ (399 ≤ c ∧ c ≤ 404)) : gI (hRm h k x y z u v w t a) c = gI h c := by
  unfold hRm
  rw [gIo (by omega), gIo (by omega), gIo (by omega), gIo (by omega), gIo (by omega), gIo (by omega), gIo (by omega), gIo (by omega), gIo (by omega)]
theorem hRm_7 (j : Nat) : gI (hRm h k x y z u v w t a) 397 j = if j = 1 then gI h 397 1 + 1 else gI h 397 j := by
  unfold hRm
  rw [gIs, up_a, gIo (by decide), gIo (by decide), gIo (by decide), gIo (by decide), gIo (by decide), gIo (by decide), gIo (by decide), gIo (by decide)]
theorem hRm_r {j b : Nat} (hj : j < 8) : MRc (hRm h k x y z u v w t a) b j = if b = k then rcR x y z u v w t a j else MRc h b j := by
  have a1 : ¬ 2 * k + 1 = 2 * k := by omega
  by_cases q : b = k
  · subst q
    rw [if_pos rfl]
    unfold hRm rcR MRc ARc
    rcases (show j = 0 ∨ j = 1 ∨ j = 2 ∨ j = 3 ∨ j = 4 ∨ j = 5 ∨ j = 6 ∨ j = 7 by omega) with rfl | rfl | rfl | rfl | rfl | rfl | rfl | rfl <;> simp [gI_sI]
  · rw [if_neg q]
    have a2 : ¬ 2 * b = 2 * k := by omega
    have a3 : ¬ 2 * b = 2 * k + 1 := by omega
    have a4 : ¬ 2 * b + 1 = 2 * k := by omega
    have a5 : ¬ 2 * b + 1 = 2 * k + 1 := by omega
    unfold hRm MRc ARc
    rcases (show j = 0 ∨ j = 1 ∨ j = 2 ∨ j = 3 ∨ j = 4 ∨ j = 5 ∨ j = 6 ∨ j = 7 by omega) with rfl | rfl | rfl | rfl | rfl | rfl | rfl | rfl <;> simp only [gI_sI] <;> simp [q, a2, a3, a4, a5]
theorem op_recipe : OPI L xs 84 130 [.ref 0, .int x, .int y, .int z, .int u, .int v, .int w, .int t, .int a] [.ref 397, .int x, .int y, .int z, .int u, .int v, .int w, .int t, .int a] := by
  intro h k r
  have r1 := r.1
  have hw := r1.1
  have hk := r1.2.1
  have en := r1.2.2.1
  have ec := r1.2.2.2.1
  have em := r1.2.2.2.2.1
  have rr := r1.2.2.2.2.2.2.1
  have refuse : ∀ {s : Int32} {n : Nat}, RV s n → (∀ h1, Sp L xs 109 [.ref 0, .int s] h (some (.int s)) h1 → Sp L xs 84 [.ref 0, .int x, .int y, .int z, .int u, .int v, .int w, .int t, .int a] h (some (.int s)) h1) → (∀ h1 h2, HW h1 → (∀ a, ¬ a = 1 → gI h1 a = gI h a) → Sp L xs 124 [.ref 397, .int s] h1 (some (.int s)) h2 → Sp L xs 130 [.ref 397, .int x, .int y, .int z, .int u, .int v, .int w, .int t, .int a] h1 (some (.int s)) h2) → ∃ (r : Int32) (h1 h2 : Hp) (k2 : Nat), Sp L xs 84 [.ref 0, .int x, .int y, .int z, .int u, .int v, .int w, .int t, .int a] h (some (.int r)) h1 ∧ HW h1 ∧ Sp L xs 130 [.ref 397, .int x, .int y, .int z, .int u, .int v, .int w, .int t, .int a] h1 (some (.int r)) h2 ∧ Rel h2 k2 := by
    intro s n rv f1 f2
    obtain ⟨h1, h2, s1, w1, s2, rr, e1, -⟩ := op_ref (L := L) (xs := xs) r rv
    exact ⟨s, h1, h2, k, f1 _ s1, w1, f2 _ _ w1 (fun a ha => by rw [e1]; exact hC_o ha) s2, rr⟩
  have s3 := c3 (L := L) (xs := xs) (x := x) r1
  have s129 : ∀ {h1 : Hp}, HW h1 → gI h1 397 = gI h 397 → gI h1 400 = gI h 400 → Sp L xs 129 [.ref 397, .int x] h1 (some (.int (fndI (RC h) x k 0))) h1 := fun w1 e7 e4 => c129 w1 hk (by rw [e7]; exact em) (fun q hq => by rw [e4]; exact (rr q hq 0 (by decide)).symm)
  have M : ∀ {Q : Option Value → Hp → Prop} {h1 : Hp} (w1 : HW h1), _ → ∃ r h', Sp L xs 130 [.ref 397, .int x, .int y, .int z, .int u, .int v, .int w, .int t, .int a] h1 r h' ∧ Q r h' := fun {Q h1} w1 (H : (((rcB x y z u v w t a && rcD x u w) = true) → _) ∧ (¬ ((rcB x y z u v w t a && rcD x u w) = true) → _)) => v130 w1 (by rw [rcM]; exact H)
  have C : ∀ {Q : Option Value → Hp → Prop}, _ → ∃ r h', Sp L xs 84 [.ref 0, .int x, .int y, .int z, .int u, .int v, .int w, .int t, .int a] h r h' ∧ Q r h' := fun {Q} (H : ((rcB x y z u v w t a = true) → _) ∧ (¬ (rcB x y z u v w t a = true) → _)) => v84 hw (by rw [rcC]; exact H)
  have badM : ¬ ((rcB x y z u v w t a && rcD x u w) = true) → ∀ h1 h2, HW h1 → Sp L xs 124 [.ref 397, .int (-6)] h1 (some (.int (-6))) h2 → Sp L xs 130 [.ref 397, .int x, .int y, .int z, .int u, .int v, .int w, .int t, .int a] h1 (some (.int (-6))) h2 := fun n h1 h2 w1 q => sp_eq (M w1 ⟨fun p => absurd p n, fun _ => ⟨_, _, q, rfl, rfl⟩⟩)
  by_cases hb : rcB x y z u v w t a = true
  · by_cases d1 : u = x
    · exact refuse rv6 (fun h1 q => sp_eq (C ⟨fun _ => ⟨fun _ => ⟨_, _, q, rfl, rfl⟩, fun p => absurd d1 p⟩, fun p => absurd hb p⟩)) (fun h1 h2 w1 _ q => badM (by unfold rcD; simp [d1]) h1 h2 w1 q)
    · by_cases d2 : w = x
      · exact refuse rv6 (fun h1 q => sp_eq (C ⟨fun _ => ⟨fun p => absurd p d1, fun _ => ⟨fun _ => ⟨_, _, q, rfl, rfl⟩, fun p => absurd d2 p⟩⟩, fun p => absurd hb p⟩)) (fun h1 h2 w1 _ q => badM (by unfold rcD; simp [d2]) h1 h2 w1 q)
      · by_cases d3 : u = w
        · exact refuse rv6 (fun h1 q => sp_eq (C ⟨fun _ => ⟨fun p => absurd p d1, fun _ => ⟨fun p => absurd p d2, fun _ => ⟨fun _ => ⟨_, _, q, rfl, rfl⟩, fun p => absurd d3 p⟩⟩⟩, fun p => absurd hb p⟩)) (fun h1 h2 w1 _ q => badM (by unfold rcD; simp [d3]) h1 h2 w1 q)
        · have okM : (rcB x y z u v w t a && rcD x u w) = true := by rw [hb, rcD_t d1 d2 d3]; rfl
          by_cases f : fndI (RC h) x k 0 = -1
          · by_cases k8 : k = 8
            · have c8 : ¬ gI h 2 1 < 8 := by rw [ec, k8]; decide
              have m8 : gI h 397 1 = 8 := by rw [em, k8]; rfl
              exact refuse rv7 (fun h1 q => sp_eq (C ⟨fun _ => ⟨fun p => absurd p d1, fun _ => ⟨fun p => absurd p d2, fun _ => ⟨fun p => absurd p d3, fun _ => ⟨_, s3, fun _ => ⟨fun p => absurd p c8, fun _ => ⟨_, _, q, rfl, rfl⟩⟩, fun p => absurd f p⟩⟩⟩⟩, fun p => absurd hb p⟩)) (fun h1 h2 w1 o q => sp_eq (M w1 ⟨fun _ => ⟨_, s129 w1 (o 397 (by decide)) (o 400 (by decide)), fun _ => ⟨fun _ => ⟨_, _, q, rfl, rfl⟩, fun p => absurd (by rw [o 397 (by decide)]; exact m8) p⟩, fun p => absurd f p⟩, fun p => absurd okM p⟩))
            · have hk8 : k < 8 := by omega
              have w1 : HW (hRf h h.1 x y z u v w t a) := HW_sI (HW_sI (HW_sI (HW_sI (HW_sI (HW_sI (HW_sI (HW_sI (HW_hN hw))))))))
              have q1 : RQ h.1 (hN h).1 := RQ_hN h rfl (SH_rec hw.1)
              have q2 : RQ h.1 (hRf h h.1 x y z u v w t a).1 := q1
              have c2 : gI (hRf h h.1 x y z u v w t a) 2 1 = nI k := by rw [hRf_o (by omega)]; exact ec
              have lt : nI k < 8 := (nI_ltI (show k < 2147483648 by omega) (show 8 < 2147483648 by decide)).mpr hk8
              have vA : gI (sI (sR (hRf h h.1 x y z u v w t a) 3 k (some h.1)) 2 1 (gI (hRf h h.1 x y z u v w t a) 2 1 + 1)) 2 1 = nI (k + 1) := by
                rw [gIs, up_s, c2, nI_1]
              have wA : HW (sI (sR (hRf h h.1 x y z u v w t a) 3 k (some h.1)) 2 1 (gI (hRf h h.1 x y z u v w t a) 2 1 + 1)) := HW_sI (HW_sR3 w1)
              have s1 : Sp L xs 1 [.ref 2, .ref h.1] (hRf h h.1 x y z u v w t a) (some (.int (nI k))) (sI (sR (hRf h h.1 x y z u v w t a) 3 k (some h.1)) 2 1 (gI (hRf h h.1 x y z u v w t a) 2 1 + 1)) := by
                refine sp_eq (v1 w1 q2 ⟨fun _ => ⟨k, c2, hk8, ?_, rfl⟩, fun p => absurd (by rw [c2]; exact lt) p⟩)
                rw [vA, nI_pred]
              have sC := sp_eq (C ⟨fun _ => ⟨fun p => absurd p d1, fun _ => ⟨fun p => absurd p d2, fun _ => ⟨fun p => absurd p d3, fun _ => ⟨_, s3, fun _ => ⟨fun _ => ⟨h.1, rfl, SH_rec hw.1, _, sp_eq (v62 (HW_hN hw) q1 ⟨rfl, rfl⟩), _, sp_eq (v63 (HW_sI (HW_sI (HW_sI (HW_sI (HW_hN hw))))) q1 ⟨rfl, rfl⟩), _, _, s1, rfl, rfl⟩, fun p => absurd (by rw [ec]; exact lt) p⟩, fun p => absurd f p⟩⟩⟩⟩, fun p => absurd hb p⟩)
              generalize eA : sI (sR (hRf h h.1 x y z u v w t a) 3 k (some h.1)) 2 1 (gI (hRf h h.1 x y z u v w t a) 2 1 + 1) = hA at sC wA vA
              have nA : hA.1 = h.1 + 1 := by rw [← eA]; rfl
              have oA : ∀ c, ¬ c = 2 → ¬ c = h.1 → gI hA c = gI h c := fun c h1 h2 => by rw [← eA, gIo h1, gIsR, hRf_o h2]
              have rA : ∀ j, j < 8 → gI hA h.1 j = rcR x y z u v w t a j := fun j hj => by rw [← eA, gIo (by omega), gIsR, hRf_s hj]
              have lA : ∀ c, ¬ c = h.1 → gL hA c = gL h c := fun c hc => by rw [← eA]; exact gL_hNo hc
              have gA : ∀ c j, gR hA c j = if c = 3 ∧ j = k then some h.1 else gR (hN h) c j := fun c j => by rw [← eA]; exact gR_sR _ _ _ _ _ _
              have mA : gI hA 397 1 = nI k := by rw [oA 397 (by decide) (by omega)]; exact em
              have ne8 : ¬ gI hA 397 1 = 8 := by
                rw [mA]
                intro q
                have : k = 8 := nI_inj (by omega) (by decide) q
                omega
              have vM : gI (hRm hA k x y z u v w t a) 397 1 = nI (k + 1) := by rw [hRm_7, if_pos rfl, mA, nI_1]
              have sM := sp_eq (M wA ⟨fun _ => ⟨_, s129 wA (oA 397 (by decide) (by omega)) (oA 400 (by decide) (by omega)), fun _ => ⟨fun p => absurd p ne8, fun _ => ⟨k, mA, hk8, 2 * k, by rw [mA]; exact ix4 k, by omega, 2 * k + 1, by rw [mA]; exact ix5 k, by omega, rfl, rfl⟩⟩, fun p => absurd f p⟩, fun p => absurd okM p⟩)
              have vM2 : gI (hRm hA k x y z u v w t a) 397 1 - 1 = nI k := by rw [vM, nI_pred]
              have sM2 : Sp L xs 130 [.ref 397, .int x, .int y, .int z, .int u, .int v, .int w, .int t, .int a] hA (some (.int (gI (hRm hA k x y z u v w t a) 397 1 - 1))) (hRm hA k x y z u v w t a) := sM
              rw [vM2] at sM2
              have row0 : ∀ j, j < 8 → gI (hRm hA k x y z u v w t a) (444 + k) j = rcR x y z u v w t a j := fun j hj => by
                rw [hRm_o (by omega) (by omega), ← en]; exact rA j hj
              refine ⟨nI k, hA, hRm hA k x y z u v w t a, k + 1, sC, wA, sM2, Rel_rec r hk8 (HW_sI (HW_sI (HW_sI (HW_sI (HW_sI (HW_sI (HW_sI (HW_sI (HW_sI wA))))))))) nA (fun c h1 h2 h3 h4 => ?_) (fun j hj => ?_) vM ?_ (fun c j h1 h2 => ?_) ?_ (fun c hc => ?_) (fun j hj => ?_) (fun b j hb hj => ?_) (rc_good hb d1 d2 d3 row0) (fun q hq => ?_)⟩
              · rw [hRm_o h2 h3, oA c h1 (by omega)]
              · rw [hRm_7, if_neg hj, oA 397 (by decide) (by omega)]
              · rw [hRm_o (by decide) (by decide)]; exact vA
              · show gR hA c j = _
                rw [gA, if_neg h1, gR_hNo (by omega)]
              · show gR hA 3 k = _
                rw [gA, if_pos ⟨rfl, rfl⟩, en]
              · show gL hA c = _
                exact lA c (by omega)
              · rw [hRm_r hj, if_pos rfl, row0 j hj]
              · rw [hRm_r hj, if_neg (by omega)]
                unfold MRc
                have := ARc_no b j
                rw [oA _ (by omega) (by omega)]
              · rw [row0 0 (by decide)]
                exact fndI_n k 0 f (by omega) q (Nat.zero_le _) (by omega)
          · exact refuse rv6 (fun h1 q => sp_eq (C ⟨fun _ => ⟨fun p => absurd p d1, fun _ => ⟨fun p => absurd p d2, fun _ => ⟨fun p => absurd p d3, fun _ => ⟨_, s3, fun p => absurd p f, fun _ => ⟨_, _, q, rfl, rfl⟩⟩⟩⟩⟩, fun p => absurd hb p⟩)) (fun h1 h2 w1 o q => sp_eq (M w1 ⟨fun _ => ⟨_, s129 w1 (o 397 (by decide)) (o 400 (by decide)), fun p => absurd p f, fun _ => ⟨_, _, q, rfl, rfl⟩⟩, fun p => absurd okM p⟩))
  · exact refuse rv6 (fun h1 q => sp_eq (C ⟨fun p => absurd p hb, fun _ => ⟨_, _, q, rfl, rfl⟩⟩)) (fun h1 h2 w1 _ q => badM (fun p => hb (by rw [Bool.and_eq_true] at p; exact p.1)) h1 h2 w1 q)
end RP
