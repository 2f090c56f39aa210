/-! The calls partsIn and put. -/
def rt : Nat → Nat → Nat → Nat → Nat → Nat × Nat
  | 0, _, _, dx, dy => (dx, dy)
  | m + 1, w, g, dx, dy => rt m g w (g - 1 - dy) dx
/-- where place j of a piece turned t times comes to lie -/
def tcl (c w g t j : Nat) : Nat := c + 12 * (rt t w g (j % w) (j / w)).2 + (rt t w g (j % w) (j / w)).1
theorem nsb {a b : Nat} (h : b ≤ a) : nI a - nI b = nI (a - b) := by
  have e : nI a = nI (a - b) + nI b := by
    rw [nI_add]
    congr 1
    omega
  rw [e, Int32.add_sub_cancel]
theorem npr {a : Nat} (h : 1 ≤ a) : nI a - 1 = nI (a - 1) := nsb h
theorem turn4 : ∀ s, s < 4 → ∀ t, t < 4 → (nI s + nI t) &&& 3 = nI ((s + t) % 4) ∧ (nI s + nI t) - (nI s + nI t) / 4 * 4 = nI ((s + t) % 4) := by decide
theorem even4 : ∀ t, t < 4 → ((nI t &&& 1 = 0 ↔ t % 2 = 0) ∧ (nI t - nI t / 2 * 2 = 0 ↔ t % 2 = 0)) := by decide
theorem rt_lt {w g dx dy : Nat} (hx : dx < w) (hy : dy < g) : ∀ t, t < 4 → (rt t w g dx dy).1 < (if t % 2 = 0 then w else g) ∧ (rt t w g dx dy).2 < (if t % 2 = 0 then g else w) := by
  intro t ht
  rcases (show t = 0 ∨ t = 1 ∨ t = 2 ∨ t = 3 by omega) with rfl | rfl | rfl | rfl
  · exact ⟨hx, hy⟩
  · refine ⟨?_, ?_⟩
    · show g - 1 - dy < g; omega
    · show dx < w; omega
  · refine ⟨?_, ?_⟩
    · show w - 1 - dx < w; omega
    · show g - 1 - dy < g; omega
  · refine ⟨?_, ?_⟩
    · show g - 1 - (g - 1 - dy) < g; omega
    · show w - 1 - dx < w; omega
/-- is there a piece on shelf x? -/
def pieB (h : Hp) (x : Int32) : Int32 := if x_isShelf x = true then (if gI h (155 + 10 * x.toNatClampNeg) 2 = 1 then -2 else if gI h (155 + 10 * x.toNatClampNeg) 2 = 0 then -3 else 0) else -1
section PU2
variable {L : Nat} {xs : Nat → Int32} {h h1 h2 : Hp} {k c s b p o t : Nat} {x y z u : Int32} {P : Nat → Option Q4}
theorem c111 (hw : HW h) : Sp L xs 111 [.ref 0, .int x] h (some (.int (pieB h x))) h := by
  refine sp_eq (v111 hw ⟨fun hx => ?_, fun hx => ?_⟩)
  · obtain ⟨s, hs, rfl⟩ := isShelf_n hx
    unfold pieB
    rw [if_pos hx, nI_c (by omega)]
    refine ⟨s, rfl, hs, fun q => ?_, fun q => ?_⟩
    · rw [if_pos q]; exact ⟨rfl, rfl⟩
    · rw [if_neg q]; exact ⟨rfl, rfl⟩
  · unfold pieB; rw [if_neg hx]; exact ⟨rfl, rfl⟩
theorem c152 (hw : HW h1) (r : RLs h k) (e : gI h1 420 = gI h 420) (hx : x_isShelf x = true) : Sp L xs 152 [.ref 397, .int x] h1 (some (.int (pieB h x))) h1 := by
  obtain ⟨s, hs, rfl⟩ := isShelf_n hx
  refine sp_eq (v152 hw ⟨_, sp_eq (v137 hw ⟨s, rfl, hs, rfl, rfl⟩), ?_⟩)
  unfold pieB
  rw [if_pos hx, nI_c (by omega), b2i_0, iteb', e]
  rcases r s hs with ⟨q1, q2⟩ | ⟨q1, t, n, ht, hn, q2, q3, -⟩ | ⟨q1, q2, -⟩
  · rw [q1, q2]
    exact ⟨fun _ => ⟨s, rfl, hs, by rw [q2]; rfl, rfl⟩, fun q => absurd (by decide) q⟩
  · rw [q1, q3]
    rw [decide_eq_false (row_n100 ht)]
    exact ⟨fun q => absurd q (by decide), fun _ => ⟨rfl, rfl⟩⟩
  · rw [q1, q2]
    exact ⟨fun _ => ⟨s, rfl, hs, by rw [q2]; rfl, rfl⟩, fun q => absurd (by decide) q⟩
theorem pieB_v (h : Hp) (x : Int32) : pieB h x = 0 ∨ ∃ n, RV (pieB h x) n := by
  unfold pieB
  split
  · split
    · exact Or.inr ⟨2, rv2⟩
    · split
      · exact Or.inr ⟨3, rv3⟩
      · exact Or.inl rfl
  · exact Or.inr ⟨1, rv1⟩
theorem pieB_0 (r : RLs h k) (e : pieB h x = 0) : ∃ s, s < 8 ∧ x = nI s ∧ gI h (155 + 10 * s) 2 = 2 ∧ gI h 420 s = 0 ∧ RPc h s (155 + 10 * s) ∧ ∀ j, j < 144 → ¬ pcK h s j = 0 → (∃ w g : Nat, gI h 424 s = nI w ∧ gI h 425 s = nI g ∧ w < 13 ∧ g < 13 ∧ j < w * g) → GP k (pcK h s j) (gI h 426 (576 * s + 4 * j + 1)) (gI h 426 (576 * s + 4 * j + 2)) (gI h 426 (576 * s + 4 * j + 3)) := by
  by_cases hx : x_isShelf x = true
  · obtain ⟨s, hs, rfl⟩ := isShelf_n hx
    unfold pieB at e
    rw [if_pos hx, nI_c (by omega)] at e
    rcases r s hs with ⟨q1, -⟩ | ⟨q1, -⟩ | q
    · rw [q1] at e; exact absurd e (by decide)
    · rw [q1] at e; exact absurd e (by decide)
    · exact ⟨s, hs, rfl, q⟩
  · unfold pieB at e
    rw [if_neg hx] at e
    exact absurd e (by decide)
theorem op_partsIn : OPI L xs 96 154 [.ref 0, .int x] [.ref 397, .int x] := by
  intro h k r
  have hw := r.1.1
  have r4 := r.2.2.2.1
  have s111 := c111 (L := L) (xs := xs) (x := x) hw
  rcases pieB_v h x with z | ⟨n, rv⟩
  · obtain ⟨s, hs, rfl, q1, q2, ⟨w, g, w1, w2, g1, g2, a1, a2, a3, a4, a5, a6⟩, q4⟩ := pieB_0 r4 z
    have hx : x_isShelf (nI s) = true := (in3_t (a := 0) (b := 7) (by omega) (by decide) (by decide)).mpr ⟨Nat.zero_le _, by omega⟩
    have s152 := c152 (L := L) (xs := xs) hw r4 rfl hx
    rw [z] at s111 s152
    have wg : w * g ≤ 144 := Nat.le_trans (Nat.mul_le_mul (show w ≤ 12 by omega) (show g ≤ 12 by omega)) (by decide)
    exact ⟨_, h, h, k, sp_eq (v96 hw ⟨_, s111, fun _ => ⟨s, rfl, hs, by rw [a5], rfl⟩, fun q => absurd rfl q⟩), hw, sp_eq (v154 hw ⟨fun _ => ⟨_, s152, fun _ => ⟨_, c149 hw hs wg a2 a4, rfl, rfl⟩, fun q => absurd rfl q⟩, fun q => absurd hx q⟩), r⟩
  · have n0 : ¬ pieB h x = 0 := by
      intro q
      rw [q] at rv
      exact absurd rv.2.2 (by decide)
    obtain ⟨h1, h2, s1, w1, s2, rr, e1, e2⟩ := op_ref (L := L) (xs := xs) r rv
    by_cases hx : x_isShelf x = true
    · have s152 := c152 (L := L) (xs := xs) w1 r4 (by rw [e1]; exact hC_o (by decide)) hx
      exact ⟨_, h1, h2, k, sp_eq (v96 hw ⟨_, s111, fun q => absurd q n0, fun _ => ⟨_, _, s1, rfl, rfl⟩⟩), w1, sp_eq (v154 w1 ⟨fun _ => ⟨_, s152, fun q => absurd q n0, fun _ => ⟨_, _, s2, rfl, rfl⟩⟩, fun q => absurd hx q⟩), rr⟩
    · have em : pieB h x = -1 := by unfold pieB; rw [if_neg hx]
      rw [em] at s1 s2 s111
      exact ⟨_, h1, h2, k, sp_eq (v96 hw ⟨_, s111, fun q => absurd q (by decide), fun _ => ⟨_, _, s1, rfl, rfl⟩⟩), w1, sp_eq (v154 w1 ⟨fun q => absurd q hx, fun _ => ⟨_, _, s2, rfl, rfl⟩⟩), rr⟩
theorem c151l (hw : HW h) {z0 z1 z2 : Option Value} (ht : t < 4) : ∀ (m i w g dx dy : Nat) (z10 z11 : Option Value), i + m = t → dx < w → dy < g → w < 100 → g < 100 → WP L xs 151 31 [z0, z1, z2, some (.int (nI c)), some (.int (nI t)), some (.int (nI w)), some (.int (nI g)), some (.int (nI dx)), some (.int (nI dy)), some (.int (nI i)), z10, z11] [] h (fun r h' => r = some (.int (nI (c + 12 * (rt m w g dx dy).2 + (rt m w g dx dy).1))) ∧ h' = h)
  | 0, i, w, g, dx, dy, z10, z11, hi, hx, hy, hw2, hg2 => by
    obtain rfl : i = t := by omega
    refine v151_31 hw ⟨fun _ => ⟨?_, rfl⟩, fun q => absurd (nI_le (Nat.le_refl _) (by omega)) q⟩
    have : nI c + 12 * nI dy + nI dx = nI (c + 12 * dy + dx) := by
      show nI c + nI 12 * nI dy + nI dx = _
      rw [pk_mul, nI_add, nI_add]
    rw [this]
    rfl
  | m + 1, i, w, g, dx, dy, z10, z11, hi, hx, hy, hw2, hg2 => by
    refine v151_31 hw ⟨fun q => absurd q (nI_ge (show i < t by omega) (by omega)), fun _ => ?_⟩
    rw [npr (by omega), nsb (show dy ≤ g - 1 by omega), nI_1]
    exact c151l hw ht m (i + 1) g w (g - 1 - dy) dx _ _ (by omega) (by omega) hx hg2 hw2
theorem c151 (hw : HW h) (hs : s < 8) {w g j : Nat} (w1 : 1 ≤ w) (w2 : w < 13) (g2 : g < 13) (a2 : gI h 424 s = nI w) (a4 : gI h 425 s = nI g) (hj : j < w * g) (ht : t < 4) : Sp L xs 151 [.ref 397, .int (nI s), .int (nI j), .int (nI c), .int (nI t)] h (some (.int (nI (tcl c w g t j)))) h := by
  have wg : w * g ≤ 144 := Nat.le_trans (Nat.mul_le_mul (show w ≤ 12 by omega) (show g ≤ 12 by omega)) (by decide)
  have w0 : ¬ nI w = 0 := nI_ne0 (by omega) (by omega)
  refine sp_eq (v151 hw ⟨s, rfl, hs, by rw [a2]; exact w0, by rw [a2]; exact w0, ?_⟩)
  rw [a2, a4, nmd (by omega) (by omega), ndv (by omega) (by omega)]
  exact c151l hw ht t 0 w g (j % w) (j / w) none none (by omega) (Nat.mod_lt _ (by omega)) (Nat.div_lt_of_lt_mul hj) (by omega) (by omega)
/-- the class's list, entry of place j -/
theorem c49 (hw : HW h) (hb : SB b) {w g j p : Nat} (w1 : 1 ≤ w) (hj : j < w * g) (ht : t < 4) (hp : p < 144) (a1 : gI h (b + 3) 6 = nI w) (a3 : gI h (b + 3) 7 = nI g) (e4 : gI h (b + 4) p = nI (j % w)) (e5 : gI h (b + 5) p = nI (j / w)) : Sp L xs 49 [.ref (b + 3), .int (nI p), .int (nI c), .int (nI t)] h (some (.int (nI (tcl c w g t j)))) h := by
  have hx : j % w < w := Nat.mod_lt _ (by omega)
  have hy : j / w < g := Nat.div_lt_of_lt_mul hj
  have cel : ∀ u v, nI c + 12 * nI u + nI v = nI (c + 12 * u + v) := fun u v => by
    show nI c + nI 12 * nI u + nI v = _
    rw [pk_mul, nI_add, nI_add]
  unfold tcl
  generalize j % w = dx at *
  generalize j / w = dy at *
  refine sp_eq (v49 hw hb ⟨p, rfl, hp, ?_⟩)
  rw [a1, a3, e4, e5, npr (show 1 ≤ g by omega), npr (show 1 ≤ w by omega), nsb (show dy ≤ g - 1 by omega), nsb (show dx ≤ w - 1 by omega), cel, cel, cel, cel]
  rcases (show t = 0 ∨ t = 1 ∨ t = 2 ∨ t = 3 by omega) with rfl | rfl | rfl | rfl
  · exact ⟨fun _ => ⟨rfl, rfl⟩, fun q => absurd rfl q⟩
  · exact ⟨fun q => absurd q (by decide), fun _ => ⟨fun _ => ⟨rfl, rfl⟩, fun q => absurd rfl q⟩⟩
  · exact ⟨fun q => absurd q (by decide), fun _ => ⟨fun q => absurd q (by decide), fun _ => ⟨fun _ => ⟨rfl, rfl⟩, fun q => absurd rfl q⟩⟩⟩
  · refine ⟨fun q => absurd q (by decide), fun _ => ⟨fun q => absurd q (by decide), fun _ => ⟨fun q => absurd q (by decide), fun _ => ⟨?_, rfl⟩⟩⟩⟩
    show _ = some (Value.int (nI (c + 12 * (w - 1 - dx) + (g - 1 - (g - 1 - dy)))))
    rw [show g - 1 - (g - 1 - dy) = dy by omega]
theorem c46 (hw : HW h) (hb : SB b) {w g : Nat} (ht : t < 4) (a1 : gI h (b + 3) 6 = nI w) (a3 : gI h (b + 3) 7 = nI g) : Sp L xs 45 [.ref (b + 3), .int (nI t)] h (some (.int (nI (if t % 2 = 0 then w else g)))) h ∧ Sp L xs 46 [.ref (b + 3), .int (nI t)] h (some (.int (nI (if t % 2 = 0 then g else w)))) h := by
  refine ⟨sp_eq (v45 hw hb ⟨?_, rfl⟩), sp_eq (v46 hw hb ⟨?_, rfl⟩)⟩
  · rw [a1, a3]
    by_cases q : t % 2 = 0
    · rw [if_pos q, if_pos ((even4 t ht).1.mpr q)]
    · rw [if_neg q, if_neg (fun w => q ((even4 t ht).1.mp w))]
  · rw [a1, a3]
    by_cases q : t % 2 = 0
    · rw [if_pos q, if_pos ((even4 t ht).1.mpr q)]
    · rw [if_neg q, if_neg (fun w => q ((even4 t ht).1.mp w))]
/-- what is built of place j -/
def qP (h : Hp) (s t j : Nat) : Q4 := (pcK h s j, (if pcK h s j = 4 then (((gI h 426 (576 * s + 4 * j + 1)) <<< ((nI t : Int32) &&& 31)) ||| ((gI h 426 (576 * s + 4 * j + 1)) >>> (((4 - nI t) : Int32) &&& 31))) &&& 15 else (gI h 426 (576 * s + 4 * j + 1) + nI t) &&& 3), gI h 426 (576 * s + 4 * j + 2), gI h 426 (576 * s + 4 * j + 3))
def PPp (h : Hp) (s c w g t : Nat) : Nat → Nat → Option Q4
  | 0 => fun _ => none
  | j + 1 => if pcK h s j = 0 then PPp h s c w g t j else upP (PPp h s c w g t j) (tcl c w g t j) (some (qP h s t j))
def freP (h : Hp) (s c w g t j : Nat) : Prop := ¬ pcK h s j = 0 → gI h (10 + tcl c w g t j) 0 = 0
theorem PPp_some {q : Q4} {w g : Nat} : ∀ n, PPp h s c w g t n o = some q → ∃ j, j < n ∧ ¬ pcK h s j = 0 ∧ q = qP h s t j
  | 0, e => by cases e
  | n + 1, e => by
    have e1 : PPp h s c w g t (n + 1) = if pcK h s n = 0 then PPp h s c w g t n else upP (PPp h s c w g t n) (tcl c w g t n) (some (qP h s t n)) := rfl
    rw [e1] at e
    by_cases z : pcK h s n = 0
    · rw [if_pos z] at e
      obtain ⟨j, h1, h2⟩ := PPp_some n e
      exact ⟨j, by omega, h2⟩
    · rw [if_neg z] at e
      unfold upP at e
      by_cases y : o = tcl c w g t n
      · rw [if_pos y] at e
        injection e with e
        exact ⟨n, Nat.lt_succ_self n, z, e.symm⟩
      · rw [if_neg y] at e
        obtain ⟨j, h1, h2⟩ := PPp_some n e
        exact ⟨j, by omega, h2⟩
theorem qP_GP (ht : t < 4) {j : Nat} (g : GP k (pcK h s j) (gI h 426 (576 * s + 4 * j + 1)) (gI h 426 (576 * s + 4 * j + 2)) (gI h 426 (576 * s + 4 * j + 3))) : GP k (qP h s t j).1 (qP h s t j).2.1 (qP h s t j).2.2.1 (qP h s t j).2.2.2 := by
  obtain ⟨g1, g2, g3, g4⟩ := g
  refine ⟨g1, fun n4 n7 => ?_, g3, g4⟩
  obtain ⟨a, ha, e⟩ := g2 n4 n7
  refine ⟨(a + t) % 4, Nat.mod_lt _ (by decide), ?_⟩
  show (if pcK h s j = 4 then _ else _) = _
  rw [if_neg (show ¬ pcK h s j = 4 from n4), e]
  exact (turn4 a ha t ht).1
theorem nw7 {kd sd sd' a b : Int32} (k7 : kd = 7) : nwR (kd, sd, a, b) = nwR (kd, sd', a, b) := by
  subst k7
  funext i
  unfold nwR
  rfl
/-- the reference turns a side as the class does -/
theorem qP_tsd (ht : t < 4) {j : Nat} (g : GP k (pcK h s j) (gI h 426 (576 * s + 4 * j + 1)) (gI h 426 (576 * s + 4 * j + 2)) (gI h 426 (576 * s + 4 * j + 3))) : nwR (pcK h s j, tsd (pcK h s j) (gI h 426 (576 * s + 4 * j + 1)) (nI t), gI h 426 (576 * s + 4 * j + 2), gI h 426 (576 * s + 4 * j + 3)) = nwR (qP h s t j) := by
  by_cases k7 : pcK h s j = 7
  · exact nw7 k7
  · have e : tsd (pcK h s j) (gI h 426 (576 * s + 4 * j + 1)) (nI t) = (qP h s t j).2.1 := by
      unfold tsd qP
      show _ = if pcK h s j = 4 then _ else _
      by_cases k4 : pcK h s j = 4
      · rw [if_pos k4, if_pos k4]
      · rw [if_neg k4, if_neg k4]
        obtain ⟨a, ha, e⟩ := g.2.1 k4 k7
        rw [e]
        exact (turn4 a ha t ht).2.trans (turn4 a ha t ht).1.symm
    rw [e]
    rfl
theorem RPL_133q {q q' : Q4} (hw : HW h1) (m : RPL h1 h2 P) (hc : c < 144) (hz : ¬ q.1 = 0) (e1 : q'.1 = q.1) (e2 : nwR q' = nwR q) : ∃ h', Sp L xs 133 [.ref 397, .int (nI c), .int q'.1, .int q'.2.1, .int q'.2.2.1, .int q'.2.2.2] h2 none h' ∧ RPL h1 h' (upP P c (some q)) := by
  obtain ⟨h', s1, m1, m2, m3⟩ := RPL_133 (L := L) (xs := xs) (q := q') hw m hc (by rw [e1]; exact hz)
  refine ⟨h', s1, m1, m2, fun c' hc' => ?_⟩
  obtain ⟨u1, u2, u3⟩ := m3 c' hc'
  refine ⟨u1, fun y => ?_, fun y hy => ?_⟩
  · by_cases e : c' = c
    · unfold upP at y; rw [if_pos e] at y; cases y
    · exact u2 (by unfold upP at y ⊢; rw [if_neg e] at y ⊢; exact y)
  · by_cases e : c' = c
    · unfold upP at hy
      rw [if_pos e] at hy
      injection hy with hy
      subst hy
      have := u3 q' (by unfold upP; rw [if_pos e])
      rw [e1, e2] at this
      exact this
    · exact u3 y (by unfold upP at hy ⊢; rw [if_neg e] at hy ⊢; exact hy)
/-- all that is known of a piece -/
def PCF (h : Hp) (k s w g : Nat) : Prop := s < 8 ∧ 1 ≤ w ∧ w < 13 ∧ 1 ≤ g ∧ g < 13 ∧ gI h (155 + 10 * s + 3) 6 = nI w ∧ gI h 424 s = nI w ∧ gI h (155 + 10 * s + 3) 7 = nI g ∧ gI h 425 s = nI g ∧ gI h (155 + 10 * s + 3) 8 = nI (pcN h s (w * g)) ∧ (∀ j, j < w * g → ¬ pcK h s j = 0 → gI h (155 + 10 * s + 4) (pcN h s j) = nI (j % w) ∧ gI h (155 + 10 * s + 5) (pcN h s j) = nI (j / w) ∧ gI h (155 + 10 * s + 6) (pcN h s j) = pcK h s j ∧ gI h (155 + 10 * s + 7) (pcN h s j) = gI h 426 (576 * s + 4 * j + 1) ∧ gI h (155 + 10 * s + 8) (pcN h s j) = gI h 426 (576 * s + 4 * j + 2) ∧ gI h (155 + 10 * s + 9) (pcN h s j) = gI h 426 (576 * s + 4 * j + 3)) ∧ ∀ j, j < w * g → ¬ pcK h s j = 0 → GP k (pcK h s j) (gI h 426 (576 * s + 4 * j + 1)) (gI h 426 (576 * s + 4 * j + 2)) (gI h 426 (576 * s + 4 * j + 3))
theorem pcN_s (h : Hp) (s n : Nat) : pcN h s (n + 1) = if pcK h s n = 0 then pcN h s n else pcN h s n + 1 := rfl
theorem pcN_lt {i n : Nat} (hi : i < n) (hz : ¬ pcK h s i = 0) : pcN h s i < pcN h s n := by
  rw [pcN_c, pcN_c]
  exact cntN_lt hi hz
theorem c47l {w g : Nat} (hw : HW h) (F : PCF h k s w g) (ht : t < 4) (hcl : ∀ j, j < w * g → tcl c w g t j < 144) : ∀ (m j : Nat), j + m = w * g → (∀ i, i < j → freP h s c w g t i) → WP L xs 47 3 [some (.ref (155 + 10 * s + 3)), some (.ref 4), some (.int (nI c)), some (.int (nI t)), some (.int (nI (pcN h s j)))] [] h (fun r h' => h' = h ∧ ∃ v, r = some (.int v) ∧ (v = 0 ↔ ¬ ∀ i, i < w * g → freP h s c w g t i))
  | 0, j, hj, ok => by
    obtain ⟨hs, w1, w2, g1, g2, a1, a2, a3, a4, a5, a6, a7⟩ := F
    have hj' : j = w * g := by omega
    have wg : w * g ≤ 144 := Nat.le_trans (Nat.mul_le_mul (show w ≤ 12 by omega) (show g ≤ 12 by omega)) (by decide)
    have pl : pcN h s (w * g) ≤ w * g := by rw [pcN_c]; exact cntN_le _ _
    subst hj'
    refine v47_3 hw (SB_of hs) ?_
    rw [a5]
    exact ⟨fun _ => ⟨rfl, 1, rfl, fun q => absurd q (by decide), fun q => absurd ok q⟩, fun q => absurd (nI_le (Nat.le_refl _) (by omega)) q⟩
  | m + 1, j, hj, ok => by
    by_cases z : pcK h s j = 0
    · have e : pcN h s j = pcN h s (j + 1) := by rw [pcN_s, if_pos z]
      rw [e]
      refine c47l hw F ht hcl m (j + 1) (by omega) (fun i hi => ?_)
      by_cases q : i = j
      · rw [q]; exact fun y => absurd z y
      · exact ok i (by omega)
    · have F' := F
      obtain ⟨hs, w1, w2, g1, g2, a1, a2, a3, a4, a5, a6, a7⟩ := F
      have lt : j < w * g := by omega
      have wg : w * g ≤ 144 := Nat.le_trans (Nat.mul_le_mul (show w ≤ 12 by omega) (show g ≤ 12 by omega)) (by decide)
      have pl : pcN h s (w * g) ≤ w * g := by rw [pcN_c]; exact cntN_le _ _
      have pj := pcN_lt lt z
      obtain ⟨x4, x5, x6, x7, x8, x9⟩ := a6 j lt z
      have s49 := c49 (L := L) (xs := xs) (c := c) hw (SB_of hs) w1 lt ht (show pcN h s j < 144 by omega) a1 a3 x4 x5
      refine v47_3 hw (SB_of hs) ?_
      rw [a5]
      refine ⟨fun q => absurd q (nI_ge pj (by omega)), fun _ => ⟨_, s49, _, rfl, hcl j lt, fun f => ?_, fun f => ⟨rfl, 0, rfl, fun _ y => f (y j lt z), fun _ => rfl⟩⟩⟩
      rw [nI_1, show pcN h s j + 1 = pcN h s (j + 1) by rw [pcN_s, if_neg z]]
      refine c47l hw F' ht hcl m (j + 1) (by omega) (fun i hi => ?_)
      by_cases q : i = j
      · rw [q]; exact fun _ => f
      · exact ok i (by omega)
/-- the class's placing, entry after entry -/
theorem c48l {w g : Nat} (b0 : RLb h k) (F : PCF h k s w g) (ht : t < 4) (hcl : ∀ j, j < w * g → tcl c w g t j < 144) : ∀ (m j : Nat) (h1 : Hp), j + m = w * g → CPL h h1 (PPp h s c w g t j) → WP L xs 48 3 [some (.ref (155 + 10 * s + 3)), some (.ref 4), some (.int (nI c)), some (.int (nI t)), some (.int (nI (pcN h s j)))] [] h1 (fun r h' => r = none ∧ CPL h h' (PPp h s c w g t (w * g)))
  | 0, j, h1, hj, cc => by
    obtain ⟨hs, w1, w2, g1, g2, a1, a2, a3, a4, a5, a6, a7⟩ := F
    have hj' : j = w * g := by omega
    have wg : w * g ≤ 144 := Nat.le_trans (Nat.mul_le_mul (show w ≤ 12 by omega) (show g ≤ 12 by omega)) (by decide)
    have pl : pcN h s (w * g) ≤ w * g := by rw [pcN_c]; exact cntN_le _ _
    subst hj'
    refine v48_3 cc.2.1 (SB_of hs) ?_
    rw [(cc.2.2.2.1 (155 + 10 * s + 3) (by omega)).1, a5]
    exact ⟨fun _ => ⟨rfl, cc⟩, fun q => absurd (nI_le (Nat.le_refl _) (by omega)) q⟩
  | m + 1, j, h1, hj, cc => by
    have e1 : PPp h s c w g t (j + 1) = if pcK h s j = 0 then PPp h s c w g t j else upP (PPp h s c w g t j) (tcl c w g t j) (some (qP h s t j)) := rfl
    by_cases z : pcK h s j = 0
    · have e : pcN h s j = pcN h s (j + 1) := by rw [pcN_s, if_pos z]
      rw [e]
      exact c48l b0 F ht hcl m (j + 1) h1 (by omega) (by rw [e1, if_pos z]; exact cc)
    · have F' := F
      obtain ⟨hs, w1, w2, g1, g2, a1, a2, a3, a4, a5, a6, a7⟩ := F
      have lt : j < w * g := by omega
      have wg : w * g ≤ 144 := Nat.le_trans (Nat.mul_le_mul (show w ≤ 12 by omega) (show g ≤ 12 by omega)) (by decide)
      have pl : pcN h s (w * g) ≤ w * g := by rw [pcN_c]; exact cntN_le _ _
      have pj := pcN_lt lt z
      obtain ⟨x4, x5, x6, x7, x8, x9⟩ := a6 j lt z
      have hw1 := cc.2.1
      have o : ∀ i, i < 10 → gI h1 (155 + 10 * s + i) = gI h (155 + 10 * s + i) := fun i hi => (cc.2.2.2.1 _ (by omega)).1
      have s49 := c49 (L := L) (xs := xs) (h := h1) (c := c) hw1 (SB_of hs) w1 lt ht (show pcN h s j < 144 by omega) (by rw [o 3 (by decide)]; exact a1) (by rw [o 3 (by decide)]; exact a3) (by rw [o 4 (by decide)]; exact x4) (by rw [o 5 (by decide)]; exact x5)
      have s50 : Sp L xs 50 [.ref (155 + 10 * s + 3), .int (nI (pcN h s j)), .int (nI t)] h1 (some (.int (qP h s t j).2.1)) h1 := by
        refine sp_eq (v50 hw1 (SB_of hs) ⟨_, rfl, by omega, ?_⟩)
        rw [o 6 (by decide), o 7 (by decide), x6, x7]
        unfold qP
        refine ⟨fun q => ⟨?_, rfl⟩, fun q => ⟨?_, rfl⟩⟩
        · show _ = some (Value.int (if pcK h s j = 4 then _ else _))
          rw [if_pos q]
        · show _ = some (Value.int (if pcK h s j = 4 then _ else _))
          rw [if_neg q]
      obtain ⟨h2, s2, c2⟩ := CPL_14 (L := L) (xs := xs) (q := qP h s t j) b0 cc (hcl j lt) (qP_GP ht (a7 j lt z))
      refine v48_3 hw1 (SB_of hs) ?_
      rw [o 3 (by decide), a5]
      refine ⟨fun q => absurd q (nI_ge pj (by omega)), fun _ => ⟨_, s49, _, rfl, by omega, _, s50, h2, ?_, ?_⟩⟩
      · rw [o 6 (by decide), o 8 (by decide), o 9 (by decide), x6, x8, x9]
        exact s2
      · rw [nI_1, show pcN h s j + 1 = pcN h s (j + 1) by rw [pcN_s, if_neg z]]
        exact c48l b0 F' ht hcl m (j + 1) h2 (by omega) (by rw [e1, if_neg z]; exact c2)
/-- the reference's laying -/
theorem c153p {w g : Nat} {hh : Hp} (F : PCF h k s w g) (ht : t < 4) (hcl : ∀ j, j < w * g → tcl c w g t j < 144) (hw1 : HW hh) (o : ∀ a, a = 424 ∨ a = 425 ∨ a = 426 → gI hh a = gI h a) {w' g' : Nat} (ew : w' * g' = w * g) {z4 : Option Value} : ∀ (m j : Nat) (h2 : Hp) (z8 : Option Value), j + m = w * g → RPL hh h2 (PPp h s c w g t j) → WP L xs 153 196 [some (.ref 397), some (.int (nI s)), some (.int (nI c)), some (.int (nI t)), z4, some (.int (nI w')), some (.int (nI g')), some (.int (nI j)), z8] [] h2 (fun r h' => r = some (.int (nI (pcN h s (w * g)))) ∧ RPL hh h' (PPp h s c w g t (w * g)))
  | 0, j, h2, z8, hj, mm => by
    obtain ⟨hs, w1, w2, g1, g2, a1, a2, a3, a4, a5, a6, a7⟩ := F
    have hj' : j = w * g := by omega
    have wg : w * g ≤ 144 := Nat.le_trans (Nat.mul_le_mul (show w ≤ 12 by omega) (show g ≤ 12 by omega)) (by decide)
    subst hj'
    have hw2 := IE_w mm.1 hw1
    have o2 : ∀ a, a = 424 ∨ a = 425 ∨ a = 426 → gI h2 a = gI h a := fun a ha => (mm.2.1 a (by unfold ryt; omega)).trans (o a ha)
    have s1 := c149 (L := L) (xs := xs) hw2 hs wg (by rw [o2 424 (by decide)]; exact a2) (by rw [o2 425 (by decide)]; exact a4)
    rw [pcN_of (o2 426 (by decide))] at s1
    refine v153_196 hw2 ?_
    rw [pk_mul, ew]
    exact ⟨fun _ => ⟨_, s1, rfl, mm⟩, fun q => absurd (nI_le (Nat.le_refl _) (by omega)) q⟩
  | m + 1, j, h2, z8, hj, mm => by
    have F' := F
    obtain ⟨hs, w1, w2, g1, g2, a1, a2, a3, a4, a5, a6, a7⟩ := F
    have lt : j < w * g := by omega
    have wg : w * g ≤ 144 := Nat.le_trans (Nat.mul_le_mul (show w ≤ 12 by omega) (show g ≤ 12 by omega)) (by decide)
    have hw2 := IE_w mm.1 hw1
    have o2 : ∀ a, a = 424 ∨ a = 425 ∨ a = 426 → gI h2 a = gI h a := fun a ha => (mm.2.1 a (by unfold ryt; omega)).trans (o a ha)
    have e1 : PPp h s c w g t (j + 1) = if pcK h s j = 0 then PPp h s c w g t j else upP (PPp h s c w g t j) (tcl c w g t j) (some (qP h s t j)) := rfl
    have g0 := gx s j 0
    refine v153_196 hw2 ?_
    rw [pk_mul, ew]
    refine ⟨fun q => absurd q (nI_ge lt (by omega)), fun _ => ⟨_, g0, by omega, fun z => ?_, fun z => ?_⟩⟩
    · rw [o2 426 (by decide)] at z
      rw [nI_1]
      exact c153p F' ht hcl hw1 o ew m (j + 1) h2 _ (by omega) (by rw [e1, if_pos (show pcK h s j = 0 from z)]; exact mm)
    · rw [o2 426 (by decide)] at z
      have z' : ¬ pcK h s j = 0 := z
      have s151 := c151 (L := L) (xs := xs) (c := c) hw2 hs w1 w2 g2 (by rw [o2 424 (by decide)]; exact a2) (by rw [o2 425 (by decide)]; exact a4) lt ht
      have gp := a7 j lt z'
      obtain ⟨h3, s3, m3⟩ := RPL_133q (L := L) (xs := xs) (q := qP h s t j) (q' := (pcK h s j, tsd (pcK h s j) (gI h 426 (576 * s + 4 * j + 1)) (nI t), gI h 426 (576 * s + 4 * j + 2), gI h 426 (576 * s + 4 * j + 3))) hw1 mm (hcl j lt) (in3_gp (qP_GP ht gp)) rfl (qP_tsd ht gp)
      refine ⟨_, s151, _, by rw [g0]; exact nI_1 _, by omega, _, by rw [g0]; exact nI_add _ 2, by omega, _, by rw [g0]; exact nI_add _ 3, by omega, h3, ?_, ?_⟩
      · rw [o2 426 (by decide)]
        exact s3
      · rw [nI_1]
        exact c153p F' ht hcl hw1 o ew m (j + 1) h3 _ (by omega) (by rw [e1, if_neg z']; exact m3)
/-- the reference's look -/
theorem c153l {w g : Nat} {hh : Hp} (F : PCF h k s w g) (ht : t < 4) (hcl : ∀ j, j < w * g → tcl c w g t j < 144) (hw1 : HW hh) (o : ∀ a, a = 424 ∨ a = 425 ∨ a = 426 → gI hh a = gI h a) (fr : ∀ q, q < 144 → gI hh 405 q = gI h (10 + q) 0) {w' g' : Nat} (ew : w' * g' = w * g) (hR : RPL hh hh (fun _ => none)) {z4 : Option Value} : ∀ (m j : Nat) (z8 : Option Value), j + m = w * g → (∀ i, i < j → freP h s c w g t i) → WP L xs 153 135 [some (.ref 397), some (.int (nI s)), some (.int (nI c)), some (.int (nI t)), z4, some (.int (nI w')), some (.int (nI g')), some (.int (nI j)), z8] [] hh (fun r h' => ((∀ i, i < w * g → freP h s c w g t i) ∧ r = some (.int (nI (pcN h s (w * g)))) ∧ RPL hh h' (PPp h s c w g t (w * g))) ∨ (¬ (∀ i, i < w * g → freP h s c w g t i) ∧ r = some (.int (-6)) ∧ h' = hM hh 6))
  | 0, j, z8, hj, ok => by
    have hj' : j = w * g := by omega
    subst hj'
    refine v153_135 hw1 ?_
    rw [pk_mul, ew]
    have wg : w * g ≤ 144 := Nat.le_trans (Nat.mul_le_mul (show w ≤ 12 by have := F.2.2.1; omega) (show g ≤ 12 by have := F.2.2.2.2.1; omega)) (by decide)
    refine ⟨fun _ => ?_, fun q => absurd (nI_le (Nat.le_refl _) (by omega)) q⟩
    exact wp_imp (c153p F ht hcl hw1 o ew (w * g) 0 hh z8 (by omega) hR) (fun r h' q => Or.inl ⟨ok, q⟩)
  | m + 1, j, z8, hj, ok => by
    have F' := F
    obtain ⟨hs, w1, w2, g1, g2, a1, a2, a3, a4, a5, a6, a7⟩ := F
    have lt : j < w * g := by omega
    have wg : w * g ≤ 144 := Nat.le_trans (Nat.mul_le_mul (show w ≤ 12 by omega) (show g ≤ 12 by omega)) (by decide)
    have g0 := gx s j 0
    refine v153_135 hw1 ?_
    rw [pk_mul, ew]
    refine ⟨fun q => absurd q (nI_ge lt (by omega)), fun _ => ⟨_, g0, by omega, fun z => ?_, fun z => ?_⟩⟩
    · rw [o 426 (by decide)] at z
      rw [nI_1]
      refine c153l F' ht hcl hw1 o fr ew hR m (j + 1) _ (by omega) (fun i hi => ?_)
      by_cases q : i = j
      · rw [q]; exact fun y => absurd z y
      · exact ok i (by omega)
    · rw [o 426 (by decide)] at z
      have z' : ¬ pcK h s j = 0 := z
      have s151 := c151 (L := L) (xs := xs) (c := c) hw1 hs w1 w2 g2 (by rw [o 424 (by decide)]; exact a2) (by rw [o 425 (by decide)]; exact a4) lt ht
      refine ⟨_, s151, _, rfl, hcl j lt, fun f => ?_, fun f => ⟨_, _, rfM hw1 rv6, Or.inr ⟨fun y => f ?_, rfl, rfl⟩⟩⟩
      · rw [fr _ (hcl j lt)] at f
        rw [nI_1]
        refine c153l F' ht hcl hw1 o fr ew hR m (j + 1) _ (by omega) (fun i hi => ?_)
        by_cases q : i = j
        · rw [q]; exact fun _ => f
        · exact ok i (by omega)
      · rw [fr _ (hcl j lt)]
        exact y j lt z'
end PU2
