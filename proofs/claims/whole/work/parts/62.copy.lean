/-! The calls set and copy. -/
theorem tsub : ∀ t, t < 4 → nI (100 + t) - 100 = nI t := by decide
section CY
variable {L : Nat} {xs : Nat → Int32} {h : Hp} {k c s a n b : Nat} {x y z u v : Int32} {w : Int64}
theorem c79 (hw : HW h) (hb : SB b) {i : Nat} (hi : i < 100) : Sp L xs 79 [.ref (b + 1), .int (nI i), .long w] h none (sL h (b + 2) i (lws (gI h (b + 1) 1) w)) := by
  refine sp_eq (v79 hw hb ⟨fun q => ⟨i, rfl, hi, rfl, ?_⟩, fun q0 => ⟨fun q => ⟨i, rfl, hi, rfl, ?_⟩, fun q1 => ⟨fun q => ⟨i, rfl, hi, rfl, ?_⟩, fun q2 => ⟨i, rfl, hi, rfl, ?_⟩⟩⟩⟩)
  · unfold lws; rw [if_pos q]
  · unfold lws; rw [if_neg q0, if_pos q]
  · unfold lws; rw [if_neg q0, if_neg q1, if_pos q]
  · unfold lws; rw [if_neg q0, if_neg q1, if_neg q2]
theorem row_n100 {t : Nat} (ht : t < 4) : ¬ nI (100 + t) < 100 := by
  intro q
  have := (nI_ltI (show 100 + t < 2147483648 by omega) (show 100 < 2147483648 by decide)).mp q
  omega
theorem op_set : OPI L xs 89 141 [.ref 0, .int x, .int y, .long w] [.ref 397, .int x, .int y, .long w] := by
  intro h k r
  have hw := r.1.1
  have r4 := r.2.2.2.1
  have s110 := c110 (L := L) (xs := xs) (x := x) hw
  rcases rowB_v h x with z | ⟨n, rv⟩
  · obtain ⟨s, hs, rfl, t1, t, n, ht, hn, q1, q2, q3, q4, q5⟩ := rowB_0 r4 z
    have hb := SB_of hs
    rw [z] at s110
    have s78 := c78 (L := L) (xs := xs) (x := y) hw hb
    rw [q3] at s78
    by_cases hy : x_in3 y 0 (nI n - 1) = true
    · obtain ⟨i, hi, rfl⟩ := in3_sz hn hy
      rw [hy] at s78
      have s79 := c79 (L := L) (xs := xs) (w := w) hw hb (i := i) (by omega)
      have w1 : HW (sL h (155 + 10 * s + 2) i (lws (gI h (155 + 10 * s + 1) 1) w)) := HW_sL hw
      have s140 := c140 (L := L) (xs := xs) (x := nI s) w1 r4 rfl
      rw [z] at s140
      have e1 : 100 * nI s + nI i = nI (100 * s + i) := by
        show nI 100 * nI s + nI i = _
        rw [pk_mul, nI_add]
      refine ⟨1, _, _, k, sp_eq (v89 hw ⟨_, s110, fun _ => ⟨s, rfl, hs, _, s78, fun q => absurd q (by decide), fun _ => ⟨_, s79, rfl, rfl⟩⟩, fun q => absurd rfl q⟩), w1, sp_eq (v141 w1 ⟨_, s140, fun _ => ⟨s, rfl, hs, fun _ => ⟨_, e1, by omega, rfl, rfl⟩, fun q => absurd (by show x_in3 (nI i) 0 (gI h 421 s - 1) = true; rw [q4]; exact hy) q⟩, fun q => absurd rfl q⟩), ?_⟩
      refine Rel_sh r rfl rfl (fun a ha => rfl) (fun a ha => ?_) (fun s' hs' => ?_)
      · rw [gLo (by omega), gLo (by omega)]
      · by_cases e : s' = s
        · subst e
          refine Or.inr (Or.inl ⟨t1, t, n, ht, hn, q1, q2, q3, q4, fun j hj => ?_⟩)
          rw [gLo (by omega), gLs, gLs, gLo (by omega)]
          show _ = if _ then lws (gI h 420 s' - 100) w else _
          rw [q2, tsub t ht, q1]
          by_cases ej : j = i
          · rw [if_pos ej, if_pos (by omega)]
          · rw [if_neg ej, if_neg (by omega)]
            exact q5 j hj
        · refine RSh_at (h := h) (fun j hj => rfl) ?_ rfl rfl rfl rfl (fun j hj => rfl) (fun j hj => ?_) (r4 s' hs')
          · rw [gLo (by omega), gLo (by omega)]
          · rw [gLs, if_neg (by omega), gLo (by omega)]
    · rw [(Bool.not_eq_true _).mp hy] at s78
      obtain ⟨h1, h2, s1, w1, s2, rr, e1, e2⟩ := op_ref (L := L) (xs := xs) r rv5
      have s140 := c140 (L := L) (xs := xs) (x := nI s) w1 r4 (by rw [e1]; exact hC_o (by decide))
      rw [z] at s140
      exact ⟨-5, h1, h2, k, sp_eq (v89 hw ⟨_, s110, fun _ => ⟨s, rfl, hs, _, s78, fun _ => ⟨_, _, s1, rfl, rfl⟩, fun q => absurd (by decide) q⟩, fun q => absurd rfl q⟩), w1, sp_eq (v141 w1 ⟨_, s140, fun _ => ⟨s, rfl, hs, fun q => absurd (by rw [e1, hC_o (by decide), q4] at q; exact q) hy, fun _ => ⟨_, _, s2, rfl, rfl⟩⟩, fun q => absurd rfl q⟩), rr⟩
  · have n0 : ¬ rowB h x = 0 := by
      intro q
      rw [q] at rv
      exact absurd rv.2.2 (by decide)
    obtain ⟨h1, h2, s1, w1, s2, rr, e1, e2⟩ := op_ref (L := L) (xs := xs) r rv
    have s140 := c140 (L := L) (xs := xs) (x := x) w1 r4 (by rw [e1]; exact hC_o (by decide))
    exact ⟨_, h1, h2, k, sp_eq (v89 hw ⟨_, s110, fun q => absurd q n0, fun _ => ⟨_, _, s1, rfl, rfl⟩⟩), w1, sp_eq (v141 w1 ⟨_, s140, fun q => absurd q n0, fun _ => ⟨_, _, s2, rfl, rfl⟩⟩), rr⟩
/-- z and v: a stretch of a row of n -/
def okS (n : Nat) (z v : Int32) : Prop := ∃ a w : Nat, z = nI a ∧ v = nI w ∧ a + w ≤ n
theorem ns_pos {v : Int32} (h : 0 ≤ v) : ∃ w, w < 2147483648 ∧ v = nI w := by
  obtain ⟨j, hj, e⟩ := nI_of (Int32.not_lt.mpr h)
  exact ⟨j, by omega, e⟩
theorem nI_subN {a b : Nat} (ha : a < 2147483648) (hb : b < 2147483648) : (nI a - nI b).toInt = (a : Int) - b := by
  rw [Int32.toInt_sub, nI_toInt (by omega), nI_toInt (by omega)]
  refine Int.bmod_eq_of_le (by omega) (by omega)
theorem okS_c {n : Nat} (hn : n < 101) (hv : 0 ≤ v) : (if z < 0 then false else if nI n - v < z then false else true) = true ↔ okS n z v := by
  obtain ⟨w, hw, rfl⟩ := ns_pos hv
  constructor
  · intro q
    by_cases h1 : z < 0
    · rw [if_pos h1] at q; cases q
    · rw [if_neg h1] at q
      by_cases h2 : nI n - nI w < z
      · rw [if_pos h2] at q; cases q
      · obtain ⟨a, ha, rfl⟩ := ns_pos (Int32.not_lt.mp h1)
        have h3 := Int32.le_iff_toInt_le.mp (Int32.not_lt.mp h2)
        rw [nI_subN (by omega) hw, nI_toInt (by omega)] at h3
        exact ⟨a, w, rfl, rfl, by omega⟩
  · rintro ⟨a, w', rfl, e, hs⟩
    obtain rfl := nI_inj hw (by omega) e
    have h1 : ¬ nI a < 0 := Int32.not_lt.mpr (nI_le (a := 0) (Nat.zero_le _) (by omega))
    have h2 : ¬ nI n - nI w < nI a := by
      intro q
      have h3 := Int32.lt_iff_toInt_lt.mp q
      rw [nI_subN (by omega) hw, nI_toInt (by omega)] at h3
      omega
    rw [if_neg h1, if_neg h2]
theorem c78g {b n : Nat} (hw : HW h) (hb : SB b) (hn : n < 101) (e : gI h (b + 1) 2 = nI n) (hv : 0 ≤ v) : ∃ r, Sp L xs 78 [.ref (b + 1), .int z, .int v] h (some (.int r)) h ∧ (r = 0 ↔ ¬ okS n z v) := by
  refine ⟨_, sp_eq (v78 hw hb ⟨rfl, rfl⟩), ?_⟩
  rw [e, b2i_0, ← okS_c hn hv, Bool.not_eq_true]
theorem okS_mk {n : Nat} (hn : n < 101) (hv : 0 ≤ v) (h1 : ¬ z < 0) (h2 : v ≤ nI n - z) : okS n z v := by
  obtain ⟨w, hw, rfl⟩ := ns_pos hv
  obtain ⟨a, ha, rfl⟩ := ns_pos (Int32.not_lt.mp h1)
  have h3 := Int32.le_iff_toInt_le.mp h2
  rw [nI_subN (by omega) ha, nI_toInt (by omega)] at h3
  exact ⟨a, w, rfl, rfl, by omega⟩
theorem c142b (h0 : Hp) (hw0 : HW h0) (hs : s < 8) {w d : Nat} (hd : d + w ≤ 100) {src : Nat → Int64} {z1 z3 : Option Value} : ∀ (m i : Nat) (h : Hp), i + m = w → LE h0 h (fun q => q = 422 ∨ q = 423) → (∀ j, j < w → gL h 423 j = src j) → (∀ q, gL h 422 q = if 100 * s + d ≤ q ∧ q < 100 * s + d + i then src (q - (100 * s + d)) else gL h0 422 q) → WP L xs 142 215 [some (.ref 397), z1, some (.int (nI s)), z3, some (.int (nI d)), some (.int (nI w)), some (.int (nI i))] [] h (fun r h' => r = some (.int 1) ∧ LE h0 h' (fun q => q = 422 ∨ q = 423) ∧ ∀ q, gL h' 422 q = if 100 * s + d ≤ q ∧ q < 100 * s + d + w then src (q - (100 * s + d)) else gL h0 422 q)
  | 0, i, h, hi, e, z, y => by
    obtain rfl : i = w := by omega
    exact v142_215 (HW_of hw0 e.1 e.2.2.1) ⟨fun _ => ⟨rfl, e, y⟩, fun q => absurd (nI_le (Nat.le_refl _) (by omega)) q⟩
  | m + 1, i, h, hi, e, z, y => by
    have e1 : 100 * nI s + nI d + nI i = nI (100 * s + d + i) := by
      show nI 100 * nI s + nI d + nI i = _
      rw [pk_mul, nI_add, nI_add]
    refine v142_215 (HW_of hw0 e.1 e.2.2.1) ⟨fun q => absurd q (nI_ge (show i < w by omega) (by omega)), fun _ => ⟨i, rfl, by omega, _, e1, by omega, ?_⟩⟩
    rw [nI_1]
    refine c142b h0 hw0 hs hd m (i + 1) _ (by omega) ⟨e.1, e.2.1, e.2.2.1, fun q hq => (gLo (by omega)).trans (e.2.2.2 q hq)⟩ (fun j hj => by rw [gLo (by decide)]; exact z j hj) (fun q => ?_)
    rw [gLs, y q]
    by_cases w1 : q = 100 * s + d + i
    · rw [if_pos w1, if_pos (by omega), z i (by omega), w1]
      congr 1
      omega
    · rw [if_neg w1]
      by_cases w2 : 100 * s + d ≤ q ∧ q < 100 * s + d + i
      · rw [if_pos w2, if_pos (by omega)]
      · rw [if_neg w2, if_neg (by omega)]
theorem c142a (h0 : Hp) (hw0 : HW h0) {s1 s2 : Nat} (hs1 : s1 < 8) (hs2 : s2 < 8) {w a d : Nat} (ha : a + w ≤ 100) (hd : d + w ≤ 100) : ∀ (m i : Nat) (h : Hp), i + m = w → LE h0 h (fun q => q = 423) → (∀ j, j < i → gL h 423 j = gL h0 422 (100 * s1 + a + j)) → WP L xs 142 178 [some (.ref 397), some (.int (nI s1)), some (.int (nI s2)), some (.int (nI a)), some (.int (nI d)), some (.int (nI w)), some (.int (nI i))] [] h (fun r h' => r = some (.int 1) ∧ LE h0 h' (fun q => q = 422 ∨ q = 423) ∧ ∀ q, gL h' 422 q = if 100 * s2 + d ≤ q ∧ q < 100 * s2 + d + w then gL h0 422 (100 * s1 + a + (q - (100 * s2 + d))) else gL h0 422 q)
  | 0, i, h, hi, e, z => by
    obtain rfl : i = w := by omega
    refine v142_178 (HW_of hw0 e.1 e.2.2.1) ⟨fun _ => ?_, fun q => absurd (nI_le (Nat.le_refl _) (by omega)) q⟩
    exact c142b (src := fun j => gL h0 422 (100 * s1 + a + j)) h0 hw0 hs2 hd i 0 h (by omega) ⟨e.1, e.2.1, e.2.2.1, fun q hq => e.2.2.2 q (by omega)⟩ z (fun q => by rw [if_neg (by omega), e.2.2.2 422 (by decide)])
  | m + 1, i, h, hi, e, z => by
    have e1 : 100 * nI s1 + nI a + nI i = nI (100 * s1 + a + i) := by
      show nI 100 * nI s1 + nI a + nI i = _
      rw [pk_mul, nI_add, nI_add]
    refine v142_178 (HW_of hw0 e.1 e.2.2.1) ⟨fun q => absurd q (nI_ge (show i < w by omega) (by omega)), fun _ => ⟨_, e1, by omega, i, rfl, by omega, ?_⟩⟩
    rw [nI_1]
    refine c142a h0 hw0 hs1 hs2 ha hd m (i + 1) _ (by omega) ⟨e.1, e.2.1, e.2.2.1, fun q hq => (gLo hq).trans (e.2.2.2 q hq)⟩ (fun j hj => ?_)
    rw [gLs, e.2.2.2 422 (by decide)]
    by_cases q : j = i
    · rw [if_pos q, q]
    · rw [if_neg q]; exact z j (by omega)
theorem op_copy : OPI L xs 90 142 [.ref 0, .int x, .int y, .int z, .int u, .int v] [.ref 397, .int x, .int y, .int z, .int u, .int v] := by
  intro h k r
  have hw := r.1.1
  have r4 := r.2.2.2.1
  have refuse : ∀ {t : Int32} {n : Nat}, RV t n → (∀ h1, Sp L xs 109 [.ref 0, .int t] h (some (.int t)) h1 → Sp L xs 90 [.ref 0, .int x, .int y, .int z, .int u, .int v] h (some (.int t)) h1) → (∀ h1 h2, HW h1 → (∀ a, ¬ a = 1 → gI h1 a = gI h a) → Sp L xs 124 [.ref 397, .int t] h1 (some (.int t)) h2 → Sp L xs 142 [.ref 397, .int x, .int y, .int z, .int u, .int v] h1 (some (.int t)) h2) → ∃ (r : Int32) (h1 h2 : Hp) (k2 : Nat), Sp L xs 90 [.ref 0, .int x, .int y, .int z, .int u, .int v] h (some (.int r)) h1 ∧ HW h1 ∧ Sp L xs 142 [.ref 397, .int x, .int y, .int z, .int u, .int v] h1 (some (.int r)) h2 ∧ Rel h2 k2 := by
    intro t n rv f1 f2
    obtain ⟨h1, h2, s1, w1, s2, rr, e1, -⟩ := op_ref (L := L) (xs := xs) r rv
    exact ⟨t, h1, h2, k, f1 _ s1, w1, f2 _ _ w1 (fun a ha => by rw [e1]; exact hC_o ha) s2, rr⟩
  by_cases hx : x_isShelf x = true
  · by_cases hy : x_isShelf y = true
    · obtain ⟨s1, hs1, rfl⟩ := isShelf_n hx
      obtain ⟨s2, hs2, rfl⟩ := isShelf_n hy
      have hb1 := SB_of hs1
      have hb2 := SB_of hs2
      have t137 : ∀ {h1 : Hp} {s : Nat}, HW h1 → s < 8 → Sp L xs 137 [.ref 397, .int (nI s)] h1 (some (.int (b2i (if gI h1 420 s < 100 then false else true)))) h1 := fun w hs => sp_eq (v137 w ⟨_, rfl, hs, rfl, rfl⟩)
      have two : (gI h (155 + 10 * s1) 2 = 2 ∧ gI h 420 s1 = 0) ∨ ((gI h (155 + 10 * s2) 2 = 2 ∧ gI h 420 s2 = 0) ∧ ¬ gI h (155 + 10 * s1) 2 = 2 ∧ ¬ gI h 420 s1 = 0) ∨ ((¬ gI h (155 + 10 * s1) 2 = 2 ∧ ¬ gI h 420 s1 = 0) ∧ (¬ gI h (155 + 10 * s2) 2 = 2 ∧ ¬ gI h 420 s2 = 0)) := by
        have p : ∀ s, s < 8 → (gI h (155 + 10 * s) 2 = 2 ∧ gI h 420 s = 0) ∨ (¬ gI h (155 + 10 * s) 2 = 2 ∧ ¬ gI h 420 s = 0) := fun s hs => by
          rcases r4 s hs with ⟨q1, q2⟩ | ⟨q1, t, n, ht, hn, q2, q3, -⟩ | ⟨q1, q2, -⟩
          · rw [q1, q2]; exact Or.inr (by decide)
          · rw [q1, q3]; exact Or.inr ⟨by decide, nI_ne0 (by omega) (by omega)⟩
          · exact Or.inl ⟨q1, q2⟩
        rcases p s1 hs1 with a | a
        · exact Or.inl a
        · rcases p s2 hs2 with b | b
          · exact Or.inr (Or.inl ⟨b, a⟩)
          · exact Or.inr (Or.inr ⟨a, b⟩)
      rcases two with ⟨a1, a2⟩ | ⟨⟨a1, a2⟩, a3, a4⟩ | ⟨⟨a1, a2⟩, a3, a4⟩
      · exact refuse rv2 (fun h1 q => sp_eq (v90 hw ⟨fun _ => ⟨fun _ => ⟨s1, rfl, hs1, s2, rfl, hs2, fun _ => ⟨_, _, q, rfl, rfl⟩, fun w => absurd a1 w⟩, fun w => absurd hy w⟩, fun w => absurd hx w⟩)) (fun h1 h2 w1 o q => sp_eq (v142 w1 ⟨fun _ => ⟨fun _ => ⟨s1, rfl, hs1, fun _ => ⟨_, _, q, rfl, rfl⟩, fun w => absurd (by rw [o 420 (by decide)]; exact a2) w⟩, fun w => absurd hy w⟩, fun w => absurd hx w⟩))
      · exact refuse rv2 (fun h1 q => sp_eq (v90 hw ⟨fun _ => ⟨fun _ => ⟨s1, rfl, hs1, s2, rfl, hs2, fun w => absurd w a3, fun _ => ⟨fun _ => ⟨_, _, q, rfl, rfl⟩, fun w => absurd a1 w⟩⟩, fun w => absurd hy w⟩, fun w => absurd hx w⟩)) (fun h1 h2 w1 o q => sp_eq (v142 w1 ⟨fun _ => ⟨fun _ => ⟨s1, rfl, hs1, fun w => absurd (by rw [o 420 (by decide)] at w; exact w) a4, fun _ => ⟨s2, rfl, hs2, fun _ => ⟨_, _, q, rfl, rfl⟩, fun w => absurd (by rw [o 420 (by decide)]; exact a2) w⟩⟩, fun w => absurd hy w⟩, fun w => absurd hx w⟩))
      · rcases r4 s1 hs1 with ⟨q1, q2⟩ | ⟨q1, t, n, ht, hn, q2, q3, q4, q5, q6⟩ | ⟨q1, -⟩
        · exact refuse rv3 (fun h1 q => sp_eq (v90 hw ⟨fun _ => ⟨fun _ => ⟨s1, rfl, hs1, s2, rfl, hs2, fun w => absurd w a1, fun _ => ⟨fun w => absurd w a3, fun _ => ⟨fun w => absurd w (by rw [q1, if_neg (by decide)]; decide), fun _ => ⟨_, _, q, rfl, rfl⟩⟩⟩⟩, fun w => absurd hy w⟩, fun w => absurd hx w⟩)) (fun h1 h2 w1 o q => sp_eq (v142 w1 ⟨fun _ => ⟨fun _ => ⟨s1, rfl, hs1, fun w => absurd (by rw [o 420 (by decide)] at w; exact w) a2, fun _ => ⟨s2, rfl, hs2, fun w => absurd (by rw [o 420 (by decide)] at w; exact w) a4, fun _ => ⟨_, t137 w1 hs1, fun _ => ⟨_, t137 w1 hs1, fun _ => ⟨_, _, q, rfl, rfl⟩, fun w => absurd (by rw [o 420 (by decide), q2]; decide) w⟩, fun w => absurd (by rw [o 420 (by decide), q2]; decide) w⟩⟩⟩, fun w => absurd hy w⟩, fun w => absurd hx w⟩))
        · have b1 : b2i (if gI h 420 s1 < 100 then false else true) = 1 := by rw [q3, if_neg (row_n100 ht)]; rfl
          rcases r4 s2 hs2 with ⟨p1, p2⟩ | ⟨p1, t', n', ht', hn', p2, p3, p4, p5, p6⟩ | ⟨p1, -⟩
          · exact refuse rv3 (fun h1 q => sp_eq (v90 hw ⟨fun _ => ⟨fun _ => ⟨s1, rfl, hs1, s2, rfl, hs2, fun w => absurd w a1, fun _ => ⟨fun w => absurd w a3, fun _ => ⟨fun w => absurd w (by rw [p1, if_pos q1]; decide), fun _ => ⟨_, _, q, rfl, rfl⟩⟩⟩⟩, fun w => absurd hy w⟩, fun w => absurd hx w⟩)) (fun h1 h2 w1 o q => sp_eq (v142 w1 ⟨fun _ => ⟨fun _ => ⟨s1, rfl, hs1, fun w => absurd (by rw [o 420 (by decide)] at w; exact w) a2, fun _ => ⟨s2, rfl, hs2, fun w => absurd (by rw [o 420 (by decide)] at w; exact w) a4, fun _ => ⟨_, t137 w1 hs1, fun w => absurd (by rw [o 420 (by decide), b1] at w; exact w) (by decide), fun _ => ⟨_, t137 w1 hs2, fun _ => ⟨_, t137 w1 hs1, fun w => absurd (by rw [o 420 (by decide), b1] at w; exact w) (by decide), fun _ => ⟨_, t137 w1 hs2, fun _ => ⟨_, _, q, rfl, rfl⟩, fun w => absurd (by rw [o 420 (by decide), p2]; decide) w⟩⟩, fun w => absurd (by rw [o 420 (by decide), p2]; decide) w⟩⟩⟩⟩, fun w => absurd hy w⟩, fun w => absurd hx w⟩))
          · have b2 : b2i (if gI h 420 s2 < 100 then false else true) = 1 := by rw [p3, if_neg (row_n100 ht')]; rfl
            have both : (if gI h (155 + 10 * s1) 2 = 1 then if gI h (155 + 10 * s2) 2 = 1 then true else false else false) = true := by rw [if_pos q1, if_pos p1]
            have C : ∀ {Q : Option Value → Hp → Prop}, _ → ∃ r h', Sp L xs 90 [.ref 0, .int (nI s1), .int (nI s2), .int z, .int u, .int v] h r h' ∧ Q r h' := fun H => v90 hw ⟨fun _ => ⟨fun _ => ⟨s1, rfl, hs1, s2, rfl, hs2, fun w => absurd w a1, fun _ => ⟨fun w => absurd w a3, fun _ => ⟨fun _ => H, fun w => absurd both w⟩⟩⟩, fun w => absurd hy w⟩, fun w => absurd hx w⟩
            have M : ∀ {Q : Option Value → Hp → Prop} {h1 : Hp} (w1 : HW h1) (o : gI h1 420 = gI h 420), _ → ∃ r h', Sp L xs 142 [.ref 397, .int (nI s1), .int (nI s2), .int z, .int u, .int v] h1 r h' ∧ Q r h' := fun {Q h1} w1 o H => v142 w1 ⟨fun _ => ⟨fun _ => ⟨s1, rfl, hs1, fun w => absurd (by rw [o] at w; exact w) a2, fun _ => ⟨s2, rfl, hs2, fun w => absurd (by rw [o] at w; exact w) a4, fun _ => ⟨_, t137 w1 hs1, fun w => absurd (by rw [o, b1] at w; exact w) (by decide), fun _ => ⟨_, t137 w1 hs2, fun w => absurd (by rw [o, b2] at w; exact w) (by decide), fun _ => H⟩⟩⟩⟩, fun w => absurd hy w⟩, fun w => absurd hx w⟩
            by_cases es : nI t = nI t'
            · have ec : gI h (155 + 10 * s1 + 1) 1 = gI h (155 + 10 * s2 + 1) 1 := by rw [q2, p2]; exact es
              have em : gI h 420 s1 = gI h 420 s2 := by rw [q3, p3, nI_inj (by omega) (by omega) es]
              have C2 : ∀ {Q : Option Value → Hp → Prop}, _ → ∃ r h', Sp L xs 90 [.ref 0, .int (nI s1), .int (nI s2), .int z, .int u, .int v] h r h' ∧ Q r h' := fun H => C ⟨fun _ => H, fun w => absurd ec w⟩
              have M2 : ∀ {Q : Option Value → Hp → Prop} {h1 : Hp} (w1 : HW h1) (o : gI h1 420 = gI h 420), _ → ∃ r h', Sp L xs 142 [.ref 397, .int (nI s1), .int (nI s2), .int z, .int u, .int v] h1 r h' ∧ Q r h' := fun {Q h1} w1 o H => M w1 o ⟨fun _ => ⟨_, t137 w1 hs1, fun w => absurd (by rw [o, b1] at w; exact w) (by decide), fun _ => ⟨_, t137 w1 hs2, fun w => absurd (by rw [o, b2] at w; exact w) (by decide), fun _ => H⟩⟩, fun w => absurd (by rw [o]; exact em) w⟩
              by_cases hv : 0 ≤ v
              · obtain ⟨ra, sa, ea⟩ := c78g (L := L) (xs := xs) (z := z) hw hb1 hn q4 hv
                obtain ⟨rb, sb, eb⟩ := c78g (L := L) (xs := xs) (z := u) hw hb2 hn' p4 hv
                have bad : ¬ (okS n z v ∧ okS n' u v) → ∃ (r : Int32) (h1 h2 : Hp) (k2 : Nat), Sp L xs 90 [.ref 0, .int (nI s1), .int (nI s2), .int z, .int u, .int v] h (some (.int r)) h1 ∧ HW h1 ∧ Sp L xs 142 [.ref 397, .int (nI s1), .int (nI s2), .int z, .int u, .int v] h1 (some (.int r)) h2 ∧ Rel h2 k2 := by
                  intro nok
                  refine refuse rv5 (fun h1 q => ?_) (fun h1 h2 w1 o q => ?_)
                  · refine sp_eq (C2 ⟨fun _ => ⟨ra, sa, fun _ => ⟨_, _, q, rfl, rfl⟩, fun wa => ⟨rb, sb, fun _ => ⟨_, _, q, rfl, rfl⟩, fun wb => ?_⟩⟩, fun w => absurd hv w⟩)
                    exact absurd ⟨Classical.byContradiction (fun y => wa (ea.mpr y)), Classical.byContradiction (fun y => wb (eb.mpr y))⟩ nok
                  · have o1 := congrFun (o 421 (by decide)) s1
                    have o2 := congrFun (o 421 (by decide)) s2
                    refine sp_eq (M2 w1 (o 420 (by decide)) ⟨fun _ => ⟨fun _ => ⟨_, _, q, rfl, rfl⟩, fun y1 => ⟨fun _ => ⟨_, _, q, rfl, rfl⟩, fun y2 => ⟨fun _ => ⟨_, _, q, rfl, rfl⟩, fun y3 => ⟨fun _ => ⟨_, _, q, rfl, rfl⟩, fun y4 => ⟨fun _ => ⟨_, _, q, rfl, rfl⟩, fun y5 => ⟨fun y6 => ?_, fun _ => ⟨_, _, q, rfl, rfl⟩⟩⟩⟩⟩⟩⟩, fun w => absurd hv w⟩)
                    rw [o1, q5] at y5
                    rw [o2, p5] at y6
                    exact absurd ⟨okS_mk hn hv y1 (Int32.not_lt.mp y5), okS_mk hn' hv y2 y6⟩ nok
                by_cases ok : okS n z v ∧ okS n' u v
                · obtain ⟨⟨a, w, rfl, rfl, aw⟩, ⟨d, w', rfl, e', dw⟩⟩ := id ok
                  obtain rfl : w = w' := nI_inj (by omega) (by omega) e'
                  have w1 : HW (hCpy h (155 + 10 * s1 + 2) (155 + 10 * s2 + 2) a d w) := HW_hCpy hw
                  have key := c142a (L := L) (xs := xs) _ w1 hs1 hs2 (w := w) (a := a) (d := d) (by omega) (by omega) w 0 _ (by omega) ⟨rfl, rfl, rfl, fun _ _ => rfl⟩ (fun j hj => absurd hj (Nat.not_lt_zero j))
                  have f1 : ¬ nI a < 0 := Int32.not_lt.mpr (nI_le (a := 0) (Nat.zero_le _) (by omega))
                  have f2 : ¬ nI d < 0 := Int32.not_lt.mpr (nI_le (a := 0) (Nat.zero_le _) (by omega))
                  have f3 : ¬ nI n < nI a := Int32.not_lt.mpr (nI_le (by omega) (by omega))
                  have f4 : ¬ nI n' < nI d := Int32.not_lt.mpr (nI_le (by omega) (by omega))
                  have f5 : ¬ nI n - nI a < nI w := by
                    intro q
                    have h3 := Int32.lt_iff_toInt_lt.mp q
                    rw [nI_subN (by omega) (by omega), nI_toInt (by omega)] at h3
                    omega
                  have f6 : nI w ≤ nI n' - nI d := by
                    rw [Int32.le_iff_toInt_le, nI_subN (by omega) (by omega), nI_toInt (by omega)]
                    omega
                  have k1 : gI (hCpy h (155 + 10 * s1 + 2) (155 + 10 * s2 + 2) a d w) 421 s1 = nI n := q5
                  have k2 : gI (hCpy h (155 + 10 * s1 + 2) (155 + 10 * s2 + 2) a d w) 421 s2 = nI n' := p5
                  obtain ⟨rm, h3, s3, rfl, l3, z3⟩ := M2 w1 rfl ⟨fun _ => ⟨fun q => absurd q f1, fun _ => ⟨fun q => absurd q f2, fun _ => ⟨fun q => absurd (k1 ▸ q) f3, fun _ => ⟨fun q => absurd (k2 ▸ q) f4, fun _ => ⟨fun q => absurd (k1 ▸ q) f5, fun _ => ⟨fun _ => key, fun q => absurd (k2.symm ▸ f6) q⟩⟩⟩⟩⟩⟩, fun w => absurd hv w⟩
                  refine ⟨1, _, h3, k, sp_eq (C2 ⟨fun _ => ⟨ra, sa, fun q => absurd ok.1 (ea.mp q), fun _ => ⟨rb, sb, fun q => absurd ok.2 (eb.mp q), fun _ => ⟨a, rfl, d, rfl, w, rfl, by omega, by omega, rfl, rfl⟩⟩⟩, fun w => absurd hv w⟩), w1, s3, ?_⟩
                  have cg : ∀ q, ¬ q = 155 + 10 * s2 + 2 → gL (hCpy h (155 + 10 * s1 + 2) (155 + 10 * s2 + 2) a d w) q = gL h q := fun q hq => by
                    funext b
                    show u1 _ _ _ q b = _
                    unfold u1
                    rw [if_neg hq]
                    rfl
                  have lo : ∀ q, ¬ q = 155 + 10 * s2 + 2 → ¬ q = 422 → ¬ q = 423 → gL h3 q = gL h q := fun q y1 y2 y3 => (l3.2.2.2 q (by omega)).trans (cg q y1)
                  refine Rel_sh r l3.1 l3.2.2.1 (fun q hq => by rw [l3.2.1]; rfl) (fun q hq => lo q (by omega) (by omega) (by omega)) (fun s' hs' => ?_)
                  have gi : gI h3 = gI h := l3.2.1
                  by_cases e : s' = s2
                  · subst e
                    unfold RSh
                    rw [gi]
                    refine Or.inr (Or.inl ⟨p1, t', n', ht', hn', p2, p3, p4, p5, fun i hi => ?_⟩)
                    rw [l3.2.2.2 _ (by omega), gL_cpy, z3, cg 422 (by omega)]
                    show (if d ≤ i ∧ i < d + w then gL h (155 + 10 * s1 + 2) (a + (i - d)) else gL h (155 + 10 * s' + 2) i) = _
                    by_cases y1 : d ≤ i ∧ i < d + w
                    · rw [if_pos y1, if_pos (by omega), q6 _ (by omega)]
                      congr 1
                      omega
                    · rw [if_neg y1, if_neg (by omega)]
                      exact p6 i hi
                  · refine RSh_at (h := h) (fun j hj => by rw [gi]) (lo _ (by omega) (by omega) (by omega)) (by rw [gi]) (by rw [gi]) (by rw [gi]) (by rw [gi]) (fun j hj => by rw [gi]) (fun i hi => ?_) (r4 s' hs')
                    rw [z3, if_neg (by omega), cg 422 (by omega)]
                · exact bad ok
              · exact refuse rv4 (fun h1 q => sp_eq (C2 ⟨fun w => absurd w hv, fun _ => ⟨_, _, q, rfl, rfl⟩⟩)) (fun h1 h2 w1 o q => sp_eq (M2 w1 (o 420 (by decide)) ⟨fun w => absurd w hv, fun _ => ⟨_, _, q, rfl, rfl⟩⟩))
            · have ec : ¬ gI h (155 + 10 * s1 + 1) 1 = gI h (155 + 10 * s2 + 1) 1 := by rw [q2, p2]; exact es
              have em : ¬ gI h 420 s1 = gI h 420 s2 := by
                rw [q3, p3]
                intro q
                have := nI_inj (by omega) (by omega) q
                exact es (by rw [show t = t' by omega])
              exact refuse rv2 (fun h1 q => sp_eq (C ⟨fun w => absurd w ec, fun _ => ⟨_, _, q, rfl, rfl⟩⟩)) (fun h1 h2 w1 o q => sp_eq (M w1 (o 420 (by decide)) ⟨fun w => absurd (by rw [o 420 (by decide)] at w; exact w) em, fun _ => ⟨_, _, q, rfl, rfl⟩⟩))
          · exact absurd p1 a3
        · exact absurd q1 a1
    · exact refuse rv1 (fun h1 q => sp_eq (v90 hw ⟨fun _ => ⟨fun w => absurd w hy, fun _ => ⟨_, _, q, rfl, rfl⟩⟩, fun w => absurd hx w⟩)) (fun h1 h2 w1 o q => sp_eq (v142 w1 ⟨fun _ => ⟨fun w => absurd w hy, fun _ => ⟨_, _, q, rfl, rfl⟩⟩, fun w => absurd hx w⟩))
  · exact refuse rv1 (fun h1 q => sp_eq (v90 hw ⟨fun w => absurd w hx, fun _ => ⟨_, _, q, rfl, rfl⟩⟩)) (fun h1 h2 w1 o q => sp_eq (v142 w1 ⟨fun w => absurd w hx, fun _ => ⟨_, _, q, rfl, rfl⟩⟩))
end CY
