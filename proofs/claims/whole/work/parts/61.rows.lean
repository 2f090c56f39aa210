/-! Shelves: what they rest on; row, set, element, clear; status. -/
theorem pcN_at {h h' : Hp} {s : Nat} : ∀ n, (∀ k, k < n → pcK h' s k = pcK h s k) → pcN h' s n = pcN h s n
  | 0, _ => rfl
  | n + 1, e => by
    unfold pcN
    rw [e n (Nat.lt_succ_self n), pcN_at n (fun k hk => e k (by omega))]
theorem RSh_at {h h' : Hp} {k s : Nat} (e : ∀ j, j < 10 → gI h' (155 + 10 * s + j) = gI h (155 + 10 * s + j)) (eL : gL h' (155 + 10 * s + 2) = gL h (155 + 10 * s + 2)) (e420 : gI h' 420 s = gI h 420 s) (e421 : gI h' 421 s = gI h 421 s) (e424 : gI h' 424 s = gI h 424 s) (e425 : gI h' 425 s = gI h 425 s) (e426 : ∀ j, j < 576 → gI h' 426 (576 * s + j) = gI h 426 (576 * s + j)) (e422 : ∀ i, i < 100 → gL h' 422 (100 * s + i) = gL h 422 (100 * s + i)) (r : RSh h k s) : RSh h' k s := by
  have b0 : gI h' (155 + 10 * s) = gI h (155 + 10 * s) := e 0 (by decide)
  have pk : ∀ j, j < 144 → pcK h' s j = pcK h s j := fun j hj => e426 (4 * j) (by omega)
  have p4 : ∀ j i, j < 144 → i < 4 → gI h' 426 (576 * s + 4 * j + i) = gI h 426 (576 * s + 4 * j + i) := fun j i hj hi => by
    have := e426 (4 * j + i) (by omega)
    rw [← Nat.add_assoc] at this
    exact this
  unfold RSh at *
  rw [b0, e 1 (by decide), eL, e420, e421, e424, e425]
  rcases r with q | ⟨q1, t, n, q2, q3, q4, q5, q6, q7, q8⟩ | ⟨q1, q2, ⟨w, g, w1, w2, g1, g2, a1, a2, a3, a4, a5, a6⟩, q4⟩
  · exact Or.inl q
  · exact Or.inr (Or.inl ⟨q1, t, n, q2, q3, q4, q5, q6, q7, fun i hi => by rw [e422 i hi]; exact q8 i hi⟩)
  · refine Or.inr (Or.inr ⟨q1, q2, ⟨w, g, w1, w2, g1, g2, ?_, ?_, ?_, ?_, ?_, fun j hj hz => ?_⟩, fun j hj hz hb => ?_⟩)
    · rw [e 3 (by decide)]; exact a1
    · rw [e424]; exact a2
    · rw [e 3 (by decide)]; exact a3
    · rw [e425]; exact a4
    · have : w * g ≤ 12 * 12 := Nat.mul_le_mul (by omega) (by omega)
      rw [e 3 (by decide), pcN_at _ (fun j hj => pk j (by omega))]; exact a5
    · have wg : w * g ≤ 12 * 12 := Nat.mul_le_mul (by omega) (by omega)
      rw [pk j (by omega)] at hz ⊢
      rw [pcN_at _ (fun i hi => pk i (by omega)), e 4 (by decide), e 5 (by decide), e 6 (by decide), e 7 (by decide), e 8 (by decide), e 9 (by decide), p4 j 1 (by omega) (by decide), p4 j 2 (by omega) (by decide), p4 j 3 (by omega) (by decide)]
      exact a6 j hj hz
    · rw [pk j hj] at hz ⊢
      rw [p4 j 1 hj (by decide), p4 j 2 hj (by decide), p4 j 3 hj (by decide)]
      exact q4 j hj hz hb
theorem Rel_sh {h h' : Hp} {k : Nat} (r : Rel h k) (n : h'.1 = h.1) (g : gR h' = gR h) (e : ∀ a, ¬ inS a → gI h' a = gI h a) (eL : ∀ a, a = 393 ∨ a = 395 ∨ a = 437 ∨ a = 438 → gL h' a = gL h a) (rs : RLs h' k) : Rel h' k := by
  obtain ⟨r1, r2, r3, r4, r5, r6⟩ := r
  have e97 : gI h' 397 = gI h 397 := e 397 (by unfold inS; omega)
  refine ⟨RLb_of (h := h) (HW_of r1.1 n g) n (fun a ha => e a (by unfold inS; omega)) (by rw [e97]) (fun q => by rw [g]) r1, RLf_of (h := h) n ?_ (fun a ha => e a (by unfold inF at ha; unfold inS; omega)) (by rw [e97]) (fun _ _ => by rw [g]) r2, RLr_of (h := h) (fun a ha => e a (by unfold inS; omega)) r3, rs, RLt_of (h := h) (fun a ha => e a (by unfold inS; omega)) (by rw [e97]) r5, RLp_of (h := h) (e 394 (by unfold inS; omega)) (e 441 (by unfold inS; omega)) eL r6⟩
  funext q
  exact e (444 + q) (by unfold inS; omega)
/-- two heaps hold the same but longs in some objects -/
def LE (h h' : Hp) (P : Nat → Prop) : Prop := h'.1 = h.1 ∧ gI h' = gI h ∧ gR h' = gR h ∧ ∀ a, ¬ P a → gL h' a = gL h a
theorem gLs (h : Hp) (i k : Nat) (v : Int64) (b : Nat) : gL (sL h i k v) i b = if b = k then v else gL h i b := by
  rw [gL_sL]; simp
theorem gLo {h : Hp} {i k : Nat} {v : Int64} {a : Nat} (n : ¬ a = i) : gL (sL h i k v) a = gL h a := by
  funext b
  rw [gL_sL, if_neg (fun q => n q.1)]
section RW
variable {L : Nat} {xs : Nat → Int32} {h : Hp} {k c s a n : Nat} {x y z : Int32} {v : Int64}
theorem c198l (h0 : Hp) (hw0 : HW h0) (ha : a < 444) (hsa : SH a = (21, n)) (hna : n < 100000) : ∀ (m i : Nat) (h : Hp), i + m = n → LE h0 h (fun q => q = a) → (∀ j, j < i → gL h a j = v) → WP L xs 198 6 [some (.ref a), some (.long v), none, some (.int (nI i)), some (.int (nI n))] [] h (fun r h' => r = none ∧ LE h0 h' (fun q => q = a) ∧ ∀ j, j < n → gL h' a j = v)
  | 0, i, h, hi, e, z => by
    obtain rfl : i = n := by omega
    exact v198_6 (HW_of hw0 e.1 e.2.2.1) ha hsa hna ⟨fun _ => ⟨rfl, e, z⟩, fun q => absurd (nI_le (Nat.le_refl _) (by omega)) q⟩
  | m + 1, i, h, hi, e, z => by
    refine v198_6 (HW_of hw0 e.1 e.2.2.1) ha hsa hna ⟨fun q => absurd q (nI_ge (show i < n by omega) (by omega)), fun _ => ⟨i, rfl, by omega, ?_⟩⟩
    rw [nI_1]
    refine c198l h0 hw0 ha hsa hna m (i + 1) _ (by omega) ⟨e.1, e.2.1, e.2.2.1, fun q hq => (gLo hq).trans (e.2.2.2 q hq)⟩ (fun j hj => ?_)
    rw [gLs]
    by_cases q : j = i
    · rw [if_pos q]
    · rw [if_neg q]; exact z j (by omega)
theorem c198 (hw : HW h) (ha : a < 444) (hsa : SH a = (21, n)) (hna : n < 100000) : ∃ h', Sp L xs 198 [.ref a, .long v] h none h' ∧ LE h h' (fun q => q = a) ∧ ∀ j, j < n → gL h' a j = v := by
  obtain ⟨r, h', s, rfl, e⟩ := v198 (L := L) (xs := xs) hw ha hsa hna (c198l (L := L) (xs := xs) (v := v) h hw ha hsa hna n 0 h (by omega) ⟨rfl, rfl, rfl, fun _ _ => rfl⟩ (fun j hj => absurd hj (Nat.not_lt_zero j)))
  exact ⟨h', s, e⟩
theorem c139l (h0 : Hp) (hw0 : HW h0) (hs : s < 8) {z2 z3 : Option Value} (hz3 : x_wide (some z3) = false) : ∀ (m i : Nat) (h : Hp), i + m = 100 → LE h0 h (fun q => q = 422) → (∀ q, gL h 422 q = if 100 * s ≤ q ∧ q < 100 * s + i then 0 else gL h0 422 q) → WP L xs 139 73 [some (.ref 397), some (.int (nI s)), z2, z3, some (.int (nI i))] [] h (fun r h' => r = some (.int 1) ∧ LE h0 h' (fun q => q = 422) ∧ ∀ q, gL h' 422 q = if 100 * s ≤ q ∧ q < 100 * s + 100 then 0 else gL h0 422 q)
  | 0, i, h, hi, e, z => by
    obtain rfl : i = 100 := by omega
    exact v139_73 (HW_of hw0 e.1 e.2.2.1) hz3 ⟨fun _ => ⟨rfl, e, z⟩, fun q => absurd (nI_le (Nat.le_refl 100) (by decide)) q⟩
  | m + 1, i, h, hi, e, z => by
    have e1 : 100 * nI s + nI i = nI (100 * s + i) := by
      show nI 100 * nI s + nI i = _
      rw [pk_mul, nI_add]
    refine v139_73 (HW_of hw0 e.1 e.2.2.1) hz3 ⟨fun q => absurd q (nI_ge (show i < 100 by omega) (by decide)), fun _ => ⟨100 * s + i, e1, by omega, ?_⟩⟩
    rw [nI_1]
    refine c139l h0 hw0 hs hz3 m (i + 1) _ (by omega) ⟨e.1, e.2.1, e.2.2.1, fun q hq => (gLo hq).trans (e.2.2.2 q hq)⟩ (fun q => ?_)
    rw [gLs, z q]
    by_cases w : q = 100 * s + i
    · rw [if_pos w, if_pos (by omega)]
    · rw [if_neg w]
      by_cases w2 : 100 * s ≤ q ∧ q < 100 * s + i
      · rw [if_pos w2, if_pos (by omega)]
      · rw [if_neg w2, if_neg (by omega)]
theorem SH_lg (hs : s < 8) : SH (155 + 10 * s + 2) = (21, 100) := by
  rcases (show s = 0 ∨ s = 1 ∨ s = 2 ∨ s = 3 ∨ s = 4 ∨ s = 5 ∨ s = 6 ∨ s = 7 by omega) with rfl | rfl | rfl | rfl | rfl | rfl | rfl | rfl <;> decide
theorem op_row : OPI L xs 88 139 [.ref 0, .int x, .int y, .int z] [.ref 397, .int x, .int y, .int z] := by
  intro h k r
  have hw := r.1.1
  have refuse : ∀ {v : Int32} {n : Nat}, RV v n → (∀ h1, Sp L xs 109 [.ref 0, .int v] h (some (.int v)) h1 → Sp L xs 88 [.ref 0, .int x, .int y, .int z] h (some (.int v)) h1) → (∀ h1 h2, HW h1 → Sp L xs 124 [.ref 397, .int v] h1 (some (.int v)) h2 → Sp L xs 139 [.ref 397, .int x, .int y, .int z] h1 (some (.int v)) h2) → ∃ (r : Int32) (h1 h2 : Hp) (k2 : Nat), Sp L xs 88 [.ref 0, .int x, .int y, .int z] h (some (.int r)) h1 ∧ HW h1 ∧ Sp L xs 139 [.ref 397, .int x, .int y, .int z] h1 (some (.int r)) h2 ∧ Rel h2 k2 := by
    intro v n rv f1 f2
    obtain ⟨h1, h2, s1, w1, s2, rr, -⟩ := op_ref (L := L) (xs := xs) r rv
    exact ⟨v, h1, h2, k, f1 _ s1, w1, f2 _ _ w1 s2, rr⟩
  by_cases hx : x_isShelf x = true
  · by_cases h0 : 0 ≤ z
    · by_cases hy : x_in3 y 0 3 = true
      · by_cases h1 : z ≤ 100
        · obtain ⟨s, hs, rfl⟩ := isShelf_n hx
          obtain ⟨t, -, ht, rfl⟩ := in3_n (a := 0) (b := 3) (by decide) (by decide) hy
          obtain ⟨n, -, hn, rfl⟩ := in3_n (x := z) (a := 0) (b := 100) (by decide) (by decide) (x_in3_iff.mpr ⟨h0, h1⟩)
          have hb := SB_of hs
          obtain ⟨h2, s2, l2, z2⟩ := c198 (L := L) (xs := xs) (h := sI (sI (sI h (155 + 10 * s) 2 1) (155 + 10 * s + 1) 1 (nI t)) (155 + 10 * s + 1) 2 (nI n)) (a := 155 + 10 * s + 2) (v := 0) (HW_sI (HW_sI (HW_sI hw))) (by omega) (SH_lg hs) (by decide)
          have w2 : HW h2 := HW_of (HW_sI (HW_sI (HW_sI hw))) l2.1 l2.2.2.1
          have w3 : HW (sI (sI h2 420 s (100 + nI t)) 421 s (nI n)) := HW_sI (HW_sI w2)
          have key := c139l (L := L) (xs := xs) (z2 := some (.int (nI t))) (z3 := some (.int (nI n))) (sI (sI h2 420 s (100 + nI t)) 421 s (nI n)) w3 hs rfl 100 0 _ (by omega) ⟨rfl, rfl, rfl, fun _ _ => rfl⟩ (fun q => by rw [if_neg (by omega)])
          obtain ⟨rm, h3, s3, rfl, l3, z3⟩ := v139 (L := L) (xs := xs) (x := nI s) (y := nI t) (z := nI n) w2 ⟨fun _ => ⟨fun _ => ⟨fun _ => ⟨fun _ => ⟨s, rfl, hs, key⟩, fun q => absurd h1 q⟩, fun q => absurd hy q⟩, fun q => absurd h0 q⟩, fun q => absurd hx q⟩
          refine ⟨1, h2, h3, k, sp_eq (v88 hw ⟨fun _ => ⟨fun _ => ⟨fun _ => ⟨fun _ => ⟨s, rfl, hs, h2, sp_eq (v82 hw hb ⟨h2, sp_eq (v77 (HW_sI hw) hb ⟨h2, s2, rfl, rfl⟩), rfl, rfl⟩), rfl, rfl⟩, fun q => absurd h1 q⟩, fun q => absurd hy q⟩, fun q => absurd h0 q⟩, fun q => absurd hx q⟩), w2, s3, ?_⟩
          have i3 : gI h3 = gI (sI (sI h2 420 s (100 + nI t)) 421 s (nI n)) := l3.2.1
          have i2 : gI h2 = gI (sI (sI (sI h (155 + 10 * s) 2 1) (155 + 10 * s + 1) 1 (nI t)) (155 + 10 * s + 1) 2 (nI n)) := l2.2.1
          have o : ∀ a, ¬ a = 155 + 10 * s → ¬ a = 155 + 10 * s + 1 → ¬ a = 420 → ¬ a = 421 → gI h3 a = gI h a := fun a q1 q2 q3 q4 => by
            rw [i3, gIo q4, gIo q3, i2, gIo q2, gIo q2, gIo q1]
          have ol : ∀ a, ¬ a = 155 + 10 * s + 2 → ¬ a = 422 → gL h3 a = gL h a := fun a q1 q2 => (l3.2.2.2 a q2).trans (l2.2.2.2 a q1)
          refine Rel_sh r (l3.1.trans l2.1) (l3.2.2.1.trans l2.2.2.1) (fun a ha => o a (by unfold inS at ha; omega) (by unfold inS at ha; omega) (by unfold inS at ha; omega) (by unfold inS at ha; omega)) (fun a ha => ol a (by omega) (by omega)) (fun s' hs' => ?_)
          by_cases e : s' = s
          · subst e
            have l422 : ∀ i, i < 100 → gL h3 422 (100 * s' + i) = 0 := fun i hi => by rw [z3, if_pos (by omega)]
            refine Or.inr (Or.inl ⟨?_, t, n, by omega, by omega, ?_, ?_, ?_, ?_, fun i hi => ?_⟩)
            · rw [i3, gIo (by omega), gIo (by omega), i2, gIo (by omega), gIo (by omega), gIs, up_s]
            · rw [i3, gIo (by omega), gIo (by omega), i2, gIs, up_o (by decide), gIs, up_s]
            · rw [i3, gIo (by decide), gIs, up_s, show 100 + nI t = nI (100 + t) from nI_add 100 t]
            · rw [i3, gIo (by omega), gIo (by omega), i2, gIs, up_s]
            · rw [i3, gIs, up_s]
            · rw [l422 i hi, l3.2.2.2 _ (by omega)]
              exact z2 i hi
          · refine RSh_at (h := h) (fun j hj => o _ (by omega) (by omega) (by omega) (by omega)) (ol _ (by omega) (by omega)) ?_ ?_ (by rw [o 424 (by omega) (by omega) (by omega) (by omega)]) (by rw [o 425 (by omega) (by omega) (by omega) (by omega)]) (fun j hj => by rw [o 426 (by omega) (by omega) (by omega) (by omega)]) (fun i hi => ?_) (r.2.2.2.1 s' hs')
            · rw [i3, gIo (by decide), gIs, up_o e, i2, gIo (by omega), gIo (by omega), gIo (by omega)]
            · rw [i3, gIs, up_o e, gIo (by decide), i2, gIo (by omega), gIo (by omega), gIo (by omega)]
            · rw [z3, if_neg (by omega)]
              show gL h2 422 _ = _
              rw [l2.2.2.2 422 (by omega)]
              rfl
        · exact refuse rv7 (fun h1 q => sp_eq (v88 hw ⟨fun _ => ⟨fun _ => ⟨fun _ => ⟨fun w => absurd w (by assumption), fun _ => ⟨_, _, q, rfl, rfl⟩⟩, fun w => absurd hy w⟩, fun w => absurd h0 w⟩, fun w => absurd hx w⟩)) (fun h1 h2 w1 q => sp_eq (v139 w1 ⟨fun _ => ⟨fun _ => ⟨fun _ => ⟨fun w => absurd w (by assumption), fun _ => ⟨_, _, q, rfl, rfl⟩⟩, fun w => absurd hy w⟩, fun w => absurd h0 w⟩, fun w => absurd hx w⟩))
      · exact refuse rv6 (fun h1 q => sp_eq (v88 hw ⟨fun _ => ⟨fun _ => ⟨fun w => absurd w hy, fun _ => ⟨_, _, q, rfl, rfl⟩⟩, fun w => absurd h0 w⟩, fun w => absurd hx w⟩)) (fun h1 h2 w1 q => sp_eq (v139 w1 ⟨fun _ => ⟨fun _ => ⟨fun w => absurd w hy, fun _ => ⟨_, _, q, rfl, rfl⟩⟩, fun w => absurd h0 w⟩, fun w => absurd hx w⟩))
    · exact refuse rv4 (fun h1 q => sp_eq (v88 hw ⟨fun _ => ⟨fun w => absurd w h0, fun _ => ⟨_, _, q, rfl, rfl⟩⟩, fun w => absurd hx w⟩)) (fun h1 h2 w1 q => sp_eq (v139 w1 ⟨fun _ => ⟨fun w => absurd w h0, fun _ => ⟨_, _, q, rfl, rfl⟩⟩, fun w => absurd hx w⟩))
  · exact refuse rv1 (fun h1 q => sp_eq (v88 hw ⟨fun w => absurd w hx, fun _ => ⟨_, _, q, rfl, rfl⟩⟩)) (fun h1 h2 w1 q => sp_eq (v139 w1 ⟨fun w => absurd w hx, fun _ => ⟨_, _, q, rfl, rfl⟩⟩))
theorem op_clear : OPI L xs 92 144 [.ref 0, .int x] [.ref 397, .int x] := by
  intro h k r
  have hw := r.1.1
  by_cases hx : x_isShelf x = true
  · obtain ⟨s, hs, rfl⟩ := isShelf_n hx
    have st : (if gI h (155 + 10 * s) 2 = 0 then false else true) = (if gI h 420 s = -1 then false else true) := by
      rcases r.2.2.2.1 s hs with ⟨q1, q2⟩ | ⟨q1, t, n, ht, hn, q2, q3, -⟩ | ⟨q1, q2, -⟩
      · rw [q1, q2]; rfl
      · rw [q1, q3, if_neg (by decide), if_neg (nI_m1 (by omega))]
      · rw [q1, q2]; rfl
    refine ⟨b2i (if gI h 420 s = -1 then false else true), _, _, k, sp_eq (v92 hw ⟨fun _ => ⟨s, rfl, hs, by rw [st], rfl⟩, fun q => absurd hx q⟩), HW_sI hw, sp_eq (v144 (HW_sI hw) ⟨fun _ => ⟨s, rfl, hs, by rw [gIo (by omega)], rfl⟩, fun q => absurd hx q⟩), ?_⟩
    refine Rel_sh r rfl rfl (fun a ha => ?_) (fun a ha => rfl) (fun s' hs' => ?_)
    · unfold inS at ha
      rw [gIo (by omega), gIo (by omega)]
    · have o : ∀ a, ¬ a = 155 + 10 * s → ¬ a = 420 → gI (sI (sI h (155 + 10 * s) 2 0) 420 s (-1)) a = gI h a := fun a q1 q2 => by rw [gIo q2, gIo q1]
      by_cases e : s' = s
      · subst e
        refine Or.inl ⟨?_, ?_⟩
        · rw [gIo (by omega), gIs, up_s]
        · rw [gIs, up_s]
      · refine RSh_at (h := h) (fun j hj => o _ (by omega) (by omega)) rfl ?_ (by rw [o 421 (by omega) (by omega)]) (by rw [o 424 (by omega) (by omega)]) (by rw [o 425 (by omega) (by omega)]) (fun j hj => by rw [o 426 (by omega) (by omega)]) (fun i hi => rfl) (r.2.2.2.1 s' hs')
        rw [gIs, up_o e, gIo (by omega)]
  · obtain ⟨h1, h2, s1, w1, s2, rr, -⟩ := op_ref (L := L) (xs := xs) r rv1
    exact ⟨-1, h1, h2, k, sp_eq (v92 hw ⟨fun q => absurd q hx, fun _ => ⟨_, _, s1, rfl, rfl⟩⟩), w1, sp_eq (v144 w1 ⟨fun q => absurd q hx, fun _ => ⟨_, _, s2, rfl, rfl⟩⟩), rr⟩
/-- an index in a row -/
theorem c78 {b : Nat} (hw : HW h) (hb : SB b) : Sp L xs 78 [.ref (b + 1), .int x, .int 1] h (some (.int (b2i (x_in3 x 0 (gI h (b + 1) 2 - 1))))) h := by
  refine sp_eq (v78 hw hb ⟨?_, rfl⟩)
  have : (if x < 0 then false else if gI h (b + 1) 2 - 1 < x then false else true) = x_in3 x 0 (gI h (b + 1) 2 - 1) := by
    by_cases h1 : x < 0
    · rw [if_pos h1]
      exact ((Bool.not_eq_true _).mp (fun w => absurd (x_in3_iff.mp w).1 (Int32.not_le.mpr h1))).symm
    · rw [if_neg h1]
      by_cases h2 : gI h (b + 1) 2 - 1 < x
      · rw [if_pos h2]
        exact ((Bool.not_eq_true _).mp (fun w => absurd (x_in3_iff.mp w).2 (Int32.not_le.mpr h2))).symm
      · rw [if_neg h2]
        exact (x_in3_iff.mpr ⟨Int32.not_lt.mp h1, Int32.not_lt.mp h2⟩).symm
  rw [this]
theorem in3_sz {n : Nat} (hn : n < 101) (q : x_in3 x 0 (nI n - 1) = true) : ∃ i, i < n ∧ x = nI i := (nI_range (by omega)).mp q
theorem op_element : OPT L xs 91 143 [.ref 0, .int x, .int y] [.ref 397, .int x, .int y] := by
  intro h k r
  have hw := r.1.1
  by_cases hx : x_isShelf x = true
  · obtain ⟨s, hs, rfl⟩ := isShelf_n hx
    have hb := SB_of hs
    have s137 := sp_eq (v137 (L := L) (xs := xs) (x := nI s) hw ⟨s, rfl, hs, rfl, rfl⟩)
    rcases r.2.2.2.1 s hs with ⟨q1, q2⟩ | ⟨q1, t, n, ht, hn, q2, q3, q4, q5, q6⟩ | ⟨q1, q2, -⟩
    · rw [q2] at s137
      exact ⟨0, sp_eq (v91 hw ⟨fun _ => ⟨s, rfl, hs, fun q => absurd (q1.symm.trans q) (by decide), fun _ => ⟨rfl, rfl⟩⟩, fun q => absurd hx q⟩), sp_eq (v143 hw ⟨fun _ => ⟨_, s137, fun _ => ⟨rfl, rfl⟩, fun q => absurd (by decide) q⟩, fun q => absurd hx q⟩)⟩
    · have s78 := c78 (L := L) (xs := xs) (x := y) hw hb
      have n100 : ¬ nI (100 + t) < 100 := by
        intro q
        have := (nI_ltI (show 100 + t < 2147483648 by omega) (show 100 < 2147483648 by decide)).mp q
        omega
      rw [q3, if_neg n100] at s137
      rw [q4] at s78
      by_cases hy : x_in3 y 0 (nI n - 1) = true
      · obtain ⟨i, hi, rfl⟩ := in3_sz hn hy
        rw [hy] at s78
        have e1 : 100 * nI s + nI i = nI (100 * s + i) := by
          show nI 100 * nI s + nI i = _
          rw [pk_mul, nI_add]
        exact ⟨gL h 422 (100 * s + i), sp_eq (v91 hw ⟨fun _ => ⟨s, rfl, hs, fun _ => ⟨_, s78, fun q => absurd q (by decide), fun _ => ⟨i, rfl, by omega, by rw [q6 i (by omega)], rfl⟩⟩, fun q => absurd q1 q⟩, fun q => absurd hx q⟩), sp_eq (v143 hw ⟨fun _ => ⟨_, s137, fun q => absurd q (by decide), fun _ => ⟨s, rfl, hs, fun _ => ⟨_, e1, by omega, rfl, rfl⟩, fun q => absurd (by rw [q5]; exact hy) q⟩⟩, fun q => absurd hx q⟩)⟩
      · rw [(Bool.not_eq_true _).mp hy] at s78
        exact ⟨0, sp_eq (v91 hw ⟨fun _ => ⟨s, rfl, hs, fun _ => ⟨_, s78, fun _ => ⟨rfl, rfl⟩, fun q => absurd (by decide) q⟩, fun q => absurd q1 q⟩, fun q => absurd hx q⟩), sp_eq (v143 hw ⟨fun _ => ⟨_, s137, fun q => absurd q (by decide), fun _ => ⟨s, rfl, hs, fun q => absurd (by rw [q5] at q; exact q) hy, fun _ => ⟨rfl, rfl⟩⟩⟩, fun q => absurd hx q⟩)⟩
    · rw [q2] at s137
      exact ⟨0, sp_eq (v91 hw ⟨fun _ => ⟨s, rfl, hs, fun q => absurd (q1.symm.trans q) (by decide), fun _ => ⟨rfl, rfl⟩⟩, fun q => absurd hx q⟩), sp_eq (v143 hw ⟨fun _ => ⟨_, s137, fun _ => ⟨rfl, rfl⟩, fun q => absurd (by decide) q⟩, fun q => absurd hx q⟩)⟩
  · exact ⟨0, sp_eq (v91 hw ⟨fun q => absurd q hx, fun _ => ⟨rfl, rfl⟩⟩), sp_eq (v143 hw ⟨fun q => absurd q hx, fun _ => ⟨rfl, rfl⟩⟩)⟩
end RW
