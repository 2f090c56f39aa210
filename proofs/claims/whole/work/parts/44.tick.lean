/-! tick. -/
/-- sums over n steps -/
def camS (R T : Nat → Row) : Nat → Int32
  | 0 => 0
  | n + 1 => camS R T n + cam R (prT R (itT R T n)) 144
def snkS (R T : Nat → Row) : Nat → Nat → Int32
  | 0, _ => 0
  | n + 1, i => snkS R T n i + snk R (prT R (itT R T n)) 144 i
def OPI (L : Nat) (xs : Nat → Int32) (kc km : Nat) (Ac Am : List Value) : Prop := ∀ (h : Hp) (k : Nat), Rel h k → ∃ (r : Int32) (h1 h2 : Hp) (k2 : Nat), Sp L xs kc Ac h (some (.int r)) h1 ∧ HW h1 ∧ Sp L xs km Am h1 (some (.int r)) h2 ∧ Rel h2 k2
/-- refusals -/
def hC (h : Hp) (n : Nat) : Hp := sI h 1 n (gI h 1 n + 1)
def hM (h : Hp) (n : Nat) : Hp := sI h 398 n (gI h 398 n + 1)
def RV (v : Int32) (n : Nat) : Prop := -v = nI n ∧ n < 8 ∧ x_in3 v (-7) (-1) = true
theorem rv1 : RV (-1) 1 := by unfold RV; decide
theorem rv2 : RV (-2) 2 := by unfold RV; decide
theorem rv3 : RV (-3) 3 := by unfold RV; decide
theorem rv4 : RV (-4) 4 := by unfold RV; decide
theorem rv5 : RV (-5) 5 := by unfold RV; decide
theorem rv6 : RV (-6) 6 := by unfold RV; decide
theorem rv7 : RV (-7) 7 := by unfold RV; decide
theorem in3_n {x : Int32} {a b : Nat} (ha : a < 2147483648) (hb : b < 2147483648) : x_in3 x (nI a) (nI b) = true → ∃ n, a ≤ n ∧ n ≤ b ∧ x = nI n := by
  intro h
  obtain ⟨h1, h2⟩ := x_in3_iff.mp h
  have n0 : ¬ x < 0 := by
    intro q
    have q1 := Int32.lt_iff_toInt_lt.mp q
    have q2 := Int32.le_iff_toInt_le.mp h1
    rw [nI_toInt (by omega)] at q2
    have : (0 : Int32).toInt = 0 := by decide
    omega
  obtain ⟨j, hj, e⟩ := nI_of n0
  rw [e] at h1 h2
  exact ⟨j, (nI_leI (by omega) hj).mp h1, (nI_leI hj (by omega)).mp h2, e⟩
theorem in3_t {n a b : Nat} (hn : n < 2147483648) (ha : a < 2147483648) (hb : b < 2147483648) : x_in3 (nI n) (nI a) (nI b) = true ↔ a ≤ n ∧ n ≤ b := by
  rw [x_in3_iff, nI_leI (by omega) (by omega), nI_leI (by omega) (by omega)]
theorem isCell_n {x : Int32} (h : x_isCell x = true) : ∃ n, n < 144 ∧ x = nI n := by
  obtain ⟨n, -, h2, e⟩ := in3_n (a := 0) (b := 143) (by decide) (by decide) h
  exact ⟨n, by omega, e⟩
theorem isShelf_n {x : Int32} (h : x_isShelf x = true) : ∃ n, n < 8 ∧ x = nI n := by
  obtain ⟨n, -, h2, e⟩ := in3_n (a := 0) (b := 7) (by decide) (by decide) h
  exact ⟨n, by omega, e⟩
theorem isItem_n {x : Int32} (h : x_isItem x = true) : ∃ n, 1 ≤ n ∧ n < 21 ∧ x = nI n := by
  obtain ⟨n, h1, h2, e⟩ := in3_n (a := 1) (b := 20) (by decide) (by decide) h
  exact ⟨n, h1, by omega, e⟩
section RF
variable {L : Nat} {xs : Nat → Int32} {h : Hp} {v : Int32} {n k : Nat}
theorem rfC (hw : HW h) (r : RV v n) : Sp L xs 109 [.ref 0, .int v] h (some (.int v)) (hC h n) := sp_eq (v109 hw ⟨fun _ => ⟨n, r.1, r.2.1, rfl, rfl⟩, fun q => absurd r.2.2 q⟩)
theorem rfM (hw : HW h) (r : RV v n) : Sp L xs 124 [.ref 397, .int v] h (some (.int v)) (hM h n) := sp_eq (v124 hw ⟨n, r.1, r.2.1, rfl, rfl⟩)
theorem hC_o {a : Nat} (ha : ¬ a = 1) : gI (hC h n) a = gI h a := gIo ha
theorem hM_o {a : Nat} (ha : ¬ a = 398) : gI (hM h n) a = gI h a := gIo ha
theorem Rel_ref (r : Rel h k) : Rel (hM (hC h n) n) k := by
  obtain ⟨r1, r2, r3, r4, r5, r6⟩ := r
  have o : ∀ a, ¬ a = 1 → ¬ a = 398 → gI (hM (hC h n) n) a = gI h a := fun a h1 h2 => (hM_o h2).trans (hC_o h1)
  refine ⟨RLb_of (h := h) (HW_sI (HW_sI r1.1)) rfl (fun a ha => o a (by omega) (by omega)) (by rw [o 397 (by decide) (by decide)]) (fun _ => rfl) r1, RLf_of (h := h) rfl ?_ (fun a ha => o a (by unfold inF at ha; omega) (by unfold inF at ha; omega)) (by rw [o 397 (by decide) (by decide)]) (fun _ _ => rfl) r2, ?_, RLs_of (h := h) (fun a ha => o a (by unfold inS at ha; omega) (by unfold inS at ha; omega)) (fun _ _ => rfl) r4, RLt_of (h := h) (fun a ha => o a (by omega) (by omega)) (by rw [o 397 (by decide) (by decide)]) r5, RLp_of (h := h) (o 394 (by decide) (by decide)) (o 441 (by decide) (by decide)) (fun _ _ => rfl) r6⟩
  · funext r
    show gI (hM (hC h n) n) (444 + r) = gI h (444 + r)
    exact o _ (by omega) (by omega)
  · intro j hj
    have e1 : gI (hM (hC h n) n) 1 = up (gI h 1) n (gI h 1 n + 1) := by rw [hM_o (by decide)]; exact gIs _ _ _ _
    have e2 : gI (hM (hC h n) n) 398 = up (gI h 398) n (gI h 398 n + 1) := by
      show gI (sI (hC h n) 398 n (gI (hC h n) 398 n + 1)) 398 = _
      rw [gIs, hC_o (by decide)]
    rw [e1, e2, up_a, up_a]
    by_cases e : j = n
    · subst e
      rw [if_pos rfl, if_pos rfl, r3 j hj]
    · rw [if_neg e, if_neg e]
      exact r3 j hj
end RF
section TK
variable {L : Nat} {xs : Nat → Int32} {h : Hp} {k : Nat} {R T : Nat → Row}
theorem c97l {N : Nat} (hN : N < 201) (h0 : Hp) (hw0 : HW h0) (hR : RC h0 = R) (hB : GB k R) (hk : k < 9) (hG : ∀ c, c < 144 → GR k R (T c)) : ∀ (m n : Nat) (h : Hp), n + m = N → IE h0 h → SX h0 h (tch 4) → (∀ c, c < 144 → gI h (10 + c) = itT R T n c ∧ LR h (10 + c) ∧ GR k R (itT R T n c)) → (∀ i, i < 21 → gI h 6 i = gI h0 6 i + snkS R T n i) → gI h 4 3 = gI h0 4 3 + nI n → WP L xs 97 44 [some (.ref 0), some (.int (nI N)), some (.int (camS R T n)), some (.int (nI n))] [] h (fun r h' => r = some (.int (camS R T N)) ∧ IE h0 h' ∧ SX h0 h' (tch 4) ∧ (∀ c, c < 144 → gI h' (10 + c) = itT R T N c ∧ LR h' (10 + c) ∧ GR k R (itT R T N c)) ∧ (∀ i, i < 21 → gI h' 6 i = gI h0 6 i + snkS R T N i) ∧ gI h' 4 3 = gI h0 4 3 + nI N)
  | 0, n, h, hn, i0, s0, hr, hs, ht => by
    obtain rfl : n = N := by omega
    exact v97_44 (IE_w i0 hw0) ⟨fun _ => ⟨rfl, i0, s0, hr, hs, ht⟩, fun q => absurd (nI_le (Nat.le_refl _) (by omega)) q⟩
  | m + 1, n, h, hn, i0, s0, hr, hs, ht => by
    have eR : RC h = R := by rw [RC_of s0 (fun a => tch_lt FL_4)]; exact hR
    obtain ⟨h', s1, s2, s3, s4, s5, s6⟩ := c16x (L := L) (xs := xs) FL_4 (IE_w i0 hw0) eR hB hk hr
    refine v97_44 (IE_w i0 hw0) ⟨fun q => absurd q (nI_ge (by omega) (by omega)), fun _ => ⟨_, h', s1, ?_⟩⟩
    rw [nI_1]
    refine c97l hN h0 hw0 hR hB hk hG m (n + 1) h' (by omega) (IE_t i0 s2) (SX_t s0 s3) s4 (fun i hi => ?_) ?_
    · rw [s5 i hi, hs i hi, Int32.add_assoc]
      rfl
    · rw [s6, up_s, ht, Int32.add_assoc, nI_1]
theorem c165l (h0 : Hp) (hw0 : HW h0) : ∀ (m n : Nat) (h : Hp), n + m = 144 → IE h0 h → (∀ a, ¬ (431 ≤ a ∧ a ≤ 433) → gI h a = gI h0 a) → (∀ c, c < n → gI h 431 c = 0 ∧ gI h 432 c = 0 ∧ gI h 433 c = 0) → WP L xs 165 12 [some (.ref 397), some (.int (nI n))] [] h (fun r h' => r = none ∧ IE h0 h' ∧ (∀ a, ¬ (431 ≤ a ∧ a ≤ 433) → gI h' a = gI h0 a) ∧ (∀ c, c < 144 → gI h' 431 c = 0 ∧ gI h' 432 c = 0 ∧ gI h' 433 c = 0))
  | 0, n, h, hn, i0, o, z => by
    obtain rfl : n = 144 := by omega
    exact v165_12 (IE_w i0 hw0) ⟨fun _ => ⟨rfl, i0, o, z⟩, fun q => absurd (nI_le (Nat.le_refl _) (by decide)) q⟩
  | m + 1, n, h, hn, i0, o, z => by
    refine v165_12 (IE_w i0 hw0) ⟨fun q => absurd q (nI_ge (show n < 144 by omega) (by decide)), fun _ => ⟨n, rfl, by omega, ?_⟩⟩
    rw [nI_1]
    refine c165l h0 hw0 m (n + 1) _ (by omega) (IE_s (IE_s (IE_s i0))) (fun a ha => ?_) (fun c hc => ?_)
    · rw [gIo (by omega), gIo (by omega), gIo (by omega)]
      exact o a ha
    · by_cases e : c = n
      · subst e
        simp [gI_sI]
      · have := z c (by omega)
        simp [gI_sI, e, this]
theorem c165 (hw : HW h) : ∃ h', Sp L xs 165 [.ref 397] h none h' ∧ IE h h' ∧ (∀ a, ¬ (431 ≤ a ∧ a ≤ 433) → ¬ a = 397 → gI h' a = gI h a) ∧ (∀ c, c < 144 → gI h' 431 c = 0 ∧ gI h' 432 c = 0 ∧ gI h' 433 c = 0) ∧ gI h' 397 35 = 0 ∧ gI h' 397 36 = 0 ∧ (∀ j, ¬ j = 35 → ¬ j = 36 → gI h' 397 j = gI h 397 j) := by
  obtain ⟨r, h', s1, rfl, s2, s3, s4⟩ := v165 hw (c165l (L := L) (xs := xs) (sI (sI h 397 35 0) 397 36 0) (HW_sI (HW_sI hw)) 144 0 _ rfl (IE_r _) (fun _ _ => rfl) (fun c hc => absurd hc (Nat.not_lt_zero _)))
  refine ⟨h', s1, s2, fun a ha h97 => ?_, s4, ?_, ?_, fun j h5 h6 => ?_⟩
  · rw [s3 a ha, gIo h97, gIo h97]
  · rw [s3 397 (by decide), gIs, up_o (by decide), gIs, up_s]
  · rw [s3 397 (by decide), gIs, up_s]
  · rw [s3 397 (by decide), gIs, up_o h6, gIs, up_o h5]
theorem c166l {R : Nat → Row} {o T : Nat → Row} {N : Nat} (hN : N < 201) (h0 : Hp) (hw0 : HW h0) (hr : RR k R (MRc h0)) (hB : GB k R) (hk : k < 9) {Q : Option Value → Hp → Prop} (K : ∀ h, IE h0 h → SX h0 h mtc → PI k R o (itT R T N) h 0 → (∀ i, i < 21 → gI h 411 i = gI h0 411 i + snkS R T N i) → gI h 397 35 = gI h0 397 35 + camS R T N → (∀ j, ¬ j = 35 → ¬ j = 36 → gI h 397 j = gI h0 397 j) → WP L xs 166 71 [some (.ref 397), some (.int (nI N)), some (.int 0)] [] (sI h 397 14 ((gI h 397 14) + nI N)) Q) : ∀ (m n : Nat) (h : Hp), n + m = N → IE h0 h → SX h0 h mtc → PI k R o (itT R T n) h 0 → (∀ i, i < 21 → gI h 411 i = gI h0 411 i + snkS R T n i) → gI h 397 35 = gI h0 397 35 + camS R T n → (∀ j, ¬ j = 35 → ¬ j = 36 → gI h 397 j = gI h0 397 j) → WP L xs 166 43 [some (.ref 397), some (.int (nI N)), some (.int (nI n))] [] h Q
  | 0, n, h, hn, i0, s0, p, hs, h35, h397 => by
    obtain rfl : n = N := by omega
    exact v166_43 (IE_w i0 hw0) ⟨fun _ => K h i0 s0 p hs h35 h397, fun q => absurd (nI_le (Nat.le_refl _) (by omega)) q⟩
  | m + 1, n, h, hn, i0, s0, p, hs, h35, h397 => by
    have eR : RR k R (MRc h) := by rw [mtc_R s0]; exact hr
    obtain ⟨h', s1, s2, s3, s4, s5, s6, s7, s8, s9⟩ := c162x (L := L) (xs := xs) (b := 0) (by decide) (IE_w i0 hw0) eR hB hk p
    refine v166_43 (IE_w i0 hw0) ⟨fun q => absurd q (nI_ge (by omega) (by omega)), fun _ => ⟨h', s1, ?_⟩⟩
    rw [nI_1]
    refine c166l hN h0 hw0 hr hB hk K m (n + 1) h' (by omega) (IE_t i0 s3) (SX_t s0 s4) s2 (fun i hi => ?_) ?_ (fun j h5 h6 => ?_)
    · rw [s6 i hi, hs i hi, if_pos rfl, Int32.add_assoc]
      rfl
    · rw [s7, h35, Int32.add_assoc]
      rfl
    · rw [s9 j h5 h6, h397 j h5 h6]
theorem c166e (h0 : Hp) (hw0 : HW h0) : ∀ (m n : Nat) (h : Hp) (z : Option Value), x_wide (some z) = false → n + m = 144 → IE h0 h → (∀ a, ¬ a = 409 → ¬ a = 410 → gI h a = gI h0 a) → (∀ c, c < 144 → gI h 409 c = (if c < n then gI h0 409 c + gI h0 431 c else gI h0 409 c) ∧ gI h 410 c = (if c < n then gI h0 410 c + gI h0 432 c else gI h0 410 c)) → WP L xs 166 71 [some (.ref 397), z, some (.int (nI n))] [] h (fun r h' => r = some (.int (gI h0 397 35)) ∧ IE h0 h' ∧ (∀ a, ¬ a = 409 → ¬ a = 410 → gI h' a = gI h0 a) ∧ (∀ c, c < 144 → gI h' 409 c = gI h0 409 c + gI h0 431 c ∧ gI h' 410 c = gI h0 410 c + gI h0 432 c))
  | 0, n, h, z, hz, hn, i0, o, e => by
    obtain rfl : n = 144 := by omega
    refine v166_71 (IE_w i0 hw0) hz ⟨fun _ => ⟨by rw [o 397 (by decide) (by decide)], i0, o, fun c hc => ?_⟩, fun q => absurd (nI_le (Nat.le_refl _) (by decide)) q⟩
    have := e c hc
    rw [if_pos hc, if_pos hc] at this
    exact this
  | m + 1, n, h, z, hz, hn, i0, o, e => by
    have hn4 : n < 144 := by omega
    refine v166_71 (IE_w i0 hw0) hz ⟨fun q => absurd q (nI_ge hn4 (by decide)), fun _ => ⟨n, rfl, by omega, ?_⟩⟩
    rw [nI_1]
    refine c166e h0 hw0 m (n + 1) _ z hz (by omega) (IE_s (IE_s i0)) (fun a h1 h2 => ?_) (fun c hc => ?_)
    · rw [gIo h2, gIo h1]
      exact o a h1 h2
    · have en := e n hn4
      rw [if_neg (Nat.lt_irrefl n), if_neg (Nat.lt_irrefl n)] at en
      rw [o 431 (by decide) (by decide), o 432 (by decide) (by decide), en.1, en.2]
      by_cases q : c = n
      · subst q
        rw [if_pos (Nat.lt_succ_self _), if_pos (Nat.lt_succ_self _)]
        exact ⟨by simp [gI_sI], by simp [gI_sI]⟩
      · have ec := e c hc
        have l : (c < n + 1) = (c < n) := propext (by omega)
        simp only [l]
        rw [← ec.1, ← ec.2]
        exact ⟨by simp [gI_sI, q], by simp [gI_sI, q]⟩
end TK
