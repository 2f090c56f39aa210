/-! The reference's wish. -/
/-- what it tries changes -/
def VW (h0 h : Hp) : Prop := h.1 = h0.1 ∧ gR h = gR h0 ∧ (∀ a, ¬ a = 442 → gI h a = gI h0 a) ∧ (∀ a, ¬ a = 439 → ¬ a = 440 → gL h a = gL h0 a)
/-- and what it keeps -/
def VX (h0 h : Hp) : Prop := h.1 = h0.1 ∧ gR h = gR h0 ∧ (∀ a, ¬ a = 441 → ¬ a = 442 → gI h a = gI h0 a) ∧ (∀ a, ¬ (437 ≤ a ∧ a ≤ 440) → gL h a = gL h0 a)
def FIN (h0 h : Hp) (k : Nat) (tp mc : Nat → Nat) (B : Nat) : Prop := VX h0 h ∧ (∀ j, j < 21 → gL h 437 j = lN (loN (tp j) B) ∧ gL h 438 j = lN (loD (tp j) B)) ∧ ∀ t, t < 8 → gI h 441 t = if t < k then nI (mc t) else 0
section RW2
variable {L : Nat} {xs : Nat → Int32} {h h0 h1 : Hp} {k c s v r o i M B n p q it : Nat} {x l : Int32} {R : Nat → Row} {S dn : Nat → Bool} {tp mc : Nat → Nat}
theorem VW_r (h : Hp) : VW h h := ⟨rfl, rfl, fun _ _ => rfl, fun _ _ _ => rfl⟩
theorem VW_RF (f : RF h0 k R) (w : VW h0 h) : RF h k R := RF_of f (HW_of f.1 w.1 w.2.1) (w.2.2.1 397 (by decide)) (fun a h1 h2 => w.2.2.1 a (by omega))
theorem VW_LW {h' : Hp} (w : VW h0 h) (e : LW h h') : VW h0 h' := ⟨e.1.trans w.1, e.2.2.1.trans w.2.1, fun a ha => by rw [e.2.1]; exact w.2.2.1 a ha, fun a h1 h2 => (e.2.2.2 a h1 h2).trans (w.2.2.2 a h1 h2)⟩
theorem VW_t {h' : Hp} (w : VW h0 h) (e : VW h h') : VW h0 h' := ⟨e.1.trans w.1, e.2.1.trans w.2.1, fun a ha => (e.2.2.1 a ha).trans (w.2.2.1 a ha), fun a h1 h2 => (e.2.2.2 a h1 h2).trans (w.2.2.2 a h1 h2)⟩
theorem VW_sI {t : Nat} {v : Int32} (w : VW h0 h) : VW h0 (sI h 442 t v) := ⟨w.1, w.2.1, fun a ha => by rw [gIo ha]; exact w.2.2.1 a ha, w.2.2.2⟩
theorem VW_sL {i t : Nat} {v : Int64} (hi : i = 439 ∨ i = 440) (w : VW h0 h) : VW h0 (sL h i t v) := ⟨w.1, w.2.1, w.2.2.1, fun a h1 h2 => by rw [gLp (by omega)]; exact w.2.2.2 a h1 h2⟩
theorem VW_VX (w : VW h0 h) : VX h0 h := ⟨w.1, w.2.1, fun a _ h2 => w.2.2.1 a h2, fun a h1 => w.2.2.2 a (by omega) (by omega)⟩
theorem VX_RF (f : RF h0 k R) (w : VX h0 h) : RF h k R := RF_of f (HW_of f.1 w.1 w.2.1) (w.2.2.1 397 (by decide) (by decide)) (fun a h1 h2 => w.2.2.1 a (by omega) (by omega))
theorem VX_sI {t : Nat} {v : Int32} (w : VX h0 h) : VX h0 (sI h 441 t v) := ⟨w.1, w.2.1, fun a h1 h2 => by rw [gIo h1]; exact w.2.2.1 a h1 h2, w.2.2.2⟩
theorem VX_sL {i t : Nat} {v : Int64} (hi : i = 437 ∨ i = 438) (w : VX h0 h) : VX h0 (sL h i t v) := ⟨w.1, w.2.1, w.2.2.1, fun a h1 => by rw [gLp (by omega)]; exact w.2.2.2 a h1⟩
/-- one recipe taken -/
theorem c182p {m d : Int32} (f : RF h k R) (im : IM R k m S) (dm : ∀ r, r < 8 → bt d r = dn r) (so : SOk R k S) (pk : pickP R k S dn r) (lv : LV h tp B) (hB : 0 < B) (hB2 : B < 2 ^ 22) (inv : INV R k dn tp B n) {Q : Option Value → Hp → Prop} {z1 z2 z3 : Option Value} (K : ∀ (h' : Hp) (d' : Int32) (z8 z9 z10 z11 z12 : Option Value), VW h h' → LV h' (tpN R tp r) B → (∀ t, gI h' 442 t = if t = r then nI (mcN R tp B r) else gI h 442 t) → (∀ t, t < 8 → bt d' t = upb dn r t) → WP L xs 182 143 [some (.ref 397), z1, z2, z3, some (.int m), some (.int (nI c)), some (.int d'), some (.int (nI (s + mcN R tp B r))), z8, z9, z10, z11, z12] [] h' Q) (hc : c < 8) (z8 z9 z10 z11 z12 : Option Value) : WP L xs 182 143 [some (.ref 397), z1, z2, z3, some (.int m), some (.int (nI (c + 1))), some (.int d), some (.int (nI s)), z8, z9, z10, z11, z12] [] h Q := by
  have hk := f.2.2.1
  have hr := pk.1
  have gb := f.2.2.2.1
  obtain ⟨all, a1, a2, m1, m4, t1, t2, -, d1, d2, -, c4, d6, c7, -, -, ne, n67, -⟩ := gb r hr
  obtain ⟨g0, gm, gt, g4, g5, g6, g7⟩ := f.2.2.2.2.2 r hr
  obtain ⟨v, s181, ev⟩ := c181 (L := L) (xs := xs) f im dm so
  have e : v = nI r := by
    rcases ev with ⟨r', p', e⟩ | ⟨-, e⟩
    · rw [e, pickP_u p' pk]
    · exact absurd pk.2.1 (e r)
  subst e
  have hd := (lft_t.mp pk.2.1.1).2
  have tl : ∀ i, tp i < 2 ^ 30 := INV_lt gb hk inv
  have t1l := tp1_lt gb hk hr inv
  obtain ⟨e1, e2⟩ := lv (rn (R r) 0) a2
  have u1 := loN_le (tp (rn (R r) 0)) B
  have w1 := loD_le (tp (rn (R r) 0)) B
  have w0 := loD_pos (X := tp (rn (R r) 0)) hB
  have lm := lo_mul (X := tp (rn (R r) 0)) (B := B)
  have tl0 := tl (rn (R r) 0)
  have xm : rnsN R tp r * rn (R r) 1 = tp (rn (R r) 0) := Nat.div_mul_cancel (mk_dvd hr hd inv (rn (R r) 0))
  have mkL : (nI (rn (R r) 1)).toInt64 = lN (rn (R r) 1) := nI_l (by omega)
  have tkL : (nI (rn (R r) 2)).toInt64 = lN (rn (R r) 2) := nI_l (by omega)
  have n5L : (nI (rn (R r) 5)).toInt64 = lN (rn (R r) 5) := nI_l (by omega)
  have n7L : (nI (rn (R r) 7)).toInt64 = lN (rn (R r) 7) := nI_l (by omega)
  generalize eu : loN (tp (rn (R r) 0)) B = u at *
  generalize ew : loD (tp (rn (R r) 0)) B = w at *
  have wm : w * rn (R r) 1 ≤ w * 4 := Nat.mul_le_mul_left _ m4
  have wp : 0 < w * rn (R r) 1 := Nat.mul_pos w0 m1
  have ut : u * rn (R r) 2 ≤ u * 60 := Nat.mul_le_mul_left _ t2
  have cross : ∀ y, (rnsN R tp r * y) * (w * rn (R r) 1) = (u * y) * B := fun y => by
    calc (rnsN R tp r * y) * (w * rn (R r) 1) = (rnsN R tp r * rn (R r) 1) * w * y := by ac_rfl
      _ = (tp (rn (R r) 0) * w) * y := by rw [xm]
      _ = (u * B) * y := by rw [lm]
      _ = (u * y) * B := by ac_rfl
  have mcE : (u * rn (R r) 2 + w * rn (R r) 1 - 1) / (w * rn (R r) 1) = mcN R tp B r := ceil_eq hB wp (cross _)
  have n44 : ¬ gL h 440 (rn (R r) 0) * (gI h 399 r).toInt64 = 0 := by
    rw [e2, gm, mkL, lN_mul]
    intro z
    have := (lN_0 (by omega)).mp z
    omega
  have V : (((((gL h 439 (rn (R r) 0)) * ((gI h 401 r).toInt64)) + ((gL h 440 (rn (R r) 0)) * ((gI h 399 r).toInt64))) - 1) / ((gL h 440 (rn (R r) 0)) * ((gI h 399 r).toInt64))).toInt32 = nI (mcN R tp B r) := by
    rw [e1, e2, gm, gt, mkL, tkL, lN_mul, lN_mul, lN_add, l1, lN_sub (by omega), lN_div (by omega) (by omega), mcE, lN_i]
  have b44 : gL h 440 (rn (R r) 0) * (gI h 399 r).toInt64 = lN (w * rn (R r) 1) := by rw [e2, gm, mkL, lN_mul]
  refine v182_143 f.1 ⟨fun z => absurd z (nI_nle (by omega) (by omega)), fun _ => ⟨_, s181, fun z => absurd z (nI_m1 (by omega)), fun _ => ⟨r, rfl, by omega, _, g0, a2, n44, fun y16 ey => ⟨2 * r, ix4 r, by omega, ?_⟩⟩⟩⟩
  rw [V] at ey ⊢
  rw [gIs, up_s, nI_add] at ey
  rw [b44]
  have lv' : LV (sI h 442 r (nI (mcN R tp B r))) tp B := lv
  have hw' : HW (sI h 442 r (nI (mcN R tp B r))) := HW_sI f.1
  have uc4 : u * rn (R r) 5 ≤ u * 4 := Nat.mul_le_mul_left _ c4
  have uc7 : u * rn (R r) 7 ≤ u * 4 := Nat.mul_le_mul_left _ c7
  obtain ⟨h20, s179, lw, lv20⟩ := c179 (L := L) (xs := xs) (x := rnsN R tp r * rn (R r) 5) (a := u * rn (R r) 5) (b := w * rn (R r) 1) hw' d2 lv' hB hB2 (by have := tl (rn (R r) 4); omega) (cross _) wp (by omega) (by omega)
  have a20 : gL h 439 (rn (R r) 0) * (gI h 403 (2 * r)).toInt64 = lN (u * rn (R r) 5) := by rw [e1, g5, n5L, lN_mul]
  have vw20 : VW h h20 := VW_LW (VW_sI (VW_r h)) lw
  have o20 : ∀ a, ¬ a = 442 → gI h20 a = gI h a := vw20.2.2.1
  have m20 : ∀ t, gI h20 442 t = if t = r then nI (mcN R tp B r) else gI h 442 t := fun t => by rw [lw.2.1, gIs, up_a]
  have db : ∀ t, t < 8 → bt (d ||| (1 <<< ((nI r : Int32) &&& 31))) t = upb dn r t := fun t ht => by
    rw [b_or, b_one (by omega) (by omega), dm t ht]
    unfold upb
    by_cases y : t = r
    · rw [if_pos y, decide_eq_true y, Bool.or_true]
    · rw [if_neg y, decide_eq_false y, Bool.or_false]
  rw [pk_m1, g4, a20]
  refine ⟨h20, s179, 2 * r + 1, ix5 r, by omega, fun z => ?_, fun z => ?_⟩
  · rw [ey]
    refine K h20 _ _ _ _ _ _ vw20 ?_ m20 db
    rw [o20 402 (by decide), g6] at z
    have z0 : rn (R r) 6 = 0 := nI_inj (by omega) (by decide) z
    have eT : tpN R tp r = tp1 R tp r := by
      funext i
      unfold tpN upN
      rw [n67 z0, Nat.mul_zero, Nat.add_zero]
      by_cases y : i = rn (R r) 6
      · rw [if_pos y, y]
      · rw [if_neg y]
    rw [eT]
    exact lv20
  · rw [ey]
    have a29 : gL h 439 (rn (R r) 0) * (gI h20 403 (2 * r + 1)).toInt64 = lN (u * rn (R r) 7) := by rw [o20 403 (by decide), e1, g7, n7L, lN_mul]
    have b29 : gI h20 402 (2 * r + 1) = nI (rn (R r) 6) := by rw [o20 402 (by decide), g6]
    rw [a29, b29]
    obtain ⟨h29, s29, lw2, lv29⟩ := c179 (L := L) (xs := xs) (tp := tp1 R tp r) (x := rnsN R tp r * rn (R r) 7) (a := u * rn (R r) 7) (b := w * rn (R r) 1) (HW_of hw' lw.1 lw.2.2.1) d6 lv20 hB hB2 (by have := t1l (rn (R r) 6); omega) (cross _) wp (by omega) (by omega)
    exact ⟨h29, s29, K h29 _ _ _ _ _ _ (VW_LW vw20 lw2) lv29 (fun t => by rw [lw2.2.1]; exact m20 t) db⟩
/-- the machines are kept -/
theorem c182b {z1 z2 z3 z4 z5 z6 z9 z10 z11 z12 : Option Value} {w : Int32} (f : RF h0 k R) : ∀ (j i : Nat) (h : Hp), i + j = 8 → VX h0 h → (∀ j, j < 21 → gL h 437 j = lN (loN (tp j) B) ∧ gL h 438 j = lN (loD (tp j) B)) → (∀ t, t < k → gI h 442 t = nI (mc t)) → (∀ t, t < i → gI h 441 t = if t < k then nI (mc t) else 0) → WP L xs 182 383 [some (.ref 397), z1, z2, z3, z4, z5, z6, some (.int w), some (.int (nI i)), z9, z10, z11, z12] [] h (fun r h' => r = some (.int w) ∧ FIN h0 h' k tp mc B)
  | 0, i, h, hi, vx, e3, e4, e5 => by
    obtain rfl : i = 8 := by omega
    exact v182_383 (VX_RF f vx).1 ⟨fun _ => ⟨rfl, vx, e3, e5⟩, fun z => absurd (nI_le (Nat.le_refl 8) (by decide)) z⟩
  | j + 1, i, h, hi, vx, e3, e4, e5 => by
    have i8 : i < 8 := by omega
    have f' := VX_RF f vx
    have hk := f.2.2.1
    refine v182_383 f'.1 ⟨fun z => absurd z (nI_ge i8 (by decide)), fun _ => ?_⟩
    rw [f'.2.1, nI_1]
    refine ⟨fun z => ⟨i, rfl, i8, ?_⟩, fun z => ⟨i, rfl, i8, ?_⟩⟩
    · have ki := (nI_leI (by omega) (by omega)).mp z
      refine c182b f j (i + 1) _ (by omega) (VX_sI vx) e3 (fun t ht => by rw [gIo (by decide)]; exact e4 t ht) (fun t ht => ?_)
      rw [gIs, up_a]
      by_cases y : t = i
      · rw [if_pos y, y, if_neg (by omega)]
      · rw [if_neg y]; exact e5 t (by omega)
    · have ki : i < k := by
        apply Decidable.byContradiction
        intro y
        exact z (nI_le (by omega) (by omega))
      refine c182b f j (i + 1) _ (by omega) (VX_sI vx) e3 (fun t ht => by rw [gIo (by decide)]; exact e4 t ht) (fun t ht => ?_)
      rw [gIs, up_a]
      by_cases y : t = i
      · rw [if_pos y, y, if_pos ki]; exact e4 i ki
      · rw [if_neg y]; exact e5 t (by omega)
/-- the rates are kept -/
theorem c182a {z1 z2 z3 z4 z5 z6 z9 z10 z11 z12 : Option Value} {w : Int32} (f : RF h0 k R) : ∀ (j i : Nat) (h : Hp), i + j = 21 → VX h0 h → LV h tp B → (∀ j, j < i → gL h 437 j = lN (loN (tp j) B) ∧ gL h 438 j = lN (loD (tp j) B)) → (∀ t, t < k → gI h 442 t = nI (mc t)) → WP L xs 182 339 [some (.ref 397), z1, z2, z3, z4, z5, z6, some (.int w), some (.int (nI i)), z9, z10, z11, z12] [] h (fun r h' => r = some (.int w) ∧ FIN h0 h' k tp mc B)
  | 0, i, h, hi, vx, lv, e3, e4 => by
    obtain rfl : i = 21 := by omega
    exact v182_339 (VX_RF f vx).1 ⟨fun _ => c182b f 8 0 h (by omega) vx e3 e4 (fun t ht => absurd ht (Nat.not_lt_zero t)), fun z => absurd (show (20 : Int32) < nI 21 by decide) z⟩
  | j + 1, i, h, hi, vx, lv, e3, e4 => by
    have i21 : i < 21 := by omega
    refine v182_339 (VX_RF f vx).1 ⟨fun z => absurd z (show ¬ nI 20 < nI i from nI_nlt (by omega) (by decide)), fun _ => ⟨i, rfl, i21, ?_⟩⟩
    rw [nI_1]
    refine c182a f j (i + 1) _ (by omega) (VX_sL (Or.inr rfl) (VX_sL (Or.inl rfl) vx)) (fun t ht => ?_) (fun t ht => ?_) e4
    · rw [gLp (by decide), gLp (by decide), gLp (by decide), gLp (by decide)]
      exact lv t ht
    · rw [gLp (by decide), gLq, gLq, gLp (by decide)]
      by_cases y : t = i
      · rw [if_pos y, if_pos y, y]; exact lv i i21
      · rw [if_neg y, if_neg y]; exact e3 t (by omega)
/-- the whole run, where nothing needs itself -/
theorem c182w {m : Int32} (f : RF h0 k R) (im : IM R k m S) (so : SOk R k S) (hB : 0 < B) (hB2 : B < 2 ^ 22) {z1 z2 z3 : Option Value} : ∀ (c : Nat) (h : Hp) (d : Int32) (dn : Nat → Bool) (tp mc : Nat → Nat) (s n : Nat) (tp' mc' : Nat → Nat) (s' : Nat) (z8 z9 z10 z11 z12 : Option Value), c ≤ 8 → WR R k S B c dn tp mc s tp' mc' s' → INV R k dn tp B n → (∀ r, r < 8 → bt d r = dn r) → VW h0 h → LV h tp B → (∀ t, t < k → gI h 442 t = nI (mc t)) → WP L xs 182 143 [some (.ref 397), z1, z2, z3, some (.int m), some (.int (nI c)), some (.int d), some (.int (nI s)), z8, z9, z10, z11, z12] [] h (fun r h' => r = some (.int (nI s')) ∧ FIN h0 h' k tp' mc' B)
  | 0, h, d, dn, tp, mc, s, n, tp', mc', s', z8, z9, z10, z11, z12, hc, w, inv, dm, vw, lv, em => by
    obtain ⟨-, rfl, rfl, rfl⟩ := w
    exact v182_143 (VW_RF f vw).1 ⟨fun _ => c182a f 21 0 h (by omega) (VW_VX vw) lv (fun t ht => absurd ht (Nat.not_lt_zero t)) em, fun z => absurd (by decide) z⟩
  | c + 1, h, d, dn, tp, mc, s, n, tp', mc', s', z8, z9, z10, z11, z12, hc, w, inv, dm, vw, lv, em => by
    obtain ⟨r, pk, w⟩ := w
    refine c182p (VW_RF f vw) im dm so pk lv hB hB2 inv (fun h' d' z8 z9 z10 z11 z12 vw' lv' m' dm' => ?_) (by omega) z8 z9 z10 z11 z12
    refine c182w f im so hB hB2 c h' d' _ _ _ _ (n + 1) tp' mc' s' _ _ _ _ _ (by omega) w (INV_step f.2.2.2.1 pk.1 (lft_t.mp pk.2.1.1).2 inv) dm' (VW_t vw vw') lv' (fun t ht => ?_)
    rw [m' t]
    unfold upN
    by_cases y : t = r
    · rw [if_pos y, if_pos y]
    · rw [if_neg y, if_neg y]; exact em t ht
/-- where something needs itself -/
theorem c182c {m : Int32} (f : RF h0 k R) (im : IM R k m S) (so : SOk R k S) (hB : 0 < B) (hB2 : B < 2 ^ 22) {t0 : Nat} (st : S t0 = true) (wt : Wv R k k t0 t0) {z1 z2 z3 : Option Value} : ∀ (c : Nat) (h : Hp) (d : Int32) (dn : Nat → Bool) (tp : Nat → Nat) (s n : Nat) (z8 z9 z10 z11 z12 : Option Value), c ≤ 8 → cB (lft S dn) k = c → (∀ t, S t = true → Wv R k k t t → dn t = false) → INV R k dn tp B n → (∀ r, r < 8 → bt d r = dn r) → VW h0 h → LV h tp B → WP L xs 182 143 [some (.ref 397), z1, z2, z3, some (.int m), some (.int (nI c)), some (.int d), some (.int (nI s)), z8, z9, z10, z11, z12] [] h (fun r h' => r = some (.int (-6)) ∧ ∃ h2, VW h0 h2 ∧ h' = hM h2 6)
  | 0, h, d, dn, tp, s, n, z8, z9, z10, z11, z12, hc, cb, cy, inv, dm, vw, lv => by
    exfalso
    have := cB_0 cb (so.1 t0 st)
    rw [lft_t.mpr ⟨st, cy t0 st wt⟩] at this
    cases this
  | c + 1, h, d, dn, tp, s, n, z8, z9, z10, z11, z12, hc, cb, cy, inv, dm, vw, lv => by
    have f' := VW_RF f vw
    obtain ⟨v, s181, ev⟩ := c181 (L := L) (xs := xs) f' im dm so
    rcases ev with ⟨r, pk, e⟩ | ⟨e, -⟩
    · refine c182p f' im dm so pk lv hB hB2 inv (fun h' d' z8 z9 z10 z11 z12 vw' lv' m' dm' => ?_) (by omega) z8 z9 z10 z11 z12
      have := cB_pick pk
      refine c182c f im so hB hB2 st wt c h' d' _ _ _ (n + 1) _ _ _ _ _ (by omega) (by omega) (fun t ht wt => ?_) (INV_step f.2.2.2.1 pk.1 (lft_t.mp pk.2.1.1).2 inv) dm' (VW_t vw vw') lv'
      unfold upb
      have nr : ¬ t = r := fun y => by
        rw [y] at wt ht
        rcases Wv_last k (Nat.le_refl k) wt with dd | ⟨o, a, dd⟩
        · exact pk.2.1.2 r pk.1 pk.2.1.1 dd
        · have so1 := so.2 r o ht a
          exact pk.2.1.2 o dd.1 (lft_t.mpr ⟨so1, cy o so1 (Wv_tr (Wv_dp dd) a)⟩) dd
      rw [if_neg nr]
      exact cy t ht wt
    · rw [e] at s181
      exact v182_143 f'.1 ⟨fun z => absurd z (nI_nle (by omega) (by omega)), fun _ => ⟨_, s181, fun _ => ⟨_, _, rfM f'.1 rv6, rfl, h, vw, rfl⟩, fun z => absurd rfl z⟩⟩
end RW2
