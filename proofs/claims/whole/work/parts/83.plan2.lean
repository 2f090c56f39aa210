/-! The class's plan. -/
theorem CW_r (h : Hp) : CW h h := ⟨rfl, rfl, fun _ _ _ => rfl, fun _ _ _ => rfl⟩
theorem CW_LE {h0 h h' : Hp} {i : Nat} (hi : i = 393 ∨ i = 395) (c : CW h0 h) (e : LE h h' (fun q => q = i)) : CW h0 h' := by
  obtain ⟨c1, c2, c3, c4⟩ := c
  obtain ⟨e1, e2, e3, e4⟩ := e
  exact ⟨e1.trans c1, e3.trans c2, fun a h1 h2 => by rw [e2]; exact c3 a h1 h2, fun a h1 h2 => (e4 a (by omega)).trans (c4 a h1 h2)⟩
theorem CW_IE {h0 h h' : Hp} {i : Nat} (hi : i = 394 ∨ i = 396) (c : CW h0 h) (e : IE h h') (s : SX h h' (fun q => q = i)) : CW h0 h' := by
  obtain ⟨c1, c2, c3, c4⟩ := c
  exact ⟨e.1.trans c1, e.2.2.trans c2, fun a h1 h2 => (s a (by omega)).trans (c3 a h1 h2), fun a h1 h2 => by rw [e.2.1]; exact c4 a h1 h2⟩
/-- what all recipes make, one with the other -/
def mkF (R : Nat → Row) (r : Nat) : Nat := rn (R r) 1
/-- before the first is taken -/
def tp0 (i P : Nat) : Nat → Nat := fun j => if j = i then P else 0
theorem INV_0 {R : Nat → Row} {k i p q : Nat} (hp : p ≤ 60) (hq : 1 ≤ q) : INV R k (fun _ => false) (tp0 i (pr (mkF R) k * p)) (q * pr (mkF R) k) 0 := by
  have g : pr (gF R (fun _ => false)) k = pr (mkF R) k := pr_e k (fun _ _ => rfl)
  have f : pr (fF R (fun _ => false)) k = pr (mkF R) k := pr_e k (fun _ _ => rfl)
  intro j
  rw [g, f]
  unfold tp0
  by_cases e : j = i
  · rw [if_pos e]
    refine ⟨Nat.dvd_mul_right _ p, ?_, ?_⟩
    · rw [Nat.mul_comm]; exact Nat.mul_le_mul_right _ hp
    · rw [Nat.pow_zero, Nat.mul_one]
      have h1 : pr (mkF R) k * p ≤ pr (mkF R) k * 60 := Nat.mul_le_mul_left _ hp
      have h2 : 1 * pr (mkF R) k ≤ q * pr (mkF R) k := Nat.mul_le_mul_right _ hq
      omega
  · rw [if_neg e]
    exact ⟨Nat.dvd_zero _, Nat.zero_le _, Nat.zero_le _⟩
theorem mkF_b {R : Nat → Row} {k : Nat} (gb : GB k R) (hk : k ≤ 8) : ∀ i, i ≤ k → 0 < pr (mkF R) i ∧ pr (mkF R) i ≤ 65536 := by
  intro i hi
  constructor
  · refine pr_pos i (fun j hj => ?_)
    obtain ⟨-, -, -, m1, -⟩ := gb j (by omega)
    exact m1
  · have h1 : pr (mkF R) i ≤ 4 ^ i := pr_le i (fun j hj => by
      obtain ⟨-, -, -, -, m4, -⟩ := gb j (by omega)
      exact m4)
    have h2 : 4 ^ i ≤ 4 ^ 8 := Nat.pow_le_pow_right (by decide) (by omega)
    exact Nat.le_trans h1 h2
section PA
variable {L : Nat} {xs : Nat → Int32} {h h0 : Hp} {k c s v r o i M B n p q it : Nat} {x l : Int32} {S dn : Nat → Bool} {tp mc : Nat → Nat}
/-- the bottom is reckoned -/
theorem c52l (b0 : RLb h0 k) (gb : GB k (RC h0)) (hM : M < k) (hit : it < 21) (hp : p ≤ 60) (hq1 : 1 ≤ q) (hq2 : q ≤ 60) {tp' mc' : Nat → Nat} {s' : Nat} (w : WR (RC h0) k (SM (RC h0) k M) (q * pr (mkF (RC h0)) k) (cB (lft (SM (RC h0) k M) (fun _ => false)) k) (fun _ => false) (tp0 it (pr (mkF (RC h0)) k * p)) (fun _ => 0) 0 tp' mc' s') : ∀ (m i : Nat) (h : Hp), i + m = k → CW h0 h → ND h (Wv (RC h0) k k) → gL h 393 3 = lN (q * pr (mkF (RC h0)) i) → WP L xs 52 39 [some (.ref 393), some (.ref 2), some (.int (nI it)), some (.int (nI p)), some (.int (nI q)), some (.int (nI M)), some (.int (nI i))] [] h (fun r h' => r = some (.int (nI s')) ∧ CW h0 h' ∧ gL h' 393 3 = lN (q * pr (mkF (RC h0)) k) ∧ (∀ i, i < 21 → gL h' 395 i = lN (tp' i)) ∧ ∀ r, r < 8 → gI h' 394 r = nI (mc' r))
  | 0, i, h, hi, cw, nd, eB => by
    obtain rfl : i = k := by omega
    have hk : i ≤ 8 := by have := b0.2.1; omega
    have b := CW_RLb b0 cw
    have e2 : gI h 2 1 = nI i := b.2.2.2.1
    obtain ⟨mp, ml⟩ := mkF_b gb hk i (Nat.le_refl i)
    obtain ⟨h3, s198, e3, z3⟩ := c198 (L := L) (xs := xs) (h := h) (a := 395) (n := 21) (v := 0) b.1 (by decide) (by decide) (by decide)
    have cw3 := CW_LE (Or.inr rfl) cw e3
    have w3 := (CW_RLb b0 cw3).1
    obtain ⟨h6, s199, i6, x6, z6⟩ := c199 (L := L) (xs := xs) (h := h3) (a := 394) (n := 8) (v := 0) w3 (by decide) (by decide) (by decide)
    have cw6 := CW_IE (Or.inl rfl) cw3 i6 x6
    have b6 := CW_RLb b0 cw6
    have l6 : gL h6 = gL h3 := i6.2.1
    have o393 : gL h6 393 3 = lN (q * pr (mkF (RC h0)) i) := by rw [l6, e3.2.2.2 393 (by decide)]; exact eB
    have o396 : gI h6 396 = gI h 396 := by rw [x6 396 (by decide), e3.2.1]
    have nd6 : ND h6 (Wv (RC h0) i i) := fun t ht o ho => by rw [o396]; exact nd t ht o ho
    have eq : (nI q).toInt64 = lN q := nI_l (by omega)
    have ep : (nI p).toInt64 = lN p := nI_l (by omega)
    have q0 : ¬ lN q = 0 := fun z => by have := (lN_0 (by omega)).mp z; omega
    have qB : q * pr (mkF (RC h0)) i ≤ 60 * 65536 := Nat.mul_le_mul hq2 ml
    have Bp : 0 < q * pr (mkF (RC h0)) i := Nat.mul_pos hq1 mp
    have pp : pr (mkF (RC h0)) i * p ≤ 65536 * 60 := Nat.mul_le_mul ml hp
    have et : lN (q * pr (mkF (RC h0)) i) / lN q * lN p = lN (pr (mkF (RC h0)) i * p) := by
      rw [lN_div (by omega) (by omega), Nat.mul_div_cancel_left _ hq1, lN_mul]
    have ms := mask_S nd6 (M := M) (by omega)
    refine v52_39 b.1 ?_
    rw [e2]
    refine ⟨fun _ => ⟨h3, s198, h6, s199, by rw [eq]; exact q0, it, rfl, hit, M, rfl, by omega, ?_⟩, fun z => absurd (nI_le (Nat.le_refl _) (by omega)) z⟩
    rw [eq, ep, o393, et]
    have cw7 : CW h0 (sL h6 395 it (lN (pr (mkF (RC h0)) i * p))) := CW_sL (Or.inr rfl) cw6
    have key := c57l (L := L) (xs := xs) (z2 := some (.int ((gI h6 396 M) ||| (1 <<< ((nI M : Int32) &&& 31))))) b0 gb (SM_ok hM) Bp (by omega) rfl _ (sL h6 395 it (lN (pr (mkF (RC h0)) i * p))) ((gI h6 396 M) ||| (1 <<< ((nI M : Int32) &&& 31))) (fun _ => false) _ _ 0 0 0 tp' mc' s' none none (by have := cB_le (lft (SM (RC h0) i M) (fun _ => false)) i; omega) w (fun _ _ _ _ e => by cases e) (INV_0 hp hq1) (fun t ht => by rw [ms t (by omega)]; unfold lft; rw [Bool.not_false, Bool.and_true]) cw7 nd6 (by rw [gLp (by decide)]; exact o393) (fun j hj => ?_) (fun t ht => z6 t ht)
    · obtain ⟨rr, h7, s57, rfl, cc⟩ := v57 (L := L) (xs := xs) (y := (gI h6 396 M) ||| (1 <<< ((nI M : Int32) &&& 31))) (CW_RLb b0 cw7).1 key
      exact ⟨_, h7, s57, rfl, cc⟩
    · rw [gLq]
      unfold tp0
      by_cases y : j = it
      · rw [if_pos y, if_pos y]
      · rw [if_neg y, if_neg y, l6, z3 j hj]; rfl
  | m + 1, i, h, hi, cw, nd, eB => by
    have hk : k ≤ 8 := by have := b0.2.1; omega
    have hik : i < k := by omega
    have b := CW_RLb b0 cw
    have e2 : gI h 2 1 = nI k := b.2.2.2.1
    have g3 : gR h 3 i = some (444 + i) := b.2.2.2.2.2.1 i hik
    obtain ⟨all, -, -, m1, m4, -⟩ := gb i hik
    have g1 : gI h (444 + i) 1 = nI (rn (RC h0 i) 1) := by
      have : gI h (444 + i) = RC h0 i := by rw [← CW_RC cw]; rfl
      rw [this]; exact all 1 (by decide)
    refine v52_39 b.1 ?_
    rw [e2]
    refine ⟨fun z => absurd z (nI_ge hik (by omega)), fun _ => ⟨i, rfl, by omega, fun z => (by rw [g3] at z; cases z), fun q26 z => ?_⟩⟩
    rw [g3] at z
    injection z with z
    subst z
    refine ⟨⟨by rw [b.2.2.1]; omega, SH_rec (by omega)⟩, ?_⟩
    rw [g1, nI_l (show rn (RC h0 i) 1 < 2147483648 by omega), eB, lN_mul, nI_1]
    refine c52l b0 gb hM hit hp hq1 hq2 w m (i + 1) _ (by omega) (CW_sL (Or.inl rfl) cw) nd ?_
    rw [gLq, if_pos rfl, pr_s, Nat.mul_assoc]
    rfl
theorem c52 (b : RLb h k) (hM : M < k) (eM : nI it = RC h M 0) (hit : it < 21) (hp1 : 1 ≤ p) (hp : p ≤ 60) (hq1 : 1 ≤ q) (hq2 : q ≤ 60) : ((∃ t, SM (RC h) k M t = true ∧ Wv (RC h) k k t t) ∧ ∃ h', Sp L xs 52 [.ref 393, .ref 2, .int (nI it), .int (nI p), .int (nI q)] h (some (.int (-1))) h' ∧ IE h h' ∧ SX h h' onN) ∨ (∃ (tp' mc' : Nat → Nat) (s' : Nat), WR (RC h) k (SM (RC h) k M) (q * pr (mkF (RC h)) k) (cB (lft (SM (RC h) k M) (fun _ => false)) k) (fun _ => false) (tp0 it (pr (mkF (RC h)) k * p)) (fun _ => 0) 0 tp' mc' s' ∧ ∃ h', Sp L xs 52 [.ref 393, .ref 2, .int (nI it), .int (nI p), .int (nI q)] h (some (.int (nI s'))) h' ∧ CW h h' ∧ gL h' 393 3 = lN (q * pr (mkF (RC h)) k) ∧ (∀ i, i < 21 → gL h' 395 i = lN (tp' i)) ∧ ∀ r, r < 8 → gI h' 394 r = nI (mc' r)) := by
  have hk : k ≤ 8 := by have := b.2.1; omega
  have gb : GB k (RC h) := b.2.2.2.2.2.2.2.1
  have s3 := c3 (L := L) (xs := xs) (x := nI it) b
  have ef : fndI (RC h) (nI it) k 0 = nI M := by
    by_cases z : fndI (RC h) (nI it) k 0 = -1
    · exact absurd eM.symm (fndI_n k 0 z (by omega) M (Nat.zero_le M) (by omega))
    · obtain ⟨r, -, hr, e, e2⟩ := fndI_s k 0 z
      rw [e]
      congr 1
      apply Decidable.byContradiction
      intro y
      exact b.2.2.2.2.2.2.2.2 r M (by omega) hM y (e2.trans eM)
  rw [ef] at s3
  obtain ⟨h3, s53, i3, x3, nd⟩ := c53 (L := L) (xs := xs) b
  have w3 := IE_w i3 b.1
  have cw3 : CW h h3 := CW_IE (Or.inr rfl) (CW_r h) i3 x3
  obtain ⟨v, s56, ev⟩ := c56 (L := L) (xs := xs) (R := RC h) w3 nd hk hM
  have nm : ¬ nI M = -1 := nI_m1 (by omega)
  by_cases v0 : v = 0
  · right
    have ac := ev.mp v0
    obtain ⟨tp', mc', s', w⟩ := WR_ex (B := q * pr (mkF (RC h)) k) (SM_ok hM) ac _ (fun _ => false) (tp0 it (pr (mkF (RC h)) k * p)) (fun _ => 0) 0 rfl
    have eq : (nI q).toInt64 = lN q := nI_l (by omega)
    have key := c52l (L := L) (xs := xs) b gb hM hit hp hq1 hq2 w k 0 (sL h3 393 3 (lN q)) (by omega) (CW_sL (Or.inl rfl) cw3) nd (by rw [gLq, if_pos rfl]; show lN q = lN (q * 1); rw [Nat.mul_one])
    obtain ⟨rr, h7, s52, rfl, cc⟩ := v52 (L := L) (xs := xs) (y := nI it) (z := nI p) (u := nI q) b.1 ⟨_, s3, h3, s53, fun z => absurd z nm, fun _ => ⟨_, s56, fun _ => by rw [eq]; exact key, fun z => absurd v0 z⟩⟩
    exact ⟨tp', mc', s', w, h7, s52, cc⟩
  · left
    have cyc : ∃ t, SM (RC h) k M t = true ∧ Wv (RC h) k k t t := by
      apply Classical.byContradiction
      intro z
      exact v0 (ev.mpr (fun t ht wt => z ⟨t, ht, wt⟩))
    exact ⟨cyc, h3, sp_eq (v52 b.1 ⟨_, s3, h3, s53, fun z => absurd z nm, fun _ => ⟨_, s56, fun z => absurd z v0, fun _ => ⟨rfl, rfl⟩⟩⟩), i3, x3⟩
end PA
