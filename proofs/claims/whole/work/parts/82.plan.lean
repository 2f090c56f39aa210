/-! The class's planner. -/
/-- the recipes that a wish of what M makes wants -/
noncomputable def SM (R : Nat → Row) (k M : Nat) (r : Nat) : Bool := @decide (r = M ∨ Wv R k k M r) (Classical.propDecidable _)
theorem SM_t {R : Nat → Row} {k M r : Nat} : SM R k M r = true ↔ r = M ∨ Wv R k k M r := by
  unfold SM
  exact @decide_eq_true_iff _ (Classical.propDecidable _)
theorem SM_ok {R : Nat → Row} {k M : Nat} (hM : M < k) : SOk R k (SM R k M) := by
  refine ⟨fun r h => ?_, fun r o h w => ?_⟩
  · rcases SM_t.mp h with e | e
    · omega
    · exact (Wv_lt e).2
  · refine SM_t.mpr (Or.inr ?_)
    rcases SM_t.mp h with e | e
    · rw [← e]; exact w
    · exact Wv_tr e w
/-- the whole run: which is taken, one after the other -/
def WR (R : Nat → Row) (k : Nat) (S : Nat → Bool) (B : Nat) : Nat → (Nat → Bool) → (Nat → Nat) → (Nat → Nat) → Nat → (Nat → Nat) → (Nat → Nat) → Nat → Prop
  | 0, dn, tp, mc, s, tp', mc', s' => (∀ r, lft S dn r = false) ∧ tp' = tp ∧ mc' = mc ∧ s' = s
  | c + 1, dn, tp, mc, s, tp', mc', s' => ∃ r, pickP R k S dn r ∧ WR R k S B c (upb dn r) (tpN R tp r) (upN mc r (mcN R tp B r)) (s + mcN R tp B r) tp' mc' s'
theorem cB_some {f : Nat → Bool} : ∀ n, 0 < cB f n → ∃ r, r < n ∧ f r = true
  | 0, h => absurd h (Nat.lt_irrefl 0)
  | n + 1, h => by
    rw [cB_s] at h
    by_cases a : f n = true
    · exact ⟨n, Nat.lt_succ_self n, a⟩
    · rw [if_neg a] at h
      obtain ⟨r, h1, h2⟩ := cB_some n h
      exact ⟨r, by omega, h2⟩
theorem WR_ex {R : Nat → Row} {k B : Nat} {S : Nat → Bool} (so : SOk R k S) (ac : ∀ r, S r = true → ¬ Wv R k k r r) : ∀ (c : Nat) (dn : Nat → Bool) (tp mc : Nat → Nat) (s : Nat), cB (lft S dn) k = c → ∃ tp' mc' s', WR R k S B c dn tp mc s tp' mc' s'
  | 0, dn, tp, mc, s, h => by
    refine ⟨tp, mc, s, fun r => ?_, rfl, rfl, rfl⟩
    cases q : lft S dn r with
    | false => rfl
    | true =>
      have := cB_0 h (so.1 r (lft_t.mp q).1)
      rw [q] at this
      cases this
  | c + 1, dn, tp, mc, s, h => by
    obtain ⟨r0, -, l0⟩ := cB_some (f := lft S dn) k (by omega)
    obtain ⟨r, p⟩ := pick_ex so ac ⟨r0, l0⟩
    have e := cB_pick p
    obtain ⟨tp', mc', s', w⟩ := WR_ex so ac c (upb dn r) (tpN R tp r) (upN mc r (mcN R tp B r)) (s + mcN R tp B r) (by omega)
    exact ⟨tp', mc', s', r, p, w⟩
theorem WR_fin {R : Nat → Row} {k B : Nat} {S : Nat → Bool} (gb : GB k R) (hB : 0 < B) : ∀ (c : Nat) (dn : Nat → Bool) (tp mc : Nat → Nat) (s n : Nat) (tp' mc' : Nat → Nat) (s' : Nat), WR R k S B c dn tp mc s tp' mc' s' → INV R k dn tp B n → s ≤ 3601 * 5 ^ n → c + n ≤ 8 → (∀ r, k ≤ r → mc r = 0) → (∃ dn' n', INV R k dn' tp' B n') ∧ s' ≤ 3601 * 5 ^ 8 ∧ ∀ r, k ≤ r → mc' r = 0
  | 0, dn, tp, mc, s, n, tp', mc', s', w, inv, hs, hn, hm => by
    obtain ⟨-, rfl, rfl, rfl⟩ := w
    refine ⟨⟨dn, n, inv⟩, Nat.le_trans hs (Nat.mul_le_mul_left _ (Nat.pow_le_pow_right (by decide) (by omega))), hm⟩
  | c + 1, dn, tp, mc, s, n, tp', mc', s', w, inv, hs, hn, hm => by
    obtain ⟨r, p, w⟩ := w
    have hd := (lft_t.mp p.2.1.1).2
    have m := mcN_le gb p.1 hB inv
    have p5 : 5 ^ (n + 1) = 5 * 5 ^ n := by rw [Nat.pow_succ, Nat.mul_comm]
    have p1 : 0 < 5 ^ n := Nat.pow_pos (by decide)
    refine WR_fin gb hB c _ _ _ _ (n + 1) tp' mc' s' w (INV_step gb p.1 hd inv) ?_ (by omega) (fun t ht => ?_)
    · rw [p5]; omega
    · unfold upN
      rw [if_neg (by have := p.1; omega)]
      exact hm t ht
/-- what the planner changes -/
def CW (h0 h : Hp) : Prop := h.1 = h0.1 ∧ gR h = gR h0 ∧ (∀ a, ¬ a = 394 → ¬ a = 396 → gI h a = gI h0 a) ∧ (∀ a, ¬ a = 393 → ¬ a = 395 → gL h a = gL h0 a)
theorem gLq (h : Hp) (i k : Nat) (v : Int64) (b : Nat) : gL (sL h i k v) i b = if b = k then v else gL h i b := by
  rw [gL_sL]
  by_cases q : b = k
  · rw [if_pos ⟨rfl, q⟩, if_pos q]
  · rw [if_neg (fun w => q w.2), if_neg q]
theorem gLp {h : Hp} {i k : Nat} {v : Int64} {a : Nat} (n : ¬ a = i) : gL (sL h i k v) a = gL h a := by
  funext b
  exact gL_osL n
theorem CW_sL {h0 h : Hp} {i k : Nat} {v : Int64} (hi : i = 393 ∨ i = 395) (c : CW h0 h) : CW h0 (sL h i k v) := by
  obtain ⟨c1, c2, c3, c4⟩ := c
  refine ⟨c1, c2, c3, fun a h1 h2 => ?_⟩
  rw [gLp (by omega)]
  exact c4 a h1 h2
theorem CW_sI {h0 h : Hp} {i k : Nat} {v : Int32} (hi : i = 394 ∨ i = 396) (c : CW h0 h) : CW h0 (sI h i k v) := by
  obtain ⟨c1, c2, c3, c4⟩ := c
  refine ⟨c1, c2, fun a h1 h2 => ?_, c4⟩
  rw [gIo (by omega)]
  exact c3 a h1 h2
theorem CW_RLb {h0 h : Hp} {k : Nat} (b : RLb h0 k) (c : CW h0 h) : RLb h k := by
  obtain ⟨c1, c2, c3, c4⟩ := c
  exact RLb_of (h := h0) (HW_of b.1 c1 c2) c1 (fun a ha => c3 a (by omega) (by omega)) (by rw [c3 397 (by decide) (by decide)]) (fun q => by rw [c2]) b
theorem CW_RC {h0 h : Hp} (c : CW h0 h) : RC h = RC h0 := by
  funext r
  exact c.2.2.1 (444 + r) (by omega) (by omega)
theorem l1 : (1 : Int64) = lN 1 := rfl
theorem l0' : (0 : Int64) = lN 0 := rfl
section PN
variable {L : Nat} {xs : Nat → Int32} {h h0 : Hp} {k c s v r o i M B n : Nat} {x l : Int32} {R : Nat → Row} {S dn : Nat → Bool} {tp mc : Nat → Nat}
theorem c56l (hw : HW h) {N : Nat → Nat → Prop} (nd : ND h N) {z1 : Option Value} : ∀ (m i : Nat), i + m = 8 → (∀ t, t < i → ¬ (bt l t = true ∧ N t t)) → WP L xs 56 13 [some (.ref 393), z1, some (.int l), some (.int (nI i))] [] h (fun r h' => (∃ v, r = some (.int v) ∧ (v = 0 ↔ ∀ t, t < 8 → ¬ (bt l t = true ∧ N t t))) ∧ h' = h)
  | 0, i, hi, cl => by
    obtain rfl : i = 8 := by omega
    exact v56_13 hw ⟨fun _ => ⟨⟨0, rfl, fun _ => cl, fun _ => rfl⟩, rfl⟩, fun q => absurd (nI_le (Nat.le_refl 8) (by decide)) q⟩
  | m + 1, i, hi, cl => by
    have i8 : i < 8 := by omega
    have next : ¬ (bt l i = true ∧ N i i) → WP L xs 56 13 [some (.ref 393), z1, some (.int l), some (.int (nI i + 1))] [] h (fun r h' => (∃ v, r = some (.int v) ∧ (v = 0 ↔ ∀ t, t < 8 → ¬ (bt l t = true ∧ N t t))) ∧ h' = h) := fun ni => by
      rw [nI_1]
      refine c56l hw nd m (i + 1) (by omega) (fun t ht => ?_)
      by_cases y : t = i
      · rw [y]; exact ni
      · exact cl t (by omega)
    refine v56_13 hw ⟨fun q => absurd q (nI_ge i8 (by decide)), fun _ => ⟨fun q => ⟨i, rfl, i8, fun q2 => ?_, fun q2 => next (fun w => q2 ?_)⟩, fun q => next (fun w => q ?_)⟩⟩
    · rw [hsB_bt (by omega)] at q q2
      refine ⟨⟨1, rfl, fun w => absurd w (by decide), fun w => ?_⟩, rfl⟩
      exact absurd ⟨q, (nd i i8 i (by omega)).mp q2⟩ (w i i8)
    · rw [hsB_bt (by omega)]
      exact (nd i i8 i (by omega)).mpr w.2
    · rw [hsB_bt (by omega)]
      exact w.1
/-- the mask of what a wish wants -/
theorem mask_S (nd : ND h (Wv R k k)) (hM : M < 8) : ∀ r, r < 32 → bt ((gI h 396 M) ||| (1 <<< (nI M &&& 31))) r = SM R k M r := by
  intro r hr
  rw [b_or, b_one (by omega) hr]
  have := nd M hM r hr
  cases q : SM R k M r with
  | true =>
    rcases SM_t.mp q with e | e
    · rw [decide_eq_true e, Bool.or_true]
    · rw [this.mpr e]; rfl
  | false =>
    have a : ¬ r = M := fun e => by rw [SM_t.mpr (Or.inl e)] at q; cases q
    have b : ¬ Wv R k k M r := fun e => by rw [SM_t.mpr (Or.inr e)] at q; cases q
    cases q2 : bt (gI h 396 M) r with
    | true => exact absurd (this.mp q2) b
    | false => rw [decide_eq_false a]; rfl
theorem c56 (hw : HW h) (nd : ND h (Wv R k k)) (hk : k ≤ 8) (hM : M < k) : ∃ v, Sp L xs 56 [.ref 393, .int (nI M)] h (some (.int v)) h ∧ (v = 0 ↔ ∀ t, SM R k M t = true → ¬ Wv R k k t t) := by
  have ms := mask_S nd (M := M) (by omega)
  obtain ⟨r, h', s, ⟨v, rfl, e⟩, rfl⟩ := v56 (L := L) (xs := xs) (x := nI M) hw ⟨M, rfl, by omega, c56l (L := L) (xs := xs) (z1 := some (.int (nI M))) (l := (gI h 396 M) ||| (1 <<< (nI M &&& 31))) hw nd 8 0 (by omega) (fun t ht => absurd ht (Nat.not_lt_zero t))⟩
  refine ⟨v, s, e.trans ⟨fun w t ht wt => ?_, fun w t ht q => ?_⟩⟩
  · have := (SM_ok (R := R) hM).1 t ht
    exact w t (by omega) ⟨by rw [ms t (by omega)]; exact ht, wt⟩
  · rw [ms t (by omega)] at q
    exact w t q.1 q.2
theorem c58b (hw : HW h) (so : SOk R k S) (uc : UC R k S dn) (hk : k ≤ 8) (lm : ∀ r, r < 8 → bt l r = lft S dn r) {l2 : Int32} (nm : ∀ o, o < 32 → (bt l2 o = true ↔ ∃ t, t < 8 ∧ lft S dn t = true ∧ Wv R k k t o)) : ∀ (m i : Nat), i + m = 8 → (∀ t, t < i → ¬ freeP R k S dn t) → WP L xs 58 36 [some (.ref 393), some (.int l), some (.int l2), some (.int (nI i))] [] h (fun r h' => (∃ v, r = some (.int v) ∧ ((∃ r, pickP R k S dn r ∧ v = nI r) ∨ (v = -1 ∧ ∀ r, ¬ freeP R k S dn r))) ∧ h' = h)
  | 0, i, hi, cl => by
    obtain rfl : i = 8 := by omega
    refine v58_36 hw ⟨fun _ => ⟨⟨-1, rfl, Or.inr ⟨rfl, fun r f => ?_⟩⟩, rfl⟩, fun q => absurd (nI_le (Nat.le_refl 8) (by decide)) q⟩
    have := so.1 r (lft_t.mp f.1).1
    exact cl r (by omega) f
  | m + 1, i, hi, cl => by
    have i8 : i < 8 := by omega
    have next : ¬ freeP R k S dn i → WP L xs 58 36 [some (.ref 393), some (.int l), some (.int l2), some (.int (nI i + 1))] [] h (fun r h' => (∃ v, r = some (.int v) ∧ ((∃ r, pickP R k S dn r ∧ v = nI r) ∨ (v = -1 ∧ ∀ r, ¬ freeP R k S dn r))) ∧ h' = h) := fun ni => by
      rw [nI_1]
      refine c58b hw so uc hk lm nm m (i + 1) (by omega) (fun t ht => ?_)
      by_cases y : t = i
      · rw [y]; exact ni
      · exact cl t (by omega)
    refine v58_36 hw ⟨fun q => absurd q (nI_ge i8 (by decide)), fun _ => ⟨fun q => ⟨fun q2 => next (fun f => ?_), fun q2 => ?_⟩, fun q => next (fun f => q ?_)⟩⟩
    · rw [hsB_bt (by omega)] at q2
      obtain ⟨t, -, lt, w⟩ := (nm i (by omega)).mp q2
      exact (free_N so uc f.1).mp f t lt w
    · rw [hsB_bt (by omega)] at q q2
      rw [lm i i8] at q
      have f : freeP R k S dn i := (free_N so uc q).mpr (fun o lo w => q2 ((nm i (by omega)).mpr ⟨o, by have := so.1 o (lft_t.mp lo).1; omega, lo, w⟩))
      exact ⟨⟨nI i, rfl, Or.inl ⟨i, ⟨so.1 i (lft_t.mp q).1, f, cl⟩, rfl⟩⟩, rfl⟩
    · rw [hsB_bt (by omega), lm i i8]
      exact f.1
theorem c58a (hw : HW h) (nd : ND h (Wv R k k)) (lm : ∀ r, r < 8 → bt l r = lft S dn r) {Q : Option Value → Hp → Prop} (K : ∀ l2, (∀ o, o < 32 → (bt l2 o = true ↔ ∃ t, t < 8 ∧ lft S dn t = true ∧ Wv R k k t o)) → WP L xs 58 36 [some (.ref 393), some (.int l), some (.int l2), some (.int 0)] [] h Q) : ∀ (m i : Nat) (l2 : Int32), i + m = 8 → (∀ o, o < 32 → (bt l2 o = true ↔ ∃ t, t < i ∧ lft S dn t = true ∧ Wv R k k t o)) → WP L xs 58 4 [some (.ref 393), some (.int l), some (.int l2), some (.int (nI i))] [] h Q
  | 0, i, l2, hi, nm => by
    obtain rfl : i = 8 := by omega
    exact v58_4 hw ⟨fun _ => K l2 nm, fun q => absurd (nI_le (Nat.le_refl 8) (by decide)) q⟩
  | m + 1, i, l2, hi, nm => by
    have i8 : i < 8 := by omega
    refine v58_4 hw ⟨fun q => absurd q (nI_ge i8 (by decide)), fun _ => ⟨fun q => ⟨i, rfl, i8, ?_⟩, fun q => ?_⟩⟩
    · rw [hsB_bt (by omega), lm i i8] at q
      rw [nI_1]
      refine c58a hw nd lm K m (i + 1) _ (by omega) (fun o ho => ?_)
      rw [b_or, Bool.or_eq_true, nm o ho, nd i i8 o ho]
      constructor
      · rintro (⟨t, ht, a, b⟩ | w)
        · exact ⟨t, by omega, a, b⟩
        · exact ⟨i, Nat.lt_succ_self i, q, w⟩
      · rintro ⟨t, ht, a, b⟩
        by_cases y : t = i
        · rw [y] at b; exact Or.inr b
        · exact Or.inl ⟨t, by omega, a, b⟩
    · rw [hsB_bt (by omega), lm i i8] at q
      rw [nI_1]
      refine c58a hw nd lm K m (i + 1) _ (by omega) (fun o ho => (nm o ho).trans ⟨fun ⟨t, ht, a, b⟩ => ⟨t, by omega, a, b⟩, fun ⟨t, ht, a, b⟩ => ?_⟩)
      by_cases y : t = i
      · rw [y] at a; exact absurd a q
      · exact ⟨t, by omega, a, b⟩
theorem c58 (hw : HW h) (nd : ND h (Wv R k k)) (so : SOk R k S) (uc : UC R k S dn) (hk : k ≤ 8) (lm : ∀ r, r < 8 → bt l r = lft S dn r) : ∃ v, Sp L xs 58 [.ref 393, .int l] h (some (.int v)) h ∧ ((∃ r, pickP R k S dn r ∧ v = nI r) ∨ (v = -1 ∧ ∀ r, ¬ freeP R k S dn r)) := by
  obtain ⟨r, h', s, ⟨v, rfl, e⟩, rfl⟩ := v58 (L := L) (xs := xs) (x := l) hw (c58a (L := L) (xs := xs) hw nd lm (fun l2 nm => c58b (L := L) (xs := xs) hw so uc hk lm nm 8 0 (by omega) (fun t ht => absurd ht (Nat.not_lt_zero t))) 8 0 0 (by omega) (fun o _ => by
    rw [b_0]
    exact ⟨fun w => (by cases w), fun ⟨t, ht, _⟩ => absurd ht (Nat.not_lt_zero t)⟩))
  exact ⟨v, s, e⟩
theorem c59 (b : RLb h k) (gb : GB k (RC h)) (hr : r < k) (hB : 0 < B) (hB2 : B < 2 ^ 22) (eB : gL h 393 3 = lN B) (inv : INV (RC h) k dn tp B n) (et : ∀ i, i < 21 → gL h 395 i = lN (tp i)) : ∃ h', Sp L xs 59 [.ref 393, .ref (444 + r)] h (some (.int (nI (mcN (RC h) tp B r)))) h' ∧ (∃ k5 v5 k9 v9, h' = sL (sL h 395 k5 v5) 395 k9 v9) ∧ ∀ i, i < 21 → gL h' 395 i = lN (tpN (RC h) tp r i) := by
  have hk : k ≤ 8 := by have := b.2.1; omega
  obtain ⟨all, a1, a2, m1, m4, t1, t2, -, d1, d2, -, c4, d6, c7, -, -, ne, -, -⟩ := gb r hr
  have rq : RQ (444 + r) h.1 := ⟨by rw [b.2.2.1]; omega, SH_rec (by omega)⟩
  have g : ∀ j, j < 8 → gI h (444 + r) j = nI (rn (RC h r) j) := all
  have tl : ∀ i, tp i < 2 ^ 30 := INV_lt gb hk inv
  have t1l := tp1_lt gb hk hr inv
  have xl : rnsN (RC h) tp r < 2 ^ 30 := Nat.lt_of_le_of_lt (Nat.div_le_self _ _) (tl _)
  have mk : (gI h (444 + r) 1).toInt64 = lN (rn (RC h r) 1) := by rw [g 1 (by decide)]; exact nI_l (by omega)
  have tk : (gI h (444 + r) 2).toInt64 = lN (rn (RC h r) 2) := by rw [g 2 (by decide)]; exact nI_l (by omega)
  have n5 : (gI h (444 + r) 5).toInt64 = lN (rn (RC h r) 5) := by rw [g 5 (by decide)]; exact nI_l (by omega)
  have n7 : (gI h (444 + r) 7).toInt64 = lN (rn (RC h r) 7) := by rw [g 7 (by decide)]; exact nI_l (by omega)
  have nz : ∀ v, 0 < v → v < 2 ^ 22 → ¬ lN v = 0 := fun v h1 h2 q => by
    have := (lN_0 (by omega)).mp q
    omega
  have er : gL h 395 (rn (RC h r) 0) / lN (rn (RC h r) 1) = lN (rnsN (RC h) tp r) := by
    rw [et _ a2, lN_div (by have := tl (rn (RC h r) 0); omega) (by omega)]
    rfl
  have xt : rnsN (RC h) tp r * rn (RC h r) 2 ≤ rnsN (RC h) tp r * 60 := Nat.mul_le_mul_left _ t2
  refine ⟨_, sp_eq (v59 b.1 rq ⟨_, g 0 (by decide), a2, by rw [mk]; exact nz _ m1 (by omega), _, g 4 (by decide), d2, _, g 6 (by decide), d6, by rw [eB]; exact nz _ hB hB2, ?_, rfl⟩), ⟨_, _, _, _, rfl⟩, fun i hi => ?_⟩
  · rw [mk, tk, er, eB, lN_mul, lN_add, l1, lN_sub (by omega), lN_div (by omega) (by omega), lN_i]
    rfl
  · rw [mk, n5, n7, er, gLq, gLq, gLq, et _ d2, et i hi, et _ d6, lN_mul, lN_mul, lN_add]
    unfold tpN tp1 upN
    by_cases e6 : i = rn (RC h r) 6
    · rw [if_pos e6, if_pos e6]
      by_cases e4 : rn (RC h r) 6 = rn (RC h r) 4
      · exact absurd e4.symm ne
      · rw [if_neg e4, if_neg e4, lN_add]
    · rw [if_neg e6, if_neg e6]
      by_cases e4 : i = rn (RC h r) 4
      · rw [if_pos e4, if_pos e4]
      · rw [if_neg e4, if_neg e4]
theorem c2m (b : RLb h k) : Sp L xs 2 [.ref 2, .int (-1)] h (some (x_rv none)) h := by
  have h2 := c2 (L := L) (xs := xs) (ar := -1) b.1 b.2.1 b.2.2.2.1 b.2.2.2.2.2.1
  rw [if_neg (fun q => absurd (x_in3_iff.mp q).1 (by decide))] at h2
  exact h2
theorem c2r (b : RLb h k) (hr : r < k) : Sp L xs 2 [.ref 2, .int (nI r)] h (some (x_rv (some (444 + r)))) h := by
  have hk := b.2.1
  have h2 := c2 (L := L) (xs := xs) (ar := nI r) b.1 b.2.1 b.2.2.2.1 b.2.2.2.2.2.1
  rw [if_pos ((nI_range (by omega)).mpr ⟨r, hr, rfl⟩), nI_c (by omega)] at h2
  exact h2
theorem c57l (b0 : RLb h0 k) (gb : GB k (RC h0)) (so : SOk (RC h0) k S) (hB : 0 < B) (hB2 : B < 2 ^ 22) {z2 : Option Value} (hz2 : x_wide (some z2) = false) : ∀ (c : Nat) (h : Hp) (l : Int32) (dn : Nat → Bool) (tp mc : Nat → Nat) (s i n : Nat) (tp' mc' : Nat → Nat) (s' : Nat) (z6 z7 : Option Value), i + c ≤ 8 → WR (RC h0) k S B c dn tp mc s tp' mc' s' → UC (RC h0) k S dn → INV (RC h0) k dn tp B n → (∀ r, r < 8 → bt l r = lft S dn r) → CW h0 h → ND h (Wv (RC h0) k k) → gL h 393 3 = lN B → (∀ i, i < 21 → gL h 395 i = lN (tp i)) → (∀ r, r < 8 → gI h 394 r = nI (mc r)) → WP L xs 57 8 [some (.ref 393), some (.ref 2), z2, some (.int l), some (.int (nI s)), some (.int (nI i)), z6, z7] [] h (fun r h' => r = some (.int (nI s')) ∧ CW h0 h' ∧ gL h' 393 3 = lN B ∧ (∀ i, i < 21 → gL h' 395 i = lN (tp' i)) ∧ ∀ r, r < 8 → gI h' 394 r = nI (mc' r))
  | 0, h, l, dn, tp, mc, s, i, n, tp', mc', s', z6, z7, hi, w, uc, inv, lm, cw, nd, eB, et, em => by
    have hk : k ≤ 8 := by have := b0.2.1; omega
    obtain ⟨none', rfl, rfl, rfl⟩ := w
    have hw := (CW_RLb b0 cw).1
    obtain ⟨v, s58, q⟩ := c58 (L := L) (xs := xs) hw nd so uc hk lm
    rcases q with ⟨r, p, -⟩ | ⟨e, -⟩
    · exfalso
      have := p.2.1.1
      rw [none' r] at this
      cases this
    · subst e
      exact v57_8 hw hz2 ⟨fun _ => ⟨rfl, cw, eB, et, em⟩, fun _ => ⟨_, s58, none, c2m (CW_RLb b0 cw), fun _ => ⟨rfl, cw, eB, et, em⟩, fun _ z => (by cases z)⟩⟩
  | c + 1, h, l, dn, tp, mc, s, i, n, tp', mc', s', z6, z7, hi, w, uc, inv, lm, cw, nd, eB, et, em => by
    have hk : k ≤ 8 := by have := b0.2.1; omega
    obtain ⟨r, p, w⟩ := w
    have b := CW_RLb b0 cw
    have eR := CW_RC cw
    have hw := b.1
    have hr := p.1
    have hd := (lft_t.mp p.2.1.1).2
    obtain ⟨v, s58, q⟩ := c58 (L := L) (xs := xs) hw nd so uc hk lm
    have ev : v = nI r := by
      rcases q with ⟨r', p', e⟩ | ⟨-, e⟩
      · rw [e, pickP_u p' p]
      · exact absurd p.2.1 (e r)
    subst ev
    have gb' : GB k (RC h) := by rw [eR]; exact gb
    obtain ⟨h', s59, ⟨k5, v5, k9, v9, eh⟩, t59⟩ := c59 (L := L) (xs := xs) (r := r) (tp := tp) (dn := dn) (n := n) b gb' hr hB hB2 eB (by rw [eR]; exact inv) et
    rw [eR] at s59 t59
    have cw' : CW h0 h' := by rw [eh]; exact CW_sL (Or.inr rfl) (CW_sL (Or.inr rfl) cw)
    have gI' : gI h' = gI h := by rw [eh]; rfl
    have o393 : gL h' 393 3 = lN B := by rw [eh, gLp (by decide), gLp (by decide)]; exact eB
    refine v57_8 hw hz2 ⟨fun q => absurd q (nI_ge (show i < 8 by omega) (by decide)), fun _ => ⟨_, s58, _, c2r b hr, fun z => (by cases z), fun q8 z => ?_⟩⟩
    injection z with z
    subst z
    refine ⟨_, h', s59, r, rfl, by omega, ?_⟩
    have ea : nI s + gI (sI h' 394 r (nI (mcN (RC h0) tp B r))) 394 r = nI (s + mcN (RC h0) tp B r) := by
      rw [gIs, up_s, nI_add]
    rw [ea, nI_1]
    refine c57l b0 gb so hB hB2 hz2 c _ _ (upb dn r) (tpN (RC h0) tp r) (upN mc r (mcN (RC h0) tp B r)) _ (i + 1) (n + 1) tp' mc' s' _ _ (by omega) w (UC_up so uc p) (INV_step gb hr hd inv) (fun t ht => ?_) (CW_sI (Or.inl rfl) cw') ?_ o393 t59 (fun t ht => ?_)
    · rw [b_less (by omega) (by omega), lm t ht]
      by_cases y : t = r
      · rw [y, (lft_up S dn r).1, decide_eq_true rfl]
        cases lft S dn r <;> rfl
      · rw [(lft_up S dn r).2 t y, decide_eq_false y]
        cases lft S dn t <;> rfl
    · intro t ht o ho
      rw [gIo (by decide), gI']
      exact nd t ht o ho
    · rw [gIs, up_a, gI']
      unfold upN
      by_cases y : t = r
      · rw [if_pos y, if_pos y]
      · rw [if_neg y, if_neg y]; exact em t ht
end PN
