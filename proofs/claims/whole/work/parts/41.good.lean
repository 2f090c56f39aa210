/-! Good rows stay good. -/
def rn (r : Row) (j : Nat) : Nat := (r j).toNatClampNeg
def GB (k : Nat) (R : Nat → Row) : Prop := ∀ a, a < k → (∀ j, j < 8 → R a j = nI (rn (R a) j)) ∧ 1 ≤ rn (R a) 0 ∧ rn (R a) 0 < 21 ∧ 1 ≤ rn (R a) 1 ∧ rn (R a) 1 ≤ 4 ∧ 1 ≤ rn (R a) 2 ∧ rn (R a) 2 ≤ 60 ∧ rn (R a) 3 ≤ 100 ∧ 1 ≤ rn (R a) 4 ∧ rn (R a) 4 < 21 ∧ 1 ≤ rn (R a) 5 ∧ rn (R a) 5 ≤ 4 ∧ rn (R a) 6 < 21 ∧ rn (R a) 7 ≤ 4 ∧ ¬ rn (R a) 4 = rn (R a) 0 ∧ ¬ rn (R a) 6 = rn (R a) 0 ∧ ¬ rn (R a) 4 = rn (R a) 6 ∧ (rn (R a) 6 = 0 → rn (R a) 7 = 0) ∧ (¬ rn (R a) 6 = 0 → 1 ≤ rn (R a) 7)
def GM (r x : Row) : Prop := ∃ s1 s2 m w : Nat, x 7 = nI s1 ∧ s1 ≤ 2 * rn r 5 ∧ x 8 = nI s2 ∧ s2 ≤ 2 * rn r 7 ∧ x 9 = nI m ∧ m ≤ 2 * rn r 1 ∧ x 10 = nI w ∧ w < rn r 2 ∧ (x 11 = 0 ∨ (x 11 = 1 ∧ m ≤ rn r 1))
def GR (k : Nat) (R : Nat → Row) (x : Row) : Prop :=
  (∃ d, d < 8 ∧ x 0 = nI d) ∧ (x 0 = 0 → ∀ j, j < 16 → ¬ j = 4 → x j = 0) ∧ (¬ x 0 = 0 → ¬ x 0 = 4 → ∃ s, s < 4 ∧ x 1 = nI s) ∧ (∃ i, i < 21 ∧ x 5 = nI i) ∧ (x 0 = 6 ∨ x 0 = 7 → x 5 = 0) ∧ (∃ t, t < 4 ∧ x 12 = nI t) ∧ (∃ g, g < 4 ∧ x 13 = nI g) ∧
  (x 0 = 5 → ∃ i p c, 1 ≤ i ∧ i < 21 ∧ x 2 = nI i ∧ p ≤ 60 ∧ x 3 = nI p ∧ c < p ∧ x 6 = nI c) ∧ (¬ x 0 = 5 → x 6 = 0) ∧ (¬ x 0 = 6 → x 7 = 0 ∧ x 8 = 0 ∧ x 9 = 0 ∧ x 10 = 0 ∧ x 11 = 0) ∧ (x 0 = 6 → ∃ a, a < k ∧ x 2 = nI a ∧ GM (R a) x)
section GO
variable {R : Nat → Row} {x y : Row} {k : Nat}
theorem GR_mk (h : GR k R x) (nz : ¬ x 0 = 0) (e : ∀ j, j < 4 → y j = x j) (h5 : ∃ i, i < 21 ∧ y 5 = nI i) (h67 : x 0 = 6 ∨ x 0 = 7 → y 5 = 0) (h12 : ∃ t, t < 4 ∧ y 12 = nI t) (h13 : ∃ g, g < 4 ∧ y 13 = nI g) (hs : ∀ p c : Nat, x 0 = 5 → p ≤ 60 → x 3 = nI p → c < p → x 6 = nI c → ∃ c', c' < p ∧ y 6 = nI c') (hs' : ¬ x 0 = 5 → y 6 = 0) (hm' : ¬ x 0 = 6 → y 7 = x 7 ∧ y 8 = x 8 ∧ y 9 = x 9 ∧ y 10 = x 10 ∧ y 11 = x 11) (hm : ∀ a, a < k → x 2 = nI a → x 0 = 6 → GM (R a) x → GM (R a) y) : GR k R y := by
  obtain ⟨g1, g2, g3, g4, g5, g6, g7, g8, g9, g10, g11⟩ := h
  have e0 := e 0 (by decide)
  have e1 := e 1 (by decide)
  have e2 := e 2 (by decide)
  have e3 := e 3 (by decide)
  refine ⟨by rw [e0]; exact g1, fun z => absurd (e0 ▸ z) nz, by rw [e0, e1]; exact g3, h5, by rw [e0]; exact h67, h12, h13, fun z => ?_, by rw [e0]; exact hs', fun z => ?_, fun z => ?_⟩
  · rw [e0] at z
    obtain ⟨i, p, c, q1, q2, q3, q4, q5, q6, q7⟩ := g8 z
    obtain ⟨c', r1, r2⟩ := hs p c z q4 q5 q6 q7
    exact ⟨i, p, c', q1, q2, e2 ▸ q3, q4, e3 ▸ q5, r1, r2⟩
  · rw [e0] at z
    obtain ⟨a1, a2, a3, a4, a5⟩ := hm' z
    obtain ⟨b1, b2, b3, b4, b5⟩ := g10 z
    exact ⟨a1.trans b1, a2.trans b2, a3.trans b3, a4.trans b4, a5.trans b5⟩
  · rw [e0] at z
    obtain ⟨a, q1, q2, q3⟩ := g11 z
    exact ⟨a, q1, e2 ▸ q2, hm a q1 q2 z q3⟩
theorem nlt {a b : Nat} (ha : a < 2147483648) (hb : b < 2147483648) : (nI a < nI b) ↔ a < b := nI_ltI (by omega) (by omega)
theorem GM_beg {r : Row} (hr : ∀ j, j < 8 → r j = nI (rn r j)) (h1 : rn r 1 ≤ 4) (h2 : rn r 2 ≤ 60) (h5 : rn r 5 ≤ 4) (h7 : rn r 7 ≤ 4) (h : GM r x) (hz : x 11 = 0) : GM r (begW r x) := by
  obtain ⟨s1, s2, m, w, e7, b7, e8, b8, e9, b9, e10, b10, hw⟩ := h
  unfold begW
  rw [hr 1 (by decide), hr 5 (by decide), hr 7 (by decide), e9, e7, e8]
  by_cases c1 : nI (rn r 1) < nI m
  · rw [if_pos c1]; exact ⟨s1, s2, m, w, e7, b7, e8, b8, e9, b9, e10, b10, hw⟩
  · rw [if_neg c1]
    by_cases c2 : nI s1 < nI (rn r 5)
    · rw [if_pos c2]; exact ⟨s1, s2, m, w, e7, b7, e8, b8, e9, b9, e10, b10, hw⟩
    · rw [if_neg c2]
      by_cases c3 : nI s2 < nI (rn r 7)
      · rw [if_pos c3]; exact ⟨s1, s2, m, w, e7, b7, e8, b8, e9, b9, e10, b10, hw⟩
      · rw [if_neg c3]
        rw [nlt (by omega) (by omega)] at c1 c2 c3
        refine ⟨s1 - rn r 5, s2 - rn r 7, m, 0, ?_, by omega, ?_, by omega, ?_, b9, rfl, by omega, Or.inr ⟨rfl, by omega⟩⟩
        · rw [up_o (by decide), up_o (by decide), up_o (by decide), up_s, pk_sub (by omega)]
        · rw [up_o (by decide), up_o (by decide), up_s, pk_sub (by omega)]
        · rw [up_o (by decide), up_o (by decide), up_o (by decide), up_o (by decide)]; exact e9
theorem GM_run {r : Row} (hr : ∀ j, j < 8 → r j = nI (rn r j)) (h1 : rn r 1 ≤ 4) (h2 : rn r 2 ≤ 60) (h2' : 1 ≤ rn r 2) (h : GM r x) (hz : ¬ x 11 = 0) : GM r (runW r x) := by
  obtain ⟨s1, s2, m, w, e7, b7, e8, b8, e9, b9, e10, b10, hw⟩ := h
  obtain ⟨w1, w2⟩ := hw.resolve_left hz
  unfold runW
  rw [hr 2 (by decide), e10, nI_1, hr 1 (by decide), e9]
  by_cases c1 : nI (w + 1) < nI (rn r 2)
  · rw [if_pos c1]
    rw [nlt (by omega) (by omega)] at c1
    exact ⟨s1, s2, m, w + 1, e7, b7, e8, b8, e9, b9, rfl, c1, Or.inr ⟨w1, w2⟩⟩
  · rw [if_neg c1]
    refine ⟨s1, s2, m + rn r 1, 0, e7, b7, e8, b8, ?_, by omega, rfl, by omega, Or.inl rfl⟩
    rw [up_o (by decide), up_o (by decide), up_o (by decide), up_s, nI_add]
theorem runW_o {r : Row} {j : Nat} (h : ¬ j = 9 ∧ ¬ j = 10 ∧ ¬ j = 11 ∧ ¬ j = 16) : runW r x j = x j := by
  unfold runW
  split
  · rw [up_o h.2.1]
  · rw [up_o h.2.2.2, up_o h.2.1, up_o h.2.2.1, up_o h.1]
theorem begW_o {r : Row} {j : Nat} (h : ¬ j = 7 ∧ ¬ j = 8 ∧ ¬ j = 10 ∧ ¬ j = 11) : begW r x j = x j := by
  unfold begW
  (repeat' split) <;> first | rfl | skip
  rw [up_o h.2.2.1, up_o h.2.2.2, up_o h.2.1, up_o h.1]
theorem prpM_o {r : Row} {j : Nat} (h : j < 7 ∨ 12 ≤ j ∧ j < 16) : prpM r x j = x j := by
  have hb : ∀ y : Row, begW r y j = y j := fun y => begW_o (by omega)
  have hr : runW r x j = x j := runW_o (by omega)
  unfold prpM
  split
  · exact hb x
  · split
    · rw [hb, hr]
    · exact hr
theorem GR_prp (hB : GB k R) (hk : k < 9) (h : GR k R x) : GR k R (prp R x) := by
  unfold prp
  by_cases k5 : x 0 = 5
  · rw [if_pos k5]
    split
    · have nz : ¬ x 0 = 0 := by rw [k5]; decide
      have n6 : ¬ x 0 = 6 := by rw [k5]; decide
      obtain ⟨i, p, c, q1, q2, q3, q4, q5, q6, q7⟩ := h.2.2.2.2.2.2.2.1 k5
      unfold prpS
      rw [q7, nI_1, q5]
      by_cases c1 : nI (c + 1) < nI p
      · rw [if_pos c1]
        rw [nlt (by omega) (by omega)] at c1
        refine GR_mk h nz (fun j hj => up_o (by omega)) h.2.2.2.1 (fun z => h.2.2.2.2.1 z) h.2.2.2.2.2.1 h.2.2.2.2.2.2.1 (fun p' c' _ z1 z2 z3 z4 => ?_) (fun z => absurd k5 z) (fun _ => ⟨rfl, rfl, rfl, rfl, rfl⟩) (fun a _ _ z => absurd z n6)
        have : p' = p := nI_inj (by omega) (by omega) (z2.symm.trans q5)
        subst this
        exact ⟨c + 1, c1, rfl⟩
      · rw [if_neg c1]
        refine GR_mk h nz (fun j hj => by rw [up_o (by omega), up_o (by omega)]) ⟨i, q2, ?_⟩ (fun z => ?_) h.2.2.2.2.2.1 h.2.2.2.2.2.2.1 (fun p' c' _ z1 z2 z3 z4 => ⟨0, by omega, rfl⟩) (fun z => absurd k5 z) (fun _ => ⟨rfl, rfl, rfl, rfl, rfl⟩) (fun a _ _ z => absurd z n6)
        · rw [up_o (by decide), up_s]; exact q3
        · rcases z with z | z <;> exact absurd (k5.symm.trans z) (by decide)
    · exact h
  · rw [if_neg k5]
    by_cases k6 : x 0 = 6
    · rw [if_pos k6]
      have nz : ¬ x 0 = 0 := by rw [k6]; decide
      obtain ⟨a, ha, ea, hm⟩ := h.2.2.2.2.2.2.2.2.2.2 k6
      have er : rc R x = R a := by unfold rc; rw [ea, nI_c (by omega)]
      rw [er]
      obtain ⟨hr, b1, b2, b3, b4, b5, b6, b7, b8, b9, b10, b11, b12, b13, -⟩ := hB a ha
      have o : ∀ j, (j < 7 ∨ 12 ≤ j ∧ j < 16) → prpM (R a) x j = x j := fun j hj => prpM_o hj
      refine GR_mk h nz (fun j hj => o j (by omega)) (by rw [o 5 (by omega)]; exact h.2.2.2.1) (fun z => by rw [o 5 (by omega)]; exact h.2.2.2.2.1 z) (by rw [o 12 (by omega)]; exact h.2.2.2.2.2.1) (by rw [o 13 (by omega)]; exact h.2.2.2.2.2.2.1) (fun _ _ z => absurd z k5) (fun z => by rw [o 6 (by omega)]; exact h.2.2.2.2.2.2.2.2.1 z) (fun z => absurd k6 z) (fun a' ha' ea' _ hm' => ?_)
      have : a' = a := nI_inj (by omega) (by omega) (ea'.symm.trans ea)
      subst this
      unfold prpM
      by_cases z : x 11 = 0
      · rw [if_pos z]
        exact GM_beg hr b4 b6 b11 b13 hm' z
      · rw [if_neg z]
        have g := GM_run hr b4 b6 b5 hm' z
        by_cases z2 : runW (R a') x 11 = 0
        · rw [if_pos z2]
          exact GM_beg hr b4 b6 b11 b13 g z2
        · rw [if_neg z2]
          exact g
    · rw [if_neg k6]
      exact h
theorem giv_o {s : Int32} {j : Nat} (h : ¬ j = 5 ∧ ¬ j = 9 ∧ ¬ j = 13 ∧ ¬ j = 15) : giv x s j = x j := by
  unfold giv
  rw [up_o h.2.2.2]
  split
  · rw [up_o h.2.2.1]
    split
    · rw [up_o h.2.1]
    · rw [up_o h.1]
  · split
    · rw [up_o h.2.1]
    · rw [up_o h.1]
theorem rcv_o {i s : Int32} {j : Nat} (h : ¬ j = 5 ∧ ¬ j = 7 ∧ ¬ j = 8 ∧ ¬ j = 12 ∧ ¬ j = 14) : rcv R x i s j = x j := by
  unfold rcv
  rw [up_o h.2.2.2.2, up_o h.2.2.2.1]
  split
  · split
    · rw [up_o h.2.1]
    · rw [up_o h.2.2.1]
  · split
    · rfl
    · rw [up_o h.1]
theorem giv_6 {s : Int32} (k6 : x 0 = 6) : giv x s = up (up x 9 (x 9 - 1)) 15 (x 15 + 1) := by
  rw [giv, if_neg (by rw [k6]; decide), if_pos k6]
theorem GR_giv (hB : GB k R) (h : GR k R x) (hz : ¬ ofd R x = 0) (nz : ¬ x 0 = 0) {s : Nat} (hs : s < 4) : GR k R (giv x (nI s)) := by
  have o : ∀ j, (¬ j = 5 ∧ ¬ j = 9 ∧ ¬ j = 13 ∧ ¬ j = 15) → giv x (nI s) j = x j := fun j hj => giv_o hj
  by_cases k6 : x 0 = 6
  · have e := giv_6 (s := nI s) k6
    have o2 : ∀ j, (¬ j = 9 ∧ ¬ j = 15) → giv x (nI s) j = x j := fun j hj => by rw [e, up_o hj.2, up_o hj.1]
    refine GR_mk h nz (fun j hj => o2 j (by omega)) (by rw [o2 5 (by omega)]; exact h.2.2.2.1) (fun z => by rw [o2 5 (by omega)]; exact h.2.2.2.2.1 z) (by rw [o2 12 (by omega)]; exact h.2.2.2.2.2.1) (by rw [o2 13 (by omega)]; exact h.2.2.2.2.2.2.1) (fun _ _ z => absurd (k6.symm.trans z) (by decide)) (fun z => by rw [o2 6 (by omega)]; exact h.2.2.2.2.2.2.2.2.1 z) (fun z => absurd k6 z) (fun a ha ea _ hm => ?_)
    obtain ⟨s1, s2, m, w, e7, b7, e8, b8, e9, b9, e10, b10, hw⟩ := hm
    have hB1 := hB a ha
    have m1 : 1 ≤ m := by
      apply Decidable.byContradiction
      intro q
      have : m = 0 := by omega
      subst this
      rw [ofd_6 k6, e9, if_pos (by decide)] at hz
      exact hz rfl
    refine ⟨s1, s2, m - 1, w, by rw [o2 7 (by omega)]; exact e7, b7, by rw [o2 8 (by omega)]; exact e8, b8, ?_, by omega, by rw [o2 10 (by omega)]; exact e10, b10, ?_⟩
    · rw [e, up_o (by decide), up_s, e9]
      exact pk_sub m1
    · rw [o2 11 (by omega)]
      exact hw.imp id (fun q => ⟨q.1, by omega⟩)
  · have e5 : giv x (nI s) 5 = 0 := by
      unfold giv
      rw [up_o (by decide), if_neg k6]
      split
      · rw [up_o (by decide), up_s]
      · rw [up_s]
    have e9 : giv x (nI s) 9 = x 9 := by
      unfold giv
      rw [up_o (by decide), if_neg k6]
      split
      · rw [up_o (by decide), up_o (by decide)]
      · rw [up_o (by decide)]
    have e13 : ∃ g, g < 4 ∧ giv x (nI s) 13 = nI g := by
      unfold giv
      rw [up_o (by decide), if_neg k6]
      split
      · exact ⟨s, hs, by rw [up_s]⟩
      · rw [up_o (by decide)]; exact h.2.2.2.2.2.2.1
    refine GR_mk h nz (fun j hj => o j (by omega)) ⟨0, by decide, e5⟩ (fun _ => e5) (by rw [o 12 (by omega)]; exact h.2.2.2.2.2.1) e13 (fun p c _ _ _ z3 z4 => ⟨c, z3, by rw [o 6 (by omega)]; exact z4⟩) (fun z => by rw [o 6 (by omega)]; exact h.2.2.2.2.2.2.2.2.1 z) (fun _ => ⟨o 7 (by omega), o 8 (by omega), e9, o 10 (by omega), o 11 (by omega)⟩) (fun a _ _ z => absurd z k6)
/-- room for what comes -/
def CPy (R : Nat → Row) (x : Row) (i : Int32) : Prop := x 0 = 6 → (i = rc R x 4 ∧ ¬ 2 * rc R x 5 ≤ x 7) ∨ (¬ i = rc R x 4 ∧ ¬ 2 * rc R x 7 ≤ x 8)
theorem GR_rcv (hB : GB k R) (hk : k < 9) (h : GR k R x) (nz : ¬ x 0 = 0) {ii s : Nat} (hi : ii < 21) (hs : s < 4) (hc : CPy R x (nI ii)) : GR k R (rcv R x (nI ii) (nI s)) := by
  have o : ∀ j, (¬ j = 5 ∧ ¬ j = 7 ∧ ¬ j = 8 ∧ ¬ j = 12 ∧ ¬ j = 14) → rcv R x (nI ii) (nI s) j = x j := fun j hj => rcv_o hj
  have e12 : rcv R x (nI ii) (nI s) 12 = nI s := by
    unfold rcv
    rw [up_o (by decide), up_s]
  by_cases k6 : x 0 = 6
  · have e5 : rcv R x (nI ii) (nI s) 5 = x 5 := by
      unfold rcv
      rw [up_o (by decide), up_o (by decide), if_pos k6]
      split <;> rw [up_o (by decide)]
    refine GR_mk h nz (fun j hj => o j (by omega)) (by rw [e5]; exact h.2.2.2.1) (fun z => by rw [e5]; exact h.2.2.2.2.1 z) ⟨s, hs, e12⟩ (by rw [o 13 (by omega)]; exact h.2.2.2.2.2.2.1) (fun _ _ z => absurd (k6.symm.trans z) (by decide)) (fun z => by rw [o 6 (by omega)]; exact h.2.2.2.2.2.2.2.2.1 z) (fun z => absurd k6 z) (fun a ha ea _ hm => ?_)
    have er : rc R x = R a := by unfold rc; rw [ea, nI_c (by omega)]
    have hc := hc k6
    rw [er] at hc
    obtain ⟨hr, b1, b2, b3, b4, b5, b6, b7, b8, b9, b10, b11, b12, b13, -⟩ := hB a ha
    obtain ⟨s1, s2, m, w, e7, c7, e8, c8, e9, c9, e10, c10, hw⟩ := hm
    have l2 : ∀ z u : Nat, z ≤ 4 → u ≤ 8 → (2 * nI z ≤ nI u ↔ 2 * z ≤ u) := by
      intro z u hz hu
      rw [ix4]
      exact nIlt (by omega) (by omega)
    rcases hc with ⟨q, hq⟩ | ⟨q, hq⟩
    · rw [hr 5 (by decide), e7, l2 _ _ b11 (by omega)] at hq
      have f7 : rcv R x (nI ii) (nI s) 7 = nI (s1 + 1) := by
        unfold rcv
        rw [up_o (by decide), up_o (by decide), if_pos k6, er, if_pos q, up_s, e7, nI_1]
      have f8 : rcv R x (nI ii) (nI s) 8 = nI s2 := by
        unfold rcv
        rw [up_o (by decide), up_o (by decide), if_pos k6, er, if_pos q, up_o (by decide), e8]
      exact ⟨s1 + 1, s2, m, w, f7, by omega, f8, c8, by rw [o 9 (by omega)]; exact e9, c9, by rw [o 10 (by omega)]; exact e10, c10, by rw [o 11 (by omega)]; exact hw⟩
    · rw [hr 7 (by decide), e8, l2 _ _ b13 (by omega)] at hq
      have f7 : rcv R x (nI ii) (nI s) 7 = nI s1 := by
        unfold rcv
        rw [up_o (by decide), up_o (by decide), if_pos k6, er, if_neg q, up_o (by decide), e7]
      have f8 : rcv R x (nI ii) (nI s) 8 = nI (s2 + 1) := by
        unfold rcv
        rw [up_o (by decide), up_o (by decide), if_pos k6, er, if_neg q, up_s, e8, nI_1]
      exact ⟨s1, s2 + 1, m, w, f7, c7, f8, by omega, by rw [o 9 (by omega)]; exact e9, c9, by rw [o 10 (by omega)]; exact e10, c10, by rw [o 11 (by omega)]; exact hw⟩
  · have f : ∀ j, ¬ j = 5 → ¬ j = 12 → ¬ j = 14 → rcv R x (nI ii) (nI s) j = x j := by
      intro j h5 h12 h14
      unfold rcv
      rw [up_o h14, up_o h12, if_neg k6]
      split
      · rfl
      · rw [up_o h5]
    have f5 : rcv R x (nI ii) (nI s) 5 = if x 0 = 7 then x 5 else nI ii := by
      unfold rcv
      rw [up_o (by decide), up_o (by decide), if_neg k6]
      split
      · rfl
      · rw [up_s]
    refine GR_mk h nz (fun j hj => f j (by omega) (by omega) (by omega)) ?_ (fun z => ?_) ⟨s, hs, e12⟩ (by rw [o 13 (by omega)]; exact h.2.2.2.2.2.2.1) (fun p c _ _ _ z3 z4 => ⟨c, z3, by rw [o 6 (by omega)]; exact z4⟩) (fun z => by rw [o 6 (by omega)]; exact h.2.2.2.2.2.2.2.2.1 z) (fun _ => ⟨f 7 (by decide) (by decide) (by decide), f 8 (by decide) (by decide) (by decide), f 9 (by decide) (by decide) (by decide), f 10 (by decide) (by decide) (by decide), f 11 (by decide) (by decide) (by decide)⟩) (fun a _ _ z => absurd z k6)
    · rw [f5]
      split
      · exact h.2.2.2.1
      · exact ⟨ii, hi, rfl⟩
    · rw [f5, if_pos (z.resolve_left k6)]
      exact h.2.2.2.2.1 z
theorem GR_PG (hB : GB k R) (hk : k < 9) (h : GR k R x) : PG R x := by
  refine ⟨fun z => h.2.1 z 5 (by decide) (by decide), fun z => h.2.2.2.2.1 (Or.inr z), h.2.2.1, h.2.2.2.2.2.1, h.2.2.2.2.2.2.1, ?_⟩
  by_cases k6 : x 0 = 6
  · obtain ⟨a, ha, ea, hm⟩ := h.2.2.2.2.2.2.2.2.2.2 k6
    have er : rc R x = R a := by unfold rc; rw [ea, nI_c (by omega)]
    rw [ofd_6 k6, er]
    obtain ⟨hr, b1, b2, -⟩ := hB a ha
    split
    · exact ⟨0, by decide, rfl⟩
    · exact ⟨_, b2, hr 0 (by decide)⟩
  · rw [ofd_n k6]
    exact h.2.2.2.1
theorem GR_PW (hB : GB k R) (hk : k < 9) (h : GR k R x) : PW R x := by
  refine ⟨fun k6 => ?_, fun k5 _ => ?_⟩
  · obtain ⟨a, ha, ea, hm⟩ := h.2.2.2.2.2.2.2.2.2.2 k6
    have er : rc R x = R a := by unfold rc; rw [ea, nI_c (by omega)]
    refine ⟨⟨a, by omega, ea⟩, fun _ => ?_⟩
    obtain ⟨hr, b1, b2, b3, b4, b5, b6, -⟩ := hB a ha
    obtain ⟨s1, s2, m, w, e7, c7, e8, c8, e9, c9, e10, c10, hw⟩ := hm
    rw [er, e10, nI_1, hr 2 (by decide), nlt (by omega) (by omega)]
    by_cases q : w + 1 = rn (R a) 2
    · right; rw [q]
    · left; omega
  · obtain ⟨i, p, c, q1, q2, q3, q4, q5, q6, q7⟩ := h.2.2.2.2.2.2.2.1 k5
    rw [q7, nI_1, q5, nlt (by omega) (by omega)]
    by_cases q : c + 1 = p
    · right; rw [q]
    · left; omega
end GO
section GS
variable {R T : Nat → Row} {k : Nat}
theorem CPy_giv {x : Row} {i s : Int32} (h : CPy R x i) : CPy R (giv x s) i := by
  intro z
  rw [(giv_0 x s).1] at z
  have e : rc R (giv x s) = rc R x := by
    unfold rc
    rw [(giv_0 x s).2.1]
  rw [e, giv_o (by decide), giv_o (by decide)]
  exact h z
theorem GR_mv (hB : GB k R) (hk : k < 9) (hG : ∀ c, c < 144 → GR k R (T c)) (a b : Nat) {c : Nat} (hc : c < 144) : GR k R (mv R T a b c) := by
  have hP : ∀ c, c < 144 → PG R (T c) := fun c hc => GR_PG hB hk (hG c hc)
  have hg : GR k R (mvG R T a c) := by
    unfold mvG
    split
    · exact hG c hc
    · rename_i v hv
      obtain ⟨-, -, z0, z1, z2, -⟩ := bd_s hc (hP c hc) hv
      split
      · exact GR_giv hB (hG c hc) z1 z0 (Nat.mod_lt _ (by decide))
      · exact hG c hc
  unfold mv
  split
  · split
    · exact hg
    · rename_i v hv
      obtain ⟨v1, v2⟩ := win_s _ _ _ hv
      obtain ⟨-, -, -, z1, z2, hk3⟩ := bd_s v1 (hP _ v1) v2
      obtain ⟨ii, hii, eii⟩ := (hP _ v1).2.2.2.2.2
      have z2 : v.2.1 < 4 := z2
      rw [eii]
      have nz : ¬ mvG R T a c 0 = 0 := by
        rw [(mvG_0 a c).1]
        rcases hk3 with ⟨q, -⟩ | ⟨-, -, s, q⟩
        · have q : T c 0 = 3 := q
          rw [q]; decide
        · intro z
          have q : tks R (T c) (ofd R (T v.1)) s = true := q
          unfold tks at q
          rw [if_neg (by rw [z]; decide), if_neg (by rw [z]; decide), decide_eq_false (by rw [z]; decide)] at q
          cases q
      have hcp : CPy R (T c) (nI ii) := by
        intro k6
        rcases hk3 with ⟨q, -⟩ | ⟨-, -, s, q⟩
        · have q : T c 0 = 3 := q
          exact absurd (q.symm.trans k6) (by decide)
        · have q : tks R (T c) (ofd R (T v.1)) s = true := q
          unfold tks at q
          rw [if_neg (by rw [k6]; decide), if_pos k6, Bool.and_eq_true, eii] at q
          have q := q.2
          unfold hsR at q
          split at q
          · cases q
          · split at q
            · rename_i z
              left
              refine ⟨z, ?_⟩
              intro y
              rw [decide_eq_true y] at q
              cases q
            · rename_i z
              split at q
              · right
                refine ⟨z, ?_⟩
                intro y
                rw [decide_eq_true y] at q
                cases q
              · cases q
      refine GR_rcv hB hk hg nz hii z2 ?_
      unfold mvG
      split
      · exact hcp
      · split
        · exact CPy_giv hcp
        · exact hcp
  · exact hg
theorem GR_stp (hB : GB k R) (hk : k < 9) (hG : ∀ c, c < 144 → GR k R (T c)) {c : Nat} (hc : c < 144) : GR k R (stp R T c) := GR_mv hB hk (fun c hc => GR_prp hB hk (hG c hc)) 144 144 hc
end GS
