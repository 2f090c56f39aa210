/-! The class looks for the turn. -/
def cpR (x y : Row) : Row := fun j => if j ≤ 16 ∧ ¬ j = 4 then x j else y j
theorem cpR_eq (x y : Row) : up (up (up (up (up (up (up (up (up (up (up (up (up (up (up (up y 0 (x 0)) 1 (x 1)) 2 (x 2)) 3 (x 3)) 5 (x 5)) 6 (x 6)) 7 (x 7)) 8 (x 8)) 9 (x 9)) 10 (x 10)) 11 (x 11)) 12 (x 12)) 13 (x 13)) 14 (x 14)) 15 (x 15)) 16 (x 16) = cpR x y := by
  funext j
  by_cases e0 : j = 0
  · subst e0; rfl
  by_cases e1 : j = 1
  · subst e1; rfl
  by_cases e2 : j = 2
  · subst e2; rfl
  by_cases e3 : j = 3
  · subst e3; rfl
  by_cases e5 : j = 5
  · subst e5; rfl
  by_cases e6 : j = 6
  · subst e6; rfl
  by_cases e7 : j = 7
  · subst e7; rfl
  by_cases e8 : j = 8
  · subst e8; rfl
  by_cases e9 : j = 9
  · subst e9; rfl
  by_cases e10 : j = 10
  · subst e10; rfl
  by_cases e11 : j = 11
  · subst e11; rfl
  by_cases e12 : j = 12
  · subst e12; rfl
  by_cases e13 : j = 13
  · subst e13; rfl
  by_cases e14 : j = 14
  · subst e14; rfl
  by_cases e15 : j = 15
  · subst e15; rfl
  by_cases e16 : j = 16
  · subst e16; rfl
  have : ¬ (j ≤ 16 ∧ ¬ j = 4) := by omega
  simp only [up_a, cpR, if_neg this, if_neg e0, if_neg e1, if_neg e2, if_neg e3, if_neg e5, if_neg e6, if_neg e7, if_neg e8, if_neg e9, if_neg e10, if_neg e11, if_neg e12, if_neg e13, if_neg e14, if_neg e15, if_neg e16]
theorem wO_sR (h : Hp) (i k p : Nat) (v : Option Nat) (g : Row) : wO (sR h i k v) p g = sR (wO h p g) i k v := rfl
theorem GR_c {k : Nat} {R : Nat → Row} {x y : Row} (e : ∀ j, j < 16 → ¬ j = 4 → y j = x j) (g : GR k R x) : GR k R y := by
  obtain ⟨g1, g2, g3, g4, g5, g6, g7, g8, g9, g10, g11⟩ := g
  have a : ∀ j, j < 16 → ¬ j = 4 → y j = x j := e
  unfold GR GM
  rw [a 0 (by decide) (by decide), a 1 (by decide) (by decide), a 2 (by decide) (by decide), a 3 (by decide) (by decide), a 5 (by decide) (by decide), a 6 (by decide) (by decide), a 7 (by decide) (by decide), a 8 (by decide) (by decide), a 9 (by decide) (by decide), a 10 (by decide) (by decide), a 11 (by decide) (by decide), a 12 (by decide) (by decide), a 13 (by decide) (by decide)]
  exact ⟨g1, fun z j hj h4 => (a j hj h4).trans (g2 z j hj h4), g3, g4, g5, g6, g7, g8, g9, g10, g11⟩
section SK
variable {L : Nat} {xs : Nat → Int32} {h : Hp} {p o k : Nat} {R T : Nat → Row}
theorem c28 (hw : HW h) (hp : PT p) (ho : PT o) (hpo : o ≠ p) (h11 : x_ok01 (gI h o 11) = true) : Sp L xs 28 [.ref p, .ref o] h none (sR (wO h p (cpR (gI h o) (gI h p))) p 4 (gR h o 4)) := by
  refine sp_eq (v28 hw hp ho hpo ⟨fun hr => ⟨h11, rfl, ?_⟩, fun q hr => ⟨h11, rfl, ?_⟩⟩)
  all_goals
    rw [hr]
    simp only [sI_wO, gIsR, wO_sR, wO_wO, gI_wO, cpR_eq]
/-- the parts of floor 4 copied to floor 240 -/
theorem c15l (hw : HW h) (hG : ∀ c, c < 144 → GR k R (gI h (10 + c))) : ∀ (m n : Nat) (h' : Hp), n + m = 144 → HW h' → h'.1 = h.1 → gL h' = gL h → (∀ a, ¬ (246 ≤ a ∧ a < 246 + n) → gI h' a = gI h a ∧ ∀ j, gR h' a j = gR h a j) → (∀ c, c < n → gI h' (246 + c) = cpR (gI h (10 + c)) (gI h (246 + c)) ∧ gR h' (246 + c) 4 = gR h (10 + c) 4) → WP L xs 15 2 [some (.ref 240), some (.ref 4), some (.int (nI n))] [] h' (fun r h1 => r = none ∧ HW h1 ∧ h1.1 = h.1 ∧ gL h1 = gL h ∧ (∀ a, ¬ (246 ≤ a ∧ a < 390) → gI h1 a = gI h a ∧ ∀ j, gR h1 a j = gR h a j) ∧ (∀ c, c < 144 → gI h1 (246 + c) = cpR (gI h (10 + c)) (gI h (246 + c)) ∧ gR h1 (246 + c) 4 = gR h (10 + c) 4))
  | 0, n, h', hn, w', n1, l1, o1, c1 => by
    obtain rfl : n = 144 := by omega
    exact v15_2 w' FL_240 ⟨fun _ => ⟨rfl, w', n1, l1, o1, c1⟩, fun q => absurd (nI_le (Nat.le_refl _) (by decide)) q⟩
  | m + 1, n, h', hn, w', n1, l1, o1, c1 => by
    have hn4 : n < 144 := by omega
    have e10 := o1 (10 + n) (by omega)
    have e246 := o1 (246 + n) (by omega)
    have s28 := c28 (L := L) (xs := xs) w' (PT_240 hn4) (PT_4 hn4) (by omega) (by rw [e10.1]; exact GR_01 (hG n hn4))
    refine v15_2 w' FL_240 ⟨fun q => absurd q (nI_ge hn4 (by decide)), fun _ => ⟨n, rfl, hn4, _, s28, ?_⟩⟩
    rw [nI_1, e10.1, e246.1, e10.2]
    refine c15l hw hG m (n + 1) _ (by omega) (HW_sRp (PT_240 hn4) (HW_wO w')) n1 l1 (fun a ha => ⟨?_, fun j => ?_⟩) (fun c hc => ⟨?_, ?_⟩)
    · rw [gIsR, gI_wOo (by omega)]
      exact (o1 a (by omega)).1
    · rw [gR_osR (by omega)]
      exact (o1 a (by omega)).2 j
    · rw [gIsR]
      by_cases e : c = n
      · subst e; exact gI_wO _ _ _
      · rw [gI_wOo (by omega)]
        exact (c1 c (by omega)).1
    · by_cases e : c = n
      · subst e
        rw [gR_sR, if_pos ⟨rfl, rfl⟩]
      · rw [gR_osR (by omega)]
        exact (c1 c (by omega)).2
theorem c15 (hw : HW h) (hG : ∀ c, c < 144 → GR k R (gI h (10 + c))) : ∃ h1, Sp L xs 15 [.ref 240, .ref 4] h none h1 ∧ HW h1 ∧ h1.1 = h.1 ∧ gL h1 = gL h ∧ (∀ a, ¬ (246 ≤ a ∧ a < 390) → gI h1 a = gI h a ∧ ∀ j, gR h1 a j = gR h a j) ∧ (∀ c, c < 144 → gI h1 (246 + c) = cpR (gI h (10 + c)) (gI h (246 + c)) ∧ gR h1 (246 + c) 4 = gR h (10 + c) 4) := by
  obtain ⟨r, h1, s1, rfl, s2⟩ := v15 (L := L) (xs := xs) hw FL_240 (c15l hw hG 144 0 h rfl hw rfl rfl (fun a _ => ⟨rfl, fun _ => rfl⟩) (fun c hc => absurd hc (Nat.not_lt_zero _)))
  exact ⟨h1, s1, s2⟩
def mkS (A : Nat → Row) : Nat → Int64
  | 0 => 0
  | n + 1 => mkS A n * 1000003 + lN (pkN (A n))
theorem ix6 (t c : Nat) : nI t * 144 + nI c = nI (t * 144 + c) := by
  show nI t * nI 144 + nI c = _
  rw [pk_mul, nI_add]
theorem c6l {A : Nat → Row} {t : Nat} (ht : t < 401) (h0 : Hp) (hw0 : HW h0) (hA : ∀ c, c < 144 → gI h0 (246 + c) = A c ∧ SMx (A c)) : ∀ (m n : Nat) (h : Hp) (z5 z6 : Option Value), n + m = 144 → h.1 = h0.1 → gI h = gI h0 → gR h = gR h0 → (∀ a, ¬ a = 236 → gL h a = gL h0 a) → (∀ i, gL h 236 i = if t * 144 ≤ i ∧ i < t * 144 + n then lN (pkN (A (i - t * 144))) else gL h0 236 i) → WP L xs 6 5 [some (.ref 235), some (.int (nI t)), some (.long (mkS A n)), none, some (.int (nI n)), z5, z6] [] h (fun r h' => r = none ∧ h'.1 = h0.1 ∧ gI h' = gI h0 ∧ gR h' = gR h0 ∧ (∀ a, ¬ a = 236 → ¬ a = 237 → gL h' a = gL h0 a) ∧ (∀ i, gL h' 236 i = if t * 144 ≤ i ∧ i < t * 144 + 144 then lN (pkN (A (i - t * 144))) else gL h0 236 i) ∧ (∀ i, gL h' 237 i = if i = t then mkS A 144 else gL h0 237 i))
  | 0, n, h, z5, z6, hn, n1, i1, r1, l1, e1 => by
    obtain rfl : n = 144 := by omega
    refine v6_5 (HW_of hw0 n1 r1) ⟨fun _ => ⟨t, rfl, ht, rfl, n1, i1, r1, fun a h6 h7 => ?_, fun i => ?_, fun i => ?_⟩, fun q => absurd (nI_le (Nat.le_refl _) (by decide)) q⟩
    · funext i
      rw [gL_osL h7]
      exact congrFun (l1 a h6) i
    · rw [gL_osL (by decide)]
      exact e1 i
    · rw [gL_sL]
      by_cases e : i = t
      · rw [if_pos ⟨rfl, e⟩, if_pos e]
      · rw [if_neg (fun q => e q.2), if_neg e, l1 237 (by decide)]
  | m + 1, n, h, z5, z6, hn, n1, i1, r1, l1, e1 => by
    have hn4 : n < 144 := by omega
    have hw := HW_of hw0 n1 r1
    have ha := hA n hn4
    have s40 := c40 (L := L) (xs := xs) hw (PT_240 hn4) (by rw [i1, ha.1]; exact ha.2)
    refine v6_5 hw ⟨fun q => absurd q (nI_ge hn4 (by decide)), fun _ => ⟨n, rfl, hn4, _, s40, t * 144 + n, ix6 t n, by omega, ?_⟩⟩
    rw [i1, ha.1, nI_1]
    refine c6l ht h0 hw0 hA m (n + 1) _ _ _ (by omega) n1 i1 r1 (fun a h6 => ?_) (fun i => ?_)
    · funext i
      rw [gL_osL h6]
      exact congrFun (l1 a h6) i
    · rw [gL_sL, e1 i]
      by_cases e : i = t * 144 + n
      · rw [if_pos ⟨rfl, e⟩, if_pos (by omega), e, Nat.add_sub_cancel_left]
      · rw [if_neg (fun q => e q.2)]
        have l : (t * 144 ≤ i ∧ i < t * 144 + (n + 1)) = (t * 144 ≤ i ∧ i < t * 144 + n) := propext (by omega)
        simp only [l]
theorem c6 {A : Nat → Row} {t : Nat} (ht : t < 401) (hw : HW h) (hA : ∀ c, c < 144 → gI h (246 + c) = A c ∧ SMx (A c)) : ∃ h', Sp L xs 6 [.ref 235, .int (nI t)] h none h' ∧ h'.1 = h.1 ∧ gI h' = gI h ∧ gR h' = gR h ∧ (∀ a, ¬ a = 236 → ¬ a = 237 → gL h' a = gL h a) ∧ (∀ i, gL h' 236 i = if t * 144 ≤ i ∧ i < t * 144 + 144 then lN (pkN (A (i - t * 144))) else gL h 236 i) ∧ (∀ i, gL h' 237 i = if i = t then mkS A 144 else gL h 237 i) := by
  obtain ⟨r, h', s1, rfl, s2⟩ := v6 (L := L) (xs := xs) hw (c6l ht h hw hA 144 0 h _ _ rfl rfl rfl rfl (fun _ _ => rfl) (fun i => by rw [if_neg (by omega)]))
  exact ⟨h', s1, s2⟩
/-- what lies in states and marks -/
def STM (h : Hp) (A : Nat → Nat → Row) (t : Nat) : Prop := ∀ m, m ≤ t → (∀ c, c < 144 → gL h 236 (m * 144 + c) = lN (pkN (A m c)) ∧ SMx (A m c)) ∧ gL h 237 m = mkS (A m) 144
theorem lN_e {a b : Nat} (ha : a < 2 ^ 63) (hb : b < 2 ^ 63) : lg_cmp (lN a) (lN b) = 0 ↔ a = b := by
  rw [lg_cmp_eq, pk_lEQ ha hb]
theorem c8l {A : Nat → Nat → Row} {t u : Nat} (hu : u < t) (ht : t < 401) (hw : HW h) (S : STM h A t) : ∀ (m n : Nat), n + m = 144 → (∀ c, c < n → pkN (A u c) = pkN (A t c)) → WP L xs 8 2 [some (.ref 235), some (.int (nI u)), some (.int (nI t)), some (.int (nI n))] [] h (fun r h' => h' = h ∧ ∃ B : Bool, r = some (.int (b2i B)) ∧ (B = true ↔ ∀ c, c < 144 → pkN (A u c) = pkN (A t c)))
  | 0, n, hn, e => by
    obtain rfl : n = 144 := by omega
    exact v8_2 hw ⟨fun _ => ⟨rfl, true, rfl, fun _ => e, fun _ => rfl⟩, fun q => absurd (nI_le (Nat.le_refl _) (by decide)) q⟩
  | m + 1, n, hn, e => by
    have hn4 : n < 144 := by omega
    have a1 := (S u (by omega)).1 n hn4
    have a2 := (S t (Nat.le_refl _)).1 n hn4
    have l1 := (pkN_b a1.2).2.2.2.2.2.2.2
    have l2 := (pkN_b a2.2).2.2.2.2.2.2.2
    refine v8_2 hw ⟨fun q => absurd q (nI_ge hn4 (by decide)), fun _ => ⟨u * 144 + n, ix6 u n, by omega, t * 144 + n, ix6 t n, by omega, fun q => ?_, fun q => ⟨rfl, false, rfl, fun z => (by cases z), fun z => absurd ?_ q⟩⟩⟩
    · rw [a1.1, a2.1, lN_e (by omega) (by omega)] at q
      rw [nI_1]
      refine c8l hu ht hw S m (n + 1) (by omega) (fun c hc => ?_)
      by_cases e2 : c = n
      · subst e2; exact q
      · exact e c (by omega)
    · rw [a1.1, a2.1, lN_e (by omega) (by omega)]
      exact z n hn4
theorem mkS_e {A B : Nat → Row} : ∀ n, (∀ c, c < n → pkN (A c) = pkN (B c)) → mkS A n = mkS B n
  | 0, _ => rfl
  | n + 1, e => by
    unfold mkS
    rw [mkS_e n (fun c hc => e c (by omega)), e n (by omega)]
theorem c7l {A : Nat → Nat → Row} {t : Nat} (ht : t < 401) (hw : HW h) (S : STM h A t) : ∀ (m n : Nat), n + m = t → (∀ u, u < n → ¬ EQS (A u) (A t)) → WP L xs 7 2 [some (.ref 235), some (.int (nI t)), some (.int (nI n))] [] h (fun r h' => h' = h ∧ ((r = some (.int (-1)) ∧ ∀ u, u < t → ¬ EQS (A u) (A t)) ∨ ∃ u, u < t ∧ r = some (.int (nI u)) ∧ EQS (A u) (A t)))
  | 0, n, hn, e => by
    obtain rfl : n = t := by omega
    exact v7_2 hw ⟨fun _ => ⟨rfl, Or.inl ⟨rfl, e⟩⟩, fun q => absurd (nI_le (Nat.le_refl _) (by omega)) q⟩
  | m + 1, n, hn, e => by
    have hn4 : n < t := by omega
    have nxt : ¬ EQS (A n) (A t) → WP L xs 7 2 [some (.ref 235), some (.int (nI t)), some (.int (nI n + 1))] [] h (fun r h' => h' = h ∧ ((r = some (.int (-1)) ∧ ∀ u, u < t → ¬ EQS (A u) (A t)) ∨ ∃ u, u < t ∧ r = some (.int (nI u)) ∧ EQS (A u) (A t))) := by
      intro q
      rw [nI_1]
      refine c7l ht hw S m (n + 1) (by omega) (fun u hu => ?_)
      by_cases e2 : u = n
      · subst e2; exact q
      · exact e u (by omega)
    have sm : EQS (A n) (A t) ↔ ∀ c, c < 144 → pkN (A n c) = pkN (A t c) := by
      constructor
      · intro q c hc
        exact pkN_eq (q c hc)
      · intro q c hc j h5 h14
        exact pkN_inj ((S n (by omega)).1 c hc).2 ((S t (Nat.le_refl _)).1 c hc).2 (q c hc) j h5 h14
    obtain ⟨r, h', s1, rfl, B, rfl, hB⟩ := v8 (L := L) (xs := xs) (x := nI n) (y := nI t) hw (c8l hn4 ht hw S 144 0 rfl (fun c hc => absurd hc (Nat.not_lt_zero _)))
    refine v7_2 hw ⟨fun q => absurd q (nI_ge hn4 (by omega)), fun _ => ⟨n, rfl, by omega, t, rfl, ht, fun q => ⟨_, s1, fun q2 => ?_, fun q2 => ⟨rfl, Or.inr ⟨n, hn4, rfl, ?_⟩⟩⟩, fun q => nxt (fun z => q ?_)⟩⟩
    · rw [b2i_0] at q2
      apply nxt
      intro z
      rw [hB.mpr (sm.mp z)] at q2
      cases q2
    · rw [b2i_n] at q2
      exact sm.mpr (hB.mp q2)
    · rw [(S n (by omega)).2, (S t (Nat.le_refl _)).2, mkS_e 144 (sm.mp z)]
      exact (lg_cmp_eq _ _).mpr rfl
theorem c7 {A : Nat → Nat → Row} {t : Nat} (ht : t < 401) (hw : HW h) (S : STM h A t) : ∃ r : Int32, Sp L xs 7 [.ref 235, .int (nI t)] h (some (.int r)) h ∧ ((r = -1 ∧ ∀ u, u < t → ¬ EQS (A u) (A t)) ∨ ∃ u, u < t ∧ r = nI u ∧ EQS (A u) (A t)) := by
  obtain ⟨r, h', s1, rfl, s2⟩ := v7 (L := L) (xs := xs) hw (c7l ht hw S t 0 (by omega) (fun c hc => absurd hc (Nat.not_lt_zero _)))
  rcases s2 with ⟨rfl, s2⟩ | ⟨u, h1, rfl, h2⟩
  · exact ⟨_, s1, Or.inl ⟨rfl, s2⟩⟩
  · exact ⟨_, s1, Or.inr ⟨u, h1, rfl, h2⟩⟩
end SK
