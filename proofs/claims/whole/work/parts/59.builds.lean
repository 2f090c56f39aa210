/-! The call builds. -/
def pX (E : Nat → Int32) (j : Nat) : Int32 := E (5 * j)
def pQ (E : Nat → Int32) (j : Nat) : Q4 := (E (5 * j + 1), E (5 * j + 2), E (5 * j + 3), E (5 * j + 4))
def okr (k : Nat) (E : Nat → Int32) (v : Int32) (j : Nat) : Int32 := resB k (pX E j) (pQ E j).1 (pQ E j).2.1 (pQ E j).2.2.1 (pQ E j).2.2.2 v
def okp (k : Nat) (E : Nat → Int32) (kc : Nat → Int32) (j : Nat) : Prop := okr k E (kc (pX E j).toNatClampNeg) j = 0 ∧ ∀ i, i < j → ¬ pX E i = pX E j
def PPf (E : Nat → Int32) : Nat → Nat → Option Q4
  | 0 => fun _ => none
  | j + 1 => upP (PPf E j) (pX E j).toNatClampNeg (some (pQ E j))
def bk (E : Nat → Int32) (P : Nat → Option Q4) : Nat → Nat → Option Q4
  | 0 => P
  | m + 1 => upP (bk E P m) (pX E m).toNatClampNeg none
theorem dv5 : ∀ n, n < 101 → nI n / 5 = nI (n / 5) ∧ (nI n - nI n / 5 * 5 = 0 ↔ n % 5 = 0) := by decide +kernel
section BS
variable {L : Nat} {xs : Nat → Int32} {h h1 h2 : Hp} {k c s b j N : Nat} {E : Nat → Int32} {kc : Nat → Int32} {P : Nat → Option Q4}
theorem mul5 (j : Nat) : 5 * nI j = nI (5 * j) := by
  show nI 5 * nI _ = _
  rw [pk_mul]
theorem mul5a (j : Nat) (i : Nat) : 5 * nI j + nI i = nI (5 * j + i) := by rw [mul5, nI_add]
theorem PPf_some {q : Q4} : ∀ n, PPf E n c = some q → ∃ j, j < n ∧ q = pQ E j ∧ c = (pX E j).toNatClampNeg
  | 0, e => by cases e
  | n + 1, e => by
    by_cases z : c = (pX E n).toNatClampNeg
    · have : PPf E (n + 1) c = some (pQ E n) := if_pos z
      rw [this] at e
      injection e with e
      exact ⟨n, Nat.lt_succ_self n, e.symm, z⟩
    · have : PPf E (n + 1) c = PPf E n c := if_neg z
      rw [this] at e
      obtain ⟨j, h1, h2⟩ := PPf_some n e
      exact ⟨j, by omega, h2⟩
theorem PPf_none : ∀ n, PPf E n c = none → ∀ j, j < n → ¬ c = (pX E j).toNatClampNeg
  | 0, _, j, hj => absurd hj (Nat.not_lt_zero _)
  | n + 1, e, j, hj => by
    by_cases z : c = (pX E n).toNatClampNeg
    · have : PPf E (n + 1) c = some (pQ E n) := if_pos z
      rw [this] at e
      cases e
    · have : PPf E (n + 1) c = PPf E n c := if_neg z
      rw [this] at e
      rcases Nat.lt_succ_iff_lt_or_eq.mp hj with q | q
      · exact PPf_none n e j q
      · rw [q]; exact z
theorem bk_n {P : Nat → Option Q4} : ∀ m, P c = none ∨ (∃ j, j < m ∧ c = (pX E j).toNatClampNeg) → bk E P m c = none
  | 0, q => q.resolve_right (fun ⟨j, hj, _⟩ => absurd hj (Nat.not_lt_zero j))
  | m + 1, q => by
    by_cases z : c = (pX E m).toNatClampNeg
    · exact if_pos z
    · have : bk E P (m + 1) c = bk E P m c := if_neg z
      rw [this]
      refine bk_n m ?_
      rcases q with q | ⟨j, hj, e⟩
      · exact Or.inl q
      · refine Or.inr ⟨j, ?_, e⟩
        rcases Nat.lt_succ_iff_lt_or_eq.mp hj with y | y
        · exact y
        · rw [y] at e; exact absurd e z
theorem okp_cell (g : okp k E kc j) : ∃ c, c < 144 ∧ pX E j = nI c := isCell_n (resB_0 g.1).1
theorem okp_GP (hk : k < 9) (g : okp k E kc j) : GP k (pQ E j).1 (pQ E j).2.1 (pQ E j).2.2.1 (pQ E j).2.2.2 := by
  obtain ⟨-, e2, e3, -⟩ := resB_0 g.1
  exact (gd_GP hk e2 e3).2
theorem okp_c {kd : Nat → Int32} (e : ∀ c, c < 144 → kc c = kd c) : okp k E kc j ↔ okp k E kd j := by
  unfold okp okr
  rw [resB_c (v := kc (pX E j).toNatClampNeg) (w := kd (pX E j).toNatClampNeg) (fun c hc z => by rw [z, nI_c (by omega)]; exact e c hc)]
theorem c80 (hw : HW h) (hb : SB b) {i : Nat} (hi : i < 100) : Sp L xs 80 [.ref (b + 1), .int (nI i)] h (some (.int (gL h (b + 2) i).toInt32)) h := sp_eq (v80 hw hb ⟨i, rfl, hi, rfl, rfl⟩)
theorem c146 (hw : HW h) (hs : s < 8) {i : Nat} (hi : i < 100) : Sp L xs 146 [.ref 397, .int (nI s), .int (nI i)] h (some (.int (gL h 422 (100 * s + i)).toInt32)) h := by
  have e : 100 * nI s + nI i = nI (100 * s + i) := by
    show nI 100 * nI s + nI i = _
    rw [pk_mul, nI_add]
  exact sp_eq (v146 hw ⟨_, e, by omega, rfl, rfl⟩)
/-- the class's look at one entry -/
theorem c113l (hw : HW h) (hk : k < 9) (e1 : gI h 2 1 = nI k) (e3 : ∀ r, r < k → gR h 3 r = some (444 + r)) (hb : SB b) (hE : ∀ i, i < 100 → E i = (gL h (b + 2) i).toInt32) (hj : j < 20) {z2 : Option Value} : ∀ (m i : Nat), i + m = j → (∀ i', i' < i → ¬ pX E i' = pX E j) → WP L xs 113 14 [some (.ref 0), some (.ref (b + 1)), z2, some (.int (nI (5 * j))), some (.int (pX E j)), some (.int (nI (5 * i)))] [] h (fun r h' => h' = h ∧ ∃ v, r = some (.int v) ∧ (v = 0 ↔ ¬ okp k E (fun c => gI h (10 + c) 0) j))
  | 0, i, hi, hn => by
    obtain rfl : i = j := by omega
    refine v113_14 hw hb ⟨fun _ => ?_, fun q => absurd (nI_le (Nat.le_refl _) (by omega)) q⟩
    have a1 : nI (5 * i) + 1 = nI (5 * i + 1) := nI_1 _
    have a2 : nI (5 * i) + 2 = nI (5 * i + 2) := nI_add _ 2
    have a3 : nI (5 * i) + 3 = nI (5 * i + 3) := nI_add _ 3
    have a4 : nI (5 * i) + 4 = nI (5 * i + 4) := nI_add _ 4
    rw [a1, a2, a3, a4]
    have s112 := c112 (L := L) (xs := xs) (x := pX E i) (kd := (pQ E i).1) (sd := (pQ E i).2.1) (ar := (pQ E i).2.2.1) (pe := (pQ E i).2.2.2) hw hk e1 e3
    have t1 := c80 (L := L) (xs := xs) hw hb (i := 5 * i + 1) (by omega)
    have t2 := c80 (L := L) (xs := xs) hw hb (i := 5 * i + 2) (by omega)
    have t3 := c80 (L := L) (xs := xs) hw hb (i := 5 * i + 3) (by omega)
    have t4 := c80 (L := L) (xs := xs) hw hb (i := 5 * i + 4) (by omega)
    rw [← hE _ (by omega)] at t1 t2 t3 t4
    refine ⟨_, t1, _, t2, _, t3, _, t4, _, s112, rfl, _, rfl, ?_⟩
    rw [b2i_0, iteb, decide_eq_false_iff_not]
    unfold okp okr
    exact ⟨fun q w => q w.1, fun q w => q ⟨w, hn⟩⟩
  | m + 1, i, hi, hn => by
    refine v113_14 hw hb ⟨fun q => absurd q (nI_ge (show 5 * i < 5 * j by omega) (by omega)), fun _ => ?_⟩
    have t := c80 (L := L) (xs := xs) hw hb (i := 5 * i) (by omega)
    rw [← hE _ (by omega)] at t
    refine ⟨_, t, fun q => ⟨rfl, 0, rfl, fun _ w => w.2 i (by omega) q, fun _ => rfl⟩, fun q => ?_⟩
    rw [show nI (5 * i) + 5 = nI (5 * (i + 1)) from nI_add _ 5]
    refine c113l hw hk e1 e3 hb hE hj m (i + 1) (by omega) (fun i' hi' => ?_)
    rcases Nat.lt_succ_iff_lt_or_eq.mp hi' with w | w
    · exact hn i' w
    · rw [w]; exact q
theorem c113 (hw : HW h) (hk : k < 9) (e1 : gI h 2 1 = nI k) (e3 : ∀ r, r < k → gR h 3 r = some (444 + r)) (hb : SB b) (hE : ∀ i, i < 100 → E i = (gL h (b + 2) i).toInt32) (hj : j < 20) : ∃ v, Sp L xs 113 [.ref 0, .ref (b + 1), .int (nI j)] h (some (.int v)) h ∧ (v = 0 ↔ ¬ okp k E (fun c => gI h (10 + c) 0) j) := by
  have t := c80 (L := L) (xs := xs) hw hb (i := 5 * j) (by omega)
  rw [← hE _ (by omega)] at t
  have key := c113l (L := L) (xs := xs) (z2 := some (.int (nI j))) hw hk e1 e3 hb hE hj j 0 (by omega) (fun i' hi' => absurd hi' (Nat.not_lt_zero _))
  obtain ⟨r, h', t1, rfl, v, rfl, t2⟩ := v113 (L := L) (xs := xs) (y := nI j) hw hb (Q := fun r h' => h' = h ∧ ∃ v, r = some (.int v) ∧ (v = 0 ↔ ¬ okp k E (fun c => gI h (10 + c) 0) j)) ⟨E (5 * j), by rw [mul5]; exact t, by rw [mul5]; exact key⟩
  exact ⟨v, t1, t2⟩
/-- the class's placing -/
theorem c86p (b0 : RLb h k) (hb : SB b) (hE : ∀ i, i < 100 → E i = (gL h (b + 2) i).toInt32) (hN : N ≤ 20) (ok : ∀ j, j < N → okp k E kc j) {z1 z2 : Option Value} : ∀ (m j : Nat) (h1 : Hp) (z6 : Option Value), j + m = N → CPL h h1 (PPf E j) → WP L xs 86 86 [some (.ref 0), z1, z2, some (.ref (b + 1)), some (.int (nI N)), some (.int (nI j)), z6] [] h1 (fun r h' => r = some (.int (nI N)) ∧ CPL h h' (PPf E N))
  | 0, j, h1, z6, hj, cc => by
    obtain rfl : j = N := by omega
    exact v86_86 cc.2.1 hb ⟨fun _ => ⟨rfl, cc⟩, fun q => absurd (nI_le (Nat.le_refl _) (by omega)) q⟩
  | m + 1, j, h1, z6, hj, cc => by
    have hw1 := cc.2.1
    refine v86_86 hw1 hb ⟨fun q => absurd q (nI_ge (show j < N by omega) (by omega)), fun _ => ?_⟩
    have o := ok j (by omega)
    obtain ⟨c, hc, ec⟩ := okp_cell o
    have a0 : 5 * nI j = nI (5 * j) := mul5 j
    have a1 : nI (5 * j) + 1 = nI (5 * j + 1) := nI_1 _
    have a2 : nI (5 * j) + 2 = nI (5 * j + 2) := nI_add _ 2
    have a3 : nI (5 * j) + 3 = nI (5 * j + 3) := nI_add _ 3
    have a4 : nI (5 * j) + 4 = nI (5 * j + 4) := nI_add _ 4
    rw [a0, a1, a2, a3, a4]
    have t0 := c80 (L := L) (xs := xs) hw1 hb (i := 5 * j) (by omega)
    have t1 := c80 (L := L) (xs := xs) hw1 hb (i := 5 * j + 1) (by omega)
    have t2 := c80 (L := L) (xs := xs) hw1 hb (i := 5 * j + 2) (by omega)
    have t3 := c80 (L := L) (xs := xs) hw1 hb (i := 5 * j + 3) (by omega)
    have t4 := c80 (L := L) (xs := xs) hw1 hb (i := 5 * j + 4) (by omega)
    rw [cc.2.2.1, ← hE _ (by omega)] at t0 t1 t2 t3 t4
    obtain ⟨h2, s2, c2⟩ := CPL_14 (L := L) (xs := xs) (q := pQ E j) b0 cc hc (okp_GP b0.2.1 o)
    refine ⟨_, t0, _, t1, _, t2, _, t3, _, t4, h2, ?_, ?_⟩
    · have e2 : E (5 * j) = nI c := ec
      rw [e2]
      exact s2
    · rw [nI_1]
      refine c86p b0 hb hE hN ok m (j + 1) h2 _ (by omega) ?_
      have : PPf E (j + 1) = upP (PPf E j) c (some (pQ E j)) := by
        show upP (PPf E j) (pX E j).toNatClampNeg (some (pQ E j)) = _
        rw [ec, nI_c (by omega)]
      rw [this]
      exact c2
theorem c86c (b0 : RLb h k) (hb : SB b) (hE : ∀ i, i < 100 → E i = (gL h (b + 2) i).toInt32) (hN : N ≤ 20) {z1 z2 z6 : Option Value} : ∀ (m j : Nat), j + m = N → (∀ i, i < j → okp k E (fun c => gI h (10 + c) 0) i) → WP L xs 86 53 [some (.ref 0), z1, z2, some (.ref (b + 1)), some (.int (nI N)), some (.int (nI j)), z6] [] h (fun r h' => ((∀ j, j < N → okp k E (fun c => gI h (10 + c) 0) j) ∧ r = some (.int (nI N)) ∧ CPL h h' (PPf E N)) ∨ (¬ (∀ j, j < N → okp k E (fun c => gI h (10 + c) 0) j) ∧ r = some (.int (-6)) ∧ h' = hC h 6))
  | 0, j, hj, ok => by
    obtain rfl : j = N := by omega
    refine v86_53 b0.1 hb ⟨fun _ => ?_, fun q => absurd (nI_le (Nat.le_refl _) (by omega)) q⟩
    exact wp_imp (c86p b0 hb hE hN ok j 0 h z6 (by omega) (CPL_r b0.1)) (fun r h' q => Or.inl ⟨ok, q⟩)
  | m + 1, j, hj, ok => by
    refine v86_53 b0.1 hb ⟨fun q => absurd q (nI_ge (show j < N by omega) (by omega)), fun _ => ?_⟩
    obtain ⟨v, s, e⟩ := c113 (L := L) (xs := xs) b0.1 b0.2.1 b0.2.2.2.1 b0.2.2.2.2.2.1 hb hE (show j < 20 by omega)
    refine ⟨v, s, fun q => ⟨_, _, rfC b0.1 rv6, Or.inr ⟨fun w => e.mp q (w j (by omega)), rfl, rfl⟩⟩, fun q => ?_⟩
    rw [nI_1]
    refine c86c b0 hb hE hN m (j + 1) (by omega) (fun i hi => ?_)
    rcases Nat.lt_succ_iff_lt_or_eq.mp hi with w | w
    · exact ok i w
    · rw [w]
      exact Classical.byContradiction (fun y => q (e.mpr y))
/-- the reference's taking back -/
theorem RPL_back {P : Nat → Option Q4} (m : RPL h1 h2 P) (hc : c < 144) (z : MV h1 0 c 0 = 0) : RPL h1 (sI h2 405 c 0) (upP P c none) := by
  obtain ⟨m1, m2, m3⟩ := m
  refine ⟨IE_s m1, fun a ha => ?_, fun c' hc' => ?_⟩
  · unfold ryt at ha
    rw [gIo (by omega)]
    exact m2 a (by unfold ryt; omega)
  · have g9 : gI (sI h2 405 c 0) 409 = gI h2 409 := gIo (by decide)
    have g10 : gI (sI h2 405 c 0) 410 = gI h2 410 := gIo (by decide)
    by_cases e : c' = c
    · subst e
      have w0 : MV (sI h2 405 c' 0) 0 c' 0 = 0 := by rw [MV0]; simp [gI_sI]
      have w : ∀ j, j < 14 → ¬ j = 0 → ¬ j = 4 → MV (sI h2 405 c' 0) 0 c' j = MV h2 0 c' j := fun j hj h0 h4 => by
        rw [MV0, MV0]
        rcases (show j = 1 ∨ j = 2 ∨ j = 3 ∨ j = 5 ∨ j = 6 ∨ j = 7 ∨ j = 8 ∨ j = 9 ∨ j = 10 ∨ j = 11 ∨ j = 12 ∨ j = 13 by omega) with rfl | rfl | rfl | rfl | rfl | rfl | rfl | rfl | rfl | rfl | rfl | rfl <;> simp [gI_sI]
      obtain ⟨u1, u2, u3⟩ := m3 c' hc'
      have e1 : upP P c' none c' = none := if_pos rfl
      rw [e1]
      refine ⟨⟨fun _ => ?_, ?_⟩, fun _ => ⟨w0.trans z.symm, fun y => absurd z y⟩, fun q y => by cases y⟩
      · rw [w 5 (by decide) (by decide) (by decide)]
        cases hp : P c' with
        | none => exact u1.1 ((u2 hp).1.trans z)
        | some q =>
          by_cases q0 : q.1 = 0
          · exact u1.1 ((u3 q hp).1.trans q0)
          · rw [((u3 q hp).2 q0).1 5 (by decide) (by decide)]
            unfold nwR
            rw [if_neg q0]; rfl
      · rw [w 11 (by decide) (by decide) (by decide), w 12 (by decide) (by decide) (by decide), w 13 (by decide) (by decide) (by decide)]
        exact u1.2
    · have w : ∀ j, j < 14 → ¬ j = 4 → MV (sI h2 405 c 0) 0 c' j = MV h2 0 c' j := fun j hj h4 => by
        rw [MV0, MV0]
        rcases (show j = 0 ∨ j = 1 ∨ j = 2 ∨ j = 3 ∨ j = 5 ∨ j = 6 ∨ j = 7 ∨ j = 8 ∨ j = 9 ∨ j = 10 ∨ j = 11 ∨ j = 12 ∨ j = 13 by omega) with rfl | rfl | rfl | rfl | rfl | rfl | rfl | rfl | rfl | rfl | rfl | rfl | rfl <;> simp [gI_sI, e]
      have e1 : upP P c none c' = P c' := if_neg e
      rw [e1, g9, g10]
      obtain ⟨u1, u2, u3⟩ := m3 c' hc'
      unfold SR at u1 ⊢
      rw [w 0 (by decide) (by decide), w 5 (by decide) (by decide), w 11 (by decide) (by decide), w 12 (by decide) (by decide), w 13 (by decide) (by decide)]
      refine ⟨u1, fun q => ⟨(u2 q).1, fun y => ⟨fun j hj h4 => ?_, ((u2 q).2 y).2⟩⟩, fun q v => ⟨(u3 q v).1, fun y => ⟨fun j hj h4 => ?_, ((u3 q v).2 y).2⟩⟩⟩
      · rw [w j hj h4]; exact ((u2 q).2 y).1 j hj h4
      · rw [w j hj h4]; exact ((u3 q v).2 y).1 j hj h4
theorem c147b (hw1 : HW h1) (hs : s < 8) (hE : ∀ i, i < 100 → E i = (gL h1 422 (100 * s + i)).toInt32) (hj : j ≤ 20) (ok : ∀ i, i < j → okp k E (fun c => gI h1 405 c) i) {z2 : Option Value} {l3 : Int32} {P : Nat → Option Q4} (hP : ∀ c q, P c = some q → ∃ i, i < j ∧ c = (pX E i).toNatClampNeg) : ∀ (m i : Nat) (h2 : Hp), i + m = j → RPL h1 h2 (bk E P i) → WP L xs 147 182 [some (.ref 397), some (.int (nI s)), z2, some (.int l3), some (.int 0), some (.int (nI j)), some (.int (nI i))] [] h2 (fun r h' => r = some (.int (-6)) ∧ ∃ h3, RPL h1 h3 (fun _ => none) ∧ h' = hM h3 6)
  | 0, i, h2, hi, m2 => by
    obtain rfl : i = j := by omega
    have hw2 := IE_w m2.1 hw1
    have : bk E P i = fun _ => none := by
      funext c
      refine bk_n i ?_
      cases hp : P c with
      | none => exact Or.inl rfl
      | some q => exact Or.inr (hP c q hp)
    rw [this] at m2
    exact v147_182 hw2 ⟨fun _ => ⟨fun _ => ⟨_, _, rfM hw2 rv6, rfl, h2, m2, rfl⟩, fun q => absurd rfl q⟩, fun q => absurd (nI_le (Nat.le_refl _) (by omega)) q⟩
  | m + 1, i, h2, hi, m2 => by
    have hw2 := IE_w m2.1 hw1
    obtain ⟨c, hc, ec⟩ := okp_cell (ok i (by omega))
    have t := c146 (L := L) (xs := xs) hw2 hs (i := 5 * i) (by omega)
    rw [m2.1.2.1, ← hE _ (by omega), show E (5 * i) = nI c from ec] at t
    refine v147_182 hw2 ⟨fun q => absurd q (nI_ge (show i < j by omega) (by omega)), fun _ => ⟨fun _ => ⟨nI c, by rw [mul5]; exact t, c, rfl, hc, ?_⟩, fun q => absurd rfl q⟩⟩
    rw [nI_1]
    refine c147b hw1 hs hE hj ok hP m (i + 1) _ (by omega) ?_
    have e1 : bk E P (i + 1) = upP (bk E P i) c none := by
      show upP (bk E P i) (pX E i).toNatClampNeg none = _
      rw [ec, nI_c (by omega)]
    rw [e1]
    refine RPL_back m2 hc ?_
    have := (resB_0 (ok i (by omega)).1).2.2.2
    rw [ec, nI_c (by omega)] at this
    exact this
/-- the reference's laying, one entry after another -/
theorem c147l (hw1 : HW h1) (hk : k < 9) (e1 : gI h1 397 1 = nI k) (hs : s < 8) (hE : ∀ i, i < 100 → E i = (gL h1 422 (100 * s + i)).toInt32) (hN : N ≤ 20) {z2 : Option Value} : ∀ (m j : Nat) (h2 : Hp) (z6 : Option Value), j + m = N → (∀ i, i < j → okp k E (fun c => gI h1 405 c) i) → RPL h1 h2 (PPf E j) → WP L xs 147 46 [some (.ref 397), some (.int (nI s)), z2, some (.int (nI N)), some (.int 1), some (.int (nI j)), z6] [] h2 (fun r h' => ((∀ j, j < N → okp k E (fun c => gI h1 405 c) j) ∧ r = some (.int (nI N)) ∧ RPL h1 h' (PPf E N)) ∨ (¬ (∀ j, j < N → okp k E (fun c => gI h1 405 c) j) ∧ r = some (.int (-6)) ∧ ∃ h3, RPL h1 h3 (fun _ => none) ∧ h' = hM h3 6))
  | 0, j, h2, z6, hj, ok, m2 => by
    obtain rfl : j = N := by omega
    have hw2 := IE_w m2.1 hw1
    refine v147_46 hw2 ⟨fun q => absurd q (by decide), fun _ => ⟨fun _ => ?_, fun q => absurd (nI_le (Nat.le_refl _) (by omega)) q⟩⟩
    have fin : (∀ i, i < j → okp k E (fun c => gI h1 405 c) i) ∧ some (Value.int (nI j)) = some (.int (nI j)) ∧ RPL h1 h2 (PPf E j) := ⟨ok, rfl, m2⟩
    exact v147_182 hw2 ⟨fun _ => ⟨fun q => absurd q (by decide), fun _ => Or.inl fin⟩, fun _ => ⟨fun q => absurd q (by decide), fun _ => Or.inl fin⟩⟩
  | m + 1, j, h2, z6, hj, ok, m2 => by
    have hw2 := IE_w m2.1 hw1
    have a0 : 5 * nI j = nI (5 * j) := mul5 j
    have a1 : nI (5 * j) + 1 = nI (5 * j + 1) := nI_1 _
    have a2 : nI (5 * j) + 2 = nI (5 * j + 2) := nI_add _ 2
    have a3 : nI (5 * j) + 3 = nI (5 * j + 3) := nI_add _ 3
    have a4 : nI (5 * j) + 4 = nI (5 * j + 4) := nI_add _ 4
    have t0 := c146 (L := L) (xs := xs) hw2 hs (i := 5 * j) (by omega)
    have t1 := c146 (L := L) (xs := xs) hw2 hs (i := 5 * j + 1) (by omega)
    have t2 := c146 (L := L) (xs := xs) hw2 hs (i := 5 * j + 2) (by omega)
    have t3 := c146 (L := L) (xs := xs) hw2 hs (i := 5 * j + 3) (by omega)
    have t4 := c146 (L := L) (xs := xs) hw2 hs (i := 5 * j + 4) (by omega)
    rw [m2.1.2.1, ← hE _ (by omega)] at t0 t1 t2 t3 t4
    have e2 : gI h2 397 1 = nI k := by rw [m2.2.1 397 (by unfold ryt; omega)]; exact e1
    have s132 := c132 (L := L) (xs := xs) (x := pX E j) (kd := (pQ E j).1) (sd := (pQ E j).2.1) (ar := (pQ E j).2.2.1) (pe := (pQ E j).2.2.2) hw2 hk e2
    have v := resB_v k (pX E j) (pQ E j).1 (pQ E j).2.1 (pQ E j).2.2.1 (pQ E j).2.2.2 (gI h2 405 (pX E j).toNatClampNeg)
    have one : ((if resB k (pX E j) (pQ E j).1 (pQ E j).2.1 (pQ E j).2.2.1 (pQ E j).2.2.2 (gI h2 405 (pX E j).toNatClampNeg) = 0 then (1 : Int32) else resB k (pX E j) (pQ E j).1 (pQ E j).2.1 (pQ E j).2.2.1 (pQ E j).2.2.2 (gI h2 405 (pX E j).toNatClampNeg)) = 1) ↔ okp k E (fun c => gI h1 405 c) j := by
      constructor
      · intro q
        have z : resB k (pX E j) (pQ E j).1 (pQ E j).2.1 (pQ E j).2.2.1 (pQ E j).2.2.2 (gI h2 405 (pX E j).toNatClampNeg) = 0 := by
          apply Classical.byContradiction
          intro n
          rw [if_neg n] at q
          rcases v.resolve_left n with w | w <;> (rw [w] at q; exact absurd q (by decide))
        obtain ⟨x1, x2, x3, x4⟩ := resB_0 z
        obtain ⟨c, hc, ec⟩ := isCell_n x1
        obtain ⟨u1, u2, u3⟩ := m2.2.2 c hc
        rw [ec, nI_c (by omega)] at x4
        cases hp : PPf E j c with
        | none =>
          have w : gI h1 405 c = 0 := ((u2 hp).1.symm.trans x4)
          refine ⟨?_, fun i hi e => PPf_none j hp i hi (by rw [e, ec, nI_c (by omega)])⟩
          unfold okr
          rw [ec] at z ⊢
          rw [nI_c (by omega)] at z ⊢
          show resB _ _ _ _ _ _ (gI h1 405 c) = 0
          rw [w.trans x4.symm]
          exact z
        | some q =>
          exfalso
          obtain ⟨i, hi, rfl, -⟩ := PPf_some j hp
          exact in3_gp (okp_GP hk (ok i hi)) ((u3 _ hp).1.symm.trans x4)
      · intro o
        obtain ⟨c, hc, ec⟩ := okp_cell o
        obtain ⟨u1, u2, u3⟩ := m2.2.2 c hc
        have hp : PPf E j c = none := by
          cases hp : PPf E j c with
          | none => rfl
          | some q =>
            exfalso
            obtain ⟨i, hi, -, e⟩ := PPf_some j hp
            obtain ⟨c', hc', ec'⟩ := okp_cell (ok i hi)
            rw [ec', nI_c (by omega)] at e
            subst e
            exact o.2 i hi (ec'.trans ec.symm)
        have w : gI h2 405 c = gI h1 405 c := (u2 hp).1
        have o1 := o.1
        unfold okr at o1
        rw [ec, nI_c (by omega)] at o1 ⊢
        rw [w]
        exact if_pos o1
    refine v147_46 hw2 ⟨fun q => absurd q (by decide), fun _ => ⟨fun q => absurd q (nI_ge (show j < N by omega) (by omega)), fun _ => ?_⟩⟩
    rw [a0, a1, a2, a3, a4]
    refine ⟨_, t0, _, t1, _, t2, _, t3, _, t4, _, s132, fun q => ?_, fun q => ?_⟩
    · rw [iteb, decide_eq_true_iff] at q
      have o := one.mp q
      obtain ⟨c, hc, ec⟩ := okp_cell o
      obtain ⟨h3, s3, m3⟩ := RPL_133 (L := L) (xs := xs) (q := pQ E j) hw1 m2 hc (in3_gp (okp_GP hk o))
      refine ⟨_, t0, _, t1, _, t2, _, t3, _, t4, h3, ?_, ?_⟩
      · have e2 : E (5 * j) = nI c := ec
        rw [e2]
        exact s3
      · rw [iteb, decide_eq_true q, nI_1]
        refine c147l hw1 hk e1 hs hE hN m (j + 1) h3 _ (by omega) (fun i hi => ?_) ?_
        · rcases Nat.lt_succ_iff_lt_or_eq.mp hi with w | w
          · exact ok i w
          · rw [w]; exact o
        · have : PPf E (j + 1) = upP (PPf E j) c (some (pQ E j)) := by
            show upP (PPf E j) (pX E j).toNatClampNeg (some (pQ E j)) = _
            rw [ec, nI_c (by omega)]
          rw [this]
          exact m3
    · rw [iteb, decide_eq_true_iff] at q
      have o := fun w => q (one.mpr w)
      rw [iteb, decide_eq_false q]
      refine v147_46 hw2 ⟨fun _ => ?_, fun q => absurd rfl q⟩
      refine wp_imp (c147b hw1 hs hE (show j ≤ 20 by omega) ok (fun c q e => by obtain ⟨i, hi, -, e2⟩ := PPf_some j e; exact ⟨i, hi, e2⟩) j 0 h2 (by omega) m2) (fun r h' y => Or.inr ⟨fun w => o (w j (by omega)), y⟩)
/-- is there a row on shelf x? -/
def rowB (h : Hp) (x : Int32) : Int32 := if x_isShelf x = true then (if gI h (155 + 10 * x.toNatClampNeg) 2 = 2 then -2 else if gI h (155 + 10 * x.toNatClampNeg) 2 = 0 then -3 else 0) else -1
theorem c110 {x : Int32} (hw : HW h) : Sp L xs 110 [.ref 0, .int x] h (some (.int (rowB h x))) h := by
  refine sp_eq (v110 hw ⟨fun hx => ?_, fun hx => ?_⟩)
  · obtain ⟨s, hs, rfl⟩ := isShelf_n hx
    unfold rowB
    rw [if_pos hx, nI_c (by omega)]
    refine ⟨s, rfl, hs, fun q => ?_, fun q => ?_⟩
    · rw [if_pos q]; exact ⟨rfl, rfl⟩
    · rw [if_neg q]; exact ⟨rfl, rfl⟩
  · unfold rowB; rw [if_neg hx]; exact ⟨rfl, rfl⟩
theorem c140 {x : Int32} (hw : HW h1) (r : RLs h k) (e : gI h1 420 = gI h 420) : Sp L xs 140 [.ref 397, .int x] h1 (some (.int (rowB h x))) h1 := by
  refine sp_eq (v140 hw ⟨fun hx => ?_, fun hx => ?_⟩)
  · obtain ⟨s, hs, rfl⟩ := isShelf_n hx
    refine ⟨_, sp_eq (v137 hw ⟨s, rfl, hs, rfl, rfl⟩), ?_⟩
    unfold rowB
    rw [if_pos hx, nI_c (by omega), b2i_0, iteb', e]
    rcases r s hs with ⟨q1, q2⟩ | ⟨q1, t, n, ht, hn, q2, q3, -⟩ | ⟨q1, q2, -⟩
    · rw [q1, q2]
      exact ⟨fun _ => ⟨s, rfl, hs, by rw [q2]; rfl, rfl⟩, fun q => absurd (by decide) q⟩
    · rw [q1, q3]
      have : ¬ nI (100 + t) < 100 := by
        intro q
        have := (nI_ltI (show 100 + t < 2147483648 by omega) (show 100 < 2147483648 by decide)).mp q
        omega
      rw [decide_eq_false this]
      exact ⟨fun q => absurd q (by decide), fun _ => ⟨rfl, rfl⟩⟩
    · rw [q1, q2]
      exact ⟨fun _ => ⟨s, rfl, hs, by rw [q2]; rfl, rfl⟩, fun q => absurd (by decide) q⟩
  · unfold rowB; rw [if_neg hx]; exact ⟨rfl, rfl⟩
theorem rowB_0 {x : Int32} (r : RLs h k) (e : rowB h x = 0) : ∃ s, s < 8 ∧ x = nI s ∧ gI h (155 + 10 * s) 2 = 1 ∧ ∃ t n : Nat, t < 4 ∧ n < 101 ∧ gI h (155 + 10 * s + 1) 1 = nI t ∧ gI h 420 s = nI (100 + t) ∧ gI h (155 + 10 * s + 1) 2 = nI n ∧ gI h 421 s = nI n ∧ ∀ i, i < 100 → gL h (155 + 10 * s + 2) i = gL h 422 (100 * s + i) := by
  by_cases hx : x_isShelf x = true
  · obtain ⟨s, hs, rfl⟩ := isShelf_n hx
    unfold rowB at e
    rw [if_pos hx, nI_c (by omega)] at e
    rcases r s hs with ⟨q1, -⟩ | q | ⟨q1, -⟩
    · rw [q1] at e; exact absurd e (by decide)
    · exact ⟨s, hs, rfl, q⟩
    · rw [q1] at e; exact absurd e (by decide)
  · unfold rowB at e
    rw [if_neg hx] at e
    exact absurd e (by decide)
theorem rowB_v (h : Hp) (x : Int32) : rowB h x = 0 ∨ ∃ n, RV (rowB h x) n := by
  unfold rowB
  split
  · split
    · exact Or.inr ⟨2, rv2⟩
    · split
      · exact Or.inr ⟨3, rv3⟩
      · exact Or.inl rfl
  · exact Or.inr ⟨1, rv1⟩
end BS
theorem Rel_lays {h h3 : Hp} {k : Nat} (r : Rel h k) (m : RPL (hC h 6) h3 (fun _ => none)) : Rel (hM h3 6) k := by
  have rr := Rel_ref (n := 6) r
  refine Rel_places rr (CPL_r rr.1.1) ⟨m.1, fun a ha => ?_, fun c hc => ?_⟩ (fun c q _ e => by cases e)
  · by_cases e : a = 398
    · subst e
      show gI (sI h3 398 6 (gI h3 398 6 + 1)) 398 = gI (sI (hC h 6) 398 6 (gI (hC h 6) 398 6 + 1)) 398
      rw [gIs, gIs, m.2.1 398 (by unfold ryt; omega)]
    · rw [hM_o e, hM_o e]
      exact m.2.1 a ha
  · have e1 : ∀ j, MV (hM h3 6) 0 c j = MV h3 0 c j := fun j => by
      unfold MV
      have := AD_no 0 c j
      rw [hM_o (by omega)]
    have e2 : ∀ j, MV (hM (hC h 6) 6) 0 c j = MV (hC h 6) 0 c j := fun j => by
      unfold MV
      have := AD_no 0 c j
      rw [hM_o (by omega)]
    have m3 := m.2.2 c hc
    unfold SR at *
    simp only [e1, e2]
    rw [hM_o (by decide), hM_o (by decide), hM_o (by decide), hM_o (by decide)]
    exact ⟨m3.1, fun _ => m3.2.1 rfl, fun q z => by cases z⟩
theorem op_builds {L : Nat} {xs : Nat → Int32} {x : Int32} : OPI L xs 86 147 [.ref 0, .int x] [.ref 397, .int x] := by
  intro h k r
  obtain ⟨r1, r2, r3, r4, -⟩ := id r
  have hw := r1.1
  have s110 := c110 (L := L) (xs := xs) (x := x) hw
  rcases rowB_v h x with z | ⟨n, rv⟩
  · obtain ⟨s, hs, rfl, t1, t, n, ht, hn, q1, q2, q3, q4, q5⟩ := rowB_0 r4 z
    rw [z] at s110
    obtain ⟨d1, d2⟩ := dv5 n hn
    by_cases z5 : n % 5 = 0
    · have key := c86c (L := L) (xs := xs) (E := fun i => (gL h 422 (100 * s + i)).toInt32) (z1 := some (.int (nI s))) (z2 := some (.int 0)) (z6 := none) r1 (SB_of hs) (fun i hi => by show (gL h 422 (100 * s + i)).toInt32 = _; rw [q5 i hi]) (show n / 5 ≤ 20 by omega) (n / 5) 0 (by omega) (fun i hi => absurd hi (Nat.not_lt_zero _))
      obtain ⟨rc, h1, s1, g⟩ := v86 (L := L) (xs := xs) (x := nI s) hw ⟨0, s110, fun _ => ⟨s, rfl, hs, fun _ => by rw [q3, d1]; exact key, fun q => absurd (by rw [q3]; exact d2.mpr z5) q⟩, fun q => absurd rfl q⟩
      have w1 : HW h1 := by
        rcases g with ⟨-, -, g⟩ | ⟨-, -, rfl⟩
        · exact g.2.1
        · exact HW_sI hw
      have o1 : ∀ a, ¬ (10 ≤ a ∧ a < 154) → ¬ a = 1 → gI h1 a = gI h a := by
        rcases g with ⟨-, -, g⟩ | ⟨-, -, rfl⟩
        · exact fun a ha _ => (g.2.2.2.1 a ha).1
        · exact fun a _ ha => hC_o ha
      have l1 : gL h1 = gL h := by
        rcases g with ⟨-, -, g⟩ | ⟨-, -, rfl⟩
        · exact g.2.2.1
        · rfl
      have mv1 : MV h1 = MV h := by
        funext b c j
        unfold MV
        have := AD_no b c j
        rw [o1 _ (by omega) (by omega)]
      have s140 := c140 (L := L) (xs := xs) (x := nI s) w1 r4 (o1 420 (by decide) (by decide))
      rw [z] at s140
      have key2 := c147l (L := L) (xs := xs) (E := fun i => (gL h 422 (100 * s + i)).toInt32) (z2 := some (.int 0)) (h1 := h1) w1 r1.2.1 (by rw [o1 397 (by decide) (by decide)]; exact r1.2.2.2.2.1) hs (fun i hi => by rw [l1]) (show n / 5 ≤ 20 by omega) (n / 5) 0 h1 none (by omega) (fun i hi => absurd hi (Nat.not_lt_zero _)) (RPL_r (fun c hc => by rw [mv1]; exact (r2.1 c hc).2.2.2.2))
      obtain ⟨rm, h2, s2, g2⟩ := v147 (L := L) (xs := xs) (x := nI s) w1 ⟨0, s140, fun _ => ⟨s, rfl, hs, by
        rw [o1 421 (by decide) (by decide), q4, if_pos (d2.mpr z5), d1]
        exact key2⟩, fun q => absurd rfl q⟩
      have oo : (∀ j, j < n / 5 → okp k (fun i => (gL h 422 (100 * s + i)).toInt32) (fun c => gI h1 405 c) j) ↔ ∀ j, j < n / 5 → okp k (fun i => (gL h 422 (100 * s + i)).toInt32) (fun c => gI h (10 + c) 0) j := by
        refine forall_congr' (fun j => imp_congr_right (fun hj => okp_c (fun c hc => ?_)))
        show gI h1 405 c = gI h (10 + c) 0
        rw [o1 405 (by decide) (by decide)]
        exact (r2.1 c hc).2.2.1.1.symm
      rw [oo] at g2
      rcases g with ⟨ok, e1, cc⟩ | ⟨ok, e1, e2⟩
      · rcases g2 with ⟨-, f1, mm⟩ | ⟨nk, -⟩
        · subst e1
          subst f1
          refine ⟨_, h1, h2, k, s1, w1, s2, Rel_places r cc mm (fun c q hc e => ?_)⟩
          obtain ⟨j, hj, rfl, -⟩ := PPf_some _ e
          exact Or.inr (okp_GP r1.2.1 (ok j hj))
        · exact absurd ok nk
      · rcases g2 with ⟨ok2, -⟩ | ⟨-, f1, h3, m3, f2⟩
        · exact absurd ok2 ok
        · subst e1
          subst f1
          subst e2
          subst f2
          exact ⟨_, _, _, k, s1, w1, s2, Rel_lays r m3⟩
    · have rm : HW (hC h 6) := HW_sI hw
      have s140 := c140 (L := L) (xs := xs) (x := nI s) rm r4 (hC_o (by decide))
      rw [z] at s140
      refine ⟨-6, hC h 6, hM (hC h 6) 6, k, sp_eq (v86 hw ⟨0, s110, fun _ => ⟨s, rfl, hs, fun q => absurd (d2.mp (by rw [q3] at q; exact q)) z5, fun _ => ⟨_, _, rfC hw rv6, rfl, rfl⟩⟩, fun q => absurd rfl q⟩), rm, sp_eq (v147 rm ⟨0, s140, fun _ => ⟨s, rfl, hs, ?_⟩, fun q => absurd rfl q⟩), Rel_ref r⟩
      rw [hC_o (by decide), q4, if_neg (fun w => z5 (d2.mp w)), d1]
      refine v147_46 rm ⟨fun _ => ?_, fun q => absurd (by decide) q⟩
      exact v147_182 rm ⟨fun _ => ⟨fun _ => ⟨_, _, rfM rm rv6, rfl, rfl⟩, fun q => absurd (by decide) q⟩, fun q => absurd (by decide) q⟩
  · have n0 : ¬ rowB h x = 0 := by
      intro q
      rw [q] at rv
      exact absurd rv.2.2 (by decide)
    obtain ⟨h1, h2, s1, w1, s2, rr, e1, e2⟩ := op_ref (L := L) (xs := xs) r rv
    have s140 := c140 (L := L) (xs := xs) (x := x) w1 r4 (by rw [e1]; exact hC_o (by decide))
    exact ⟨_, h1, h2, k, sp_eq (v86 hw ⟨_, s110, fun q => absurd q n0, fun _ => ⟨_, _, s1, rfl, rfl⟩⟩), w1, sp_eq (v147 w1 ⟨_, s140, fun q => absurd q n0, fun _ => ⟨_, _, s2, rfl, rfl⟩⟩), rr⟩
