/-! The items that are needed. -/
section RN
variable {L : Nat} {xs : Nat → Int32} {h h0 : Hp} {k c s v r o i M B n p q it : Nat} {x l : Int32} {R : Nat → Row} {S dn : Nat → Bool} {tp mc : Nat → Nat}
/-- the recipes in a mask are closed -/
def clM (R : Nat → Row) (k : Nat) (m : Int32) : Prop := ∀ r o, dp R k r o → bt m (rn (R r) 0) = true → bt m (rn (R o) 0) = true
/-- in a round that began with m0: the first i recipes are looked at -/
def RD (R : Nat → Row) (k M : Nat) (m0 m : Int32) (i : Nat) : Prop := (∀ j, j < 32 → bt m0 j = true → bt m j = true) ∧ (∀ r, r < k → bt m (rn (R r) 0) = true → SM R k M r = true) ∧ (∀ r, r < i → bt m0 (rn (R r) 0) = true → ∀ o, dp R k r o → bt m (rn (R o) 0) = true) ∧ (clM R k m0 → ∀ r, r < k → bt m (rn (R r) 0) = true → bt m0 (rn (R r) 0) = true)
/-- before round j -/
def RO (R : Nat → Row) (k M : Nat) (m : Int32) (j : Nat) : Prop := (∀ r, r < k → bt m (rn (R r) 0) = true → SM R k M r = true) ∧ bt m (rn (R M) 0) = true ∧ (clM R k m ∨ j + 1 ≤ cB (fun r => bt m (rn (R r) 0)) k)
theorem RF_it (f : RF h k R) (hr : r < k) : rn (R r) 0 < 21 := (f.2.2.2.1 r hr).2.2.1
theorem RF_r (f : RF h k R) : ∀ m : Int32, (∀ r, r < k → bt m (rn (R r) 0) = true → SM R k M r = true) → RD R k M m m 0 := fun m h1 => ⟨fun _ _ q => q, h1, fun r hr => absurd hr (Nat.not_lt_zero r), fun _ _ _ q => q⟩
theorem RD_RO (f : RF h k R) (hM : M < k) {m0 m1 : Int32} {j : Nat} (a : RO R k M m0 j) (b : RD R k M m0 m1 k) : RO R k M m1 (j + 1) := by
  obtain ⟨a1, a2, a3⟩ := a
  obtain ⟨b1, b2, b3, b4⟩ := b
  refine ⟨b2, b1 _ (by have := RF_it f hM; omega) a2, ?_⟩
  by_cases new : ∃ r, r < k ∧ bt m1 (rn (R r) 0) = true ∧ ¬ bt m0 (rn (R r) 0) = true
  · obtain ⟨r, hr, q1, q2⟩ := new
    right
    rcases a3 with c | c
    · exact absurd (b4 c r hr q1) q2
    · have := cB_lt (f := fun r => bt m0 (rn (R r) 0)) (g := fun r => bt m1 (rn (R r) 0)) (r := r) q1 ((Bool.not_eq_true _).mp q2) k hr (fun i hi q => b1 _ (by have := RF_it f hi; omega) q)
      omega
  · left
    intro r o d q
    refine b3 r d.1 ?_ o d
    apply Classical.byContradiction
    intro z
    exact new ⟨r, d.1, q, z⟩
theorem clM_W {m : Int32} (c : clM R k m) : ∀ (v : Nat) {r o : Nat}, Wv R k v r o → bt m (rn (R r) 0) = true → bt m (rn (R o) 0) = true
  | 0, _, _, w, q => c _ _ w q
  | v + 1, _, _, w, q => by
    rcases w with w | ⟨w1, w2⟩
    · exact clM_W c v w q
    · exact clM_W c v w2 (clM_W c v w1 q)
theorem RO_IM (f : RF h k R) {m : Int32} (a : RO R k M m 8) : IM R k m (SM R k M) := by
  obtain ⟨a1, a2, a3⟩ := a
  have c : clM R k m := by
    rcases a3 with c | c
    · exact c
    · have := cB_le (fun r => bt m (rn (R r) 0)) k
      have := f.2.2.1
      omega
  intro r hr
  cases q : SM R k M r with
  | true =>
    rcases SM_t.mp q with e | e
    · rw [e]; exact a2
    · exact clM_W c k e a2
  | false =>
    cases q2 : bt m (rn (R r) 0) with
    | false => rfl
    | true => rw [a1 r hr q2] at q; cases q
/-- one recipe looked at -/
theorem RD_step (f : RF h k R) (hik : i < k) {m0 m m' : Int32} (a : RD R k M m0 m i) (l : bt m (rn (R i) 0) = true) (e : ∀ j, j < 32 → (bt m' j = true ↔ bt m j = true ∨ j = rn (R i) 4 ∨ (j = rn (R i) 6 ∧ ¬ rn (R i) 6 = 0))) : RD R k M m0 m' (i + 1) := by
  obtain ⟨a1, a2, a3, a4⟩ := a
  have nd : ∀ r, r < k → bt m' (rn (R r) 0) = true → bt m (rn (R r) 0) = true ∨ dp R k i r := fun r hr q => by
    have ri := RF_it f hr
    rcases (e _ (by omega)).mp q with w | w | w
    · exact Or.inl w
    · exact Or.inr ((dp_n f hik hr).mpr (Or.inl w.symm))
    · exact Or.inr ((dp_n f hik hr).mpr (Or.inr w.1.symm))
  have si := a2 i hik l
  refine ⟨fun j hj q => (e j hj).mpr (Or.inl (a1 j hj q)), fun r hr q => ?_, fun r hr q o d => ?_, fun c r hr q => ?_⟩
  · rcases nd r hr q with w | w
    · exact a2 r hr w
    · refine SM_t.mpr (Or.inr ?_)
      rcases SM_t.mp si with z | z
      · rw [← z]; exact Wv_dp w
      · exact Wv_tr z (Wv_dp w)
  · have oi := RF_it f d.2.1
    by_cases y : r = i
    · rw [y] at d
      have o0 : 1 ≤ rn (R o) 0 := (f.2.2.2.1 o d.2.1).2.1
      rcases (dp_n f hik d.2.1).mp d with w | w
      · exact (e _ (by omega)).mpr (Or.inr (Or.inl w.symm))
      · exact (e _ (by omega)).mpr (Or.inr (Or.inr ⟨w.symm, by omega⟩))
    · exact (e _ (by omega)).mpr (Or.inl (a3 r (by omega) q o d))
  · rcases nd r hr q with w | w
    · exact a4 c r hr w
    · exact c i r w (a4 c i hik l)
theorem RD_skip {m0 m : Int32} (f : RF h k R) (hik : i < k) (a : RD R k M m0 m i) (l : ¬ bt m (rn (R i) 0) = true) : RD R k M m0 m (i + 1) := by
  obtain ⟨a1, a2, a3, a4⟩ := a
  refine ⟨a1, a2, fun r hr q o d => ?_, a4⟩
  by_cases y : r = i
  · rw [y] at q
    exact absurd (a1 _ (by have := RF_it f hik; omega) q) l
  · exact a3 r (by omega) q o d
theorem c180r (f : RF h k R) {z1 : Option Value} (hz1 : x_wide (some z1) = false) {m0 : Int32} {w : Int32} {Q : Option Value → Hp → Prop} (K : ∀ m z4, RD R k M m0 m k → WP L xs 180 6 [some (.ref 397), z1, some (.int m), some (.int (w + 1)), z4] [] h Q) : ∀ (j i : Nat) (m : Int32), i + j = k → RD R k M m0 m i → WP L xs 180 15 [some (.ref 397), z1, some (.int m), some (.int w), some (.int (nI i))] [] h Q
  | 0, i, m, hi, a => by
    obtain rfl : i = k := by omega
    have hk := f.2.2.1
    refine v180_15 f.1 hz1 ?_
    rw [f.2.1]
    exact ⟨fun _ => K m _ a, fun q => absurd (nI_le (Nat.le_refl _) (by omega)) q⟩
  | j + 1, i, m, hi, a => by
    have hk := f.2.2.1
    have hik : i < k := by omega
    obtain ⟨g0, -, -, g4, -, g6, -⟩ := f.2.2.2.2.2 i hik
    obtain ⟨-, -, a0, -, -, -, -, -, -, a4, -, -, a6, -⟩ := f.2.2.2.1 i hik
    refine v180_15 f.1 hz1 ?_
    rw [f.2.1, nI_1]
    refine ⟨fun q => absurd q (nI_ge hik (by omega)), fun _ => ⟨i, rfl, by omega, fun l => ?_, fun l => ?_⟩⟩
    · rw [g0, b_at (by omega)] at l
      have l := b2i_1.mp l
      refine ⟨2 * i, ix4 i, by omega, 2 * i + 1, ix5 i, by omega, fun e => ?_, fun e y ey => ?_⟩
      · rw [g6] at e
        have e0 : rn (R i) 6 = 0 := nI_inj (by omega) (by decide) e
        refine c180r f hz1 K j (i + 1) _ (by omega) (RD_step f hik a l (fun t ht => ?_))
        rw [b_or, b_0, Bool.or_false, g4, b_or, b_one (by omega) ht, Bool.or_eq_true, decide_eq_true_iff]
        exact ⟨fun q => q.elim Or.inl (fun q => Or.inr (Or.inl q)), fun q => q.elim Or.inl (fun q => q.elim Or.inr (fun q => absurd e0 q.2))⟩
      · rw [g6] at e
        have e0 : ¬ rn (R i) 6 = 0 := fun z => e (by rw [z]; rfl)
        refine c180r f hz1 K j (i + 1) y (by omega) (RD_step f hik a l (fun t ht => ?_))
        rw [ey, b_or, g4, g6, b_or, b_one (by omega) ht, b_one (by omega) ht, Bool.or_eq_true, Bool.or_eq_true, decide_eq_true_iff, decide_eq_true_iff]
        constructor
        · rintro ((q | q) | q)
          · exact Or.inl q
          · exact Or.inr (Or.inl q)
          · exact Or.inr (Or.inr ⟨q, e0⟩)
        · rintro (q | q | ⟨q, -⟩)
          · exact Or.inl (Or.inl q)
          · exact Or.inl (Or.inr q)
          · exact Or.inr q
    · rw [g0, b_at (by omega)] at l
      exact c180r f hz1 K j (i + 1) m (by omega) (RD_skip f hik a (fun z => l (by rw [z]; rfl)))
theorem c180l (f : RF h k R) (hM : M < k) {z1 : Option Value} (hz1 : x_wide (some z1) = false) : ∀ (j w : Nat) (m : Int32) (z4 : Option Value), w + j = 8 → RO R k M m w → WP L xs 180 6 [some (.ref 397), z1, some (.int m), some (.int (nI w)), z4] [] h (fun r h' => (∃ m, r = some (.int m) ∧ IM R k m (SM R k M)) ∧ h' = h)
  | 0, w, m, z4, hw, a => by
    obtain rfl : w = 8 := by omega
    exact v180_6 f.1 ⟨fun _ => ⟨⟨m, rfl, RO_IM f a⟩, rfl⟩, fun q => absurd (nI_le (Nat.le_refl 8) (by decide)) q⟩
  | j + 1, w, m, z4, hw, a => by
    refine v180_6 f.1 ⟨fun q => absurd q (nI_ge (show w < 8 by omega) (by decide)), fun _ => ?_⟩
    refine c180r (M := M) (m0 := m) f hz1 (fun m' z4 b => ?_) k 0 m (by omega) (RF_r f m a.1)
    rw [nI_1]
    exact c180l f hM hz1 j (w + 1) m' z4 (by omega) (RD_RO f hM a b)
theorem c180 (f : RF h k R) (hM : M < k) : ∃ m, Sp L xs 180 [.ref 397, .int (nI (rn (R M) 0))] h (some (.int m)) h ∧ IM R k m (SM R k M) := by
  have mi := RF_it f hM
  have key := c180l (L := L) (xs := xs) (z1 := some (.int (nI (rn (R M) 0)))) f hM rfl 8 0 (1 <<< ((nI (rn (R M) 0) : Int32) &&& 31)) none (by omega) ⟨fun r hr q => ?_, ?_, Or.inr ?_⟩
  · obtain ⟨r, h', s, ⟨m, rfl, e⟩, rfl⟩ := v180 (L := L) (xs := xs) (x := nI (rn (R M) 0)) f.1 key
    exact ⟨m, s, e⟩
  · have ri := RF_it f hr
    rw [b_one (by omega) (by omega), decide_eq_true_iff] at q
    obtain ⟨all, -⟩ := f.2.2.2.1 r hr
    obtain ⟨all2, -⟩ := f.2.2.2.1 M hM
    refine SM_t.mpr (Or.inl ?_)
    apply Decidable.byContradiction
    intro y
    exact f.2.2.2.2.1 r M hr hM y (by rw [all 0 (by decide), all2 0 (by decide), q])
  · rw [b_one (by omega) (by omega), decide_eq_true rfl]
  · have : 0 < cB (fun r => bt (1 <<< ((nI (rn (R M) 0) : Int32) &&& 31)) (rn (R r) 0)) k := cB_pos (r := M) (by rw [b_one (by omega) (by omega), decide_eq_true rfl]) k hM
    omega
end RN
