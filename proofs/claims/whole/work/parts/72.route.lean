/-! The class's search for ways. -/
section RT
variable {L : Nat} {xs : Nat → Int32} {h h0 : Hp} {z k j n i d : Nat} {D q : Nat → Nat}
def flT (h0 : Hp) : Nat → Row := fun c => gI h0 (10 + c)
def rob (a : Nat) : Prop := a = 390 ∨ a = 391 ∨ a = 392
def AB (h0 h : Hp) (D q : Nat → Nat) (n : Nat) : Prop := IE h0 h ∧ SX h0 h rob ∧ (∀ k, k < 144 → gI h 391 k = nI (D k)) ∧ (∀ p, p < n → gI h 392 p = nI (q p)) ∧ gI h 390 2 = nI n
/-- all that is marked is at most d -/
def mxD (D q : Nat → Nat) (n d : Nat) : Prop := ∀ p, p < n → D (q p) ≤ d
theorem AB_fl (a : AB h0 h D q n) {c : Nat} (hc : c < 144) : gI h (10 + c) = flT h0 c := a.2.1 _ (by unfold rob; omega)
theorem QI_n (I : QI (flT h0) z D q n i) : n ≤ 144 := by
  have := mkd_le D 144
  have := I.2.2.2.2.2.1
  omega
theorem QI_d (I : QI (flT h0) z D q n i) {k : Nat} (hk : k < 144) (hz : ¬ D k = 0) : D k ≤ n ∧ ∀ d, mxD D q n d → D k ≤ d := by
  obtain ⟨-, p, hp, e⟩ := I.2.1 k hk hz
  have := I.1 p hp
  rw [e] at this
  refine ⟨by omega, fun d m => ?_⟩
  have := m p hp
  rw [e] at this
  exact this
/-- one cell looked at -/
theorem c71 (hw : HW h0) (a : AB h0 h D q n) (I : QI (flT h0) z D q n i) (hk : k < 144) (hd : ¬ d = 0) (hn : d ≤ n + 1) (hr : flT h0 k 0 = 0 → rch (flT h0) z d k) (hm : mxD D q n d) (hh : i < n → d ≤ D (q i) + 1) : ∃ h' D' q' n', Sp L xs 71 [.ref 390, .ref 4, .int (nI k), .int (nI d)] h none h' ∧ AB h0 h' D' q' n' ∧ QI (flT h0) z D' q' n' i ∧ mxD D' q' n' d ∧ (∀ j, ¬ D j = 0 → D' j = D j) ∧ n ≤ n' ∧ (∀ p, p < n → q' p = q p) ∧ (flT h0 k 0 = 0 → ¬ D' k = 0 ∧ D' k ≤ d) := by
  have hw1 := IE_w a.1 hw
  have n144 := QI_n I
  have dk := a.2.2.1 k hk
  have fk : gI h (10 + k) 0 = flT h0 k 0 := by rw [AB_fl a hk]
  by_cases z0 : D k = 0
  · by_cases t0 : flT h0 k 0 = 0
    · have nl : n < 144 := by
        have := mkd_lt z0 144 hk
        have := I.2.2.2.2.2.1
        omega
      have cl : gI h 390 2 < 144 := by
        rw [a.2.2.2.2]
        exact (nI_ltI (by omega) (by decide)).mpr nl
      refine ⟨_, upD D k d, upD q n k, n + 1, sp_eq (v71 hw1 ⟨fun w => absurd w (nI_m1 (by omega)), fun _ => ⟨k, rfl, hk, fun _ => ⟨fun _ => ⟨fun _ => ⟨n, a.2.2.2.2, nl, rfl, rfl⟩, fun w => absurd cl w⟩, fun w => absurd (fk.trans t0) w⟩, fun w => absurd (by rw [dk, z0]; rfl) w⟩⟩), ⟨IE_s (IE_s (IE_s a.1)), fun b hb => ?_, fun b hb => ?_, fun p hp => ?_, ?_⟩, QI_push I hk z0 hd hn (hr t0) hm hh, fun p hp => ?_, fun b hb => if_neg (fun e => hb (by rw [e]; exact z0)), Nat.le_succ n, fun p hp => if_neg (by omega), fun _ => ?_⟩
      · unfold rob at hb
        rw [gIo (by omega), gIo (by omega), gIo (by omega)]
        exact a.2.1 b (by unfold rob; omega)
      · rw [gIo (by decide), gIo (by decide), gIs, up_a]
        unfold upD
        by_cases e : b = k
        · rw [if_pos e, if_pos e]
        · rw [if_neg e, if_neg e]; exact a.2.2.1 b hb
      · rw [gIo (by decide), gIs, up_a]
        unfold upD
        by_cases e : p = n
        · rw [if_pos e, if_pos e]
        · rw [if_neg e, if_neg e, gIo (by decide)]; exact a.2.2.2.1 p (by omega)
      · rw [gIs, up_s, a.2.2.2.2, nI_1]
      · unfold upD
        by_cases e : p = n
        · rw [if_pos e, if_pos rfl]; exact Nat.le_refl d
        · rw [if_neg e, if_neg (fun w => (I.1 p (by omega)).2.1 (by rw [w]; exact z0))]
          exact hm p (by omega)
      · have : upD D k d k = d := if_pos rfl
        rw [this]
        exact ⟨hd, Nat.le_refl d⟩
    · refine ⟨h, D, q, n, sp_eq (v71 hw1 ⟨fun w => absurd w (nI_m1 (by omega)), fun _ => ⟨k, rfl, hk, fun _ => ⟨fun w => absurd (fk.symm.trans w) t0, fun _ => ⟨rfl, rfl⟩⟩, fun _ => ⟨rfl, rfl⟩⟩⟩), a, I, hm, fun _ _ => rfl, Nat.le_refl n, fun _ _ => rfl, fun w => absurd w t0⟩
  · have dz : ¬ gI h 391 k = 0 := by
      rw [dk]
      have := (QI_d I hk z0).1
      exact nI_ne0 (by omega) (by omega)
    exact ⟨h, D, q, n, sp_eq (v71 hw1 ⟨fun w => absurd w (nI_m1 (by omega)), fun _ => ⟨k, rfl, hk, fun w => absurd w dz, fun _ => ⟨rfl, rfl⟩⟩⟩), a, I, hm, fun _ _ => rfl, Nat.le_refl n, fun _ _ => rfl, fun _ => ⟨z0, (QI_d I hk z0).2 d hm⟩⟩
theorem c71n (hw : HW h) {y : Int32} : Sp L xs 71 [.ref 390, .ref 4, .int (-1), .int y] h none h := sp_eq (v71 hw ⟨fun _ => ⟨rfl, rfl⟩, fun w => absurd rfl w⟩)
theorem nb_144 : ∀ c, c < 144 → ∀ s, s < 4 → ∀ k, nb c s = some k → k < 144 := by
  have : ∀ c, c < 144 → ∀ s, s < 4 → (match nb c s with | none => true | some k => decide (k < 144)) = true := by decide +kernel
  intro c hc s hs k e
  have := this c hc s hs
  rw [e] at this
  exact of_decide_eq_true this
/-- one cell done: its four sides -/
theorem c70r (hw : HW h0) {z2 : Option Value} (hz2 : x_wide (some z2) = false) {Q : Option Value → Hp → Prop} (hj : j < 144) (K : ∀ (h : Hp) (D q : Nat → Nat) (n : Nat), AB h0 h D q n → QI (flT h0) z D q n (i + 1) → WP L xs 70 52 [some (.ref 390), some (.ref 4), z2, some (.int (nI (i + 1))), some (.int (nI j)), some (.int (nI 4))] [] h Q) : ∀ (m s : Nat) (h : Hp) (D q : Nat → Nat) (n : Nat), s + m = 4 → AB h0 h D q n → QI (flT h0) z D q n i → i < n → q i = j → (∀ s', s' < s → ∀ k, nb j s' = some k → flT h0 k 0 = 0 → ¬ D k = 0 ∧ D k ≤ D j + 1) → mxD D q n (D j + 1) → WP L xs 70 71 [some (.ref 390), some (.ref 4), z2, some (.int (nI i)), some (.int (nI j)), some (.int (nI s))] [] h Q
  | 0, s, h, D, q, n, hs, a, I, hi, e, cl, mx => by
    obtain rfl : s = 4 := by omega
    have n144 := QI_n I
    refine v70_71 (IE_w a.1 hw) hz2 ⟨fun _ => ?_, fun w => absurd (nI_le (Nat.le_refl 4) (by decide)) w⟩
    rw [nI_1]
    refine K h D q n a ?_
    obtain ⟨i1, i2, i3, i4, i5, i6, i7⟩ := I
    refine ⟨i1, i2, i3, fun p h1 h2 => ?_, fun p hp k hx hk hT => ?_, i6, hi⟩
    · have b1 := i4 p (by omega) h2
      have b2 := i3 i (i + 1) (by omega) (by omega)
      omega
    · by_cases w : p = i
      · rw [w, e] at hx ⊢
        obtain ⟨s', hs', hn⟩ := hx
        exact cl s' hs' k hn hT
      · exact i5 p (by omega) k hx hk hT
  | m + 1, s, h, D, q, n, hs, a, I, hi, e, cl, mx => by
    have n144 := QI_n I
    have hs4 : s < 4 := by omega
    have dj := I.1 i hi
    rw [e] at dj
    have nn := (nbr_all j hj s hs4).1
    refine v70_71 (IE_w a.1 hw) hz2 ⟨fun w => absurd w (nI_ge hs4 (by decide)), fun _ => ⟨j, rfl, hj, ?_⟩⟩
    rw [a.2.2.1 j hj, nI_1, nI_1]
    cases hb : nb j s with
    | none =>
      rw [hb] at nn
      rw [nn]
      refine ⟨h, c71n (IE_w a.1 hw), c70r hw hz2 hj K m (s + 1) h D q n (by omega) a I hi e (fun s' hs' k hn hT => ?_) mx⟩
      by_cases w : s' = s
      · rw [w, hb] at hn; cases hn
      · exact cl s' (by omega) k hn hT
    | some k =>
      rw [hb] at nn
      rw [nn]
      have hk := nb_144 j hj s hs4 k hb
      obtain ⟨h', D', q', n', s1, a', I', mx', o1, o2, o3, o4⟩ := c71 (L := L) (xs := xs) (d := D j + 1) hw a I hk (by omega) (by omega) (fun t0 => ⟨hk, t0, Or.inr ⟨j, (I.2.1 j hj dj.2.1).1, s, hs4, hb⟩⟩) mx (fun _ => by rw [e]; exact Nat.le_refl _)
      have ej : D' j = D j := o1 j dj.2.1
      refine ⟨h', s1, c70r hw hz2 hj K m (s + 1) h' D' q' n' (by omega) a' I' (by omega) ((o3 i hi).trans e) (fun s' hs' k' hn hT => ?_) (by rw [ej]; exact mx')⟩
      rw [ej]
      by_cases w : s' = s
      · rw [w, hb] at hn
        injection hn with hn
        rw [← hn] at hT ⊢
        exact o4 hT
      · have := cl s' (by omega) k' hn hT
        rw [o1 k' this.1]
        exact this
end RT
