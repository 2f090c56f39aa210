/-! The call path. -/
section PT1
variable {L : Nat} {xs : Nat → Int32} {h h0 : Hp} {z a s : Nat}
/-- the cell that side s of a leads to -/
def goS (T : Nat → Row) (a s : Nat) : Option Nat := if ldT (T a) (nI s) = true then nb a s else none
theorem c69 (hw : HW h) (ha : a < 144) (hs : s < 4) : Sp L xs 69 [.ref 390, .ref 4, .int (nI a), .int (nI s)] h (some (.int (match goS (flT h) a s with | none => 0 | some k => gI h 391 k))) h := by
  have s29 := c29 (L := L) (xs := xs) (s := nI s) hw (PT_4 ha)
  have nn := (nbr_all a ha s hs).1
  refine sp_eq (v69 hw ⟨a, rfl, ha, _, s29, fun l0 => ?_, fun l0 => ?_⟩)
  · have hl : ldT (flT h a) (nI s) = false := b2i_0.mp l0
    have e : goS (flT h) a s = none := by unfold goS; rw [hl]; rfl
    rw [e]; exact ⟨rfl, rfl⟩
  · have hl : ldT (flT h a) (nI s) = true := b2i_n.mp l0
    have e : goS (flT h) a s = nb a s := by unfold goS; rw [hl]; rfl
    rw [e]
    cases hb : nb a s with
    | none =>
      rw [hb] at nn
      exact ⟨fun _ => ⟨rfl, rfl⟩, fun q => absurd nn q⟩
    | some k =>
      rw [hb] at nn
      have hk := nb_144 a ha s hs k hb
      exact ⟨fun q => absurd (nn.symm.trans q) (nI_m1 (by omega)), fun _ => ⟨k, nn, hk, rfl, rfl⟩⟩
theorem nb_inj : ∀ a, a < 144 → ∀ s, s < 4 → ∀ t, t < 4 → ∀ z, nb a s = some z → nb a t = some z → s = t := by
  have : ∀ a, a < 144 → ∀ s, s < 4 → ∀ t, t < 4 → (match nb a s, nb a t with | some x, some y => decide (x = y → s = t) | _, _ => true) = true := by decide +kernel
  intro a ha s hs t ht z e1 e2
  have := this a ha s hs t ht
  rw [e1, e2] at this
  exact of_decide_eq_true this rfl
theorem opp4 : ∀ s, s < 4 → opp (nI s) = nI ((s + 2) % 4) ∧ (nI s + 2) - (nI s + 2) / 4 * 4 = nI ((s + 2) % 4) := by decide
theorem goS_nb {T : Nat → Row} {k : Nat} (e : goS T a s = some k) : ldT (T a) (nI s) = true ∧ nb a s = some k := by
  unfold goS at e
  by_cases l : ldT (T a) (nI s) = true
  · rw [if_pos l] at e; exact ⟨l, e⟩
  · rw [if_neg l] at e; cases e
/-- the source leads at once into the target -/
def adT (T : Nat → Row) (a z s : Nat) : Prop := goS T a s = some z ∧ ldT (T z) (nI ((s + 2) % 4)) = false
theorem c68l (hw : HW h) (ha : a < 144) (hz : z < 144) {z0 : Option Value} : ∀ (m s : Nat), s + m = 4 → (∀ t, t < s → ¬ goS (flT h) a t = some z) → WP L xs 68 3 [z0, some (.ref 4), some (.int (nI a)), some (.int (nI z)), some (.int (nI s))] [] h (fun r h' => h' = h ∧ ∃ v, r = some (.int v) ∧ (v = 0 ↔ ¬ ∃ s, s < 4 ∧ adT (flT h) a z s))
  | 0, s, hs, cl => by
    obtain rfl : s = 4 := by omega
    exact v68_3 hw ⟨fun _ => ⟨rfl, 0, rfl, fun _ ⟨t, ht, w⟩ => cl t ht w.1, fun _ => rfl⟩, fun q => absurd (nI_le (Nat.le_refl 4) (by decide)) q⟩
  | m + 1, s, hs, cl => by
    have hs4 : s < 4 := by omega
    have s29 := c29 (L := L) (xs := xs) (s := nI s) hw (PT_4 ha)
    have nn := (nbr_all a ha s hs4).1
    have next : ¬ goS (flT h) a s = some z → WP L xs 68 3 [z0, some (.ref 4), some (.int (nI a)), some (.int (nI z)), some (.int (nI s + 1))] [] h (fun r h' => h' = h ∧ ∃ v, r = some (.int v) ∧ (v = 0 ↔ ¬ ∃ s, s < 4 ∧ adT (flT h) a z s)) := fun ng => by
      rw [nI_1]
      refine c68l hw ha hz m (s + 1) (by omega) (fun t ht => ?_)
      by_cases y : t = s
      · rw [y]; exact ng
      · exact cl t (by omega)
    refine v68_3 hw ⟨fun q => absurd q (nI_ge hs4 (by decide)), fun _ => ⟨a, rfl, ha, _, s29, fun l0 => next (fun g => ?_), fun l0 => ⟨fun e => ?_, fun e => next (fun g => ?_)⟩⟩⟩
    · have hl : ldT (flT h a) (nI s) = false := b2i_0.mp l0
      rw [(goS_nb g).1] at hl; cases hl
    · have hl : ldT (flT h a) (nI s) = true := b2i_n.mp l0
      have t29 := c29 (L := L) (xs := xs) (s := opp (nI s)) hw (PT_4 hz)
      have hb : nb a s = some z := by
        rw [e] at nn
        cases hb : nb a s with
        | none => rw [hb] at nn; exact absurd nn (nI_m1 (by omega))
        | some k =>
          rw [hb] at nn
          have := nb_144 a ha s hs4 k hb
          rw [nI_inj (by omega) (by omega) nn]
      have g : goS (flT h) a s = some z := by unfold goS; rw [if_pos hl]; exact hb
      refine ⟨z, rfl, hz, _, t29, rfl, _, rfl, ?_⟩
      rw [b2i_0, (opp4 s hs4).1, b2i_nz]
      constructor
      · rintro q ⟨t, ht, w1, w2⟩
        have := nb_inj a ha t ht s hs4 z (goS_nb w1).2 hb
        rw [this] at w2
        rw [show ldT (gI h (10 + z)) (nI ((s + 2) % 4)) = false from w2] at q
        cases q
      · intro q
        cases w : ldT (gI h (10 + z)) (nI ((s + 2) % 4)) with
        | true => rfl
        | false => exact absurd ⟨s, hs4, g, w⟩ q
    · rw [(goS_nb g).2] at nn
      exact e nn
theorem c68 (hw : HW h) (ha : a < 144) (hz : z < 144) : ∃ v, Sp L xs 68 [.ref 390, .ref 4, .int (nI a), .int (nI z)] h (some (.int v)) h ∧ (v = 0 ↔ ¬ ∃ s, s < 4 ∧ adT (flT h) a z s) := by
  obtain ⟨r, h', s1, rfl, v, rfl, e⟩ := v68 (L := L) (xs := xs) hw (c68l (L := L) (xs := xs) (z0 := some (.ref 390)) hw ha hz 4 0 (by omega) (fun t ht => absurd ht (Nat.not_lt_zero t)))
  exact ⟨v, s1, e⟩
end PT1
