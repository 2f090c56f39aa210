/-! The call path. -/
section PT1
variable {L : Nat} {xs : Nat → Int32} {h h0 : Hp} {z a s : Nat}
/-- the cell that side s of a leads to -/
def goS (T : Nat → Row) (a s : Nat) : Option Nat := if ldT (T a) (nI s) = true then nb a s else none
theorem c69 (hw : HW h) (ha : a < 144) (hs : s < 4) : Sp L xs 69 [.ref 390, .ref 4, .int (nI a), .int (nI s)] h (some (.int (match goS (flT h) a s with | none => 0 | some k => gI h 391 k))) h := by
  have s29 := c29 (L := L) (xs := xs) (s := nI s) hw (PT_4 ha)
  have nn := (nbr_all a ha s hs).1
  refine sp_eq (v69 hw ⟨a, rfl, ha, _, s29, fun l0 => ?_, fun l0 => ?_⟩)
  · have hl : ldT (flT h a) (nI s) = false := b2i_0.mp l0
    have e : goS (flT h) a s = none := by unfold goS; rw [hl]; rfl
    rw [e]; exact ⟨rfl, rfl⟩
  · have hl : ldT (flT h a) (nI s) = true := b2i_n.mp l0
    have e : goS (flT h) a s = nb a s := by unfold goS; rw [hl]; rfl
    rw [e]
    cases hb : nb a s with
    | none =>
      rw [hb] at nn
      exact ⟨fun _ => ⟨rfl, rfl⟩, fun q => absurd nn q⟩
    | some k =>
      rw [hb] at nn
      have hk := nb_144 a ha s hs k hb
      exact ⟨fun q => absurd (nn.symm.trans q) (nI_m1 (by omega)), fun _ => ⟨k, nn, hk, rfl, rfl⟩⟩
end PT1
