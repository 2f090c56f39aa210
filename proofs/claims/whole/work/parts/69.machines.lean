/-! The call machines. -/
theorem op_machines {L : Nat} {xs : Nat → Int32} {x : Int32} : OPS L xs 104 183 [.ref 0, .int x] [.ref 397, .int x] := by
  intro h k r
  have hw := r.1.1
  have hk := r.1.2.1
  have em := r.1.2.2.2.2.1
  obtain ⟨p1, -⟩ := r.2.2.2.2.2
  by_cases hx : x_in3 x 0 7 = true
  · obtain ⟨j, -, hj, rfl⟩ := in3_n (a := 0) (b := 7) (by decide) (by decide) hx
    have s1 := sp_eq (v104 (L := L) (xs := xs) hw ⟨fun _ => ⟨j, rfl, by omega, rfl, rfl⟩, fun q => absurd hx q⟩)
    by_cases q : x_in3 (nI j) 0 (nI k - 1) = true
    · refine ⟨gI h 441 j, ?_, sp_eq (v183 hw ⟨fun _ => ⟨j, rfl, by omega, rfl, rfl⟩, fun w => absurd (by rw [em]; exact q) w⟩)⟩
      rw [(p1 j (by omega)).1] at s1
      exact s1
    · have kj : k ≤ j := by
        apply Decidable.byContradiction
        intro w
        exact q ((nI_range (by omega)).mpr ⟨j, by omega, rfl⟩)
      refine ⟨0, ?_, sp_eq (v183 hw ⟨fun w => absurd (by rw [em] at w; exact w) q, fun _ => ⟨rfl, rfl⟩⟩)⟩
      rw [(p1 j (by omega)).1, (p1 j (by omega)).2 kj] at s1
      exact s1
  · refine ⟨0, sp_eq (v104 hw ⟨fun q => absurd q hx, fun _ => ⟨rfl, rfl⟩⟩), sp_eq (v183 hw ⟨fun q => ?_, fun _ => ⟨rfl, rfl⟩⟩)⟩
    exfalso
    rw [em] at q
    obtain ⟨a, ha, e⟩ := (nI_range (by omega)).mp q
    exact hx (by rw [e]; exact (in3_t (a := 0) (b := 7) (by omega) (by decide) (by decide)).mpr ⟨Nat.zero_le _, by omega⟩)
