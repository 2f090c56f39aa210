/-! The law's body by 'ev'. -/
def x_h0 : Hp := (0, fun _ _ => 0, fun _ _ => 0, fun _ _ => none)
theorem x_lw_all {w : Cond} (h : w ∈ x_all) : w ∈ lw_tbl := (List.mem_filter.mp h).1
theorem x_nw_tbl : ∀ q ∈ x_nwl, Cond.methodLinkNest q.2.1 q.2.2.1 q.2.2.2.1 q.2.2.2.2 ∈ lw_tbl := by
  have h : x_nwl.all (fun q => decide (lw_tbl[q.1]? = some (Cond.methodLinkNest q.2.1 q.2.2.1 q.2.2.2.1 q.2.2.2.2))) = true := by decide +kernel
  intro q hq
  have h2 := List.all_eq_true.mp h q hq
  exact List.mem_of_getElem? (of_decide_eq_true h2)
theorem x_ao_tbl (t : Nat) : Cond.arrayOver (.object (x_ack t)) ∈ lw_tbl := by
  have h1 : Cond.arrayOver (.object "FloorTurn$Part") ∈ lw_tbl := List.mem_of_getElem? (i := 127) (by decide +kernel)
  have h2 : Cond.arrayOver (.object "FloorTurn$Recipe") ∈ lw_tbl := List.mem_of_getElem? (i := 108) (by decide +kernel)
  have h3 : Cond.arrayOver (.object "FloorTurn$Shelf") ∈ lw_tbl := List.mem_of_getElem? (i := 232) (by decide +kernel)
  unfold x_ack
  split
  · exact h1
  · exact h2
  · exact h3
/-- what the machine's tables hold of the array classes -/
theorem x_arrs {s : State} {args : Array Value} (hts : ∀ w ∈ lw_tbl, w.before args s = true) : ∃ KA : Nat → ClassId, ∀ (k : Nat) (q : ClassId × FieldType), (x_tys KA)[k]? = some q → ArrOfT s q.1 q.2 ∧ va_RA s q.1 q.2 := by
  have hp : ∀ ty : FieldType, Cond.arrayClass ty ∈ x_all → (∀ C, ty ≠ .object C) → ∃ c, ArrOfT s c ty ∧ va_RA s c ty := by
    intro ty hw ho
    obtain ⟨c, k, comp, h1, h2, h3⟩ := Cond.arrayClass_spec (hts _ (x_lw_all hw))
    refine ⟨c, fun N z => ⟨fun k h => (by cases h), k, h2, comp, h3⟩, ?_⟩
    cases ty <;> first | exact h1 | exact absurd rfl (ho _)
  have hq : ∀ t : Nat, ∃ c, ArrOfT s c (.object (x_ack t)) ∧ va_RA s c (.object (x_ack t)) := by
    intro t
    obtain ⟨comp, c, k, h1, h2, h3, h4, h5⟩ := Cond.arrayOver_spec (hts _ (x_ao_tbl t))
    exact ⟨c, fun N z => ⟨fun k h => (by cases h), k, h3, comp, h4⟩, k, comp, h3, h4, h1, h5⟩
  obtain ⟨c0, a0⟩ := hp .int x_warr20 (fun _ h => by cases h)
  obtain ⟨c1, a1⟩ := hp .long x_warr21 (fun _ h => by cases h)
  obtain ⟨c2, a2⟩ := hp .boolean x_warr22 (fun _ h => by cases h)
  obtain ⟨c3, a3⟩ := hq 23
  obtain ⟨c4, a4⟩ := hq 24
  obtain ⟨c5, a5⟩ := hq 25
  refine ⟨fun k => match k with | 0 => c0 | 1 => c1 | 2 => c2 | 3 => c3 | 4 => c4 | _ => c5, fun k q hk => ?_⟩
  match k, hk with
  | 0, hk => cases hk; exact a0
  | 1, hk => cases hk; exact a1
  | 2, hk => cases hk; exact a2
  | 3, hk => cases hk; exact a3
  | 4, hk => cases hk; exact a4
  | 5, hk => cases hk; exact a5
  | k + 6, hk => simp [x_tys] at hk
theorem x_classes {s : State} {args : Array Value} (hts : ∀ w ∈ lw_tbl, w.before args s = true) : ∃ D : va_G, ∀ (k : Nat) (q : vw_C), vwCl[k]? = some q → u_Kn s q.1 q.2.1 q.2.2 (D.1 k) (D.2 k) := by
  have h : ∀ k : Nat, ∃ (c : ClassId) (i : Nat → Nat), k < 12 → u_Kn s (RN k) (TT k) (NF k) c i := by
    intro k
    by_cases hk : k < 12
    · have F := x_cf k hk
      obtain ⟨c, i, h1⟩ := u_known (n := NF k) hts (fun w hw => x_lw_all (F.2.1 w hw)) (hts _ (x_lw_all F.2.2.2.2.1))
      exact ⟨c, i, fun _ => h1⟩
    · exact ⟨0, fun _ => 0, fun q => absurd q hk⟩
  refine ⟨(fun k => Classical.choose (h k), fun k => Classical.choose (Classical.choose_spec (h k))), fun k q hq => ?_⟩
  have hk : k < 12 := (List.getElem?_eq_some_iff.mp hq).1
  have e := (x_cf k hk).1.symm.trans hq
  cases e
  exact Classical.choose_spec (Classical.choose_spec (h k)) hk
theorem x_law_facts : MB 200 = code ∧ ML 200 = 4 ∧ MR 200 = some .boolean ∧ (MN 200).cls = "FloorTurnLaw" ∧ (MN 200).name = "law" ∧ MF 200 ≤ 9 ∧ MO 200 ≤ 330 ∧ x_ss 452 ≤ 7302250 := by
  refine ⟨rfl, by decide +kernel, by decide +kernel, by decide +kernel, by decide +kernel, by decide +kernel, by decide +kernel, by decide +kernel⟩
