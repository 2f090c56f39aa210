/-! The law's loop; the goal. -/
theorem lg_rf (v : Int64) : lg_cmp v v = 0 := by
  unfold lg_cmp
  simp
theorem xin_t {L a j : Nat} (h : a + j < L) (hL : L ≤ 4608) : x_in (nI a + nI j) L = true := by
  have h1 := nI_in (c := a + j) (N := L) h (by omega)
  rw [nI_add]
  unfold x_in
  rw [decide_eq_false (fun q => h1 (Or.inl q)), decide_eq_false (fun q => h1 (Or.inr q))]
  rfl
theorem law_end {L a : Nat} (hL : L ≤ 4608) (ha : a ≤ 5000) : (nI L - 9 < nI a) ↔ L < a + 9 := by
  rw [Int32.lt_iff_toInt_lt, show (9 : Int32) = nI 9 from rfl, pk_sub_toInt (by omega) (by omega), nI_toInt (by omega)]
  omega
theorem law_loop {L : Nat} {xs : Nat → Int32} (hL : L ≤ 4608) : ∀ (m a : Nat) (h : Hp) (k : Nat), L ≤ a + m → a ≤ 5000 → Rel h k → WP L xs 200 18 [some (.retAddr 0), some (.ref 0), some (.ref 397), some (.int (nI a))] [] h (fun r h' => r = some (.int 1) ∧ h'.1 ≤ 452)
  | 0, a, h, k, hm, ha, r => by
    refine v200_18 r.1.1 ⟨fun _ => ⟨rfl, ?_⟩, fun q => absurd ((law_end hL ha).mpr (by omega)) q⟩
    rw [r.1.2.2.1]
    have := r.1.2.1
    omega
  | m + 1, a, h, k, hm, ha, r => by
    refine v200_18 r.1.1 ⟨fun _ => ⟨rfl, ?_⟩, fun q => ?_⟩
    · rw [r.1.2.2.1]
      have := r.1.2.1
      omega
    have lt : a + 9 ≤ L := by
      apply Decidable.byContradiction
      intro y
      exact q ((law_end hL ha).mpr (by omega))
    have K : ∀ (h : Hp) (k : Nat), Rel h k → WP L xs 200 18 [some (.retAddr 0), some (.ref 0), some (.ref 397), some (.int (nI a + 9))] [] h (fun r h' => r = some (.int 1) ∧ h'.1 ≤ 452) := fun h k r => by
      rw [show (9 : Int32) = nI 9 from rfl, nI_add]
      exact law_loop hL m (a + 9) h k (by omega) (by omega) r
    have x0 : x_in (nI a) L = true := by
      have := xin_t (L := L) (a := a) (j := 0) (by omega) hL
      rw [nI_add] at this
      exact this
    have x1 : x_in (nI a + 1) L = true := xin_t (j := 1) (by omega) hL
    have x2 : x_in (nI a + 2) L = true := xin_t (j := 2) (by omega) hL
    have x3 : x_in (nI a + 3) L = true := xin_t (j := 3) (by omega) hL
    have x4 : x_in (nI a + 4) L = true := xin_t (j := 4) (by omega) hL
    have x5 : x_in (nI a + 5) L = true := xin_t (j := 5) (by omega) hL
    have x6 : x_in (nI a + 6) L = true := xin_t (j := 6) (by omega) hL
    have x7 : x_in (nI a + 7) L = true := xin_t (j := 7) (by omega) hL
    have x8 : x_in (nI a + 8) L = true := xin_t (j := 8) (by omega) hL
    refine ⟨x0, ?_⟩
    refine ⟨fun _ => ?_, fun _ => ?_⟩
    · obtain ⟨v, h1, h2, k2, s1, w1, s2, r2⟩ := op_recipe (L := L) (xs := xs) (x := (xs (nI a + 1).toNatClampNeg)) (y := (xs (nI a + 2).toNatClampNeg)) (z := (xs (nI a + 3).toNatClampNeg)) (u := (xs (nI a + 4).toNatClampNeg)) (v := (xs (nI a + 5).toNatClampNeg)) (w := (xs (nI a + 6).toNatClampNeg)) (t := (xs (nI a + 7).toNatClampNeg)) (a := (xs (nI a + 8).toNatClampNeg)) h k r
      exact ⟨x1, x2, x3, x4, x5, x6, x7, x8, v, h1, s1, w1, x1, x2, x3, x4, x5, x6, x7, x8, v, h2, s2, fun _ => K h2 k2 r2, fun q => absurd rfl q⟩
    refine ⟨fun _ => ?_, fun _ => ?_⟩
    · obtain ⟨v, h1, h2, k2, s1, w1, s2, r2⟩ := op_build (L := L) (xs := xs) (x := (xs (nI a + 1).toNatClampNeg)) (y := (xs (nI a + 2).toNatClampNeg)) (z := (xs (nI a + 3).toNatClampNeg)) (u := (xs (nI a + 4).toNatClampNeg)) (v := (xs (nI a + 5).toNatClampNeg)) h k r
      exact ⟨x1, x2, x3, x4, x5, v, h1, s1, x1, x2, x3, x4, x5, v, h2, s2, fun _ => K h2 k2 r2, fun q => absurd rfl q⟩
    refine ⟨fun _ => ?_, fun _ => ?_⟩
    · obtain ⟨v, h1, h2, k2, s1, w1, s2, r2⟩ := op_builds (L := L) (xs := xs) (x := (xs (nI a + 1).toNatClampNeg)) h k r
      exact ⟨x1, v, h1, s1, x1, v, h2, s2, fun _ => K h2 k2 r2, fun q => absurd rfl q⟩
    refine ⟨fun _ => ?_, fun _ => ?_⟩
    · obtain ⟨v, h1, h2, k2, s1, w1, s2, r2⟩ := op_raze (L := L) (xs := xs) (x := (xs (nI a + 1).toNatClampNeg)) h k r
      exact ⟨x1, v, h1, s1, x1, v, h2, s2, fun _ => K h2 k2 r2, fun q => absurd rfl q⟩
    refine ⟨fun _ => ?_, fun _ => ?_⟩
    · obtain ⟨v, h1, h2, k2, s1, w1, s2, r2⟩ := op_row (L := L) (xs := xs) (x := (xs (nI a + 1).toNatClampNeg)) (y := (xs (nI a + 2).toNatClampNeg)) (z := (xs (nI a + 3).toNatClampNeg)) h k r
      exact ⟨x1, x2, x3, v, h1, s1, x1, x2, x3, v, h2, s2, fun _ => K h2 k2 r2, fun q => absurd rfl q⟩
    refine ⟨fun _ => ?_, fun _ => ?_⟩
    · obtain ⟨v, h1, h2, k2, s1, w1, s2, r2⟩ := op_set (L := L) (xs := xs) (x := (xs (nI a + 1).toNatClampNeg)) (y := (xs (nI a + 2).toNatClampNeg)) (w := ((((xs (nI a + 3).toNatClampNeg)).toInt64) <<< ((32 : Int32).toInt64 &&& 63)) ||| ((((xs (nI a + 4).toNatClampNeg)).toInt64) &&& 4294967295)) h k r
      exact ⟨x1, x2, x3, x4, v, h1, s1, x1, x2, x3, x4, v, h2, s2, fun _ => K h2 k2 r2, fun q => absurd rfl q⟩
    refine ⟨fun _ => ?_, fun _ => ?_⟩
    · obtain ⟨v, h1, h2, k2, s1, w1, s2, r2⟩ := op_copy (L := L) (xs := xs) (x := (xs (nI a + 1).toNatClampNeg)) (y := (xs (nI a + 2).toNatClampNeg)) (z := (xs (nI a + 3).toNatClampNeg)) (u := (xs (nI a + 4).toNatClampNeg)) (v := (xs (nI a + 5).toNatClampNeg)) h k r
      exact ⟨x1, x2, x3, x4, x5, v, h1, s1, x1, x2, x3, x4, x5, v, h2, s2, fun _ => K h2 k2 r2, fun q => absurd rfl q⟩
    refine ⟨fun _ => ?_, fun _ => ?_⟩
    · obtain ⟨v, s1, s2⟩ := op_element (L := L) (xs := xs) (x := (xs (nI a + 1).toNatClampNeg)) (y := (xs (nI a + 2).toNatClampNeg)) h k r
      exact ⟨x1, x2, v, s1, x1, x2, v, s2, fun _ => K h k r, fun q => absurd (lg_rf v) q⟩
    refine ⟨fun _ => ?_, fun _ => ?_⟩
    · obtain ⟨v, h1, h2, k2, s1, w1, s2, r2⟩ := op_clear (L := L) (xs := xs) (x := (xs (nI a + 1).toNatClampNeg)) h k r
      exact ⟨x1, v, h1, s1, x1, v, h2, s2, fun _ => K h2 k2 r2, fun q => absurd rfl q⟩
    refine ⟨fun _ => ?_, fun _ => ?_⟩
    · obtain ⟨v, s1, s2⟩ := op_holds (L := L) (xs := xs) (x := (xs (nI a + 1).toNatClampNeg)) h k r
      exact ⟨x1, v, s1, x1, v, s2, fun _ => K h k r, fun q => absurd rfl q⟩
    refine ⟨fun _ => ?_, fun _ => ?_⟩
    · obtain ⟨v, h1, h2, k2, s1, w1, s2, r2⟩ := op_take (L := L) (xs := xs) (x := (xs (nI a + 1).toNatClampNeg)) (y := (xs (nI a + 2).toNatClampNeg)) (z := (xs (nI a + 3).toNatClampNeg)) (u := (xs (nI a + 4).toNatClampNeg)) h k r
      exact ⟨x1, x2, x3, x4, v, h1, s1, x1, x2, x3, x4, v, h2, s2, fun _ => K h2 k2 r2, fun q => absurd rfl q⟩
    refine ⟨fun _ => ?_, fun _ => ?_⟩
    · obtain ⟨v, h1, h2, k2, s1, w1, s2, r2⟩ := op_put (L := L) (xs := xs) (x := (xs (nI a + 1).toNatClampNeg)) (y := (xs (nI a + 2).toNatClampNeg)) (z := (xs (nI a + 3).toNatClampNeg)) h k r
      exact ⟨x1, x2, x3, v, h1, s1, x1, x2, x3, v, h2, s2, fun _ => K h2 k2 r2, fun q => absurd rfl q⟩
    refine ⟨fun _ => ?_, fun _ => ?_⟩
    · obtain ⟨v, h1, h2, k2, s1, w1, s2, r2⟩ := op_partsIn (L := L) (xs := xs) (x := (xs (nI a + 1).toNatClampNeg)) h k r
      exact ⟨x1, v, h1, s1, x1, v, h2, s2, fun _ => K h2 k2 r2, fun q => absurd rfl q⟩
    refine ⟨fun _ => ?_, fun _ => ?_⟩
    · obtain ⟨v, h1, h2, k2, s1, w1, s2, r2⟩ := op_tick (L := L) (xs := xs) (x := (xs (nI a + 1).toNatClampNeg)) h k r
      exact ⟨x1, v, h1, s1, x1, v, h2, s2, fun _ => K h2 k2 r2, fun q => absurd rfl q⟩
    refine ⟨fun _ => ?_, fun _ => ?_⟩
    · obtain ⟨v, h1, h2, k2, s1, w1, s2, r2⟩ := op_turn (L := L) (xs := xs) (x := (xs (nI a + 1).toNatClampNeg)) h k r
      exact ⟨x1, v, h1, s1, x1, v, h2, s2, fun _ => K h2 k2 r2, fun q => absurd rfl q⟩
    refine ⟨fun _ => ?_, fun _ => ?_⟩
    · obtain ⟨v, s1, s2⟩ := op_turned (L := L) (xs := xs) (x := (xs (nI a + 1).toNatClampNeg)) h k r
      exact ⟨x1, v, s1, x1, v, s2, fun _ => K h k r, fun q => absurd rfl q⟩
    refine ⟨fun _ => ?_, fun _ => ?_⟩
    · obtain ⟨v, s1, s2⟩ := op_cellTurn (L := L) (xs := xs) (x := (xs (nI a + 1).toNatClampNeg)) (y := (xs (nI a + 2).toNatClampNeg)) h k r
      exact ⟨x1, x2, v, s1, x1, x2, v, s2, fun _ => K h k r, fun q => absurd rfl q⟩
    refine ⟨fun _ => ?_, fun _ => ?_⟩
    · obtain ⟨v, s1, s2⟩ := op_part (L := L) (xs := xs) (x := (xs (nI a + 1).toNatClampNeg)) (y := (xs (nI a + 2).toNatClampNeg)) h k r
      exact ⟨x1, x2, v, s1, x1, x2, v, s2, fun _ => K h k r, fun q => absurd rfl q⟩
    refine ⟨fun _ => ?_, fun _ => ?_⟩
    · obtain ⟨v, s1, s2⟩ := op_sunk (L := L) (xs := xs) (x := (xs (nI a + 1).toNatClampNeg)) h k r
      exact ⟨x1, v, s1, x1, v, s2, fun _ => K h k r, fun q => absurd rfl q⟩
    refine ⟨fun _ => ?_, fun _ => ?_⟩
    · obtain ⟨v, h1, h2, k2, s1, w1, s2, r2⟩ := op_wish (L := L) (xs := xs) (x := (xs (nI a + 1).toNatClampNeg)) (y := (xs (nI a + 2).toNatClampNeg)) (z := (xs (nI a + 3).toNatClampNeg)) h k r
      exact ⟨x1, x2, x3, v, h1, s1, x1, x2, x3, v, h2, s2, fun _ => K h2 k2 r2, fun q => absurd rfl q⟩
    refine ⟨fun _ => ?_, fun _ => ?_⟩
    · obtain ⟨v, s1, s2⟩ := op_machines (L := L) (xs := xs) (x := (xs (nI a + 1).toNatClampNeg)) h k r
      exact ⟨x1, v, s1, x1, v, s2, fun _ => K h k r, fun q => absurd rfl q⟩
    refine ⟨fun _ => ?_, fun _ => ?_⟩
    · obtain ⟨v, s1, s2⟩ := op_rate (L := L) (xs := xs) (x := (xs (nI a + 1).toNatClampNeg)) (y := if (xs (nI a + 2).toNatClampNeg) = 0 then (false) else (true)) h k r
      exact ⟨x1, x2, v, s1, x1, x2, v, s2, fun _ => K h k r, fun q => absurd (lg_rf v) q⟩
    refine ⟨fun _ => ?_, fun _ => ?_⟩
    · obtain ⟨v, h1, h2, k2, s1, w1, s2, r2⟩ := op_path (L := L) (xs := xs) (x := (xs (nI a + 1).toNatClampNeg)) (y := (xs (nI a + 2).toNatClampNeg)) h k r
      exact ⟨x1, x2, v, h1, s1, x1, x2, v, h2, s2, fun _ => K h2 k2 r2, fun q => absurd rfl q⟩
    refine ⟨fun _ => ?_, fun _ => ?_⟩
    · obtain ⟨v, h1, h2, k2, s1, w1, s2, r2⟩ := op_lay (L := L) (xs := xs) (x := (xs (nI a + 1).toNatClampNeg)) (y := (xs (nI a + 2).toNatClampNeg)) h k r
      exact ⟨x1, x2, v, h1, s1, x1, x2, v, h2, s2, fun _ => K h2 k2 r2, fun q => absurd rfl q⟩
    refine ⟨fun _ => ?_, fun _ => ?_⟩
    · obtain ⟨v, s1, s2⟩ := op_status (L := L) (xs := xs) (x := (xs (nI a + 1).toNatClampNeg)) h k r
      exact ⟨x1, v, s1, x1, v, s2, fun _ => K h k r, fun q => absurd rfl q⟩
    exact K h k r
set_option maxRecDepth 100000 in
theorem i200_0 : INS 200 0 = some (21, 3, 10, 0, .null, []) := rfl
set_option maxRecDepth 100000 in
theorem i200_3 : INS 200 3 = some (8, 1, 0, 0, .null, []) := rfl
set_option maxRecDepth 100000 in
theorem i200_4 : INS 200 4 = some (24, 3, 83, 1, .null, []) := rfl
set_option maxRecDepth 100000 in
theorem i200_7 : INS 200 7 = some (1, 1, 1, 2, .null, []) := rfl
set_option maxRecDepth 100000 in
theorem i200_8 : INS 200 8 = some (21, 3, 11, 0, .null, []) := rfl
set_option maxRecDepth 100000 in
theorem i200_11 : INS 200 11 = some (8, 1, 0, 0, .null, []) := rfl
set_option maxRecDepth 100000 in
theorem i200_12 : INS 200 12 = some (24, 3, 122, 1, .null, []) := rfl
set_option maxRecDepth 100000 in
theorem i200_15 : INS 200 15 = some (1, 1, 2, 2, .null, []) := rfl
set_option maxRecDepth 100000 in
theorem i200_16 : INS 200 16 = some (2, 1, 0, 0, .int 0, []) := rfl
set_option maxRecDepth 100000 in
theorem i200_17 : INS 200 17 = some (1, 1, 3, 0, .null, []) := rfl
theorem x_goal (L : Nat) (xs : Nat → Int32) (hL : L ≤ 4608) : ∃ (f : Nat) (h' : Hp), ev L xs f 200 0 (x_loc (ML 200) [.retAddr 0]) [] x_h0 = some (some (.int 1), h') ∧ h'.1 ≤ 452 := by
  obtain ⟨h1, h2, s1, n1, s2, r⟩ := c_init L xs
  have key : WP L xs 200 0 [some (.retAddr 0), none, none, none] [] x_h0 (fun r h' => r = some (.int 1) ∧ h'.1 ≤ 452) := by
    refine e_new (pc' := 3) (n := 0) i200_0 rfl rfl (by decide +kernel) ?_
    refine e_stk (pc' := 4) i200_3 rfl rfl ?_
    refine e_cV (pc' := 7) (As := [.ref 0]) (rest := [.ref 0]) i200_4 rfl rfl rfl rfl (by decide +kernel) s1 ?_
    refine e_st (ls' := [some (.retAddr 0), some (.ref 0), none, none]) (pc' := 8) i200_7 rfl rfl rfl ?_
    refine e_new (pc' := 11) (n := 397) i200_8 rfl n1 (by decide +kernel) ?_
    refine e_stk (pc' := 12) i200_11 rfl rfl ?_
    refine e_cV (pc' := 15) (As := [.ref 397]) (rest := [.ref 397]) i200_12 rfl rfl rfl rfl ?_ s2 ?_
    · show Nat.beq (x_kd 122) 2 = true
      decide +kernel
    refine e_st (ls' := [some (.retAddr 0), some (.ref 0), some (.ref 397), none]) (pc' := 16) i200_15 rfl rfl rfl ?_
    refine e_cn (pc' := 17) i200_16 rfl ?_
    refine e_st (ls' := [some (.retAddr 0), some (.ref 0), some (.ref 397), some (.int 0)]) (pc' := 18) i200_17 rfl rfl rfl ?_
    exact law_loop hL L 0 h2 0 (by omega) (by omega) r
  obtain ⟨f, r', h', e, rfl, q⟩ := key
  exact ⟨f, h', e, q⟩
