/-! The heap behind both constructors. -/
theorem c_fin_s {o : Option (Option Value × CHp)} (h : c_fin o = true) : ∃ c, o = some (none, c) ∧ c_chk c = true := by
  unfold c_fin at h
  split at h
  · exact ⟨_, rfl, h⟩
  · cases h
theorem c_mid_s {o : Option (Option Value × CHp)} (h : c_mid o = true) : ∃ c, o = some (none, c) ∧ c.1 = 397 ∧ c_fin (evc 20000 122 0 (x_loc (ML 122) [.ref 397]) [] (cN c)) = true := by
  unfold c_mid at h
  split at h
  · rw [Bool.and_eq_true] at h
    exact ⟨_, rfl, Nat.eq_of_beq_eq_true h.1, h.2⟩
  · cases h
theorem all_r {n : Nat} {p : Nat → Bool} (h : (List.range n).all p = true) : ∀ k, k < n → p k = true := fun k hk => List.all_eq_true.mp h k (List.mem_range.mpr hk)
theorem c_zero {h : Hp} (n : h.1 = 444) (I0 : ∀ i k, ¬ i = 420 → gI h i k = 0) (I4 : ∀ s, s < 8 → gI h 420 s = -1) (L0 : ∀ i k, ¬ i = 438 → ¬ i = 393 → gL h i k = 0) (L3 : gL h 393 3 = 1) (L4 : ∀ i, i < 21 → gL h 438 i = 1) (R0 : ∀ i k, 10 ≤ i → i < 154 → gR h i k = none) (hw : HW h) : Rel h 0 := by
  have z5 : ¬ (0 : Int32) = 5 := by decide
  have z6 : ¬ (0 : Int32) = 6 := by decide
  refine ⟨⟨hw, by decide, n, I0 2 1 (by decide), I0 397 1 (by decide), fun r hr => absurd hr (Nat.not_lt_zero r), fun r hr => absurd hr (Nat.not_lt_zero r), fun r hr => absurd hr (Nat.not_lt_zero r), fun r _ hr => absurd hr (Nat.not_lt_zero r)⟩, ⟨fun c hc => ?_, ⟨0, by decide, I0 4 3 (by decide), I0 397 14 (by decide)⟩, fun i hi => (I0 6 i (by decide)).trans (I0 411 i (by decide)).symm, I0 411 0 (by decide)⟩, fun j hj => (I0 1 j (by decide)).trans (I0 398 j (by decide)).symm, fun s hs => Or.inl ⟨I0 _ 2 (by omega), I4 s hs⟩, ⟨(I0 235 5 (by decide)).trans (I0 397 40 (by decide)).symm, Or.inl (I0 397 40 (by decide)), fun q => absurd ((I0 397 40 (by decide)).symm.trans q) (by decide)⟩, ⟨fun r hr => ⟨(I0 394 r (by decide)).trans (I0 441 r (by decide)).symm, fun _ => I0 441 r (by decide)⟩, 1, by decide, by decide, L3, fun i hi => ⟨0, by decide, L0 395 i (by decide) (by decide), ?_, ?_⟩⟩⟩
  · have x : ∀ j, gI h (10 + c) j = 0 := fun j => I0 _ j (by omega)
    have m : ∀ j, MV h 0 c j = 0 := fun j => by
      unfold MV
      refine I0 _ _ ?_
      have := AD_no 0 c j
      omega
    refine ⟨⟨fun q => absurd ((x 0).symm.trans q) z6, fun _ => R0 _ 4 (by omega) (by omega)⟩, ⟨⟨0, by decide, x 0⟩, fun _ j _ _ => x j, fun q => absurd (x 0) q, ⟨0, by decide, x 5⟩, fun _ => x 5, ⟨0, by decide, x 12⟩, ⟨0, by decide, x 13⟩, fun q => absurd ((x 0).symm.trans q) z5, fun _ => x 6, fun _ => ⟨x 7, x 8, x 9, x 10, x 11⟩, fun q => absurd ((x 0).symm.trans q) z6⟩, ⟨(x 0).trans (I0 405 c (by decide)).symm, fun q => absurd (x 0) q⟩, fun q => absurd (x 0) q, fun _ => m 5, ⟨0, by decide, m 12⟩, ⟨0, by decide, m 13⟩, by rw [m 11]; decide⟩
  · rw [Nat.gcd_zero_left]; exact L0 437 i (by decide) (by decide)
  · rw [Nat.gcd_zero_left]; exact L4 i hi
theorem c_rel {c : CHp} (h : c_chk c = true) : Rel (cAb c) 0 := by
  unfold c_chk at h
  simp only [Bool.and_eq_true] at h
  obtain ⟨h1, h2, h3, h4, h5, h6, h7, h8, h9, h10, h11⟩ := h
  have n : c.1 = 444 := Nat.eq_of_beq_eq_true h1
  refine c_zero n (fun i k hi => ?_) (fun s hs => of_decide_eq_true (all_r h3 s hs)) (fun i k ha hb => ?_) (of_decide_eq_true h5) (fun i hi => of_decide_eq_true (all_r h6 i hi)) (fun i k ha hb => ?_) ⟨by rw [show (cAb c).1 = c.1 from rfl, n]; exact Nat.le_refl _, fun i k q hq => ?_⟩
  · refine lkA_none _ (fun e he q => ?_) k
    have := Nat.eq_of_beq_eq_true (List.all_eq_true.mp h2 e he)
    omega
  · refine lkA_none _ (fun e he q => ?_) k
    have := List.all_eq_true.mp h4 e he
    rw [Bool.or_eq_true] at this
    rcases this with w | w
    · have := Nat.eq_of_beq_eq_true w; omega
    · have := Nat.eq_of_beq_eq_true w; omega
  · refine lkA_none _ (fun e he q => ?_) k
    have := List.all_eq_true.mp h7 e he
    rw [q, show Nat.blt 9 i = true from by rw [Nat.blt_eq]; omega, show Nat.blt i 154 = true from by rw [Nat.blt_eq]; omega] at this
    cases this
  · unfold LKf at hq
    by_cases a : i = 5
    · rw [if_pos a] at hq
      by_cases b : k < 144
      · rw [if_pos b] at hq
        rw [a, ← hq]
        exact of_decide_eq_true (all_r h9 k b)
      · rw [if_neg b] at hq; cases hq
    · rw [if_neg a] at hq
      by_cases a2 : i = 241
      · rw [if_pos a2] at hq
        by_cases b : k < 144
        · rw [if_pos b] at hq
          rw [a2, ← hq]
          exact of_decide_eq_true (all_r h10 k b)
        · rw [if_neg b] at hq; cases hq
      · rw [if_neg a2] at hq
        by_cases a3 : i = 154
        · rw [if_pos a3] at hq
          by_cases b : k < 8
          · rw [if_pos b] at hq
            rw [a3, ← hq]
            exact of_decide_eq_true (all_r h11 k b)
          · rw [if_neg b] at hq; cases hq
        · rw [if_neg a3] at hq
          exact of_decide_eq_true (List.all_eq_true.mp h8 _ (x_lfind_mem _ _ _ _ hq))
theorem c_init (L : Nat) (xs : Nat → Int32) : ∃ h1 h2, Sp L xs 83 [.ref 0] (hN x_h0) none h1 ∧ h1.1 = 397 ∧ Sp L xs 122 [.ref 397] (hN h1) none h2 ∧ Rel h2 0 := by
  have h := c_run_ok
  unfold c_run at h
  obtain ⟨c1, e1, n1, h⟩ := c_mid_s h
  obtain ⟨c2, e2, h⟩ := c_fin_s h
  have ok0 : COk (0, [], [], []) := ⟨fun e he => (by cases he), fun e he => (by cases he), fun e he => (by cases he)⟩
  have a0 : hN x_h0 = cAb (1, [], [], []) := (cAb_N ok0).symm
  obtain ⟨a1, ok1⟩ := evc_ev L xs _ _ _ _ _ _ _ (COk_N ok0) e1
  obtain ⟨a2, ok2⟩ := evc_ev L xs _ _ _ _ _ _ _ (COk_N ok1) e2
  rw [cAb_N ok1] at a2
  exact ⟨cAb c1, cAb c2, ⟨_, by rw [a0]; exact a1⟩, n1, ⟨_, a2⟩, c_rel h⟩
