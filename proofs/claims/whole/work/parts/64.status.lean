/-! The call status. -/
def sumI (f : Nat → Int32) : Nat → Int32
  | 0 => 0
  | n + 1 => sumI f n + f n
theorem sumI_e {f g : Nat → Int32} : ∀ n, (∀ i, i < n → f i = g i) → sumI f n = sumI g n
  | 0, _ => rfl
  | n + 1, e => by
    show sumI f n + f n = sumI g n + g n
    rw [sumI_e n (fun i hi => e i (by omega)), e n (Nat.lt_succ_self n)]
section ST
variable {L : Nat} {xs : Nat → Int32} {h : Hp} {k c s : Nat} {x : Int32}
theorem sm_s {f : Nat → Int32} {n : Nat} : sumI f n + f n = sumI f (n + 1) := rfl
theorem c22l (hw : HW h) : ∀ (m n : Nat), n + m = 144 → WP L xs 22 4 [some (.ref 4), some (.int (sumI (fun c => b2i (if gI h (10 + c) 0 = 0 then false else true)) n)), some (.int (nI n))] [] h (fun r h' => r = some (.int (sumI (fun c => b2i (if gI h (10 + c) 0 = 0 then false else true)) 144)) ∧ h' = h)
  | 0, n, hn => by
    obtain rfl : n = 144 := by omega
    exact v22_4 hw FL_4 ⟨fun _ => ⟨rfl, rfl⟩, fun q => absurd (nI_le (Nat.le_refl 144) (by decide)) q⟩
  | m + 1, n, hn => by
    refine v22_4 hw FL_4 ⟨fun q => absurd q (nI_ge (show n < 144 by omega) (by decide)), fun _ => ⟨n, rfl, by omega, fun q => ?_, fun q => ?_⟩⟩
    · have : sumI (fun c => b2i (if gI h (10 + c) 0 = 0 then false else true)) n = sumI (fun c => b2i (if gI h (10 + c) 0 = 0 then false else true)) (n + 1) := by
        show _ = _ + b2i (if gI h (10 + n) 0 = 0 then false else true)
        rw [if_pos (show gI h (10 + n) 0 = 0 from q)]
        exact (Int32.add_zero _).symm
      rw [nI_1, this]
      exact c22l hw m (n + 1) (by omega)
    · have : sumI (fun c => b2i (if gI h (10 + c) 0 = 0 then false else true)) n + 1 = sumI (fun c => b2i (if gI h (10 + c) 0 = 0 then false else true)) (n + 1) := by
        show _ = _ + b2i (if gI h (10 + n) 0 = 0 then false else true)
        rw [if_neg (show ¬ gI h (10 + n) 0 = 0 from q)]
        rfl
      rw [nI_1, this]
      exact c22l hw m (n + 1) (by omega)
theorem c194l (hw : HW h) {z1 : Option Value} (hz : x_wide (some z1) = false) : ∀ (m n : Nat), n + m = 144 → WP L xs 194 38 [some (.ref 397), z1, some (.int (sumI (fun c => b2i (if gI h 405 c = 0 then false else true)) n)), some (.int (nI n))] [] h (fun r h' => r = some (.int (sumI (fun c => b2i (if gI h 405 c = 0 then false else true)) 144)) ∧ h' = h)
  | 0, n, hn => by
    obtain rfl : n = 144 := by omega
    exact v194_38 hw hz ⟨fun _ => ⟨rfl, rfl⟩, fun q => absurd (nI_le (Nat.le_refl 144) (by decide)) q⟩
  | m + 1, n, hn => by
    refine v194_38 hw hz ⟨fun q => absurd q (nI_ge (show n < 144 by omega) (by decide)), fun _ => ⟨n, rfl, by omega, ?_⟩⟩
    rw [nI_1]
    exact c194l hw hz m (n + 1) (by omega)
theorem c194k (hw : HW h) {z1 : Option Value} (hz : x_wide (some z1) = false) : ∀ (m n : Nat), n + m = 21 → WP L xs 194 87 [some (.ref 397), z1, some (.int (sumI (fun c => gI h 411 c) n)), some (.int (nI n))] [] h (fun r h' => r = some (.int (sumI (fun c => gI h 411 c) 21)) ∧ h' = h)
  | 0, n, hn => by
    obtain rfl : n = 21 := by omega
    exact v194_87 hw hz ⟨fun _ => ⟨rfl, rfl⟩, fun q => absurd (by decide) q⟩
  | m + 1, n, hn => by
    have n20 : ¬ 20 < nI n := Int32.not_lt.mpr (nI_le (b := 20) (by omega) (by decide))
    refine v194_87 hw hz ⟨fun q => absurd q n20, fun _ => ⟨n, rfl, by omega, ?_⟩⟩
    rw [nI_1]
    exact c194k hw hz m (n + 1) (by omega)
theorem c24l (hw : HW h) : ∀ (m n : Nat), n + m = 21 → WP L xs 24 4 [some (.ref 4), some (.int (sumI (fun c => gI h 6 c) n)), some (.int (nI n))] [] h (fun r h' => r = some (.int (sumI (fun c => gI h 6 c) 21)) ∧ h' = h)
  | 0, n, hn => by
    obtain rfl : n = 21 := by omega
    exact v24_4 hw FL_4 ⟨fun _ => ⟨rfl, rfl⟩, fun q => absurd (by decide) q⟩
  | m + 1, n, hn => by
    have n20 : ¬ 20 < nI n := Int32.not_lt.mpr (nI_le (b := 20) (by omega) (by decide))
    refine v24_4 hw FL_4 ⟨fun q => absurd q n20, fun _ => ⟨n, rfl, by omega, ?_⟩⟩
    rw [nI_1]
    exact c24l hw m (n + 1) (by omega)
/-- what a cell holds -/
def inC (y : Row) : Int32 := b2i (if y 5 = 0 then false else true) + y 7 + y 8 + y 9
theorem c23l (hw : HW h) : ∀ (m n : Nat), n + m = 144 → WP L xs 23 4 [some (.ref 4), some (.int (sumI (fun c => inC (gI h (10 + c))) n)), some (.int (nI n))] [] h (fun r h' => r = some (.int (sumI (fun c => inC (gI h (10 + c))) 144)) ∧ h' = h)
  | 0, n, hn => by
    obtain rfl : n = 144 := by omega
    exact v23_4 hw FL_4 ⟨fun _ => ⟨rfl, rfl⟩, fun q => absurd (nI_le (Nat.le_refl 144) (by decide)) q⟩
  | m + 1, n, hn => by
    refine v23_4 hw FL_4 ⟨fun q => absurd q (nI_ge (show n < 144 by omega) (by decide)), fun _ => ⟨n, rfl, by omega, inC (gI h (10 + n)), sp_eq (v39 hw (PT_4 (by omega)) ⟨rfl, rfl⟩), ?_⟩⟩
    rw [nI_1]
    exact c23l hw m (n + 1) (by omega)
theorem c193l (r : Rel h k) : ∀ (m n : Nat), n + m = 144 → WP L xs 193 4 [some (.ref 397), some (.int (sumI (fun c => inC (gI h (10 + c))) n)), some (.int (nI n))] [] h (fun r h' => r = some (.int (sumI (fun c => inC (gI h (10 + c))) 144)) ∧ h' = h)
  | 0, n, hn => by
    obtain rfl : n = 144 := by omega
    exact v193_4 r.1.1 ⟨fun _ => ⟨rfl, rfl⟩, fun q => absurd (nI_le (Nat.le_refl 144) (by decide)) q⟩
  | m + 1, n, hn => by
    have hn4 : n < 144 := by omega
    obtain ⟨a1, a2, ⟨a3, a4⟩, -, -⟩ := r.2.1.1 n hn4
    have ss : sumI (fun c => inC (gI h (10 + c))) (n + 1) = sumI (fun c => inC (gI h (10 + c))) n + inC (gI h (10 + n)) := rfl
    refine v193_4 r.1.1 ⟨fun q => absurd q (nI_ge hn4 (by decide)), fun _ => ⟨n, rfl, hn4, fun k6 => ⟨_, ix4 n, by omega, _, ix5 n, by omega, ?_⟩, fun k6 => ⟨fun k0 => ?_, fun k0 => ?_⟩⟩⟩
    · have z6 : gI h (10 + n) 0 = 6 := a3.trans k6
      have z0 : ¬ gI h (10 + n) 0 = 0 := by rw [z6]; decide
      have e7 : gI h (10 + n) 7 = gI h 417 (2 * n) := by rw [a4 z0 7 (by decide) (by decide), MV0]; rfl
      have e8 : gI h (10 + n) 8 = gI h 417 (2 * n + 1) := by rw [a4 z0 8 (by decide) (by decide), MV0]; rfl
      have e9 : gI h (10 + n) 9 = gI h 414 n := by rw [a4 z0 9 (by decide) (by decide), MV0]; rfl
      have e5 : gI h (10 + n) 5 = 0 := a2.2.2.2.2.1 (Or.inl z6)
      have : sumI (fun c => inC (gI h (10 + c))) n + (gI h 414 n + gI h 417 (2 * n) + gI h 417 (2 * n + 1)) = sumI (fun c => inC (gI h (10 + c))) (n + 1) := by
        rw [ss]
        congr 1
        unfold inC
        rw [e5, e7, e8, e9, if_pos rfl, show b2i false = 0 from rfl, Int32.zero_add]
        ac_rfl
      rw [nI_1, this]
      exact c193l r m (n + 1) (by omega)
    · have z0 : gI h (10 + n) 0 = 0 := a3.trans k0
      have zz := a2.2.1 z0
      have : sumI (fun c => inC (gI h (10 + c))) n = sumI (fun c => inC (gI h (10 + c))) (n + 1) := by
        rw [ss]
        unfold inC
        rw [zz 5 (by decide) (by decide), zz 7 (by decide) (by decide), zz 8 (by decide) (by decide), zz 9 (by decide) (by decide)]
        exact (Int32.add_zero _).symm
      rw [nI_1, this]
      exact c193l r m (n + 1) (by omega)
    · have z0 : ¬ gI h (10 + n) 0 = 0 := fun q => k0 (a3.symm.trans q)
      have z6 : ¬ gI h (10 + n) 0 = 6 := fun q => k6 (a3.symm.trans q)
      have e5 : gI h (10 + n) 5 = gI h 412 n := by rw [a4 z0 5 (by decide) (by decide), MV0]; rfl
      obtain ⟨e7, e8, e9, -⟩ := a2.2.2.2.2.2.2.2.2.2.1 z6
      have : sumI (fun c => inC (gI h (10 + c))) n + b2i (if gI h 412 n = 0 then false else true) = sumI (fun c => inC (gI h (10 + c))) (n + 1) := by
        rw [ss]
        congr 1
        unfold inC
        rw [e5, e7, e8, e9, Int32.add_zero, Int32.add_zero, Int32.add_zero]
      rw [nI_1, this]
      exact c193l r m (n + 1) (by omega)
theorem in3_7 {x : Int32} (h : x_in3 x 11 17 = true) : ∃ j, j < 8 ∧ x - 10 = nI j := by
  obtain ⟨n, h1, h2, e⟩ := in3_n (a := 11) (b := 17) (by decide) (by decide) h
  rcases (show n = 11 ∨ n = 12 ∨ n = 13 ∨ n = 14 ∨ n = 15 ∨ n = 16 ∨ n = 17 by omega) with w | w | w | w | w | w | w <;> (rw [w] at e; rw [e])
  · exact ⟨1, by decide, by decide⟩
  · exact ⟨2, by decide, by decide⟩
  · exact ⟨3, by decide, by decide⟩
  · exact ⟨4, by decide, by decide⟩
  · exact ⟨5, by decide, by decide⟩
  · exact ⟨6, by decide, by decide⟩
  · exact ⟨7, by decide, by decide⟩
theorem op_status : OPS L xs 108 194 [.ref 0, .int x] [.ref 397, .int x] := by
  intro h k r
  have hw := r.1.1
  by_cases x0 : x = 0
  · have s1 := sp_eq (v22 hw FL_4 (c22l (L := L) (xs := xs) hw 144 0 rfl))
    have e : sumI (fun c => b2i (if gI h (10 + c) 0 = 0 then false else true)) 144 = sumI (fun c => b2i (if gI h 405 c = 0 then false else true)) 144 := sumI_e 144 (fun c hc => by
      show b2i (if gI h (10 + c) 0 = 0 then false else true) = b2i (if gI h 405 c = 0 then false else true)
      rw [show gI h (10 + c) 0 = gI h 405 c from (r.2.1.1 c hc).2.2.1.1])
    rw [e] at s1
    exact ⟨_, sp_eq (v108 hw ⟨fun _ => ⟨_, s1, rfl, rfl⟩, fun q => absurd x0 q⟩), sp_eq (v194 hw ⟨fun _ => c194l hw rfl 144 0 rfl, fun q => absurd x0 q⟩)⟩
  · by_cases x1 : x = 1
    · exact ⟨nI k, sp_eq (v108 hw ⟨fun q => absurd q x0, fun _ => ⟨fun _ => ⟨by rw [r.1.2.2.2.1], rfl⟩, fun q => absurd x1 q⟩⟩), sp_eq (v194 hw ⟨fun q => absurd q x0, fun _ => ⟨fun _ => ⟨by rw [r.1.2.2.2.2.1], rfl⟩, fun q => absurd x1 q⟩⟩)⟩
    · by_cases x2 : x = 2
      · obtain ⟨t, ht, t1, t2⟩ := r.2.1.2.1
        exact ⟨nI t, sp_eq (v108 hw ⟨fun q => absurd q x0, fun _ => ⟨fun q => absurd q x1, fun _ => ⟨fun _ => ⟨by rw [t1], rfl⟩, fun q => absurd x2 q⟩⟩⟩), sp_eq (v194 hw ⟨fun q => absurd q x0, fun _ => ⟨fun q => absurd q x1, fun _ => ⟨fun _ => ⟨by rw [t2], rfl⟩, fun q => absurd x2 q⟩⟩⟩)⟩
      · by_cases x3 : x = 3
        · have s1 := sp_eq (v23 hw FL_4 (c23l (L := L) (xs := xs) hw 144 0 rfl))
          have s2 := sp_eq (v193 hw (c193l (L := L) (xs := xs) r 144 0 rfl))
          exact ⟨_, sp_eq (v108 hw ⟨fun q => absurd q x0, fun _ => ⟨fun q => absurd q x1, fun _ => ⟨fun q => absurd q x2, fun _ => ⟨fun _ => ⟨_, s1, rfl, rfl⟩, fun q => absurd x3 q⟩⟩⟩⟩), sp_eq (v194 hw ⟨fun q => absurd q x0, fun _ => ⟨fun q => absurd q x1, fun _ => ⟨fun q => absurd q x2, fun _ => ⟨fun _ => ⟨_, s2, rfl, rfl⟩, fun q => absurd x3 q⟩⟩⟩⟩)⟩
        · by_cases x4 : x = 4
          · have z6 : sumI (fun c => gI h 6 c) 1 = 0 := by
              show 0 + gI h 6 0 = 0
              rw [r.2.1.2.2.1 0 (by decide), r.2.1.2.2.2]
              decide
            have w := c24l (L := L) (xs := xs) hw 20 1 rfl
            rw [z6] at w
            have s1 := sp_eq (v24 hw FL_4 w)
            have e : sumI (fun c => gI h 6 c) 21 = sumI (fun c => gI h 411 c) 21 := sumI_e 21 (fun c hc => r.2.1.2.2.1 c hc)
            rw [e] at s1
            exact ⟨_, sp_eq (v108 hw ⟨fun q => absurd q x0, fun _ => ⟨fun q => absurd q x1, fun _ => ⟨fun q => absurd q x2, fun _ => ⟨fun q => absurd q x3, fun _ => ⟨fun _ => ⟨_, s1, rfl, rfl⟩, fun q => absurd x4 q⟩⟩⟩⟩⟩), sp_eq (v194 hw ⟨fun q => absurd q x0, fun _ => ⟨fun q => absurd q x1, fun _ => ⟨fun q => absurd q x2, fun _ => ⟨fun q => absurd q x3, fun _ => ⟨fun _ => c194k hw rfl 21 0 rfl, fun q => absurd x4 q⟩⟩⟩⟩⟩)⟩
          · by_cases hx : x_in3 x 11 17 = true
            · obtain ⟨j, hj, e⟩ := in3_7 hx
              exact ⟨gI h 398 j, sp_eq (v108 hw ⟨fun q => absurd q x0, fun _ => ⟨fun q => absurd q x1, fun _ => ⟨fun q => absurd q x2, fun _ => ⟨fun q => absurd q x3, fun _ => ⟨fun q => absurd q x4, fun _ => ⟨fun _ => ⟨j, e, hj, by rw [r.2.2.1 j hj], rfl⟩, fun q => absurd hx q⟩⟩⟩⟩⟩⟩), sp_eq (v194 hw ⟨fun q => absurd q x0, fun _ => ⟨fun q => absurd q x1, fun _ => ⟨fun q => absurd q x2, fun _ => ⟨fun q => absurd q x3, fun _ => ⟨fun q => absurd q x4, fun _ => ⟨fun _ => ⟨j, e, hj, rfl, rfl⟩, fun q => absurd hx q⟩⟩⟩⟩⟩⟩)⟩
            · exact ⟨-1, sp_eq (v108 hw ⟨fun q => absurd q x0, fun _ => ⟨fun q => absurd q x1, fun _ => ⟨fun q => absurd q x2, fun _ => ⟨fun q => absurd q x3, fun _ => ⟨fun q => absurd q x4, fun _ => ⟨fun q => absurd q hx, fun _ => ⟨rfl, rfl⟩⟩⟩⟩⟩⟩⟩), sp_eq (v194 hw ⟨fun q => absurd q x0, fun _ => ⟨fun q => absurd q x1, fun _ => ⟨fun q => absurd q x2, fun _ => ⟨fun q => absurd q x3, fun _ => ⟨fun q => absurd q x4, fun _ => ⟨fun q => absurd q hx, fun _ => ⟨rfl, rfl⟩⟩⟩⟩⟩⟩⟩)⟩
end ST
