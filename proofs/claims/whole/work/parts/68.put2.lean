/-! The call put. -/
section P2
variable {L : Nat} {xs : Nat → Int32} {h h1 h2 : Hp} {k c s t : Nat} {x y z : Int32}
theorem m153 {w g : Nat} {Q : Option Value → Hp → Prop} (w1 : HW h1) (hs : s < 8) (hx : x_isShelf (nI s) = true) (hy : x_isCell (nI c) = true) (hz : x_in3 (nI t) 0 3 = true) (ht : t < 4) (s152 : Sp L xs 152 [.ref 397, .int (nI s)] h1 (some (.int 0)) h1) (e4 : gI h1 424 s = nI w) (e5 : gI h1 425 s = nI g) (good : ¬ 12 - (nI c - nI c / 12 * 12) < nI (if t % 2 = 0 then w else g) → nI (if t % 2 = 0 then g else w) ≤ 12 - nI c / 12 → WP L xs 153 135 [some (.ref 397), some (.int (nI s)), some (.int (nI c)), some (.int (nI t)), some (.int 0), some (.int (nI (if t % 2 = 0 then w else g))), some (.int (nI (if t % 2 = 0 then g else w))), some (.int (nI 0)), none] [] h1 Q) (bad : ¬ (¬ 12 - (nI c - nI c / 12 * 12) < nI (if t % 2 = 0 then w else g) ∧ nI (if t % 2 = 0 then g else w) ≤ 12 - nI c / 12) → Q (some (.int (-6))) (hM h1 6)) : ∃ r h', Sp L xs 153 [.ref 397, .int (nI s), .int (nI c), .int (nI t)] h1 r h' ∧ Q r h' := by
  have rf := rfM (L := L) (xs := xs) w1 rv6
  refine v153 w1 ⟨fun _ => ⟨fun _ => ⟨_, s152, fun _ => ⟨fun _ => ⟨fun q => ⟨s, rfl, hs, ?_⟩, fun q => ⟨s, rfl, hs, ?_⟩⟩, fun q => absurd hz q⟩, fun q => absurd rfl q⟩, fun q => absurd hy q⟩, fun q => absurd hx q⟩
  · have q2 := (even4 t ht).2.mp q
    rw [if_pos q2, if_pos q2] at good bad
    rw [e4, e5]
    exact ⟨fun n1 => ⟨_, _, rf, bad (fun y => y.1 n1)⟩, fun n1 => ⟨fun n2 => good n1 n2, fun n2 => ⟨_, _, rf, bad (fun y => n2 y.2)⟩⟩⟩
  · have q2 : ¬ t % 2 = 0 := fun w => q ((even4 t ht).2.mpr w)
    rw [if_neg q2, if_neg q2] at good bad
    rw [e4, e5]
    exact ⟨fun n1 => ⟨_, _, rf, bad (fun y => y.1 n1)⟩, fun n1 => ⟨fun n2 => good n1 n2, fun n2 => ⟨_, _, rf, bad (fun y => n2 y.2)⟩⟩⟩
theorem op_put : OPI L xs 95 153 [.ref 0, .int x, .int y, .int z] [.ref 397, .int x, .int y, .int z] := by
  intro h k r
  have hw := r.1.1
  have r1 := r.1
  have r4 := r.2.2.2.1
  by_cases hx : x_isShelf x = true
  · by_cases hy : x_isCell y = true
    · have s111 := c111 (L := L) (xs := xs) (x := x) hw
      rcases pieB_v h x with e0 | ⟨n, rv⟩
      · by_cases hz : x_in3 z 0 3 = true
        · obtain ⟨s, hs, rfl, q1, q2, ⟨w, g, w1, w2, g1, g2, a1, a2, a3, a4, a5, a6⟩, q4⟩ := pieB_0 r4 e0
          obtain ⟨c, hc, rfl⟩ := isCell_n hy
          obtain ⟨t, -, ht3, rfl⟩ := in3_n (a := 0) (b := 3) (by decide) (by decide) hz
          have ht : t < 4 := by omega
          have hb := SB_of hs
          have wg : w * g ≤ 144 := Nat.le_trans (Nat.mul_le_mul (show w ≤ 12 by omega) (show g ≤ 12 by omega)) (by decide)
          have F : PCF h k s w g := ⟨hs, w1, w2, g1, g2, a1, a2, a3, a4, a5, a6, fun j hj hz => q4 j (by omega) hz ⟨w, g, a2, a4, w2, g2, hj⟩⟩
          obtain ⟨s45, s46⟩ := c46 (L := L) (xs := xs) hw hb ht a1 a3
          obtain ⟨d1, d2⟩ := c12 c hc
          rw [e0] at s111
          have s152 : ∀ {h1 : Hp}, HW h1 → gI h1 420 = gI h 420 → Sp L xs 152 [.ref 397, .int (nI s)] h1 (some (.int 0)) h1 := fun w1 o => by
            have := c152 (L := L) (xs := xs) w1 r4 o hx
            rw [e0] at this
            exact this
          have ew : (if t % 2 = 0 then w else g) * (if t % 2 = 0 then g else w) = w * g := by
            by_cases q : t % 2 = 0
            · rw [if_pos q, if_pos q]
            · rw [if_neg q, if_neg q, Nat.mul_comm]
          have refuse : (∀ h1, Sp L xs 109 [.ref 0, .int (-6)] h (some (.int (-6))) h1 → Sp L xs 95 [.ref 0, .int (nI s), .int (nI c), .int (nI t)] h (some (.int (-6))) h1) → (∀ h1, HW h1 → (∀ a, ¬ a = 1 → gI h1 a = gI h a) → gL h1 = gL h → h1 = hC h 6 → Sp L xs 153 [.ref 397, .int (nI s), .int (nI c), .int (nI t)] h1 (some (.int (-6))) (hM h1 6)) → ∃ (r : Int32) (h1 h2 : Hp) (k2 : Nat), Sp L xs 95 [.ref 0, .int (nI s), .int (nI c), .int (nI t)] h (some (.int r)) h1 ∧ HW h1 ∧ Sp L xs 153 [.ref 397, .int (nI s), .int (nI c), .int (nI t)] h1 (some (.int r)) h2 ∧ Rel h2 k2 := fun f1 f2 => ⟨-6, hC h 6, hM (hC h 6) 6, k, f1 _ (rfC hw rv6), HW_sI hw, f2 _ (HW_sI hw) (fun a ha => hC_o ha) rfl rfl, Rel_ref r⟩
          by_cases hf : onF (nI c) (nI (if t % 2 = 0 then w else g)) (nI (if t % 2 = 0 then g else w)) = true
          · have f0 := hf
            unfold onF at f0
            rw [Bool.and_eq_true, decide_eq_true_iff, decide_eq_true_iff] at f0
            obtain ⟨f1, f2⟩ := f0
            have fit1 : (if t % 2 = 0 then w else g) ≤ 12 - c % 12 := (nI_leI (by split <;> omega) (by omega)).mp (by rw [d1] at f1; exact Int32.not_lt.mp f1)
            have fit2 : (if t % 2 = 0 then g else w) ≤ 12 - c / 12 := (nI_leI (by split <;> omega) (by omega)).mp (by rw [d2] at f2; exact Int32.not_lt.mp f2)
            have hcl : ∀ j, j < w * g → tcl c w g t j < 144 := fun j hj => by
              obtain ⟨b1, b2⟩ := rt_lt (Nat.mod_lt j (show 0 < w by omega)) (Nat.div_lt_of_lt_mul hj) t ht
              unfold tcl
              omega
            have k47 := c47l (L := L) (xs := xs) hw F ht hcl (w * g) 0 (by omega) (fun i hi => absurd hi (Nat.not_lt_zero i))
            obtain ⟨rc, h7, s47, rfl, v, rfl, v1⟩ := v47 (L := L) (xs := xs) (y := nI c) (z := nI t) hw hb k47
            have k135 : ∀ {hh : Hp}, HW hh → (∀ a, ¬ (10 ≤ a ∧ a < 154) → ¬ a = 1 → gI hh a = gI h7 a) → WP L xs 153 135 [some (.ref 397), some (.int (nI s)), some (.int (nI c)), some (.int (nI t)), some (.int 0), some (.int (nI (if t % 2 = 0 then w else g))), some (.int (nI (if t % 2 = 0 then g else w))), some (.int (nI 0)), none] [] hh (fun r h' => ((∀ i, i < w * g → freP h7 s c w g t i) ∧ r = some (.int (nI (pcN h7 s (w * g)))) ∧ RPL hh h' (PPp h7 s c w g t (w * g))) ∨ (¬ (∀ i, i < w * g → freP h7 s c w g t i) ∧ r = some (.int (-6)) ∧ h' = hM hh 6)) := fun {hh} hwh oh => by
              refine c153l F ht hcl hwh (fun a ha => oh a (by omega) (by omega)) (fun q hq => by rw [oh 405 (by decide) (by decide)]; exact (r.2.1.1 q hq).2.2.1.1.symm) ew (RPL_r (fun q hq => ?_)) (w * g) 0 none (by omega) (fun i hi => absurd hi (Nat.not_lt_zero i))
              have mv : MV hh = MV h7 := by
                funext b c j
                unfold MV
                have := AD_no b c j
                rw [oh _ (by omega) (by omega)]
              rw [mv]
              exact (r.2.1.1 q hq).2.2.2.2
            by_cases fr : ∀ i, i < w * g → freP h7 s c w g t i
            · have v0 : ¬ v = 0 := fun q => v1.mp q fr
              have k48 := c48l (L := L) (xs := xs) r1 F ht hcl (w * g) 0 h7 (by omega) (CPL_r hw)
              obtain ⟨rc, hA, s48, rfl, cA⟩ := v48 (L := L) (xs := xs) (y := nI c) (z := nI t) hw hb k48
              have wA := cA.2.1
              have oA : ∀ a, ¬ (10 ≤ a ∧ a < 154) → gI hA a = gI h7 a := fun a ha => (cA.2.2.2.1 a ha).1
              obtain ⟨rm, h2, s2, gg⟩ := m153 (L := L) (xs := xs) wA hs hx hy hz ht (s152 wA (oA 420 (by decide))) (by rw [oA 424 (by decide)]; exact a2) (by rw [oA 425 (by decide)]; exact a4) (fun _ _ => k135 wA (fun a ha _ => oA a ha)) (fun nb => absurd ⟨f1, Int32.not_lt.mp f2⟩ nb)
              rcases gg with ⟨-, rfl, mm⟩ | ⟨nf, -⟩
              · refine ⟨_, hA, h2, k, sp_eq (v95 hw ⟨fun _ => ⟨fun _ => ⟨_, s111, fun _ => ⟨s, rfl, hs, fun _ => ⟨_, s45, _, s46, fun _ => ⟨_, s47, fun q => absurd q v0, fun _ => ⟨hA, s48, by rw [oA _ (by omega), a5], rfl⟩⟩, fun q => absurd hf q⟩, fun q => absurd hz q⟩, fun q => absurd rfl q⟩, fun q => absurd hy q⟩, fun q => absurd hx q⟩), wA, s2, Rel_places r cA mm (fun q qq hq e => ?_)⟩
                obtain ⟨j, hj, nz, rfl⟩ := PPp_some _ e
                exact Or.inr (qP_GP ht (q4 j (by omega) nz ⟨w, g, a2, a4, w2, g2, hj⟩))
              · exact absurd fr nf
            · have v0 : v = 0 := v1.mpr fr
              refine refuse (fun h1 q => sp_eq (v95 hw ⟨fun _ => ⟨fun _ => ⟨_, s111, fun _ => ⟨s, rfl, hs, fun _ => ⟨_, s45, _, s46, fun _ => ⟨_, s47, fun _ => ⟨_, _, q, rfl, rfl⟩, fun q => absurd v0 q⟩, fun q => absurd hf q⟩, fun q => absurd hz q⟩, fun q => absurd rfl q⟩, fun q => absurd hy q⟩, fun q => absurd hx q⟩)) (fun h1 w1 o _ _ => ?_)
              obtain ⟨rm, h2, s2, gg⟩ := m153 (L := L) (xs := xs) w1 hs hx hy hz ht (s152 w1 (o 420 (by decide))) (by rw [o 424 (by decide)]; exact a2) (by rw [o 425 (by decide)]; exact a4) (fun _ _ => k135 w1 (fun a _ ha => o a ha)) (fun nb => absurd ⟨f1, Int32.not_lt.mp f2⟩ nb)
              rcases gg with ⟨ff, -⟩ | ⟨-, rfl, rfl⟩
              · exact absurd ff fr
              · exact s2
          · have nf : ¬ (¬ 12 - (nI c - nI c / 12 * 12) < nI (if t % 2 = 0 then w else g) ∧ nI (if t % 2 = 0 then g else w) ≤ 12 - nI c / 12) := fun q => hf (by unfold onF; rw [decide_eq_true q.1, decide_eq_true (Int32.not_lt.mpr q.2)]; rfl)
            refine refuse (fun h1 q => sp_eq (v95 hw ⟨fun _ => ⟨fun _ => ⟨_, s111, fun _ => ⟨s, rfl, hs, fun _ => ⟨_, s45, _, s46, fun q => absurd q hf, fun _ => ⟨_, _, q, rfl, rfl⟩⟩, fun q => absurd hz q⟩, fun q => absurd rfl q⟩, fun q => absurd hy q⟩, fun q => absurd hx q⟩)) (fun h1 w1 o _ _ => ?_)
            exact sp_eq (m153 (L := L) (xs := xs) w1 hs hx hy hz ht (s152 w1 (o 420 (by decide))) (by rw [o 424 (by decide)]; exact a2) (by rw [o 425 (by decide)]; exact a4) (fun n1 n2 => absurd ⟨n1, n2⟩ nf) (fun _ => ⟨rfl, rfl⟩))
        · obtain ⟨h1, h2, s1, w1, s2, rr, e1, e2⟩ := op_ref (L := L) (xs := xs) r rv6
          have s152 := c152 (L := L) (xs := xs) w1 r4 (by rw [e1]; exact hC_o (by decide)) hx
          rw [e0] at s111 s152
          obtain ⟨s, hs, rfl, -⟩ := pieB_0 r4 e0
          exact ⟨_, h1, h2, k, sp_eq (v95 hw ⟨fun _ => ⟨fun _ => ⟨_, s111, fun _ => ⟨s, rfl, hs, fun q => absurd q hz, fun _ => ⟨_, _, s1, rfl, rfl⟩⟩, fun q => absurd rfl q⟩, fun q => absurd hy q⟩, fun q => absurd hx q⟩), w1, sp_eq (v153 w1 ⟨fun _ => ⟨fun _ => ⟨_, s152, fun _ => ⟨fun q => absurd q hz, fun _ => ⟨_, _, s2, rfl, rfl⟩⟩, fun q => absurd rfl q⟩, fun q => absurd hy q⟩, fun q => absurd hx q⟩), rr⟩
      · have n0 : ¬ pieB h x = 0 := by
          intro q
          rw [q] at rv
          exact absurd rv.2.2 (by decide)
        obtain ⟨h1, h2, s1, w1, s2, rr, e1, e2⟩ := op_ref (L := L) (xs := xs) r rv
        have s152 := c152 (L := L) (xs := xs) w1 r4 (by rw [e1]; exact hC_o (by decide)) hx
        exact ⟨_, h1, h2, k, sp_eq (v95 hw ⟨fun _ => ⟨fun _ => ⟨_, s111, fun q => absurd q n0, fun _ => ⟨_, _, s1, rfl, rfl⟩⟩, fun q => absurd hy q⟩, fun q => absurd hx q⟩), w1, sp_eq (v153 w1 ⟨fun _ => ⟨fun _ => ⟨_, s152, fun q => absurd q n0, fun _ => ⟨_, _, s2, rfl, rfl⟩⟩, fun q => absurd hy q⟩, fun q => absurd hx q⟩), rr⟩
    · obtain ⟨h1, h2, s1, w1, s2, rr, -⟩ := op_ref (L := L) (xs := xs) r rv1
      exact ⟨_, h1, h2, k, sp_eq (v95 hw ⟨fun _ => ⟨fun q => absurd q hy, fun _ => ⟨_, _, s1, rfl, rfl⟩⟩, fun q => absurd hx q⟩), w1, sp_eq (v153 w1 ⟨fun _ => ⟨fun q => absurd q hy, fun _ => ⟨_, _, s2, rfl, rfl⟩⟩, fun q => absurd hx q⟩), rr⟩
  · obtain ⟨h1, h2, s1, w1, s2, rr, -⟩ := op_ref (L := L) (xs := xs) r rv1
    exact ⟨_, h1, h2, k, sp_eq (v95 hw ⟨fun q => absurd q hx, fun _ => ⟨_, _, s1, rfl, rfl⟩⟩), w1, sp_eq (v153 w1 ⟨fun q => absurd q hx, fun _ => ⟨_, _, s2, rfl, rfl⟩⟩), rr⟩
end P2
