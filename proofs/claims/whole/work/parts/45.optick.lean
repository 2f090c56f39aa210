/-! The call tick. -/
theorem MV0 (h : Hp) (c j : Nat) : MV h 0 c j = (match j with
  | 0 => gI h 405 c
  | 1 => gI h 406 c
  | 2 => gI h 407 c
  | 3 => gI h 408 c
  | 5 => gI h 412 c
  | 6 => gI h 413 c
  | 7 => gI h 417 (2 * c)
  | 8 => gI h 417 (2 * c + 1)
  | 9 => gI h 414 c
  | 10 => gI h 415 c
  | 11 => gI h 416 c
  | 12 => gI h 418 c
  | 13 => gI h 419 c
  | 14 => gI h 431 c
  | 15 => gI h 432 c
  | 16 => gI h 433 c
  | _ => gI h 0 0) := by
  unfold MV AD
  split <;> simp
/-- what the counters are apart -/
def offs (x y : Row) : Row := fun j => x j - y j
theorem RE_off {x y : Row} (h0 : x 0 = y 0) (h : ¬ x 0 = 0 → ∀ j, j < 14 → ¬ j = 4 → x j = y j) : RE (offs x y) x y := ⟨h0, fun q => ⟨h q, fun j _ _ => by show x j = y j + (x j - y j); rw [Int32.add_comm, Int32.sub_add_cancel]⟩⟩
section OT
variable {L : Nat} {xs : Nat → Int32} {h : Hp} {k : Nat} {x : Int32}
theorem snk_0 {R T : Nat → Row} (hP : ∀ c, c < 144 → PG R (T c)) : ∀ n, n ≤ 144 → snk R T n 0 = 0
  | 0, _ => rfl
  | n + 1, hn => by
    unfold snk
    cases hv : win R T 144 n with
    | none => exact snk_0 hP n (by omega)
    | some v =>
      obtain ⟨v1, v2⟩ := win_s _ _ _ hv
      have z := (bd_s v1 (hP _ v1) v2).2.2.2.1
      obtain ⟨i, hi, e⟩ := (hP _ v1).2.2.2.2.2
      show (if T n 0 = 7 ∧ (ofd R (T v.1)).toNatClampNeg = 0 then _ else _) = _
      rw [if_neg, snk_0 hP n (by omega)]
      rintro ⟨-, q⟩
      rw [e, nI_c (by omega)] at q
      subst q
      exact z e
theorem itT_G {R T : Nat → Row} (hB : GB k R) (hk : k < 9) (hG : ∀ c, c < 144 → GR k R (T c)) : ∀ n c, c < 144 → GR k R (itT R T n c)
  | 0, c, hc => hG c hc
  | n + 1, c, hc => GR_stp hB hk (itT_G hB hk hG n) hc
theorem snkS_0 {R T : Nat → Row} (hB : GB k R) (hk : k < 9) (hG : ∀ c, c < 144 → GR k R (T c)) : ∀ n, snkS R T n 0 = 0
  | 0 => rfl
  | n + 1 => by
    unfold snkS
    rw [snkS_0 hB hk hG n, snk_0 (R := R) (T := prT R (itT R T n)) (fun c hc => GR_PG hB hk (GR_prp hB hk (itT_G hB hk hG n c hc))) 144 (Nat.le_refl _)]
    decide
theorem op_tick : OPI L xs 97 166 [.ref 0, .int x] [.ref 397, .int x] := by
  intro h k r
  have hw := r.1.1
  have hw6 : ∀ n, HW (hC h n) := fun n => HW_sI hw
  cases hx : x_in3 x 1 200 with
  | false =>
    have nx : ¬ x_in3 x 1 200 = true := by rw [hx]; decide
    exact ⟨_, _, _, k, sp_eq (v97 hw ⟨fun q => absurd q nx, fun _ => ⟨_, _, rfC hw rv6, rfl, rfl⟩⟩), hw6 6, sp_eq (v166 (hw6 6) ⟨fun q => absurd q nx, fun _ => ⟨_, _, rfM (hw6 6) rv6, rfl, rfl⟩⟩), Rel_ref r⟩
  | true =>
    obtain ⟨N, hN1, hN2, rfl⟩ := in3_n (a := 1) (b := 200) (by decide) (by decide) hx
    obtain ⟨r1, r2, r3, r4, r5, r6⟩ := r
    obtain ⟨t, ht, et, et'⟩ := r2.2.1
    by_cases hc : t + N ≤ 20000
    · have cC : gI h 4 3 + nI N ≤ 20000 := by
        rw [et, nI_add]
        exact nI_le hc (by decide)
      obtain ⟨-, hk, hn, b4, b5, b6, b7, b8, b9⟩ := r1
      have hG : ∀ c, c < 144 → GR k (RC h) (gI h (10 + c)) := fun c hc => (r2.1 c hc).2.1
      obtain ⟨rv, h1, s1, rfl, i1, x1, row1, sk1, tk1⟩ := v97 (L := L) (xs := xs) hw ⟨fun _ => ⟨fun _ => c97l (N := N) (k := k) (R := RC h) (T := fun c => gI h (10 + c)) (by omega) h hw rfl b8 hk hG N 0 h (by omega) (IE_r h) (SX_r h _) (fun c hc => ⟨rfl, (r2.1 c hc).1, hG c hc⟩) (fun i hi => by show _ = _ + 0; rw [Int32.add_zero]) (by show _ = _ + 0; rw [Int32.add_zero]), fun q => absurd cC q⟩, fun q => absurd hx q⟩
      have hw1 := IE_w i1 hw
      have o1 : ∀ a, ¬ a = 4 → ¬ (6 ≤ a ∧ a < 154) → gI h1 a = gI h a := fun a h1 h2 => x1 a (by unfold tch; omega)
      have mvh1 : MV h1 = MV h := MV_of x1 (fun a q => by unfold tch at q; omega)
      have mrh1 : MRc h1 = MRc h := MRc_of x1 (fun a q => by unfold tch at q; omega)
      obtain ⟨h5, m1, m2, m3, m4, m5, m6, m7⟩ := c165 (L := L) (xs := xs) hw1
      have hw5 := IE_w m2 hw1
      have o5 : ∀ a, ¬ (431 ≤ a ∧ a ≤ 433) → ¬ a = 397 → ¬ a = 4 → ¬ (6 ≤ a ∧ a < 154) → gI h5 a = gI h a := fun a h1 h2 h3 h4 => (m3 a h1 h2).trans (o1 a h3 h4)
      have mv5 : ∀ c j, j < 14 → ¬ j = 4 → MV h5 0 c j = MV h 0 c j := fun c j hj h4 => MV0_of (fun a ha => o5 a (by omega) (by omega) (by omega) (by omega)) 0 c hj h4
      have mr5 : MRc h5 = MRc h := by
        funext r j
        unfold MRc
        have := ARc_no r j
        rcases this with q | q
        · rw [o5 _ (by omega) (by omega) (by omega) (by omega)]
        · rw [q, o5 0 (by decide) (by decide) (by decide) (by decide)]
      have p0 : PI k (RC h) (fun c => offs (gI h (10 + c)) (MV h5 0 c)) (fun c => gI h (10 + c)) h5 0 := by
        intro c hc
        obtain ⟨-, g, ce, -, sr⟩ := r2.1 c hc
        refine ⟨g, RE_off ?_ (fun q j hj h4 => ?_), ?_⟩
        · rw [mv5 c 0 (by decide) (by decide)]; exact ce.1
        · rw [mv5 c j hj h4]; exact ce.2 q j hj h4
        · unfold SR
          rw [mv5 c 0 (by decide) (by decide), mv5 c 5 (by decide) (by decide), mv5 c 12 (by decide) (by decide), mv5 c 13 (by decide) (by decide), mv5 c 11 (by decide) (by decide)]
          exact sr
      have cM : gI h1 397 14 + nI N ≤ 20000 := by
        rw [o1 397 (by decide) (by decide), et', nI_add]
        exact nI_le hc (by decide)
      have key : WP L xs 166 43 [some (.ref 397), some (.int (nI N)), some (.int (nI 0))] [] h5 (fun rr h2 => ∃ h6, (rr = some (.int (gI h6 397 35)) ∧ IE h6 h2 ∧ (∀ a, ¬ a = 409 → ¬ a = 410 → gI h2 a = gI h6 a) ∧ (∀ c, c < 144 → gI h2 409 c = gI h6 409 c + gI h6 431 c ∧ gI h2 410 c = gI h6 410 c + gI h6 432 c)) ∧ ∃ h7, h6 = sI h7 397 14 (gI h7 397 14 + nI N) ∧ IE h5 h7 ∧ SX h5 h7 mtc ∧ PI k (RC h) (fun c => offs (gI h (10 + c)) (MV h5 0 c)) (itT (RC h) (fun c => gI h (10 + c)) N) h7 0 ∧ (∀ i, i < 21 → gI h7 411 i = gI h5 411 i + snkS (RC h) (fun c => gI h (10 + c)) N i) ∧ gI h7 397 35 = gI h5 397 35 + camS (RC h) (fun c => gI h (10 + c)) N ∧ (∀ j, ¬ j = 35 → ¬ j = 36 → gI h7 397 j = gI h5 397 j)) := by
        refine c166l (N := N) (k := k) (R := RC h) (T := fun c => gI h (10 + c)) (o := fun c => offs (gI h (10 + c)) (MV h5 0 c)) (by omega) h5 hw5 (by rw [mr5]; exact b7) b8 hk (fun h7 i7 s7 p7 k7 c7 l7 => ?_) N 0 h5 (by omega) (IE_r _) (SX_r _ _) p0 (fun i hi => by show _ = _ + 0; rw [Int32.add_zero]) (by show _ = _ + 0; rw [Int32.add_zero]) (fun _ _ _ => rfl)
        refine wp_imp (c166e (sI h7 397 14 ((gI h7 397 14) + nI N)) (HW_sI (IE_w i7 hw5)) 144 0 _ _ rfl rfl (IE_r _) (fun _ _ _ => rfl) (fun c hc => ⟨by rw [if_neg (Nat.not_lt_zero _)], by rw [if_neg (Nat.not_lt_zero _)]⟩)) ?_
        intro rr h2 q
        exact ⟨_, q, h7, rfl, i7, s7, p7, k7, c7, l7⟩
      obtain ⟨rm, h2, s2, h6, ⟨e2, i2, o2, n2⟩, h7, e6, i7, s7, p7, k7, c7, l7⟩ := v166 (L := L) (xs := xs) hw1 ⟨fun _ => ⟨fun _ => ⟨h5, m1, key⟩, fun q => absurd cM q⟩, fun q => absurd hx q⟩
      have e35 : gI h6 397 35 = camS (RC h) (fun c => gI h (10 + c)) N := by
        rw [e6, gIs, up_o (by decide), c7, m5, Int32.zero_add]
      refine ⟨_, h1, h2, k, s1, hw1, ?_, ?_⟩
      · rw [e2, e35] at s2
        exact s2
      · -- the relation again
        have i12 : IE h1 h2 := by
          refine IE_t m2 (IE_t i7 ?_)
          rw [e6] at i2
          exact IE_t (IE_s (IE_r h7)) i2
        have o67 : ∀ a, ¬ a = 397 → gI h6 a = gI h7 a := fun a ha => by rw [e6, gIo ha]
        have all : ∀ a, ¬ a = 409 → ¬ a = 410 → ¬ a = 397 → ¬ mtc a → gI h2 a = gI h1 a := by
          intro a q1 q2 q3 q4
          rw [o2 a q1 q2, o67 a q3, s7 a q4]
          exact m3 a (by unfold mtc at q4; omega) q3
        have i02 : IE h h2 := IE_t i1 i12
        have oo : ∀ a, ¬ a = 4 → ¬ (6 ≤ a ∧ a < 154) → ¬ a = 409 → ¬ a = 410 → ¬ a = 397 → ¬ mtc a → gI h2 a = gI h a := fun a q1 q2 q3 q4 q5 q6 => (all a q3 q4 q5 q6).trans (o1 a q1 q2)
        have f397 : ∀ j, ¬ j = 35 → ¬ j = 36 → ¬ j = 14 → gI h2 397 j = gI h 397 j := by
          intro j q1 q2 q3
          rw [o2 397 (by decide) (by decide), e6, gIs, up_o q3, l7 j q1 q2, m7 j q1 q2, o1 397 (by decide) (by decide)]
        have eRC : RC h2 = RC h := by
          funext r
          show gI h2 (444 + r) = gI h (444 + r)
          exact oo _ (by omega) (by omega) (by omega) (by omega) (by omega) (by unfold mtc; omega)
        refine ⟨RLb_of (h := h) (IE_w i02 hw) i02.1 (fun a ha => oo a (by omega) (by omega) (by omega) (by omega) (by omega) (by unfold mtc; omega)) (f397 1 (by decide) (by decide) (by decide)) (fun r => by rw [i02.2.2]) ⟨hw, hk, hn, b4, b5, b6, b7, b8, b9⟩, ?_, RLr_of (h := h) (fun a ha => oo a (by omega) (by omega) (by omega) (by omega) (by omega) (by unfold mtc; omega)) r3, RLs_of (h := h) (fun a ha => oo a (by unfold inS at ha; omega) (by unfold inS at ha; omega) (by unfold inS at ha; omega) (by unfold inS at ha; omega) (by unfold inS at ha; omega) (by unfold inS at ha; unfold mtc; omega)) (fun a _ => by rw [i02.2.1]) r4, RLt_of (h := h) (fun a ha => oo a (by omega) (by omega) (by omega) (by omega) (by omega) (by unfold mtc; omega)) (f397 40 (by decide) (by decide) (by decide)) r5, RLp_of (h := h) (oo 394 (by decide) (by decide) (by decide) (by decide) (by decide) (by unfold mtc; decide)) (oo 441 (by decide) (by decide) (by decide) (by decide) (by decide) (by unfold mtc; decide)) (fun a ha => by rw [i02.2.1]) r6⟩
        have mv2 : ∀ c, MV h2 0 c = MV h7 0 c := by
          intro c
          funext j
          show gI h2 _ _ = gI h7 _ _
          have := AD_no 0 c j
          have q : ∀ c j, ¬ (AD 0 c j).1 = 409 ∧ ¬ (AD 0 c j).1 = 410 := by
            intro c j
            unfold AD
            split <;> simp
          rw [o2 _ (q c j).1 (q c j).2, o67 _ (by omega)]
        have row2 : ∀ c, c < 144 → gI h2 (10 + c) = itT (RC h) (fun c => gI h (10 + c)) N c := by
          intro c hc
          rw [all _ (by omega) (by omega) (by omega) (by unfold mtc; omega)]
          exact (row1 c hc).1
        refine ⟨fun c hc => ?_, ⟨t + N, by omega, ?_, ?_⟩, fun i hi => ?_, ?_⟩
        · obtain ⟨g, re, sr⟩ := p7 c hc
          refine ⟨LR_of i12 (all _ (by omega) (by omega) (by omega) (by unfold mtc; omega)) (row1 c hc).2.1, by rw [eRC, row2 c hc]; exact g, ⟨?_, fun q j hj h4 => ?_⟩, fun q => ?_, by rw [mv2]; exact sr⟩
          · rw [row2 c hc]
            have := congrFun (mv2 c) 0
            have e : gI h2 405 c = MV h2 0 c 0 := rfl
            rw [e, this]
            exact re.1
          · rw [row2 c hc] at q ⊢
            rw [mv2]
            exact (re.2 q).1 j hj h4
          · rw [row2 c hc] at q ⊢
            have z : ¬ gI h (10 + c) 0 = 0 := by
              intro z
              apply q
              have e0 : ∀ n, itT (RC h) (fun c => gI h (10 + c)) n c 0 = gI h (10 + c) 0 := by
                intro n
                induction n with
                | zero => rfl
                | succ n ih =>
                  rw [← ih]
                  show mv _ _ _ _ _ 0 = _
                  rw [(mv_0 _ _ _).1]
                  exact (prp_0 _ _).1
              rw [e0 N]
              exact z
            obtain ⟨a9, a10⟩ := (r2.1 c hc).2.2.2.1 z
            have r14 := (re.2 q).2 14 (by decide) (by decide)
            have r15 := (re.2 q).2 15 (by decide) (by decide)
            have z5 := m4 c hc
            have m14 : MV h5 0 c 14 = 0 := z5.1
            have m15 : MV h5 0 c 15 = 0 := z5.2.1
            have g9 : gI h6 409 c = gI h 409 c := by
              rw [o67 409 (by decide), s7 409 (by unfold mtc; decide), o5 409 (by decide) (by decide) (by decide) (by decide)]
            have g10 : gI h6 410 c = gI h 410 c := by
              rw [o67 410 (by decide), s7 410 (by unfold mtc; decide), o5 410 (by decide) (by decide) (by decide) (by decide)]
            have v14 : gI h6 431 c = MV h7 0 c 14 := by rw [o67 431 (by decide)]; rfl
            have v15 : gI h6 432 c = MV h7 0 c 15 := by rw [o67 432 (by decide)]; rfl
            rw [(n2 c hc).1, (n2 c hc).2, g9, g10, v14, v15, r14, r15]
            show MV h7 0 c 14 + (gI h (10 + c) 14 - MV h5 0 c 14) = _ ∧ MV h7 0 c 15 + (gI h (10 + c) 15 - MV h5 0 c 15) = _
            rw [m14, m15, a9, a10, Int32.sub_zero, Int32.sub_zero]
            exact ⟨Int32.add_comm _ _, Int32.add_comm _ _⟩
        · rw [all 4 (by decide) (by decide) (by decide) (by unfold mtc; decide), tk1, et, nI_add]
        · rw [o2 397 (by decide) (by decide), e6, gIs, up_s, l7 14 (by decide) (by decide), m7 14 (by decide) (by decide), o1 397 (by decide) (by decide), et', nI_add]
        · rw [all 6 (by decide) (by decide) (by decide) (by unfold mtc; decide), o2 411 (by decide) (by decide), o67 411 (by decide), k7 i hi, o5 411 (by decide) (by decide) (by decide) (by decide), sk1 i hi, r2.2.2.1 i hi]
        · rw [o2 411 (by decide) (by decide), o67 411 (by decide), k7 0 (by decide), o5 411 (by decide) (by decide) (by decide) (by decide), r2.2.2.2, snkS_0 b8 hk hG]
          decide
    · have cC : ¬ gI h 4 3 + nI N ≤ 20000 := by
        rw [et, nI_add]
        exact nI_ge (a := 20000) (by omega) (by omega)
      have cM : ¬ gI (hC h 7) 397 14 + nI N ≤ 20000 := by
        rw [hC_o (by decide), et', nI_add]
        exact nI_ge (a := 20000) (by omega) (by omega)
      exact ⟨_, _, _, k, sp_eq (v97 hw ⟨fun _ => ⟨fun q => absurd q cC, fun _ => ⟨_, _, rfC hw rv7, rfl, rfl⟩⟩, fun q => absurd hx q⟩), hw6 7, sp_eq (v166 (hw6 7) ⟨fun _ => ⟨fun q => absurd q cM, fun _ => ⟨_, _, rfM (hw6 7) rv7, rfl, rfl⟩⟩, fun q => absurd hx q⟩), Rel_ref ⟨r1, r2, r3, r4, r5, r6⟩⟩
end OT
