/-! The reference's step. -/
theorem up_comm {x : Row} {k k' : Nat} {v v' : Int32} (h : ¬ k = k') : up (up x k v) k' v' = up (up x k' v') k v := by
  funext j
  simp only [up_a]
  by_cases h1 : j = k
  · subst h1
    rw [if_pos rfl, if_neg h, if_pos rfl]
  · rw [if_neg h1, if_neg h1]
theorem up_up {x : Row} {k : Nat} {v v' : Int32} : up (up x k v) k v' = up x k v' := by
  funext j
  simp only [up_a]
  by_cases h1 : j = k
  · rw [if_pos h1, if_pos h1]
  · rw [if_neg h1, if_neg h1, if_neg h1]
theorem up_id (x : Row) (k : Nat) : up x k (x k) = x := by
  funext j
  rw [up_a]
  by_cases h1 : j = k
  · rw [if_pos h1, h1]
  · rw [if_neg h1]
def anw (R T : Nat → Row) : Nat → Bool
  | 0 => false
  | n + 1 => anw R T n || (win R T 144 n).isSome
/-- the other banks stay -/
def OB (h h' : Hp) (b : Nat) : Prop := ∀ b' c j, ¬ b' = b → c < 144 → j ≤ 13 → MV h' b' c j = MV h b' c j
theorem OB_t {a h h' : Hp} {b : Nat} (h1 : OB a h b) (h2 : OB h h' b) : OB a h' b := fun b' c j hb hc hj => (h2 b' c j hb hc hj).trans (h1 b' c j hb hc hj)
theorem OB_e {h h' : Hp} {b : Nat} (e : MV h' = MV h) : OB h h' b := fun b' c j _ _ _ => by rw [e]
theorem MV_sI {h : Hp} {a k : Nat} {v : Int32} (ha : ¬ (405 ≤ a ∧ a ≤ 419) ∧ ¬ (431 ≤ a ∧ a ≤ 433) ∧ ¬ a = 0) : MV (sI h a k v) = MV h := by
  funext b c j
  unfold MV
  have := AD_no b c j
  rw [gIo (by omega)]
theorem MRc_sI {h : Hp} {a k : Nat} {v : Int32} (ha : ¬ (399 ≤ a ∧ a ≤ 404) ∧ ¬ a = 0) : MRc (sI h a k v) = MRc h := by
  funext r j
  unfold MRc
  have := ARc_no r j
  rw [gIo (by omega)]
theorem mtc_R {h h' : Hp} (s : SX h h' mtc) : MRc h' = MRc h := MRc_of s (fun a q => by unfold mtc at q; omega)
section MS
variable {L : Nat} {xs : Nat → Int32} {h : Hp} {b c t s g n : Nat} {R T : Nat → Row} {i : Int32}
theorem c163 (hw : HW h) (hb : b < 3) (hg : g < 144) : ∃ h', RS h h' b g (giv (MV h b g) (nI s)) ∧ Sp L xs 163 [.ref 397, .int (nI b), .int (nI g), .int (nI s)] h none (sI h' 397 36 1) := by
  have k0 : gI h 405 g = MV h b g 0 := rfl
  by_cases k6 : MV h b g 0 = 6
  · have n4 : ¬ MV h b g 0 = 4 := by rw [k6]; decide
    refine ⟨sI (sI (sI h 414 (144 * b + g) ((gI h 414 (144 * b + g)) - 1)) 419 (144 * b + g) (gI h 419 (144 * b + g))) 432 g ((gI h 432 g) + 1), ?_, sp_eq (v163 hw ⟨g, rfl, hg, fun _ => ⟨_, ix1 b g, by omega, fun q => absurd q n4, fun _ => ⟨rfl, rfl⟩⟩, fun q => absurd k6 q⟩)⟩
    have e : giv (MV h b g) (nI s) = up (up (up (MV h b g) 9 (MV h b g 9 - 1)) 13 (MV h b g 13)) 15 (MV h b g 15 + 1) := by
      rw [giv, if_neg n4, if_pos k6, up_comm (k := 9) (k' := 13) (by decide), up_id]
    rw [e]
    exact RS_s (RS_s (RS_s (RS_r h b g) hg 9 (by decide) (by decide) _) hg 13 (by decide) (by decide) _) hg 15 (by decide) (by decide) _
  · by_cases k4 : MV h b g 0 = 4
    · refine ⟨sI (sI (sI h 412 (144 * b + g) 0) 419 (144 * b + g) (nI s)) 432 g ((gI h 432 g) + 1), ?_, sp_eq (v163 hw ⟨g, rfl, hg, fun q => absurd q k6, fun _ => ⟨_, ix1 b g, by omega, fun _ => ⟨rfl, rfl⟩, fun q => absurd k4 q⟩⟩)⟩
      have e : giv (MV h b g) (nI s) = up (up (up (MV h b g) 5 0) 13 (nI s)) 15 (MV h b g 15 + 1) := by rw [giv, if_pos k4, if_neg k6]
      rw [e]
      exact RS_s (RS_s (RS_s (RS_r h b g) hg 5 (by decide) (by decide) _) hg 13 (by decide) (by decide) _) hg 15 (by decide) (by decide) _
    · refine ⟨sI (sI (sI h 412 (144 * b + g) 0) 419 (144 * b + g) (gI h 419 (144 * b + g))) 432 g ((gI h 432 g) + 1), ?_, sp_eq (v163 hw ⟨g, rfl, hg, fun q => absurd q k6, fun _ => ⟨_, ix1 b g, by omega, fun q => absurd q k4, fun _ => ⟨rfl, rfl⟩⟩⟩)⟩
      have e : giv (MV h b g) (nI s) = up (up (up (MV h b g) 5 0) 13 (MV h b g 13)) 15 (MV h b g 15 + 1) := by rw [giv, if_neg k4, if_neg k6, up_comm (k := 5) (k' := 13) (by decide), up_id]
      rw [e]
      exact RS_s (RS_s (RS_s (RS_r h b g) hg 5 (by decide) (by decide) _) hg 13 (by decide) (by decide) _) hg 15 (by decide) (by decide) _
theorem c164 (hw : HW h) (hb : b < 3) (ht : t < 144) (hR : MRc h = R) (h6 : MV h b t 0 = 6 → ∃ a, a < 8 ∧ MV h b t 2 = nI a) {ii : Nat} (hi : ii < 21) : ∃ h', RS h h' b t (rcv R (MV h b t) (nI ii) (gI h 429 t)) ∧ Sp L xs 164 [.ref 397, .int (nI b), .int (nI t), .int (nI ii)] h none (if MV h b t 0 = 7 then sI (sI h' 397 35 (gI h 397 35 + 1)) 411 ii (gI h 411 ii + (if b = 0 then 1 else 0)) else h') := by
  have eb : (b2i (if nI b = 0 then true else false)) = (if b = 0 then 1 else 0) := by
    rcases (show b = 0 ∨ b = 1 ∨ b = 2 by omega) with rfl | rfl | rfl <;> decide
  by_cases k7 : MV h b t 0 = 7
  · refine ⟨sI (sI h 418 (144 * b + t) (gI h 429 t)) 431 t ((gI h 431 t) + 1), ?_, sp_eq (v164 hw ⟨t, rfl, ht, _, ix1 b t, by omega, fun _ => ⟨ii, rfl, hi, rfl, ?_⟩, fun q => absurd k7 q⟩)⟩
    · have e : rcv R (MV h b t) (nI ii) (gI h 429 t) = up (up (MV h b t) 12 (gI h 429 t)) 14 (MV h b t 14 + 1) := by rw [rcv, if_neg (by rw [k7]; decide), if_pos k7]
      rw [e]
      exact RS_s (RS_s (RS_r h b t) ht 12 (by decide) (by decide) _) ht 14 (by decide) (by decide) _
    · rw [if_pos k7, eb]
  · by_cases k6 : MV h b t 0 = 6
    · obtain ⟨a, ha, ea⟩ := h6 k6
      have ea : gI h 407 t = nI a := ea
      have r4 : gI h 402 (2 * a) = rc R (MV h b t) 4 := by
        unfold rc
        rw [show MV h b t 2 = nI a from ea, nI_c (by omega)]
        exact congrFun (congrFun hR a) 4
      by_cases q4 : nI ii = rc R (MV h b t) 4
      · refine ⟨sI (sI (sI h 418 (144 * b + t) (gI h 429 t)) 431 t ((gI h 431 t) + 1)) 417 (2 * (144 * b + t)) (gI h 417 (2 * (144 * b + t)) + 1), ?_, sp_eq (v164 hw ⟨t, rfl, ht, _, ix1 b t, by omega, fun q => absurd q k7, fun _ => ⟨fun _ => ⟨2 * a, by rw [ea, ix4], by omega, 2 * (144 * b + t), ?_, by omega, rfl, ?_⟩, fun q => absurd k6 q⟩⟩)⟩
        · have e : rcv R (MV h b t) (nI ii) (gI h 429 t) = up (up (up (MV h b t) 12 (gI h 429 t)) 14 (MV h b t 14 + 1)) 7 (MV h b t 7 + 1) := by
            rw [rcv, if_pos k6, if_pos q4, up_comm (k := 7) (k' := 12) (by decide), up_comm (k := 7) (k' := 14) (by decide)]
          rw [e]
          exact RS_s (RS_s (RS_s (RS_r h b t) ht 12 (by decide) (by decide) _) ht 14 (by decide) (by decide) _) ht 7 (by decide) (by decide) _
        · rw [if_pos (by rw [r4]; exact q4.symm), ix2]
        · rw [if_neg k7]
      · refine ⟨sI (sI (sI h 418 (144 * b + t) (gI h 429 t)) 431 t ((gI h 431 t) + 1)) 417 (2 * (144 * b + t) + 1) (gI h 417 (2 * (144 * b + t) + 1) + 1), ?_, sp_eq (v164 hw ⟨t, rfl, ht, _, ix1 b t, by omega, fun q => absurd q k7, fun _ => ⟨fun _ => ⟨2 * a, by rw [ea, ix4], by omega, 2 * (144 * b + t) + 1, ?_, by omega, rfl, ?_⟩, fun q => absurd k6 q⟩⟩)⟩
        · have e : rcv R (MV h b t) (nI ii) (gI h 429 t) = up (up (up (MV h b t) 12 (gI h 429 t)) 14 (MV h b t 14 + 1)) 8 (MV h b t 8 + 1) := by
            rw [rcv, if_pos k6, if_neg q4, up_comm (k := 8) (k' := 12) (by decide), up_comm (k := 8) (k' := 14) (by decide)]
          rw [e]
          exact RS_s (RS_s (RS_s (RS_r h b t) ht 12 (by decide) (by decide) _) ht 14 (by decide) (by decide) _) ht 8 (by decide) (by decide) _
        · rw [if_neg (by rw [r4]; exact fun z => q4 z.symm), ix3]
        · rw [if_neg k7]
    · refine ⟨sI (sI (sI h 418 (144 * b + t) (gI h 429 t)) 431 t ((gI h 431 t) + 1)) 412 (144 * b + t) (nI ii), ?_, sp_eq (v164 hw ⟨t, rfl, ht, _, ix1 b t, by omega, fun q => absurd q k7, fun _ => ⟨fun q => absurd q k6, fun _ => ⟨rfl, by rw [if_neg k7]⟩⟩⟩)⟩
      have e : rcv R (MV h b t) (nI ii) (gI h 429 t) = up (up (up (MV h b t) 12 (gI h 429 t)) 14 (MV h b t 14 + 1)) 5 (nI ii) := by
        rw [rcv, if_neg k6, if_neg k7, up_comm (k := 5) (k' := 12) (by decide), up_comm (k := 5) (k' := 14) (by decide)]
      rw [e]
      exact RS_s (RS_s (RS_s (RS_r h b t) ht 12 (by decide) (by decide) _) ht 14 (by decide) (by decide) _) ht 5 (by decide) (by decide) _
/-- what a step leaves of all -/
def SMr (h0 h' : Hp) (b : Nat) (R T : Nat → Row) : Prop := IE h0 h' ∧ SX h0 h' mtc ∧ OB h0 h' b ∧ (∀ c, c < 144 → MV h' b c = mv R T 144 144 c) ∧ (∀ i, i < 21 → gI h' 411 i = gI h0 411 i + (if b = 0 then snk R T 144 i else 0)) ∧ gI h' 397 35 = gI h0 397 35 + cam R T 144 ∧ gI h' 397 36 = (if anw R T 144 = true then 1 else gI h0 397 36) ∧ (∀ k, ¬ k = 35 → ¬ k = 36 → gI h' 397 k = gI h0 397 k)
/-- loop 5 -/
theorem c162e (hb : b < 3) (h0 : Hp) (hP : ∀ c, c < 144 → PG R (T c) ∧ (T c 0 = 6 → ∃ a, a < 8 ∧ T c 2 = nI a)) : ∀ (m n : Nat) (h : Hp) (z3 z4 z5 z6 : Option Value), n + m = 144 → HW h → MRc h = R → WM h (win R T 144) → (∀ t, t < 144 → ∀ v, win R T 144 t = some v → gI h 430 t = ofd R (T v.1)) → IE h0 h → SX h0 h mtc → OB h0 h b → (∀ c, c < 144 → MV h b c = mv R T 144 n c) → (∀ i, i < 21 → gI h 411 i = gI h0 411 i + (if b = 0 then snk R T n i else 0)) → gI h 397 35 = gI h0 397 35 + cam R T n → gI h 397 36 = (if anw R T 144 = true then 1 else gI h0 397 36) → (∀ k, ¬ k = 35 → ¬ k = 36 → gI h 397 k = gI h0 397 k) → WP L xs 162 373 [some (.ref 397), some (.int (nI b)), some (.int (nI n)), z3, z4, z5, z6] [] h (fun r h' => r = none ∧ SMr h0 h' b R T)
  | 0, n, h, z3, z4, z5, z6, hn, hw, hR, W, M, i0, s0, o0, hr, hs, hc5, hc6, hk => by
    obtain rfl : n = 144 := by omega
    exact v162_373 hw ⟨fun _ => ⟨rfl, i0, s0, o0, hr, hs, hc5, hc6, hk⟩, fun q => absurd (nI_le (Nat.le_refl _) (by decide)) q⟩
  | m + 1, n, h, z3, z4, z5, z6, hn, hw, hR, W, M, i0, s0, o0, hr, hs, hc5, hc6, hk => by
    have hn4 : n < 144 := by omega
    refine v162_373 hw ⟨fun q => absurd q (nI_ge hn4 (by decide)), fun _ => ⟨n, rfl, hn4, ?_⟩⟩
    have hW := W n hn4
    cases hv : win R T 144 n with
    | none =>
      rw [hv] at hW
      refine ⟨fun _ => ?_, fun q => absurd hW q⟩
      have ec : cam R T (n + 1) = cam R T n := by
        show (match win R T 144 n with
          | none => cam R T n
          | some _ => cam R T n + (if T n 0 = 7 then 1 else 0)) = _
        rw [hv]
      have es : ∀ i, snk R T (n + 1) i = snk R T n i := by
        intro i
        show (match win R T 144 n with
          | none => snk R T n i
          | some w => if T n 0 = 7 ∧ (ofd R (T w.1)).toNatClampNeg = i then snk R T n i + 1 else snk R T n i) = _
        rw [hv]
      have em : ∀ c, mv R T 144 (n + 1) c = mv R T 144 n c := by
        intro c
        unfold mv
        by_cases e : c = n
        · subst e
          rw [if_pos (Nat.lt_succ_self _), if_neg (Nat.lt_irrefl _), hv]
        · have e2 : (c < n + 1) = (c < n) := propext (by omega)
          simp only [e2]
      rw [nI_1]
      exact c162e hb h0 hP m (n + 1) h z3 z4 z5 z6 (by omega) hw hR W M i0 s0 o0 (fun c hc => by rw [em]; exact hr c hc) (fun i hi => by rw [es]; exact hs i hi) (by rw [ec]; exact hc5) hc6 hk
    | some v =>
      rw [hv] at hW
      refine ⟨fun q => absurd (hW.1.symm.trans q) (nI_m1 (by have := hW.2.2.2.1; omega)), fun _ => ?_⟩
      obtain ⟨v1, v2⟩ := win_s _ _ _ hv
      obtain ⟨ii, hii, eii⟩ := (hP _ v1).1.2.2.2.2.2
      have e0 : MV h b n = mvG R T 144 n := by
        rw [hr n hn4]
        unfold mv
        rw [if_neg (Nat.lt_irrefl _)]
      have k0 : MV h b n 0 = T n 0 := by rw [e0, (mvG_0 _ _).1]
      have k2 : MV h b n 2 = T n 2 := by rw [e0, (mvG_0 _ _).2.1]
      obtain ⟨h1, r1, s1⟩ := c164 (L := L) (xs := xs) hw hb hn4 hR (by rw [k0, k2]; exact (hP n hn4).2) hii
      rw [M n hn4 v hv, eii]
      refine ⟨_, s1, ?_⟩
      have ec : cam R T (n + 1) = cam R T n + (if T n 0 = 7 then 1 else 0) := by
        show (match win R T 144 n with
          | none => cam R T n
          | some _ => cam R T n + (if T n 0 = 7 then 1 else 0)) = _
        rw [hv]
      have es : ∀ i, snk R T (n + 1) i = if T n 0 = 7 ∧ ii = i then snk R T n i + 1 else snk R T n i := by
        intro i
        show (match win R T 144 n with
          | none => snk R T n i
          | some w => if T n 0 = 7 ∧ (ofd R (T w.1)).toNatClampNeg = i then snk R T n i + 1 else snk R T n i) = _
        rw [hv]
        show (if T n 0 = 7 ∧ (ofd R (T v.1)).toNatClampNeg = i then _ else _) = _
        rw [eii, nI_c (by omega)]
      obtain ⟨q1, q2, q3, q4, q5, q6, q7, q8⟩ := r1
      have em : ∀ c, c < 144 → MV h1 b c = mv R T 144 (n + 1) c := by
        intro c hc
        by_cases e : c = n
        · subst e
          rw [q6, hW.2.1, e0, ← eii]
          unfold mv
          rw [if_pos (Nat.lt_succ_self _), hv]
        · rw [q7 c hc e, hr c hc]
          unfold mv
          have e2 : (c < n + 1) = (c < n) := propext (by omega)
          simp only [e2]
      have hW1 : WM h1 (win R T 144) := by
        intro t ht
        have := W t ht
        rw [q5 427 (by decide) (by decide), q5 428 (by decide) (by decide), q5 429 (by decide) (by decide)]
        exact this
      have hM1 : ∀ t, t < 144 → ∀ v, win R T 144 t = some v → gI h1 430 t = ofd R (T v.1) := by
        intro t ht v hv
        rw [q5 430 (by decide) (by decide)]
        exact M t ht v hv
      rw [k0, nI_1]
      by_cases k7 : T n 0 = 7
      · rw [if_pos k7]
        refine c162e hb h0 hP m (n + 1) _ z3 z4 z5 z6 (by omega) (HW_sI (HW_sI (IE_w q1 hw))) ?_ ?_ ?_ (IE_s (IE_s (IE_t i0 q1))) ?_ ?_ ?_ ?_ ?_ ?_ ?_
        · rw [MRc_sI (by omega), MRc_sI (by omega), mtc_R q2, hR]
        · intro t ht
          have := hW1 t ht
          rw [gIo (show 427 ≠ 411 by decide), gIo (show 427 ≠ 397 by decide), gIo (show 428 ≠ 411 by decide), gIo (show 428 ≠ 397 by decide), gIo (show 429 ≠ 411 by decide), gIo (show 429 ≠ 397 by decide)]
          exact this
        · intro t ht v hv
          rw [gIo (show 430 ≠ 411 by decide), gIo (show 430 ≠ 397 by decide)]
          exact hM1 t ht v hv
        · intro a ha
          rw [gIo (by unfold mtc at ha; omega), gIo (by unfold mtc at ha; omega), q2 a ha, s0 a ha]
        · refine OB_t o0 (OB_t q8 ?_)
          intro b' c j hb' hc hj
          have e411 : MV (sI (sI h1 397 35 (gI h 397 35 + 1)) 411 ii (gI h 411 ii + (if b = 0 then 1 else 0))) b' c j = MV (sI h1 397 35 (gI h 397 35 + 1)) b' c j := by
            show gI _ _ _ = gI _ _ _
            have : ¬ (AD b' c j).1 = 411 := by
              unfold AD
              split <;> simp
            rw [gIo this]
          rw [e411, MV_sI (by omega)]
        · intro c hc
          rw [← em c hc]
          funext j
          show gI _ _ _ = gI _ _ _
          have : ¬ (AD b c j).1 = 411 := by
            unfold AD
            split <;> simp
          have h2 := AD_no b c j
          rw [gIo this, gIo (by omega)]
        · intro i hi
          rw [gIs, up_a]
          by_cases e : i = ii
          · subst e
            have es1 : snk R T (n + 1) i = snk R T n i + 1 := by rw [es]; exact if_pos ⟨k7, rfl⟩
            rw [if_pos rfl, es1, hs i hi]
            by_cases b0 : b = 0
            · simp only [if_pos b0, Int32.add_assoc]
            · simp only [if_neg b0, Int32.add_zero]
          · have es1 : snk R T (n + 1) i = snk R T n i := by rw [es]; exact if_neg (fun z => e z.2.symm)
            rw [if_neg e, es1, gIo (show 411 ≠ 397 by decide), q4]
            exact hs i hi
        · rw [gIo (show 397 ≠ 411 by decide), gIs, up_s, hc5, ec, if_pos k7, Int32.add_assoc]
        · rw [gIo (show 397 ≠ 411 by decide), gIs, up_o (by decide), q3]
          exact hc6
        · intro k k5 k6
          rw [gIo (show 397 ≠ 411 by decide), gIs, up_o k5, q3]
          exact hk k k5 k6
      · rw [if_neg k7]
        refine c162e hb h0 hP m (n + 1) h1 z3 z4 z5 z6 (by omega) (IE_w q1 hw) ((mtc_R q2).trans hR) hW1 hM1 (IE_t i0 q1) (SX_t s0 q2) (OB_t o0 q8) em (fun i hi => ?_) ?_ ?_ (fun k k5 k6 => ?_)
        · have es1 : snk R T (n + 1) i = snk R T n i := by rw [es]; exact if_neg (fun z => k7 z.1)
          rw [es1, q4]
          exact hs i hi
        · rw [q3, hc5, ec, if_neg k7, Int32.add_zero]
        · rw [q3]; exact hc6
        · rw [q3]; exact hk k k5 k6
/-- loop 4 -/
theorem c162d (hb : b < 3) (h0 : Hp) (hP : ∀ c, c < 144 → PG R (T c) ∧ (T c 0 = 6 → ∃ a, a < 8 ∧ T c 2 = nI a)) : ∀ (m n : Nat) (h : Hp) (z3 z4 z5 z6 : Option Value), n + m = 144 → HW h → MRc h = R → WM h (win R T 144) → (∀ t, t < 144 → ∀ v, win R T 144 t = some v → gI h 430 t = ofd R (T v.1)) → IE h0 h → SX h0 h mtc → OB h0 h b → (∀ c, c < 144 → MV h b c = mvG R T n c) → gI h 411 = gI h0 411 → gI h 397 36 = (if anw R T n = true then 1 else gI h0 397 36) → (∀ k, ¬ k = 36 → gI h 397 k = gI h0 397 k) → WP L xs 162 327 [some (.ref 397), some (.int (nI b)), some (.int (nI n)), z3, z4, z5, z6] [] h (fun r h' => r = none ∧ SMr h0 h' b R T)
  | 0, n, h, z3, z4, z5, z6, hn, hw, hR, W, M, i0, s0, o0, hr, h11, hc6, hk => by
    obtain rfl : n = 144 := by omega
    refine v162_327 hw ⟨fun _ => ?_, fun q => absurd (nI_le (Nat.le_refl _) (by decide)) q⟩
    refine c162e hb h0 hP 144 0 h z3 z4 z5 z6 rfl hw hR W M i0 s0 o0 (fun c hc => ?_) (fun i hi => ?_) ?_ hc6 (fun k _ k6 => hk k k6)
    · rw [hr c hc]
      unfold mv
      rw [if_neg (Nat.not_lt_zero _)]
    · rw [h11]
      show _ = _ + (if b = 0 then 0 else 0)
      rw [ite_self, Int32.add_zero]
    · rw [hk 35 (by decide)]
      show _ = _ + 0
      rw [Int32.add_zero]
  | m + 1, n, h, z3, z4, z5, z6, hn, hw, hR, W, M, i0, s0, o0, hr, h11, hc6, hk => by
    have hn4 : n < 144 := by omega
    refine v162_327 hw ⟨fun q => absurd q (nI_ge hn4 (by decide)), fun _ => ⟨n, rfl, hn4, ?_⟩⟩
    have hW := W n hn4
    cases hv : win R T 144 n with
    | none =>
      rw [hv] at hW
      refine ⟨fun _ => ?_, fun q => absurd hW q⟩
      have ea : anw R T (n + 1) = anw R T n := by
        show (anw R T n || (win R T 144 n).isSome) = _
        rw [hv]
        simp
      rw [nI_1]
      exact c162d hb h0 hP m (n + 1) h z3 z4 z5 z6 (by omega) hw hR W M i0 s0 o0 (fun c hc => by rw [mvG_n (by rintro ⟨v, q, -⟩; rw [hv] at q; cases q)]; exact hr c hc) h11 (by rw [ea]; exact hc6) hk
    | some v =>
      rw [hv] at hW
      refine ⟨fun q => absurd (hW.1.symm.trans q) (nI_m1 (by have := hW.2.2.2.1; omega)), fun _ => ?_⟩
      obtain ⟨v1, v2⟩ := win_s _ _ _ hv
      have ea : anw R T (n + 1) = true := by
        show (anw R T n || (win R T 144 n).isSome) = _
        rw [hv]
        simp
      have eo := (opp_all v.2.1 hW.2.2.2.2.1).2
      rw [hW.1, hW.2.1, eo]
      obtain ⟨h1, r1, s1⟩ := c163 (L := L) (xs := xs) (s := (v.2.1 + 2) % 4) hw hb v1
      refine ⟨_, s1, ?_⟩
      obtain ⟨q1, q2, q3, q4, q5, q6, q7, q8⟩ := r1
      have g0 : mvG R T n v.1 = T v.1 := by
        unfold mvG
        rw [v2]
        show (if n < n ∧ _ then _ else _) = _
        rw [if_neg (fun z => Nat.lt_irrefl _ z.1)]
      have g1 : mvG R T (n + 1) v.1 = giv (T v.1) (nI ((v.2.1 + 2) % 4)) := by
        unfold mvG
        rw [v2]
        show (if n < n + 1 ∧ win R T 144 n = some (v.1, v.2) then _ else _) = _
        rw [if_pos ⟨Nat.lt_succ_self _, hv⟩]
      rw [nI_1]
      refine c162d hb h0 hP m (n + 1) _ z3 z4 z5 z6 (by omega) (HW_sI (IE_w q1 hw)) ?_ ?_ ?_ (IE_s (IE_t i0 q1)) ?_ ?_ ?_ ?_ ?_ ?_
      · rw [MRc_sI (by omega), mtc_R q2, hR]
      · intro t ht
        have := W t ht
        rw [gIo (show 427 ≠ 397 by decide), gIo (show 428 ≠ 397 by decide), gIo (show 429 ≠ 397 by decide), q5 427 (by decide) (by decide), q5 428 (by decide) (by decide), q5 429 (by decide) (by decide)]
        exact this
      · intro t ht v hv
        rw [gIo (show 430 ≠ 397 by decide), q5 430 (by decide) (by decide)]
        exact M t ht v hv
      · intro a ha
        rw [gIo (by unfold mtc at ha; omega), q2 a ha, s0 a ha]
      · exact OB_t o0 (OB_t q8 (OB_e (MV_sI (by omega))))
      · intro c hc
        rw [MV_sI (by omega)]
        by_cases e : c = v.1
        · subst e
          rw [q6, hr _ v1, g0, g1]
        · rw [q7 c hc e, hr c hc, mvG_n (by rintro ⟨v', q, q2⟩; rw [hv] at q; injection q with q; subst q; exact e q2.symm)]
      · rw [gIo (show 411 ≠ 397 by decide), q4]
        exact h11
      · rw [gIs, up_s, if_pos ea]
      · intro k k6
        rw [gIs, up_o k6, q3]
        exact hk k k6
end MS
