/-! The call turn. -/
theorem RLf_mv {h h' : Hp} {k : Nat} (n : h'.1 = h.1) (eR : RC h' = RC h) (e : ∀ a, a = 4 ∨ a = 6 ∨ (10 ≤ a ∧ a < 154) ∨ a = 409 ∨ a = 410 ∨ a = 405 → gI h' a = gI h a) (e14 : gI h' 397 14 = gI h 397 14) (e11 : ∀ i, i < 21 → gI h' 411 i = gI h 411 i) (m : ∀ c j, c < 144 → j < 14 → MV h' 0 c j = MV h 0 c j) (g : ∀ c, c < 144 → gR h' (10 + c) 4 = gR h (10 + c) 4) (r : RLf h k) : RLf h' k := by
  obtain ⟨r1, r2, r3, r4⟩ := r
  refine ⟨fun c hc => ?_, ?_, fun i hi => ?_, ?_⟩
  · obtain ⟨a1, a2, a3, a4, a5⟩ := r1 c hc
    have ep : gI h' (10 + c) = gI h (10 + c) := e _ (by omega)
    refine ⟨LR_g n ep (g c hc) a1, by rw [eR, ep]; exact a2, ⟨by rw [ep, e 405 (by omega)]; exact a3.1, fun q j hj h4 => ?_⟩, by rw [ep, e 409 (by omega), e 410 (by omega)]; exact a4, SR_e (fun j hj => m c j hc hj) a5⟩
    rw [ep] at q ⊢
    rw [m c j hc hj]
    exact a3.2 q j hj h4
  · rw [e 4 (by omega), e14]; exact r2
  · rw [e 6 (by omega), e11 i hi]; exact r3 i hi
  · rw [e11 0 (by decide)]; exact r4
section OU
variable {L : Nat} {xs : Nat → Int32} {h : Hp} {k : Nat} {x : Int32}
/-- the relation behind a turn: h1 by the class, h2 by the reference -/
theorem Rel_turn {h h1 h2 : Hp} {k : Nat} (r : Rel h k) (f : FT h h1) (i : IE h1 h2) (o : ∀ a, ¬ mtc a → ¬ (434 ≤ a ∧ a ≤ 436) → gI h2 a = gI h1 a) (m : ∀ c j, c < 144 → j < 14 → MV h2 0 c j = MV h1 0 c j) (e11 : ∀ j, j < 21 → gI h2 411 j = gI h1 411 j) (e397 : ∀ j, ¬ j = 35 → ¬ j = 36 → ¬ j = 40 → gI h2 397 j = gI h1 397 j) (t : RLt h2) : Rel h2 k := by
  obtain ⟨r1, r2, r3, r4, r5, r6⟩ := r
  have w2 : HW h2 := IE_w i f.2.1
  have oo : ∀ a, ¬ (235 ≤ a ∧ a < 390) → ¬ mtc a → ¬ (434 ≤ a ∧ a ≤ 436) → gI h2 a = gI h a := fun a q1 q2 q3 => (o a q2 q3).trans (f.2.2.1 a q1).1
  have e397' : ∀ j, ¬ j = 35 → ¬ j = 36 → ¬ j = 40 → gI h2 397 j = gI h 397 j := fun j q1 q2 q3 => (e397 j q1 q2 q3).trans (by rw [(f.2.2.1 397 (by omega)).1])
  have eR : RC h2 = RC h := by
    funext q
    exact oo (444 + q) (by omega) (by unfold mtc; omega) (by omega)
  have gl : ∀ a, ¬ a = 236 → ¬ a = 237 → gL h2 a = gL h a := fun a q1 q2 => by rw [i.2.1]; exact f.2.2.2 a q1 q2
  have gr : ∀ a, ¬ (235 ≤ a ∧ a < 390) → ∀ j, gR h2 a j = gR h a j := fun a q j => by rw [i.2.2]; exact (f.2.2.1 a q).2 j
  refine ⟨RLb_of (h := h) w2 (i.1.trans f.1) (fun a ha => oo a (by omega) (by unfold mtc; omega) (by omega)) (e397' 1 (by decide) (by decide) (by decide)) (fun q => gr 3 (by omega) q) r1, RLf_mv (h := h) (i.1.trans f.1) eR (fun a ha => oo a (by omega) (by unfold mtc; omega) (by omega)) (e397' 14 (by decide) (by decide) (by decide)) (fun j hj => (e11 j hj).trans (by rw [(f.2.2.1 411 (by omega)).1])) (fun c j hc hj => (m c j hc hj).trans ?_) (fun c hc => gr _ (by omega) 4) r2, RLr_of (h := h) (fun a ha => oo a (by omega) (by unfold mtc; omega) (by omega)) r3, RLs_of (h := h) (fun a ha => oo a (by unfold inS at ha; omega) (by unfold inS at ha; unfold mtc; omega) (by unfold inS at ha; omega)) (fun a ha => gl a (by unfold inS at ha; omega) (by unfold inS at ha; omega)) r4, t, RLp_of (h := h) (oo 394 (by omega) (by unfold mtc; omega) (by omega)) (oo 441 (by omega) (by unfold mtc; omega) (by omega)) (fun a ha => gl a (by omega) (by omega)) r6⟩
  have : MV h1 = MV h := by
    funext b c j
    unfold MV
    have := AD_no b c j
    rw [(f.2.2.1 _ (by omega)).1]
  rw [this]
theorem op_turn : OPI L xs 98 173 [.ref 0, .int x] [.ref 397, .int x] := by
  intro h k r
  have hw := r.1.1
  have hw6 : ∀ n, HW (hC h n) := fun n => HW_sI hw
  cases hx : x_in3 x 1 400 with
  | false =>
    have nx : ¬ x_in3 x 1 400 = true := by rw [hx]; decide
    exact ⟨_, _, _, k, sp_eq (v98 hw ⟨fun q => absurd q nx, fun _ => ⟨_, _, rfC hw rv6, rfl, rfl⟩⟩), hw6 6, sp_eq (v173 (hw6 6) ⟨fun q => absurd q nx, fun _ => ⟨_, _, rfM (hw6 6) rv6, rfl, rfl⟩⟩), Rel_ref r⟩
  | true =>
    obtain ⟨lim, hl1, hl2, rfl⟩ := in3_n (a := 1) (b := 400) (by decide) (by decide) hx
    have hl : lim < 401 := by omega
    obtain ⟨⟨-, hk, hn, b4, b5, b6, b7, b8, b9⟩, r2, r3, r4, r5, r6⟩ := id r
    have hG : ∀ c, c < 144 → LR h (10 + c) ∧ GR k (RC h) (gI h (10 + c)) := fun c hc => ⟨(r2.1 c hc).1, (r2.1 c hc).2.1⟩
    have hGT : ∀ c, c < 144 → GR k (RC h) (tbG h c) := fun c hc => GR_c (fun j hj h4 => by unfold tbG cpR; rw [if_pos ⟨by omega, h4⟩]) (hG c hc).2
    obtain ⟨r1, h3, s3, f3, d3⟩ := c5 (L := L) (xs := xs) hl hw rfl b8 hk hG
    have hE := EQS_ShE (R := RC h) (T := tbG h) b8 hk hGT
    -- what the reference begins with, in any heap g behind the class's run
    have start : ∀ g, FT h g → PJ k (RC h) (tbG h) (sI g 397 40 0) 0 ∧ RR k (RC h) (MRc (sI g 397 40 0)) := by
      intro g f
      have mv : MV (sI g 397 40 0) = MV h := by
        rw [MV_sI (by omega)]
        funext b c j
        unfold MV
        have := AD_no b c j
        rw [(f.2.2.1 _ (by omega)).1]
      constructor
      · intro c hc
        obtain ⟨a1, a2, a3, a4, a5⟩ := r2.1 c hc
        rw [mv]
        refine ⟨hGT c hc, a3.1, fun q j hj h4 => ?_, a5⟩
        have : tbG h c j = gI h (10 + c) j := by unfold tbG cpR; rw [if_pos ⟨by omega, h4⟩]
        rw [this]
        exact a3.2 q j hj h4
      · rw [MRc_sI (by omega)]
        have : MRc g = MRc h := by
          funext r j
          unfold MRc
          have := ARc_no r j
          rw [(f.2.2.1 _ (by omega)).1]
        rw [this]
        exact b7
    have e4 : 4 * nI lim = nI (4 * lim) := by
      show nI 4 * nI lim = _
      rw [pk_mul]
    rcases d3 with ⟨rfl, mu, la, cyc, hml, d5, d6, d7, gh⟩ | ⟨rfl, d5, dno⟩
    · -- found
      have hla : la < 401 := by omega
      have l1 := cyc.1
      have eR3 : RC h3 = RC h := FT_R f3
      obtain ⟨h9, s9, f9, e9, row9, e98, e99, e910, st9⟩ := c9 (L := L) (xs := xs) (k := k) (R := RC h) (B := itT (RC h) (tbG h) (mu + la)) hla f3.2.1 eR3 b8 hk gh d7
      have f39 := FT_t f3 f9
      obtain ⟨ps, er⟩ := start h9 f39
      obtain ⟨r6', h4, s4, fm4, d4⟩ := c169 (L := L) (xs := xs) hl (HW_sI (i := 397) (k := 40) (v := 0) f39.2.1) er b8 hk ps
      rcases d4 with ⟨-, d4⟩ | ⟨i, hi1, hi2, rfl, mu', c'⟩
      · have := d4 mu la cyc; omega
      obtain ⟨rfl, rfl⟩ := Cyc_uni hE c' cyc
      have ps4 : PJ k (RC h) (tbG h) h4 0 := PJ_e (fun c j hc hj => fm4.2.2.1 c j hc hj) ps
      have hw4 := IE_w fm4.1 (HW_sI (i := 397) (k := 40) (v := 0) f39.2.1)
      obtain ⟨f, h13, s13, fm13, hf1, hf2, hf3⟩ := c170 (L := L) (xs := xs) hi2 hl hw4 (by rw [FM_M fm4]; exact er) b8 hk ps4
      have hfm : f = mu' ∧ PJ k (RC h) (itT (RC h) (tbG h) f) h13 1 := by
        rcases hf3 with ⟨e, pj⟩ | e
        · have := (Cyc_lt hE cyc (show f < f + i by omega) e).1
          refine ⟨?_, pj⟩
          apply Decidable.byContradiction
          intro z
          exact hf2 mu' (by omega) cyc.2.1
        · exact absurd cyc.2.1 (hf2 mu' (by omega))
      obtain ⟨rfl, pj13⟩ := hfm
      have fm := FM_t fm4 fm13
      -- the measuring
      have pA : PJ k (RC h) (tbA (itT (RC h) (tbG h) (f + i))) (sI (sI (sI h13 397 40 1) 434 0 (nI f)) 434 1 (nI i)) 1 := by
        have mv : MV (sI (sI (sI h13 397 40 1) 434 0 (nI f)) 434 1 (nI i)) = MV h13 := by rw [MV_sI (by omega), MV_sI (by omega), MV_sI (by omega)]
        intro c hc
        obtain ⟨q1, q2, q3, q4⟩ := pj13 c hc
        rw [mv]
        have ta : ∀ j, j < 14 → tbA (itT (RC h) (tbG h) (f + i)) c j = itT (RC h) (tbG h) (f + i) c j := fun j hj => by unfold tbA; rw [up_o (by omega), up_o (by omega), up_o (by omega)]
        have st := itT_st (RC h) (tbG h) (f + i) c
        have st' := itT_st (RC h) (tbG h) f c
        have te : ∀ j, j < 14 → ¬ j = 4 → itT (RC h) (tbG h) (f + i) c j = itT (RC h) (tbG h) f c j := by
          intro j hj h4
          by_cases h5 : 5 ≤ j
          · exact (cyc.2.1 c hc j h5 hj).symm
          · rcases (show j = 0 ∨ j = 1 ∨ j = 2 ∨ j = 3 by omega) with rfl | rfl | rfl | rfl
            · exact st.1.trans st'.1.symm
            · exact st.2.2.1.trans st'.2.2.1.symm
            · exact st.2.1.trans st'.2.1.symm
            · exact st.2.2.2.trans st'.2.2.2.symm
        have gA : GR k (RC h) (tbA (itT (RC h) (tbG h) (f + i)) c) := by
          obtain ⟨g1, g2, g3, g4, g5, g6, g7, g8, g9, g10, g11⟩ := (gh c hc).2.2
          refine ⟨g1, fun z j hj h4 => ?_, g3, g4, g5, g6, g7, g8, g9, g10, g11⟩
          unfold tbA
          rw [up_o (by omega)]
          by_cases e : j = 15
          · subst e; rw [up_s]
          · rw [up_o e]
            by_cases e2 : j = 14
            · subst e2; rw [up_s]
            · rw [up_o e2]; exact g2 z j hj h4
        refine ⟨gA, ?_, fun q j hj h4 => ?_, q4⟩
        · rw [ta 0 (by decide), te 0 (by decide) (by decide)]; exact q2
        · rw [ta 0 (by decide), te 0 (by decide) (by decide)] at q
          rw [ta j hj, te j hj h4]
          exact q3 q j hj h4
      have hw22 : HW (sI (sI (sI h13 397 40 1) 434 0 (nI f)) 434 1 (nI i)) := HW_sI (HW_sI (HW_sI (IE_w fm13.1 hw4)))
      have er22 : RR k (RC h) (MRc (sI (sI (sI h13 397 40 1) 434 0 (nI f)) 434 1 (nI i))) := by
        rw [MRc_sI (by omega), MRc_sI (by omega), MRc_sI (by omega), FM_M fm]
        exact er
      obtain ⟨h22, s22, fg, g434, gc⟩ := c172 (L := L) (xs := xs) (k := k) (R := RC h) (A := tbA (itT (RC h) (tbG h) (f + i))) hla hw22 er22 b8 hk pA (fun c => ⟨by unfold tbA; rw [up_o (by decide), up_o (by decide), up_s], by unfold tbA; rw [up_o (by decide), up_s], by unfold tbA; rw [up_s]⟩)
      have c98 : Sp L xs 98 [.ref 0, .int (nI lim)] h (some (.int (nI i))) h9 := by
        refine sp_eq (v98 hw ⟨fun _ => ⟨_, h3, s3, fun q => absurd q (by decide), fun _ => ⟨h9, s9, ?_, rfl⟩⟩, fun q => absurd hx q⟩)
        rw [e9 7 (by decide), d7]
      have c173 : Sp L xs 173 [.ref 397, .int (nI lim)] h9 (some (.int (nI i))) h22 := by
        refine sp_eq (v173 f39.2.1 ⟨fun _ => ?_, fun q => absurd hx q⟩)
        rw [e4]
        refine ⟨_, h4, s4, fun q => absurd q (nI_ne0 (by omega) (by omega)), fun _ => ⟨fun _ => ⟨_, h13, s13, fun _ => ?_, fun q => absurd ?_ q⟩, fun q => absurd (nI_le (by omega) (by omega)) q⟩⟩
        · exact ⟨h22, s22, rfl, rfl⟩
        · rw [nI_add]
          exact nI_le (by omega) (by omega)
      refine ⟨nI i, h9, h22, k, c98, f39.2.1, c173, ?_⟩
      have o22 : ∀ a, ¬ mtc a → ¬ (434 ≤ a ∧ a ≤ 436) → gI h22 a = gI h9 a := by
        intro a q1 q2
        rw [fg.2.1 a q1 q2, gIo (by omega), gIo (by omega), gIo (by unfold mtc at q1; omega), fm.2.1 a q1, gIo (by unfold mtc at q1; omega)]
      refine Rel_turn r f39 ?_ o22 (fun c j hc hj => ?_) (fun j hj => ?_) (fun j q1 q2 q3 => ?_) ?_
      · refine IE_t (IE_t (IE_s (IE_r h9)) fm.1) (IE_t (IE_s (IE_s (IE_s (IE_r h13)))) fg.1)
      · rw [fg.2.2.1 c j hc hj, MV_sI (by omega), MV_sI (by omega), MV_sI (by omega), fm.2.2.1 c j hc hj, MV_sI (by omega)]
      · rw [fg.2.2.2.1 j hj, gIo (by decide), gIo (by decide), gIo (by decide), fm.2.2.2.1 j hj, gIo (by decide)]
      · rw [fg.2.2.2.2 j q1 q2, gIo (by decide), gIo (by decide), gIs, up_o q3, fm.2.2.2.2 j q1 q2, gIs, up_o q3]
      · have c40 : gI h22 397 40 = 1 := by
          rw [fg.2.2.2.2 40 (by decide) (by decide), gIo (by decide), gIo (by decide), gIs, up_s]
        have e235 : gI h22 235 = gI h9 235 := o22 235 (by unfold mtc; omega) (by omega)
        have q434 : gI h22 434 = up (up (up (up (up (gI h13 434) 0 (nI f)) 1 (nI i)) 2 (camS (RC h) (tbA (itT (RC h) (tbG h) (f + i))) i)) 3 (pwM (RC h) (tbA (itT (RC h) (tbG h) (f + i))) i)) 4 (b2i (!(wrk (RC h) (tbA (itT (RC h) (tbG h) (f + i))) i || anyG (itT (RC h) (tbA (itT (RC h) (tbG h) (f + i))) i) 144))) := by
          rw [g434, gIs, gIs, gIo (show 434 ≠ 397 by decide)]
        refine ⟨by rw [e235, e9 5 (by decide), d5, c40], Or.inr c40, fun _ => ⟨?_, ?_, ?_, ?_, ?_, ?_, fun c hc => ?_⟩⟩
        · rw [e235, e9 6 (by decide), d6, q434, up_o (by decide), up_o (by decide), up_o (by decide), up_o (by decide), up_s]
        · rw [e235, e9 7 (by decide), d7, q434, up_o (by decide), up_o (by decide), up_o (by decide), up_s]
        · rw [e235, e98, q434, up_o (by decide), up_o (by decide), up_s]
        · rw [e235, e99, q434, up_o (by decide), up_s]
        · rw [e235, e910, q434, up_s]
        · rw [q434, up_s]
          cases (!(wrk (RC h) (tbA (itT (RC h) (tbG h) (f + i))) i || anyG (itT (RC h) (tbA (itT (RC h) (tbG h) (f + i))) i) 144))
          · left; rfl
          · right; rfl
        · obtain ⟨g36, g35⟩ := gc c hc
          have erow : gI h22 (246 + c) = itT (RC h) (tbA (itT (RC h) (tbG h) (f + i))) i c := by
            rw [o22 _ (by unfold mtc; omega) (by omega)]
            exact row9 c hc
          have est := (itT_st (RC h) (tbA (itT (RC h) (tbG h) (f + i))) i c).1
          have e238 : gI h22 238 = gI h9 238 := o22 238 (by unfold mtc; omega) (by omega)
          have e239 : gI h22 239 = gI h9 239 := o22 239 (by unfold mtc; omega) (by omega)
          rw [erow, est, g36, e238, e239]
          refine ⟨?_, fun nz => ?_⟩
          · by_cases z : tbA (itT (RC h) (tbG h) (f + i)) c 0 = 0
            · rw [decide_eq_true z]; simp [z, b2i]
            · rw [decide_eq_false z]; simp [z, b2i]
          · obtain ⟨x0, x1, x2, x3, x4⟩ := g35 nz
            rw [x0, x1, x2, x3, x4, (st9 c hc).1, (st9 c hc).2]
            refine ⟨rfl, rfl, rfl, rfl, rfl, ?_, ?_⟩
            · cases (stkB (RC h) (tbA (itT (RC h) (tbG h) (f + i))) c i && decide (itT (RC h) (tbA (itT (RC h) (tbG h) (f + i))) i c 15 = 0))
              · left; rfl
              · right; rfl
            · cases strB (RC h) (tbA (itT (RC h) (tbG h) (f + i))) c i
              · left; rfl
              · right; rfl
    · -- not found
      obtain ⟨ps, er⟩ := start h3 f3
      obtain ⟨r6', h4, s4, fm4, d4⟩ := c169 (L := L) (xs := xs) hl (HW_sI (i := 397) (k := 40) (v := 0) f3.2.1) er b8 hk ps
      have c98 : Sp L xs 98 [.ref 0, .int (nI lim)] h (some (.int 0)) h3 := sp_eq (v98 hw ⟨fun _ => ⟨_, h3, s3, fun _ => ⟨rfl, rfl⟩, fun q => absurd rfl q⟩, fun q => absurd hx q⟩)
      have fin : ∀ h2, FM (sI h3 397 40 0) h2 → Sp L xs 173 [.ref 397, .int (nI lim)] h3 (some (.int 0)) h2 → ∃ (r : Int32) (h1 h2 : Hp) (k2 : Nat), Sp L xs 98 [.ref 0, .int (nI lim)] h (some (.int r)) h1 ∧ HW h1 ∧ Sp L xs 173 [.ref 397, .int (nI lim)] h1 (some (.int r)) h2 ∧ Rel h2 k2 := by
        intro h2 fm s
        have c40 : gI h2 397 40 = 0 := by rw [fm.2.2.2.2 40 (by decide) (by decide), gIs, up_s]
        refine ⟨0, h3, h2, k, c98, f3.2.1, s, Rel_turn r f3 (IE_t (IE_s (IE_r h3)) fm.1) (fun a q1 q2 => ?_) (fun c j hc hj => ?_) (fun j hj => ?_) (fun j q1 q2 q3 => ?_) ⟨?_, Or.inl c40, fun q => ?_⟩⟩
        · rw [fm.2.1 a q1, gIo (by unfold mtc at q1; omega)]
        · rw [fm.2.2.1 c j hc hj, MV_sI (by omega)]
        · rw [fm.2.2.2.1 j hj, gIo (by decide)]
        · rw [fm.2.2.2.2 j q1 q2, gIs, up_o q3]
        · rw [c40, fm.2.1 235 (by unfold mtc; omega), gIo (by decide)]
          exact d5
        · rw [c40] at q
          exact absurd q (by decide)
      rcases d4 with ⟨rfl, -⟩ | ⟨i, hi1, hi2, rfl, mu', c'⟩
      · refine fin h4 fm4 (sp_eq (v173 f3.2.1 ⟨fun _ => ?_, fun q => absurd hx q⟩))
        rw [e4]
        exact ⟨_, h4, s4, fun _ => ⟨rfl, rfl⟩, fun q => absurd rfl q⟩
      · by_cases hil : i ≤ lim
        · have ps4 : PJ k (RC h) (tbG h) h4 0 := PJ_e (fun c j hc hj => fm4.2.2.1 c j hc hj) ps
          have hw4 := IE_w fm4.1 (HW_sI (i := 397) (k := 40) (v := 0) f3.2.1)
          obtain ⟨f, h13, s13, fm13, hf1, hf2, hf3⟩ := c170 (L := L) (xs := xs) hi2 hl hw4 (by rw [FM_M fm4]; exact er) b8 hk ps4
          have hfi : lim < f + i := by
            rcases hf3 with ⟨e, -⟩ | e
            · apply Decidable.byContradiction
              intro z
              exact dno f (f + i) (by omega) (by omega) e
            · omega
          refine fin h13 (FM_t fm4 fm13) (sp_eq (v173 f3.2.1 ⟨fun _ => ?_, fun q => absurd hx q⟩))
          rw [e4]
          refine ⟨_, h4, s4, fun q => absurd q (nI_ne0 (by omega) (by omega)), fun _ => ⟨fun _ => ⟨_, h13, s13, fun q => absurd q ?_, fun _ => ⟨rfl, rfl⟩⟩, fun q => absurd (nI_le hil (by omega)) q⟩⟩
          rw [nI_add]
          exact nI_ge hfi (by omega)
        · refine fin h4 fm4 (sp_eq (v173 f3.2.1 ⟨fun _ => ?_, fun q => absurd hx q⟩))
          rw [e4]
          exact ⟨_, h4, s4, fun q => absurd q (nI_ne0 (by omega) (by omega)), fun _ => ⟨fun q => absurd q (nI_ge (by omega) (by omega)), fun _ => ⟨rfl, rfl⟩⟩⟩
end OU
