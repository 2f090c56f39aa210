/-! The class's step. -/
def tch (f a : Nat) : Prop := a = f ∨ (f + 2 ≤ a ∧ a < f + 150)
/-- in the moves: rows at n -/
def MH (h : Hp) (f : Nat) (R T : Nat → Row) (n : Nat) : Prop := HW h ∧ RC h = R ∧ (∀ c, c < 144 → gI h (f + 6 + c) = mv R T n n c ∧ LR h (f + 6 + c)) ∧ WC h f T (win R T 144)
theorem tch_lt {f a : Nat} (hf : FL f) (h : tch f a) : a < 444 := by
  unfold tch at h
  rcases hf with rfl | rfl <;> omega
theorem LR_oth {h h' : Hp} {p : Nat} (e : IE h h') (h0 : gI h' p 0 = gI h p 0) (h2 : gI h' p 2 = gI h p 2) (hl : LR h p) : LR h' p := by
  unfold LR
  rw [h0, h2, e.1, e.2.2]
  exact hl
section ST
variable {L : Nat} {xs : Nat → Int32} {h : Hp} {f : Nat} {R T : Nat → Row} {n : Nat}
theorem c21 (hf : FL f) (hP : ∀ c, c < 144 → PG R (T c)) (M : MH h f R T n) (hn : n < 144) {v : Nat × Nat × Nat} (hv : win R T 144 n = some v) : ∃ h', Sp L xs 21 [.ref f, .int (nI n)] h (some (.int (if T n 0 = 7 then 1 else 0))) h' ∧ IE h h' ∧ SX h h' (tch f) ∧ gI h' f = gI h f ∧ MH h' f R T (n + 1) ∧ gI h' (f + 2) = (if T n 0 = 7 then up (gI h (f + 2)) (ofd R (T v.1)).toNatClampNeg (gI h (f + 2) (ofd R (T v.1)).toNatClampNeg + 1) else gI h (f + 2)) := by
  obtain ⟨hw, hR, hrow, W⟩ := M
  obtain ⟨v1, v2⟩ := win_s _ _ _ hv
  obtain ⟨hne, mg, mo⟩ := mv_g hP hn hv
  have mt := mv_t hP hn hv
  have hW := W n hn
  rw [hv] at hW
  obtain ⟨w3, w4, w5, -, w7, -, -⟩ := hW
  obtain ⟨i, hi, ei⟩ := (hP _ v1).2.2.2.2.2
  have hgp := PT_f hf v1
  have hnp := PT_f hf hn
  have s34 : Sp L xs 34 [.ref (f + 6 + v.1)] h (some (.int (ofd R (T v.1)))) h := by
    have := c34 (L := L) (xs := xs) hw hgp (hrow _ v1).2
    rw [hR, (hrow _ v1).1, mo] at this
    exact this
  have eo : opp (gI h (f + 4) n) = nI ((v.2.1 + 2) % 4) := by rw [w4]; exact (opp_all _ w7).1
  have s37 : Sp L xs 37 [.ref (f + 6 + v.1), .int (opp (gI h (f + 4) n))] h none (wO h (f + 6 + v.1) (mv R T (n + 1) (n + 1) v.1)) := by
    have := c37 (L := L) (xs := xs) (s := opp (gI h (f + 4) n)) hw hgp (hrow _ v1).2
    rw [(hrow _ v1).1, eo, ← mg] at this
    rw [eo]
    exact this
  generalize hh9 : wO h (f + 6 + v.1) (mv R T (n + 1) (n + 1) v.1) = h9 at s37
  have hw9 : HW h9 := by rw [← hh9]; exact HW_wO hw
  have i9 : IE h h9 := by rw [← hh9]; exact IE_wO (IE_r h)
  have g9 : ∀ a, ¬ a = f + 6 + v.1 → gI h9 a = gI h a := fun a ha => by rw [← hh9]; exact gI_wOo ha
  have g9v : gI h9 (f + 6 + v.1) = mv R T (n + 1) (n + 1) v.1 := by rw [← hh9]; exact gI_wO _ _ _
  have gn9 : gI h9 (f + 6 + n) = mv R T n n n := by rw [g9 _ (by omega)]; exact (hrow n hn).1
  have hR9 : RC h9 = R := by
    rw [← hR]
    funext r
    exact g9 _ (by have := hgp.1; omega)
  have lr9 : ∀ c, c < 144 → LR h9 (f + 6 + c) := by
    intro c hc
    by_cases e : c = v.1
    · subst e
      refine LR_oth i9 ?_ ?_ (hrow _ v1).2
      · rw [g9v, (hrow _ v1).1, (mv_0 _ _ _).1, (mv_0 _ _ _).1]
      · rw [g9v, (hrow _ v1).1, (mv_0 _ _ _).2.1, (mv_0 _ _ _).2.1]
    · exact LR_of i9 (g9 _ (by omega)) (hrow c hc).2
  have s38 : Sp L xs 38 [.ref (f + 6 + n), .int (ofd R (T v.1)), .int (gI h9 (f + 4) n)] h9 none (wO h9 (f + 6 + n) (mv R T (n + 1) (n + 1) n)) := by
    have := c38 (L := L) (xs := xs) (i := ofd R (T v.1)) (s := gI h9 (f + 4) n) hw9 hnp (lr9 n hn)
    rw [hR9, gn9] at this
    have e4 : gI h9 (f + 4) n = nI v.2.1 := by rw [g9 _ (by omega)]; exact w4
    rw [e4] at this ⊢
    rw [mt]
    exact this
  generalize hh12 : wO h9 (f + 6 + n) (mv R T (n + 1) (n + 1) n) = h12 at s38
  have g12 : ∀ a, ¬ a = f + 6 + n → gI h12 a = gI h9 a := fun a ha => by rw [← hh12]; exact gI_wOo ha
  have g12n : gI h12 (f + 6 + n) = mv R T (n + 1) (n + 1) n := by rw [← hh12]; exact gI_wO _ _ _
  have i12 : IE h h12 := by rw [← hh12]; exact IE_wO i9
  have gx : ∀ a, ¬ a = f + 6 + n → ¬ a = f + 6 + v.1 → gI h12 a = gI h a := fun a h1 h2 => (g12 a h1).trans (g9 a h2)
  have sx : SX h h12 (tch f) := by
    intro a ha
    unfold tch at ha
    exact gx a (by omega) (by omega)
  have M12 : MH h12 f R T (n + 1) := by
    refine ⟨IE_w i12 hw, (RC_of sx fun a => tch_lt hf).trans hR, fun c hc => ?_, ?_⟩
    · have hrow2 : gI h12 (f + 6 + c) = mv R T (n + 1) (n + 1) c := by
        by_cases e1 : c = n
        · subst e1; exact g12n
        · rw [g12 _ (by omega)]
          by_cases e2 : c = v.1
          · subst e2; exact g9v
          · rw [g9 _ (by omega), mv_o hv e1 e2]
            exact (hrow c hc).1
      refine ⟨hrow2, LR_oth i12 ?_ ?_ (hrow c hc).2⟩
      · rw [hrow2, (hrow c hc).1, (mv_0 _ _ _).1, (mv_0 _ _ _).1]
      · rw [hrow2, (hrow c hc).1, (mv_0 _ _ _).2.1, (mv_0 _ _ _).2.1]
    · intro t ht
      have := W t ht
      rw [gx (f + 3) (by omega) (by omega), gx (f + 4) (by omega) (by omega), gx (f + 5) (by omega) (by omega)]
      exact this
  have k0 : gI h12 (f + 6 + n) 0 = T n 0 := by rw [g12n, (mv_0 _ _ _).1]
  have gf2 : gI h12 (f + 2) = gI h (f + 2) := gx _ (by omega) (by omega)
  by_cases k7 : T n 0 = 7
  · refine ⟨sI h12 (f + 2) i (gI h12 (f + 2) i + 1), sp_eq (v21 hw hf ⟨n, rfl, hn, v.1, w3, v1, _, s34, _, s37, _, s38, ?_⟩), IE_s i12, ?_, ?_, ?_, ?_⟩
    · rw [k0, if_pos k7]
      exact ⟨fun _ => ⟨i, ei, hi, rfl, rfl⟩, fun q => absurd k7 q⟩
    · intro a ha
      rw [gIo (by unfold tch at ha; omega)]
      exact sx a ha
    · rw [gIo (by omega)]
      exact gx f (by omega) (by omega)
    · obtain ⟨m1, m2, m3, m4⟩ := M12
      refine ⟨HW_sI m1, ?_, fun c hc => ?_, fun t ht => ?_⟩
      · rw [← m2]
        funext r
        exact gIo (by have := FL_lt2 hf; omega)
      · rw [gIo (show f + 6 + c ≠ f + 2 by omega)]
        refine ⟨(m3 c hc).1, LR_of (IE_s (IE_r h12)) (gIo (by omega)) (m3 c hc).2⟩
      · rw [gIo (show f + 3 ≠ f + 2 by omega), gIo (show f + 4 ≠ f + 2 by omega), gIo (show f + 5 ≠ f + 2 by omega)]
        exact m4 t ht
    · rw [if_pos k7, gIs, gf2, ei, nI_c (by omega)]
  · refine ⟨h12, sp_eq (v21 hw hf ⟨n, rfl, hn, v.1, w3, v1, _, s34, _, s37, _, s38, ?_⟩), i12, sx, gx f (by omega) (by omega), M12, ?_⟩
    · rw [k0, if_neg k7]
      exact ⟨fun q => absurd q k7, fun _ => ⟨rfl, rfl⟩⟩
    · rw [if_neg k7]
      exact gf2
/-- loop 3: from n on -/
theorem c16c (hf : FL f) (hP : ∀ c, c < 144 → PG R (T c)) (h0 : Hp) : ∀ (m n : Nat) (h : Hp), n + m = 144 → MH h f R T n → IE h0 h → SX h0 h (tch f) → gI h f = gI h0 f → (∀ i, i < 21 → gI h (f + 2) i = gI h0 (f + 2) i + snk R T n i) → WP L xs 16 145 [some (.ref f), some (.int (cam R T n)), some (.int (nI n))] [] h (fun r h' => r = some (.int (cam R T 144)) ∧ IE h0 h' ∧ SX h0 h' (tch f) ∧ (∀ c, c < 144 → gI h' (f + 6 + c) = mv R T 144 144 c) ∧ (∀ i, i < 21 → gI h' (f + 2) i = gI h0 (f + 2) i + snk R T 144 i) ∧ gI h' f = up (gI h0 f) 3 (gI h0 f 3 + 1))
  | 0, n, h, hn, M, i0, s0, hff, hs => by
    obtain rfl : n = 144 := by omega
    refine v16_145 M.1 hf ⟨fun _ => ⟨rfl, IE_s i0, ?_, ?_, ?_, ?_⟩, fun q => absurd (nI_le (Nat.le_refl _) (by decide)) q⟩
    · intro a ha
      rw [gIo (by unfold tch at ha; omega)]
      exact s0 a ha
    · intro c hc
      rw [gIo (by omega)]
      exact (M.2.2.1 c hc).1
    · intro i hi
      rw [gIo (by omega)]
      exact hs i hi
    · rw [gIs, hff]
  | m + 1, n, h, hn, M, i0, s0, hff, hs => by
    have hn4 : n < 144 := by omega
    refine v16_145 M.1 hf ⟨fun q => absurd q (nI_ge hn4 (by decide)), fun _ => ⟨n, rfl, hn4, ?_⟩⟩
    have hW := M.2.2.2 n hn4
    cases hv : win R T 144 n with
    | none =>
      rw [hv] at hW
      refine ⟨fun _ => ?_, fun q => absurd hW q⟩
      have M2 : MH h f R T (n + 1) := by
        refine ⟨M.1, M.2.1, fun c hc => ?_, M.2.2.2⟩
        rw [mv_n hv c]
        exact M.2.2.1 c hc
      have ec : cam R T (n + 1) = cam R T n := by
        show (match win R T 144 n with
          | none => cam R T n
          | some _ => cam R T n + (if T n 0 = 7 then 1 else 0)) = _
        rw [hv]
      have es : ∀ i, snk R T (n + 1) i = snk R T n i := by
        intro i
        show (match win R T 144 n with
          | none => snk R T n i
          | some w => if T n 0 = 7 ∧ (ofd R (T w.1)).toNatClampNeg = i then snk R T n i + 1 else snk R T n i) = _
        rw [hv]
      rw [← ec, nI_1]
      exact c16c hf hP h0 m (n + 1) h (by omega) M2 i0 s0 hff (fun i hi => by rw [es]; exact hs i hi)
    | some v =>
      rw [hv] at hW
      refine ⟨fun q => absurd (hW.1.symm.trans q) (nI_m1 (by have := hW.2.2.2.1; omega)), fun _ => ?_⟩
      obtain ⟨h', p1, p2, p3, p4, p5, p6⟩ := c21 (L := L) (xs := xs) hf hP M hn4 hv
      refine ⟨_, h', p1, ?_⟩
      have ec : cam R T (n + 1) = cam R T n + (if T n 0 = 7 then 1 else 0) := by
        show (match win R T 144 n with
          | none => cam R T n
          | some _ => cam R T n + (if T n 0 = 7 then 1 else 0)) = _
        rw [hv]
      have es : ∀ i, snk R T (n + 1) i = if T n 0 = 7 ∧ (ofd R (T v.1)).toNatClampNeg = i then snk R T n i + 1 else snk R T n i := by
        intro i
        show (match win R T 144 n with
          | none => snk R T n i
          | some w => if T n 0 = 7 ∧ (ofd R (T w.1)).toNatClampNeg = i then snk R T n i + 1 else snk R T n i) = _
        rw [hv]
      rw [← ec, nI_1]
      refine c16c hf hP h0 m (n + 1) h' (by omega) p5 (IE_t i0 p2) (SX_t s0 p3) (p4.trans hff) (fun i hi => ?_)
      rw [es, p6]
      by_cases k7 : T n 0 = 7
      · rw [if_pos k7, up_a]
        by_cases e : i = (ofd R (T v.1)).toNatClampNeg
        · rw [if_pos e, if_pos ⟨k7, e.symm⟩, ← e, hs i hi, Int32.add_assoc]
        · rw [if_neg e, if_neg (fun q => e q.2.symm)]
          exact hs i hi
      · rw [if_neg k7, if_neg (fun q => k7 q.1)]
        exact hs i hi
/-- loop 2 -/
theorem c16b (hf : FL f) (h0 : Hp) {Q : Option Value → Hp → Prop} (K : ∀ (h : Hp), FH h f R T → WC h f T (win R T 144) → IE h0 h → SX h0 h (scr f) → WP L xs 16 145 [some (.ref f), some (.int 0), some (.int 0)] [] h Q) : ∀ (m n : Nat) (h : Hp) (z : Option Value), n + m = 144 → FH h f R T → WC h f T (win R T n) → IE h0 h → SX h0 h (scr f) → WP L xs 16 33 [some (.ref f), some (.int (nI n)), z] [] h Q
  | 0, n, h, z, hn, F, W, i0, s0 => by
    obtain rfl : n = 144 := by omega
    exact v16_33 F.1 hf ⟨fun _ => K h F W i0 s0, fun q => absurd (nI_le (Nat.le_refl _) (by decide)) q⟩
  | m + 1, n, h, z, hn, F, W, i0, s0 => by
    have hn4 : n < 144 := by omega
    obtain ⟨FT, FR, FP⟩ := F.2.2 n hn4
    have s34 : Sp L xs 34 [.ref (f + 6 + n)] h (some (.int (ofd R (T n)))) h := by
      have := c34 (L := L) (xs := xs) F.1 (PT_f hf hn4) FR
      rw [F.2.1, FT] at this
      exact this
    refine v16_33 F.1 hf ⟨fun q => absurd q (nI_ge hn4 (by decide)), fun _ => ⟨n, rfl, hn4, _, s34, fun q => ?_, fun q => ?_⟩⟩
    · have e : bd R T n = none := by unfold bd; rw [if_pos (Or.inr q)]
      rw [nI_1]
      refine c16b hf h0 K m (n + 1) h _ (by omega) F ?_ i0 s0
      unfold win
      rw [e]
      exact W
    · have z0 : ¬ T n 0 = 0 := by
        intro q0
        apply q
        rw [ofd_n (by rw [q0]; decide)]
        exact FP.1 q0
      have nz : ¬ (T n 0 = 0 ∨ ofd R (T n) = 0) := fun q2 => q2.elim z0 q
      have go : ∀ h', IE h h' → SX h h' (scr f) → WC h' f T (addO (win R T n) n (bd R T n)) → ∀ z, WP L xs 16 33 [some (.ref f), some (.int (nI n + 1)), z] [] h' Q := by
        intro h' e1 e2 e3 z
        rw [nI_1]
        exact c16b hf h0 K m (n + 1) h' z (by omega) (FH_of hf F e1 e2) e3 (IE_t i0 e1) (SX_t s0 e2)
      rw [FT]
      refine ⟨fun k2 => ?_, fun k2 => ⟨fun k4 => ?_, fun k4 => ?_⟩⟩
      · obtain ⟨s, hs, es⟩ := FP.2.2.1 z0 (by rw [k2]; decide)
        rw [es]
        obtain ⟨h', p1, p2, p3, p4⟩ := c17 (L := L) (xs := xs) hf F W hn4 hs
        refine ⟨h', p1, go h' p2 p3 ?_ _⟩
        unfold bd
        rw [if_neg nz, if_pos k2, es, nI_c (by omega)]
        exact p4
      · obtain ⟨h', p1, p2, p3, p4⟩ := c18 (L := L) (xs := xs) hf F W hn4
        refine ⟨h', p1, go h' p2 p3 ?_ _⟩
        unfold bd
        rw [if_neg nz, if_neg k2, if_pos k4, ofd_n (by rw [k4]; decide)]
        exact p4
      · obtain ⟨s, hs, es⟩ := FP.2.2.1 z0 k4
        rw [es]
        obtain ⟨h', p1, p2, p3, p4⟩ := c19 (L := L) (xs := xs) (i := ofd R (T n)) hf F W hn4 hs
        refine ⟨_, h', p1, go h' p2 p3 ?_ _⟩
        unfold bd
        rw [if_neg nz, if_neg k2, if_neg k4, es, nI_c (by omega)]
        exact p4
/-- loop 1 -/
theorem c16a (hf : FL f) (h0 : Hp) (hw0 : HW h0) (hL0 : ∀ c, c < 144 → LR h0 (f + 6 + c)) {Q : Option Value → Hp → Prop} (K : ∀ (h : Hp), IE h0 h → (∀ c, c < 144 → gI h (f + 6 + c) = prp (RC h0) (gI h0 (f + 6 + c)) ∧ gI h (f + 3) c = -1) → (∀ a, ¬ a = f + 3 → ¬ (f + 6 ≤ a ∧ a < f + 150) → gI h a = gI h0 a) → ∀ z, WP L xs 16 33 [some (.ref f), some (.int 0), z] [] h Q) : ∀ (m n : Nat) (h : Hp) (z : Option Value), n + m = 144 → IE h0 h → (∀ c, c < 144 → gI h (f + 6 + c) = (if c < n then prp (RC h0) (gI h0 (f + 6 + c)) else gI h0 (f + 6 + c)) ∧ (c < n → gI h (f + 3) c = -1)) → (∀ a, ¬ a = f + 3 → ¬ (f + 6 ≤ a ∧ a < f + 150) → gI h a = gI h0 a) → WP L xs 16 2 [some (.ref f), some (.int (nI n)), z] [] h Q
  | 0, n, h, z, hn, i0, hr, ho => by
    obtain rfl : n = 144 := by omega
    refine v16_2 (IE_w i0 hw0) hf ⟨fun _ => K h i0 (fun c hc => ?_) ho z, fun q => absurd (nI_le (Nat.le_refl _) (by decide)) q⟩
    have := hr c hc
    rw [if_pos hc] at this
    exact ⟨this.1, this.2 hc⟩
  | m + 1, n, h, z, hn, i0, hr, ho => by
    have hn4 : n < 144 := by omega
    have hrn := (hr n hn4).1
    rw [if_neg (Nat.lt_irrefl n)] at hrn
    have hl : LR h (f + 6 + n) := LR_of i0 hrn (hL0 n hn4)
    have eR : RC h = RC h0 := by
      funext r
      refine ho _ ?_ ?_ <;> (rcases hf with rfl | rfl <;> omega)
    refine v16_2 (IE_w i0 hw0) hf ⟨fun q => absurd q (nI_ge hn4 (by decide)), fun _ => ⟨n, rfl, hn4, _, c30 (IE_w i0 hw0) (PT_f hf hn4) hl, ?_⟩⟩
    rw [nI_1, hrn, eR]
    refine c16a hf h0 hw0 hL0 K m (n + 1) _ z (by omega) (IE_s (IE_wO i0)) (fun c hc => ?_) (fun a h1 h2 => ?_)
    · constructor
      · rw [gIo (by omega)]
        by_cases e : c = n
        · subst e
          rw [gI_wO, if_pos (Nat.lt_succ_self _)]
        · rw [gI_wOo (by omega), (hr c hc).1]
          by_cases hl : c < n
          · rw [if_pos hl, if_pos (by omega)]
          · rw [if_neg hl, if_neg (by omega)]
      · intro hc2
        rw [gIs, up_a]
        by_cases e : c = n
        · rw [if_pos e]
        · rw [if_neg e, gI_wOo (by omega)]
          exact (hr c hc).2 (by omega)
    · rw [gIo (by omega), gI_wOo (by omega)]
      exact ho a h1 h2
theorem c16 (hf : FL f) (hw : HW h) (hL : ∀ c, c < 144 → LR h (f + 6 + c) ∧ PG (RC h) (prp (RC h) (gI h (f + 6 + c)))) : ∃ h', Sp L xs 16 [.ref f] h (some (.int (cam (RC h) (prT (RC h) (fun c => gI h (f + 6 + c))) 144))) h' ∧ IE h h' ∧ SX h h' (tch f) ∧ (∀ c, c < 144 → gI h' (f + 6 + c) = stp (RC h) (fun c => gI h (f + 6 + c)) c) ∧ (∀ i, i < 21 → gI h' (f + 2) i = gI h (f + 2) i + snk (RC h) (prT (RC h) (fun c => gI h (f + 6 + c))) 144 i) ∧ gI h' f = up (gI h f) 3 (gI h f 3 + 1) := by
  have eT : ∀ c, prT (RC h) (fun c => gI h (f + 6 + c)) c = prp (RC h) (gI h (f + 6 + c)) := fun c => rfl
  have key : WP L xs 16 2 [some (.ref f), some (.int (nI 0)), none] [] h (fun r h' => r = some (.int (cam (RC h) (prT (RC h) (fun c => gI h (f + 6 + c))) 144)) ∧ IE h h' ∧ SX h h' (tch f) ∧ (∀ c, c < 144 → gI h' (f + 6 + c) = stp (RC h) (fun c => gI h (f + 6 + c)) c) ∧ (∀ i, i < 21 → gI h' (f + 2) i = gI h (f + 2) i + snk (RC h) (prT (RC h) (fun c => gI h (f + 6 + c))) 144 i) ∧ gI h' f = up (gI h f) 3 (gI h f 3 + 1)) := by
    refine c16a hf h hw (fun c hc => (hL c hc).1) (fun h1 i1 r1 o1 z1 => ?_) 144 0 h _ rfl (IE_r h) (fun c hc => ⟨by rw [if_neg (Nat.not_lt_zero _)], fun q => absurd q (Nat.not_lt_zero _)⟩) (fun a _ _ => rfl)
    have eR : RC h1 = RC h := by
      funext r
      refine o1 _ ?_ ?_ <;> (rcases hf with rfl | rfl <;> omega)
    have F1 : FH h1 f (RC h) (prT (RC h) (fun c => gI h (f + 6 + c))) := by
      refine ⟨IE_w i1 hw, eR, fun c hc => ⟨(r1 c hc).1, ?_, (hL c hc).2⟩⟩
      have e0 : ∀ x : Row, prp (RC h) x 0 = x 0 ∧ prp (RC h) x 2 = x 2 := by
        intro x
        unfold prp
        (repeat' split) <;> first | exact prpS_0 x | exact ⟨rfl, rfl⟩ | skip
        unfold prpM
        split
        · exact begW_0 _ _
        · split
          · exact ⟨(begW_0 _ _).1.trans (runW_0 _ _).1, (begW_0 _ _).2.trans (runW_0 _ _).2⟩
          · exact runW_0 _ _
      exact LR_oth i1 (by rw [(r1 c hc).1, (e0 _).1]) (by rw [(r1 c hc).1, (e0 _).2]) (hL c hc).1
    have W1 : WC h1 f (prT (RC h) (fun c => gI h (f + 6 + c))) (win (RC h) (prT (RC h) (fun c => gI h (f + 6 + c))) 0) := fun t ht => (r1 t ht).2
    refine c16b hf h1 (fun h2 F2 W2 i2 s2 => ?_) 144 0 h1 z1 rfl F1 W1 (IE_r h1) (SX_r h1 _)
    have g2 : gI h2 (f + 2) = gI h (f + 2) := by rw [s2 _ (by unfold scr; omega)]; exact o1 _ (by omega) (by omega)
    have gf : gI h2 f = gI h f := by rw [s2 _ (by unfold scr; omega)]; exact o1 _ (by omega) (by omega)
    refine wp_imp (c16c hf (fun c hc => (F2.2.2 c hc).2.2) h2 144 0 h2 rfl ⟨F2.1, F2.2.1, fun c hc => ⟨by rw [mv_00]; exact (F2.2.2 c hc).1, (F2.2.2 c hc).2.1⟩, W2⟩ (IE_r h2) (SX_r h2 _) rfl (fun i hi => by show _ = _ + 0; rw [Int32.add_zero])) ?_
    intro r h' ⟨q1, q2, q3, q4, q5, q6⟩
    refine ⟨q1, IE_t (IE_t i1 i2) q2, fun a ha => ?_, q4, fun i hi => ?_, ?_⟩
    · rw [q3 a ha, s2 a (fun q => ha (by unfold scr at q; unfold tch; omega))]
      exact o1 a (fun q => ha (by unfold tch; omega)) (fun q => ha (by unfold tch; omega))
    · rw [q5 i hi, g2]
    · rw [q6, gf]
  obtain ⟨r, h', s1, rfl, s2⟩ := v16 (L := L) (xs := xs) hw hf key
  exact ⟨h', s1, s2⟩
end ST
