/-! watchTurn, whole. -/
def tbA (B : Nat → Row) : Nat → Row := fun c => up (up (up (B c) 14 0) 15 0) 16 0
def anyG (A : Nat → Row) : Nat → Bool
  | 0 => false
  | n + 1 => anyG A n || !decide (A n 15 = 0)
theorem anyG_s (A : Nat → Row) (n : Nat) : anyG A (n + 1) = (anyG A n || !decide (A n 15 = 0)) := rfl
section W2
variable {L : Nat} {xs : Nat → Int32} {h : Hp} {k : Nat} {R A B : Nat → Row}
theorem prp_15 (R : Nat → Row) (x : Row) : prp R x 15 = x 15 := by
  unfold prp
  split
  · split
    · unfold prpS
      split <;> simp [up_a]
    · rfl
  · split
    · exact prpM_o (by decide)
    · rfl
theorem stp_15 (R T : Nat → Row) (c : Nat) : stp R T c 15 = T c 15 ∨ stp R T c 15 = T c 15 + 1 := by
  have hg : mvG R (prT R T) 144 c 15 = T c 15 ∨ mvG R (prT R T) 144 c 15 = T c 15 + 1 := by
    have e : prT R T c 15 = T c 15 := prp_15 R (T c)
    cases hb : bd R (prT R T) c with
    | none =>
      left
      have : mvG R (prT R T) 144 c = prT R T c := by unfold mvG; rw [hb]
      rw [this, e]
    | some b =>
      have : mvG R (prT R T) 144 c = if b.1 < 144 ∧ win R (prT R T) 144 b.1 = some (c, b.2) then giv (prT R T c) (nI ((b.2.1 + 2) % 4)) else prT R T c := by unfold mvG; rw [hb]
      rw [this]
      split
      · right
        unfold giv
        rw [up_s, e]
      · left
        exact e
  show mv R (prT R T) 144 144 c 15 = _ ∨ mv R (prT R T) 144 144 c 15 = _
  by_cases hc : c < 144
  · cases hv : win R (prT R T) 144 c with
    | none =>
      have : mv R (prT R T) 144 144 c = mvG R (prT R T) 144 c := by unfold mv; rw [if_pos hc, hv]
      rw [this]; exact hg
    | some v =>
      have : mv R (prT R T) 144 144 c = rcv R (mvG R (prT R T) 144 c) (ofd R (prT R T v.1)) (nI v.2.1) := by unfold mv; rw [if_pos hc, hv]
      rw [this, rcv_o (by decide)]; exact hg
  · have : mv R (prT R T) 144 144 c = mvG R (prT R T) 144 c := by unfold mv; rw [if_neg hc]
    rw [this]; exact hg
theorem cnt15 (hA : ∀ c, A c 15 = 0) (n c : Nat) : ∃ g, g ≤ n ∧ itT R A n c 15 = nI g := by
  induction n with
  | zero => exact ⟨0, Nat.le_refl _, hA c⟩
  | succ n ih =>
    obtain ⟨g, h1, h2⟩ := ih
    rcases stp_15 R (itT R A n) c with e | e
    · exact ⟨g, by omega, e.trans h2⟩
    · exact ⟨g + 1, by omega, by rw [show itT R A (n + 1) c 15 = stp R (itT R A n) c 15 from rfl, e, h2, nI_1]⟩
theorem c9a (h0 : Hp) (hw0 : HW h0) (g0 : GH h0 k R B) {Q : Option Value → Hp → Prop} (K : ∀ h, IE h0 h → (∀ a, ¬ (235 ≤ a ∧ a < 390) → gI h a = gI h0 a) → gI h 235 = gI h0 235 → (∀ c, c < 144 → gI h (246 + c) = tbA B c ∧ gI h 238 c = 1 ∧ gI h 239 c = b2i (decide (B c 0 = 6))) → WP L xs 9 79 [some (.ref 235), some (.int 0)] [] h Q) : ∀ (m n : Nat) (h : Hp), n + m = 144 → IE h0 h → (∀ a, ¬ (235 ≤ a ∧ a < 390) → gI h a = gI h0 a) → gI h 235 = gI h0 235 → (∀ c, c < 144 → gI h (246 + c) = (if c < n then tbA B c else B c) ∧ (c < n → gI h 238 c = 1 ∧ gI h 239 c = b2i (decide (B c 0 = 6)))) → WP L xs 9 17 [some (.ref 235), some (.int (nI n))] [] h Q
  | 0, n, h, hn, i0, o, e5, r => by
    obtain rfl : n = 144 := by omega
    refine v9_17 (IE_w i0 hw0) ⟨fun _ => K h i0 o e5 (fun c hc => ?_), fun q => absurd (nI_le (Nat.le_refl _) (by decide)) q⟩
    have := r c hc
    rw [if_pos hc] at this
    exact ⟨this.1, this.2 hc⟩
  | m + 1, n, h, hn, i0, o, e5, r => by
    have hn4 : n < 144 := by omega
    have hw := IE_w i0 hw0
    have rn := (r n hn4).1
    rw [if_neg (Nat.lt_irrefl _)] at rn
    refine v9_17 hw ⟨fun q => absurd q (nI_ge hn4 (by decide)), fun _ => ⟨n, rfl, hn4, _, c27 hw (PT_240 hn4), ?_⟩⟩
    rw [rn, nI_1]
    have e0 : gI (sI (wO h (246 + n) (up (up (up (B n) 14 0) 15 0) 16 0)) 238 n 1) (246 + n) 0 = B n 0 := by
      rw [gIo (by omega), gI_wO]
      rfl
    rw [e0, iteb]
    refine c9a h0 hw0 g0 K m (n + 1) _ (by omega) (IE_s (IE_s (IE_wO i0))) (fun a ha => ?_) ?_ (fun c hc => ⟨?_, fun hl => ?_⟩)
    · rw [gIo (by omega), gIo (by omega), gI_wOo (by omega)]
      exact o a ha
    · rw [gIo (by omega), gIo (by omega), gI_wOo (by omega)]
      exact e5
    · rw [gIo (by omega), gIo (by omega)]
      by_cases e : c = n
      · subst e
        rw [gI_wO, if_pos (Nat.lt_succ_self _)]
        rfl
      · rw [gI_wOo (by omega), (r c hc).1]
        have l : (c < n + 1) = (c < n) := propext (by omega)
        simp only [l]
    · by_cases e : c = n
      · subst e
        constructor
        · rw [gIo (by decide), gIs, up_s]
        · rw [gIs, up_s]
      · have := (r c hc).2 (by omega)
        constructor
        · rw [gIo (by decide), gIs, up_o e, gI_wOo (by omega)]; exact this.1
        · rw [gIs, up_o e, gIo (by decide), gI_wOo (by omega)]; exact this.2
/-- what the watching has after n ticks -/
def WN (h0 h : Hp) (k : Nat) (R A : Nat → Row) (n : Nat) : Prop := IE h0 h ∧ (∀ a, ¬ (235 ≤ a ∧ a < 390) → gI h a = gI h0 a) ∧ (∀ j, j < 8 → gI h 235 j = gI h0 235 j) ∧ GH h k R (itT R A n) ∧ gI h 235 8 = camS R A n ∧ gI h 235 9 = pwM R A n ∧ gI h 235 10 = b2i (!wrk R A n) ∧ (∀ c, c < 144 → gI h 238 c = b2i (stkB R A c n) ∧ gI h 239 c = b2i (strB R A c n))
theorem c9b {la : Nat} (hla : la < 401) (h0 : Hp) (hw0 : HW h0) (hR : RC h0 = R) (hB : GB k R) (hk : k < 9) (h7 : gI h0 235 7 = nI la) {Q : Option Value → Hp → Prop} (K : ∀ h, WN h0 h k R A la → WP L xs 9 115 [some (.ref 235), some (.int 0)] [] h Q) : ∀ (m n : Nat) (h : Hp), n + m = la → WN h0 h k R A n → WP L xs 9 79 [some (.ref 235), some (.int (nI n))] [] h Q
  | 0, n, h, hn, w => by
    obtain rfl : n = la := by omega
    refine v9_79 (IE_w w.1 hw0) ⟨fun _ => K h w, fun q => absurd ?_ q⟩
    rw [w.2.2.1 7 (by decide), h7]
    exact nI_le (Nat.le_refl _) (by omega)
  | m + 1, n, h, hn, w => by
    obtain ⟨i0, o, e235, g, e8, e9, e10, ec⟩ := w
    have hw := IE_w i0 hw0
    have eR : RC h = R := by
      rw [← hR]
      funext r
      exact o (444 + r) (by omega)
    obtain ⟨h4, p1, p2, p3, p4, p5, p6⟩ := c16x (L := L) (xs := xs) FL_240 hw eR hB hk g
    have hw4 := IE_w p2 hw
    have o4 : ∀ a, a = 235 ∨ a = 238 ∨ a = 239 ∨ 444 ≤ a → gI h4 a = gI h a := fun a ha => p3 a (by unfold tch; omega)
    have eR4 : RC (sI h4 235 8 (gI h 235 8 + cam R (prT R (itT R A n)) 144)) = R := by
      rw [← eR]
      funext r
      show gI (sI h4 235 8 _) (444 + r) = gI h (444 + r)
      rw [gIo (by omega)]
      exact o4 _ (by omega)
    have g4 : GH (sI h4 235 8 (gI h 235 8 + cam R (prT R (itT R A n)) 144)) k R (itT R A (n + 1)) := by
      intro c hc
      have := p4 c hc
      have e : gI (sI h4 235 8 (gI h 235 8 + cam R (prT R (itT R A n)) 144)) (246 + c) = gI h4 (246 + c) := gIo (by omega)
      exact ⟨e.trans this.1, LR_g (h := h4) rfl e rfl this.2.1, this.2.2⟩
    obtain ⟨h9, q1, q2, q3, q4, q5, q6⟩ := c10 (L := L) (xs := xs) (HW_sI (i := 235) (k := 8) (v := gI h 235 8 + cam R (prT R (itT R A n)) 144) hw4) eR4 g4
    have n7 : ¬ gI h 235 7 ≤ nI n := by
      rw [e235 7 (by decide), h7]
      exact nI_ge (by omega) (by omega)
    refine v9_79 hw ⟨fun q => absurd q n7, fun _ => ⟨_, h4, p1, _, q1, ?_⟩⟩
    rw [nI_1]
    have i9 : IE h h9 := IE_t (IE_s p2) q2
    have row9 : ∀ a, ¬ wt a → gI h9 a = gI h4 a := fun a ha => by
      rw [q3 a ha, gIo (by unfold wt at ha; omega)]
    refine c9b hla h0 hw0 hR hB hk h7 K m (n + 1) _ (by omega) ⟨IE_s (IE_t i0 i9), fun a ha => ?_, fun j hj => ?_, fun c hc => ?_, ?_, ?_, ?_, fun c hc => ?_⟩
    · rw [gIo (by omega), row9 a (by unfold wt; omega), p3 a (by unfold tch; omega)]
      exact o a ha
    · rw [gIs, up_o (by omega), q6 j (by omega), gIs, up_o (by omega), o4 235 (by omega)]
      exact e235 j hj
    · have e : gI (sI h9 235 9 (if gI (sI h4 235 8 (gI h 235 8 + cam R (prT R (itT R A n)) 144)) 235 9 < powS R (itT R A (n + 1)) 144 then powS R (itT R A (n + 1)) 144 else gI (sI h4 235 8 (gI h 235 8 + cam R (prT R (itT R A n)) 144)) 235 9)) (246 + c) = gI h4 (246 + c) := by
        rw [gIo (by omega), row9 _ (by unfold wt; omega)]
      have := p4 c hc
      exact ⟨e.trans this.1, LR_g (h := h4) q2.1 e (by show gR h9 _ _ = _; rw [q2.2.2]; rfl) this.2.1, this.2.2⟩
    · rw [gIs, up_o (by decide), q6 8 (by decide), gIs, up_s, e8]
      rfl
    · rw [gIs, up_s, gIs, up_o (by decide), o4 235 (by omega), e9]
      rfl
    · rw [gIs, up_o (by decide), q5, gIs, up_o (by decide), o4 235 (by omega), e10]
      show (if anyW (itT R A (n + 1)) 144 = true then 0 else b2i (!wrk R A n)) = b2i (!(wrk R A n || anyW (itT R A (n + 1)) 144))
      cases wrk R A n <;> cases anyW (itT R A (n + 1)) 144 <;> rfl
    · have a := q4 c hc
      rw [gIo (by decide), gIo (by decide), a.1, a.2, gIo (by decide), gIo (by decide), o4 238 (by omega), o4 239 (by omega), (ec c hc).1, (ec c hc).2]
      constructor
      · show _ = b2i (stkB R A c n && !decide (ofd R (itT R A (n + 1) c) = 0))
        by_cases z : ofd R (itT R A (n + 1) c) = 0
        · rw [if_pos ⟨hc, z⟩, decide_eq_true z]
          cases stkB R A c n <;> rfl
        · rw [if_neg (fun y => z y.2), decide_eq_false z]
          cases stkB R A c n <;> rfl
      · show _ = b2i (strB R A c n && !bzC R (itT R A (n + 1) c))
        cases z : bzC R (itT R A (n + 1) c)
        · rw [if_neg (fun y => absurd y.2 (by decide))]
          cases strB R A c n <;> rfl
        · rw [if_pos ⟨hc, rfl⟩]
          cases strB R A c n <;> rfl
theorem c9c {la : Nat} (hla : la < 401) (hA : ∀ c, A c 15 = 0) (h0 : Hp) (hw0 : HW h0) (hg : ∀ c, c < 144 → gI h0 (246 + c) = itT R A la c) : ∀ (m n : Nat) (h : Hp), n + m = 144 → IE h0 h → SX h0 h wt → (∀ j, ¬ j = 10 → gI h 235 j = gI h0 235 j) → gI h 235 10 = (if anyG (itT R A la) n = true then 0 else gI h0 235 10) → gI h 239 = gI h0 239 → (∀ c, c < 144 → gI h 238 c = (if c < n ∧ ¬ itT R A la c 15 = 0 then 0 else gI h0 238 c)) → WP L xs 9 115 [some (.ref 235), some (.int (nI n))] [] h (fun r h' => r = none ∧ IE h0 h' ∧ SX h0 h' wt ∧ (∀ j, ¬ j = 10 → gI h' 235 j = gI h0 235 j) ∧ gI h' 235 10 = (if anyG (itT R A la) 144 = true then 0 else gI h0 235 10) ∧ gI h' 239 = gI h0 239 ∧ (∀ c, c < 144 → gI h' 238 c = (if ¬ itT R A la c 15 = 0 then 0 else gI h0 238 c)))
  | 0, n, h, hn, i0, s0, e5, e10, e239, ec => by
    obtain rfl : n = 144 := by omega
    refine v9_115 (IE_w i0 hw0) ⟨fun _ => ⟨rfl, i0, s0, e5, e10, e239, fun c hc => ?_⟩, fun q => absurd (nI_le (Nat.le_refl _) (by decide)) q⟩
    rw [ec c hc]
    by_cases z : itT R A la c 15 = 0
    · rw [if_neg (fun y => y.2 z), if_neg (fun y => y z)]
    · rw [if_pos ⟨hc, z⟩, if_pos z]
  | m + 1, n, h, hn, i0, s0, e5, e10, e239, ec => by
    have hn4 : n < 144 := by omega
    have e15 : gI h (246 + n) 15 = itT R A la n 15 := by rw [s0 _ (by unfold wt; omega), hg n hn4]
    obtain ⟨g, hg1, hg2⟩ := cnt15 (R := R) hA la n
    have le0 : gI h (246 + n) 15 ≤ 0 ↔ itT R A la n 15 = 0 := by
      rw [e15, hg2]
      have a : (nI g ≤ nI 0) ↔ g ≤ 0 := nI_leI (by omega) (by decide)
      have b : (nI g = nI 0) ↔ g = 0 := nI_eq (by omega) (by decide)
      show nI g ≤ nI 0 ↔ nI g = nI 0
      rw [a, b]
      omega
    refine v9_115 (IE_w i0 hw0) ⟨fun q => absurd q (nI_ge hn4 (by decide)), fun _ => ⟨n, rfl, hn4, fun q => ?_, fun q => ?_⟩⟩
    · rw [nI_1]
      have z := le0.mp q
      refine c9c hla hA h0 hw0 hg m (n + 1) h (by omega) i0 s0 e5 ?_ e239 (fun c hc => ?_)
      · rw [e10, anyG_s, decide_eq_true z]
        simp
      · rw [ec c hc]
        by_cases e : c = n
        · subst e
          rw [if_neg (fun y => y.2 z), if_neg (fun y => y.2 z)]
        · have l : (c < n + 1) = (c < n) := propext (by omega)
          simp only [l]
    · rw [nI_1]
      have z : ¬ itT R A la n 15 = 0 := fun y => q (le0.mpr y)
      refine c9c hla hA h0 hw0 hg m (n + 1) _ (by omega) (IE_s (IE_s i0)) (fun a ha => ?_) (fun j hj => ?_) ?_ ?_ (fun c hc => ?_)
      · rw [gIo (by unfold wt at ha; omega), gIo (by unfold wt at ha; omega)]
        exact s0 a ha
      · rw [gIs, up_o hj, gIo (by decide)]
        exact e5 j hj
      · rw [gIs, up_s, anyG_s, decide_eq_false z]
        simp
      · rw [gIo (by decide), gIo (by decide)]
        exact e239
      · rw [gIo (by decide), gIs, up_a, ec c hc]
        by_cases e : c = n
        · subst e
          rw [if_pos rfl, if_pos ⟨Nat.lt_succ_self _, z⟩]
        · have l : (c < n + 1) = (c < n) := propext (by omega)
          rw [if_neg e]
          simp only [l]
theorem c9 {la : Nat} (hla : la < 401) (hw : HW h) (hR : RC h = R) (hB : GB k R) (hk : k < 9) (g0 : GH h k R B) (h7 : gI h 235 7 = nI la) : ∃ h', Sp L xs 9 [.ref 235] h none h' ∧ FT h h' ∧ (∀ j, j < 8 → gI h' 235 j = gI h 235 j) ∧ (∀ c, c < 144 → gI h' (246 + c) = itT R (tbA B) la c) ∧ gI h' 235 8 = camS R (tbA B) la ∧ gI h' 235 9 = pwM R (tbA B) la ∧ gI h' 235 10 = b2i (!(wrk R (tbA B) la || anyG (itT R (tbA B) la) 144)) ∧ (∀ c, c < 144 → gI h' 238 c = b2i (stkB R (tbA B) c la && decide (itT R (tbA B) la c 15 = 0)) ∧ gI h' 239 c = b2i (strB R (tbA B) c la)) := by
  have hA : ∀ c, tbA B c 15 = 0 := fun c => by unfold tbA; rw [up_o (by decide), up_s]
  have hGA : ∀ c, c < 144 → GR k R (tbA B c) := by
    intro c hc
    have g := (g0 c hc).2.2
    obtain ⟨g1, g2, g3, g4, g5, g6, g7, g8, g9, g10, g11⟩ := g
    refine ⟨g1, fun z j hj h4 => ?_, g3, g4, g5, g6, g7, g8, g9, g10, g11⟩
    unfold tbA
    rw [up_o (by omega)]
    by_cases e : j = 15
    · subst e; rw [up_s]
    · rw [up_o e]
      by_cases e2 : j = 14
      · subst e2; rw [up_s]
      · rw [up_o e2]; exact g2 z j hj h4
  have key : WP L xs 9 17 [some (.ref 235), some (.int (nI 0))] [] (sI (sI (sI h 235 8 0) 235 9 0) 235 10 1) (fun r h' => r = none ∧ ∃ h2, WN (sI (sI (sI h 235 8 0) 235 9 0) 235 10 1) h2 k R (tbA B) la ∧ IE h2 h' ∧ SX h2 h' wt ∧ (∀ j, ¬ j = 10 → gI h' 235 j = gI h2 235 j) ∧ gI h' 235 10 = (if anyG (itT R (tbA B) la) 144 = true then 0 else gI h2 235 10) ∧ gI h' 239 = gI h2 239 ∧ (∀ c, c < 144 → gI h' 238 c = (if ¬ itT R (tbA B) la c 15 = 0 then 0 else gI h2 238 c))) := by
    have w0 : HW (sI (sI (sI h 235 8 0) 235 9 0) 235 10 1) := HW_sI (HW_sI (HW_sI hw))
    have e0 : ∀ a, ¬ a = 235 → gI (sI (sI (sI h 235 8 0) 235 9 0) 235 10 1) a = gI h a := fun a ha => by rw [gIo ha, gIo ha, gIo ha]
    have g00 : GH (sI (sI (sI h 235 8 0) 235 9 0) 235 10 1) k R B := fun c hc => ⟨(e0 _ (by omega)).trans (g0 c hc).1, LR_g (h := h) rfl (e0 _ (by omega)) rfl (g0 c hc).2.1, (g0 c hc).2.2⟩
    have eR0 : RC (sI (sI (sI h 235 8 0) 235 9 0) 235 10 1) = R := by
      rw [← hR]
      funext r
      exact e0 (444 + r) (by omega)
    refine c9a (k := k) (R := R) (B := B) _ w0 g00 (fun h1 i1 o1 e1 r1 => ?_) 144 0 _ rfl (IE_r _) (fun _ _ => rfl) rfl (fun c hc => ⟨by rw [if_neg (Nat.not_lt_zero _)]; exact (g00 c hc).1, fun q => absurd q (Nat.not_lt_zero _)⟩)
    refine c9b hla _ w0 eR0 hB hk (by rw [gIs, up_o (by decide), gIs, up_o (by decide), gIs, up_o (by decide)]; exact h7) (fun h2 w2 => ?_) la 0 h1 (by omega) ⟨i1, o1, fun j _ => by rw [e1], fun c hc => ⟨(r1 c hc).1, ?_, hGA c hc⟩, ?_, ?_, ?_, fun c hc => ⟨(r1 c hc).2.1, (r1 c hc).2.2⟩⟩
    · refine wp_imp (c9c hla hA h2 (IE_w w2.1 w0) (fun c hc => (w2.2.2.2.1 c hc).1) 144 0 h2 rfl (IE_r _) (SX_r _ _) (fun _ _ => rfl) rfl rfl (fun c hc => by rw [if_neg (fun y => Nat.not_lt_zero _ y.1)])) ?_
      intro r h' ⟨q1, q⟩
      exact ⟨q1, h2, w2, q⟩
    · have lr := (g00 c hc).2.1
      refine LR_oth i1 ?_ ?_ lr
      · rw [(r1 c hc).1, (g00 c hc).1]; rfl
      · rw [(r1 c hc).1, (g00 c hc).1]; rfl
    · rw [e1, gIs, up_o (by decide), gIs, up_o (by decide), gIs, up_s]; rfl
    · rw [e1, gIs, up_o (by decide), gIs, up_s]; rfl
    · rw [e1, gIs, up_s]; rfl
  obtain ⟨r, h', s1, rfl, h2, w2, i3, s3, e3, e10, e239, e238⟩ := v9 (L := L) (xs := xs) hw key
  obtain ⟨j1, j2, j3, j4, j5, j6, j7, j8⟩ := w2
  have e0 : ∀ a, ¬ a = 235 → gI (sI (sI (sI h 235 8 0) 235 9 0) 235 10 1) a = gI h a := fun a ha => by rw [gIo ha, gIo ha, gIo ha]
  refine ⟨h', s1, ⟨(i3.1.trans j1.1), IE_w i3 (IE_w j1 (HW_sI (HW_sI (HW_sI hw)))), fun a ha => ⟨?_, fun j => by rw [i3.2.2, j1.2.2]; rfl⟩, fun a _ _ => by rw [i3.2.1, j1.2.1]; rfl⟩, fun j hj => ?_, fun c hc => ?_, ?_, ?_, ?_, fun c hc => ⟨?_, ?_⟩⟩
  · rw [s3 a (by unfold wt; omega), j2 a ha]
    exact e0 a (by omega)
  · rw [e3 j (by omega), j3 j hj, gIs, up_o (by omega), gIs, up_o (by omega), gIs, up_o (by omega)]
  · rw [s3 _ (by unfold wt; omega)]
    exact (j4 c hc).1
  · rw [e3 8 (by decide), j5]
  · rw [e3 9 (by decide), j6]
  · rw [e10, j7]
    cases wrk R (tbA B) la <;> cases anyG (itT R (tbA B) la) 144 <;> rfl
  · rw [e238 c hc, (j8 c hc).1]
    by_cases z : itT R (tbA B) la c 15 = 0
    · rw [if_neg (fun y => y z), decide_eq_true z, Bool.and_true]
    · rw [if_pos z, decide_eq_false z, Bool.and_false]
      rfl
  · rw [e239]
    exact (j8 c hc).2
end W2
