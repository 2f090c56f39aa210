/-! goes, whole. -/
/-- what the reference's measuring may change -/
def FG (h h' : Hp) : Prop := IE h h' ∧ (∀ a, ¬ mtc a → ¬ (434 ≤ a ∧ a ≤ 436) → gI h' a = gI h a) ∧ (∀ c j, c < 144 → j < 14 → MV h' 0 c j = MV h 0 c j) ∧ (∀ i, i < 21 → gI h' 411 i = gI h 411 i) ∧ (∀ j, ¬ j = 35 → ¬ j = 36 → gI h' 397 j = gI h 397 j)
section GG
variable {L : Nat} {xs : Nat → Int32} {h : Hp} {k : Nat} {R A T : Nat → Row}
theorem FG_FM {h h' : Hp} (f : FM h h') : FG h h' := ⟨f.1, fun a h1 _ => f.2.1 a h1, f.2.2.1, f.2.2.2.1, f.2.2.2.2⟩
theorem FG_t {a b c : Hp} (h1 : FG a b) (h2 : FG b c) : FG a c := ⟨IE_t h1.1 h2.1, fun x hx hy => (h2.2.1 x hx hy).trans (h1.2.1 x hx hy), fun x j hx hj => (h2.2.2.1 x j hx hj).trans (h1.2.2.1 x j hx hj), fun i hi => (h2.2.2.2.1 i hi).trans (h1.2.2.2.1 i hi), fun j h5 h6 => (h2.2.2.2.2 j h5 h6).trans (h1.2.2.2.2 j h5 h6)⟩
theorem MV_434 {h h' : Hp} (s : ∀ a, ¬ (434 ≤ a ∧ a ≤ 436) → gI h' a = gI h a) : MV h' = MV h := MV_of (P := fun a => 434 ≤ a ∧ a ≤ 436) s (fun a q => by omega)
theorem FG_s {h h' : Hp} (i : IE h h') (s : ∀ a, ¬ (434 ≤ a ∧ a ≤ 436) → gI h' a = gI h a) : FG h h' := ⟨i, fun a _ h2 => s a h2, fun c j _ _ => by rw [MV_434 s], fun i _ => by rw [s 411 (by omega)], fun j _ _ => by rw [s 397 (by omega)]⟩
theorem FG_M {h h' : Hp} (f : FG h h') : MRc h' = MRc h := by
  funext r j
  unfold MRc
  have := ARc_no r j
  rw [f.2.1 _ (by unfold mtc; omega) (by omega)]
/-- loop 1 -/
theorem c172a (h0 : Hp) (hw0 : HW h0) {la : Nat} {Q : Option Value → Hp → Prop} (K : ∀ (h : Hp) (z5 z6 z7 z8 : Option Value), IE h0 h → (∀ a, ¬ (434 ≤ a ∧ a ≤ 436) → gI h a = gI h0 a) → gI h 434 = gI h0 434 → (∀ c, c < 144 → gI h 436 c = b2i (!decide (gI h0 405 c = 0)) ∧ gI h 435 (5 * c + 3) = 1 ∧ gI h 435 (5 * c + 4) = b2i (decide (gI h0 405 c = 6))) → WP L xs 172 90 [some (.ref 397), some (.int (nI la)), some (.int 0), some (.int 0), some (.int 0), z5, z6, z7, z8] [] h Q) : ∀ (m n : Nat) (h : Hp) (z5 z6 z7 z8 : Option Value), n + m = 144 → IE h0 h → (∀ a, ¬ (434 ≤ a ∧ a ≤ 436) → gI h a = gI h0 a) → gI h 434 = gI h0 434 → (∀ c, c < n → gI h 436 c = b2i (!decide (gI h0 405 c = 0)) ∧ gI h 435 (5 * c + 3) = 1 ∧ gI h 435 (5 * c + 4) = b2i (decide (gI h0 405 c = 6))) → WP L xs 172 11 [some (.ref 397), some (.int (nI la)), some (.int 0), some (.int 0), some (.int (nI n)), z5, z6, z7, z8] [] h Q
  | 0, n, h, z5, z6, z7, z8, hn, i0, o, e4, r => by
    obtain rfl : n = 144 := by omega
    exact v172_11 (IE_w i0 hw0) ⟨fun _ => K h _ _ _ _ i0 o e4 r, fun q => absurd (nI_le (Nat.le_refl _) (by decide)) q⟩
  | m + 1, n, h, z5, z6, z7, z8, hn, i0, o, e4, r => by
    have hn4 : n < 144 := by omega
    refine v172_11 (IE_w i0 hw0) ⟨fun q => absurd q (nI_ge hn4 (by decide)), fun _ => ⟨n, rfl, hn4, 5 * n + 3, ix8 n 3, by omega, 5 * n + 4, ix8 n 4, by omega, ?_⟩⟩
    rw [nI_1, o 405 (by omega), iteb, iteb']
    refine c172a h0 hw0 K m (n + 1) _ _ _ _ _ (by omega) (IE_s (IE_s (IE_s i0))) (fun a ha => ?_) ?_ (fun c hc => ?_)
    · rw [gIo (by omega), gIo (by omega), gIo (by omega)]
      exact o a ha
    · rw [gIo (by decide), gIo (by decide), gIo (by decide)]
      exact e4
    · rw [gIo (show 436 ≠ 435 by decide), gIo (show 436 ≠ 435 by decide), gIs, gIs, gIs, gIo (show 435 ≠ 436 by decide)]
      by_cases e : c = n
      · subst e
        refine ⟨up_s _ _ _, ?_, up_s _ _ _⟩
        rw [up_o (by omega), up_s]
      · obtain ⟨r1, r2, r3⟩ := r c (by omega)
        refine ⟨by rw [up_o e]; exact r1, ?_, ?_⟩
        · rw [up_o (by omega), up_o (by omega)]; exact r2
        · rw [up_o (by omega), up_o (by omega)]; exact r3
/-- after n ticks of the measuring -/
def GN (h0 h : Hp) (k : Nat) (R A : Nat → Row) (o : Nat → Row) (n : Nat) : Prop := FG h0 h ∧ gI h 436 = gI h0 436 ∧ gI h 434 = gI h0 434 ∧ PI k R o (itT R A n) h 1 ∧ CTn h R A n 0 ∧ gI h 397 35 = camS R A n ∧ gI h 397 36 = b2i (mvd R A n)
theorem c172b {la : Nat} {o : Nat → Row} (hla : la < 2000) (hB : GB k R) (hk : k < 9) (h0 : Hp) (hw0 : HW h0) (hr : RR k R (MRc h0)) {Q : Option Value → Hp → Prop} (K : ∀ (h : Hp) (z5 z6 z7 z8 : Option Value), GN h0 h k R A o la → WP L xs 172 322 [some (.ref 397), some (.int (nI la)), some (.int (pwM R A la)), some (.int (b2i (wrk R A la))), some (.int 0), z5, z6, z7, z8] [] h Q) : ∀ (m n : Nat) (h : Hp) (z5 z6 z7 z8 : Option Value), n + m = la → GN h0 h k R A o n → WP L xs 172 90 [some (.ref 397), some (.int (nI la)), some (.int (pwM R A n)), some (.int (b2i (wrk R A n))), some (.int (nI n)), z5, z6, z7, z8] [] h Q
  | 0, n, h, z5, z6, z7, z8, hn, g => by
    obtain rfl : n = la := by omega
    exact v172_90 (IE_w g.1.1 hw0) ⟨fun _ => K h _ _ _ _ g, fun q => absurd (nI_le (Nat.le_refl _) (by omega)) q⟩
  | m + 1, n, h, z5, z6, z7, z8, hn, g => by
    obtain ⟨f, e6, e4, p, ct, c35, c36⟩ := g
    have hw := IE_w f.1 hw0
    have er : RR k R (MRc h) := by rw [FG_M f]; exact hr
    obtain ⟨h4, s1, s2, s3, s4, s5, s6, s7, s8, s9⟩ := c162x (L := L) (xs := xs) (b := 1) (by decide) hw er hB hk p
    have f4 : FM h h4 := ⟨s3, s4, fun c j hc hj => s5 0 c j (by decide) hc (by omega), fun i hi => by rw [s6 i hi, if_neg (by decide), Int32.add_zero], s9⟩
    have er4 : RR k R (MRc h4) := by rw [FM_M f4]; exact er
    have hw4 := IE_w s3 hw
    have pj4 : PJ k R (itT R A (n + 1)) h4 1 := PI_PJ s2
    have epw : (if powS R (itT R A (n + 1)) 144 ≤ pwM R A n then pwM R A n else powS R (itT R A (n + 1)) 144) = pwM R A (n + 1) := by
      show _ = (if pwM R A n < powS R (itT R A (n + 1)) 144 then powS R (itT R A (n + 1)) 144 else pwM R A n)
      by_cases q : pwM R A n < powS R (itT R A (n + 1)) 144
      · rw [if_pos q, if_neg (fun z => Int32.not_le.mpr q z)]
      · rw [if_neg q, if_pos (Int32.not_lt.mp q)]
    refine v172_90 hw ⟨fun q => absurd q (nI_ge (by omega) (by omega)), fun _ => ⟨h4, s1, _, c171 hw4 pj4 er4 hk, ?_⟩⟩
    rw [epw]
    have st : (b2i (wrk R A n)) = b2i (wrk R A n || anyW (itT R A (n + 1)) 0) := by
      show _ = b2i (wrk R A n || false)
      rw [Bool.or_false]
    rw [st]
    refine c172c (k := k) (R := R) (A := A) (t := n) hB hk h4 hw4 er4 pj4 rfl (fun h5 z6 z7 z8 o5 ct5 => ?_) 144 0 h4 z7 z8 rfl ⟨IE_r _, SX_r _ _⟩ (fun c hc q => ?_)
    · have s5' : ∀ a, ¬ (434 ≤ a ∧ a ≤ 436) → gI h5 a = gI h4 a := fun a ha => o5.2 a (by omega)
      rw [nI_1]
      refine c172b hla hB hk h0 hw0 hr K m (n + 1) h5 _ _ _ _ (by omega) ⟨FG_t f (FG_t (FG_FM f4) (FG_s o5.1 s5')), ?_, ?_, ?_, ct5, ?_, ?_⟩
      · rw [o5.2 436 (by decide), s4 436 (by unfold mtc; decide)]; exact e6
      · rw [o5.2 434 (by decide), s4 434 (by unfold mtc; decide)]; exact e4
      · unfold PI
        rw [MV_434 s5']
        exact s2
      · rw [o5.2 397 (by decide), s7, c35]; rfl
      · rw [o5.2 397 (by decide), s8, c36]
        show _ = b2i (mvd R A n || anw R (prT R (itT R A n)) 144)
        cases mvd R A n <;> cases anw R (prT R (itT R A n)) 144 <;> rfl
    · rw [s4 435 (by unfold mtc; decide)]
      exact ct c hc q
/-- loop 3 -/
theorem c172e {la : Nat} {w : Int32} {fl : Bool} (h0 : Hp) (hw0 : HW h0) {G : Nat → Nat} (h432 : ∀ c, c < 144 → (gI h0 432 c ≤ 0 ↔ G c = 0)) : ∀ (m n : Nat) (h : Hp) (z1 z5 z6 z7 z8 : Option Value), n + m = 144 → IE h0 h → (∀ a, ¬ a = 435 → gI h a = gI h0 a) → (∀ c, c < 144 → gI h 435 (5 * c) = (if c < n then gI h0 431 c else gI h0 435 (5 * c)) ∧ gI h 435 (5 * c + 1) = (if c < n then gI h0 432 c else gI h0 435 (5 * c + 1)) ∧ gI h 435 (5 * c + 2) = (if c < n then gI h0 433 c else gI h0 435 (5 * c + 2)) ∧ gI h 435 (5 * c + 3) = (if c < n ∧ ¬ G c = 0 then 0 else gI h0 435 (5 * c + 3)) ∧ gI h 435 (5 * c + 4) = gI h0 435 (5 * c + 4)) → WP L xs 172 322 [some (.ref 397), z1, some (.int w), some (.int (b2i fl)), some (.int (nI n)), z5, z6, z7, z8] [] h (fun r h' => r = none ∧ IE h0 h' ∧ (∀ a, ¬ a = 435 → ¬ a = 434 → gI h' a = gI h0 a) ∧ gI h' 434 = up (up (up (gI h0 434) 2 (gI h0 397 35)) 3 w) 4 (b2i (decide (gI h0 397 36 = 0) && !fl)) ∧ (∀ c, c < 144 → gI h' 435 (5 * c) = gI h0 431 c ∧ gI h' 435 (5 * c + 1) = gI h0 432 c ∧ gI h' 435 (5 * c + 2) = gI h0 433 c ∧ gI h' 435 (5 * c + 3) = (if ¬ G c = 0 then 0 else gI h0 435 (5 * c + 3)) ∧ gI h' 435 (5 * c + 4) = gI h0 435 (5 * c + 4)))
  | 0, n, h, z1, z5, z6, z7, z8, hn, i0, o, r => by
    obtain rfl : n = 144 := by omega
    refine v172_322 (IE_w i0 hw0) ⟨fun _ => ⟨rfl, IE_s (IE_s (IE_s i0)), fun a h5 h4 => ?_, ?_, fun c hc => ?_⟩, fun q => absurd (nI_le (Nat.le_refl _) (by decide)) q⟩
    · rw [gIo h4, gIo h4, gIo h4]
      exact o a h5
    · rw [gIs, gIs, gIs, o 434 (by decide), o 397 (by decide)]
      refine congrArg _ ?_
      cases fl <;> by_cases z : gI h0 397 36 = 0 <;> simp [z, b2i]
    · rw [gIo (by decide), gIo (by decide), gIo (by decide)]
      obtain ⟨r1, r2, r3, r4, r5⟩ := r c hc
      rw [if_pos hc] at r1 r2 r3
      refine ⟨r1, r2, r3, ?_, r5⟩
      rw [r4]
      by_cases z : G c = 0
      · rw [if_neg (fun y => y.2 z), if_neg (fun y => y z)]
      · rw [if_pos ⟨hc, z⟩, if_pos z]
  | m + 1, n, h, z1, z5, z6, z7, z8, hn, i0, o, r => by
    have hn4 : n < 144 := by omega
    have le0 : gI h 432 n ≤ 0 ↔ G n = 0 := by
      rw [o 432 (by decide)]
      exact h432 n hn4
    have nxt : ∀ v : Int32, v = (if ¬ G n = 0 then 0 else gI h0 435 (5 * n + 3)) → WP L xs 172 322 [some (.ref 397), z1, some (.int w), some (.int (b2i fl)), some (.int (nI n + 1)), z5, z6, z7, z8] [] (sI (sI (sI (sI h 435 (5 * n) (gI h 431 n)) 435 (5 * n + 1) (gI h 432 n)) 435 (5 * n + 2) (gI h 433 n)) 435 (5 * n + 3) v) (fun r h' => r = none ∧ IE h0 h' ∧ (∀ a, ¬ a = 435 → ¬ a = 434 → gI h' a = gI h0 a) ∧ gI h' 434 = up (up (up (gI h0 434) 2 (gI h0 397 35)) 3 w) 4 (b2i (decide (gI h0 397 36 = 0) && !fl)) ∧ (∀ c, c < 144 → gI h' 435 (5 * c) = gI h0 431 c ∧ gI h' 435 (5 * c + 1) = gI h0 432 c ∧ gI h' 435 (5 * c + 2) = gI h0 433 c ∧ gI h' 435 (5 * c + 3) = (if ¬ G c = 0 then 0 else gI h0 435 (5 * c + 3)) ∧ gI h' 435 (5 * c + 4) = gI h0 435 (5 * c + 4))) := by
      intro v ev
      rw [nI_1]
      refine c172e (la := la) h0 hw0 h432 m (n + 1) _ _ _ _ _ _ (by omega) (IE_s (IE_s (IE_s (IE_s i0)))) (fun a ha => ?_) (fun c hc => ?_)
      · rw [gIo ha, gIo ha, gIo ha, gIo ha]
        exact o a ha
      · obtain ⟨r1, r2, r3, r4, r5⟩ := r c hc
        rw [gIs, gIs, gIs, gIs]
        by_cases e : c = n
        · subst e
          rw [if_pos (Nat.lt_succ_self _), if_pos (Nat.lt_succ_self _), if_pos (Nat.lt_succ_self _)]
          refine ⟨?_, ?_, ?_, ?_, ?_⟩
          · rw [up_o (by omega), up_o (by omega), up_o (by omega), up_s, o 431 (by decide)]
          · rw [up_o (by omega), up_o (by omega), up_s, o 432 (by decide)]
          · rw [up_o (by omega), up_s, o 433 (by decide)]
          · rw [up_s, ev]
            by_cases z : G c = 0
            · rw [if_neg (fun y => y z), if_neg (fun y => y.2 z)]
            · rw [if_pos z, if_pos ⟨Nat.lt_succ_self _, z⟩]
          · rw [up_o (by omega), up_o (by omega), up_o (by omega), up_o (by omega)]
            exact r5
        · have l : (c < n + 1) = (c < n) := propext (by omega)
          simp only [l]
          refine ⟨?_, ?_, ?_, ?_, ?_⟩
          · rw [up_o (by omega), up_o (by omega), up_o (by omega), up_o (by omega)]; exact r1
          · rw [up_o (by omega), up_o (by omega), up_o (by omega), up_o (by omega)]; exact r2
          · rw [up_o (by omega), up_o (by omega), up_o (by omega), up_o (by omega)]; exact r3
          · rw [up_o (by omega), up_o (by omega), up_o (by omega), up_o (by omega)]; exact r4
          · rw [up_o (by omega), up_o (by omega), up_o (by omega), up_o (by omega)]; exact r5
    have i0' : 5 * nI n = nI (5 * n) := by
      show nI 5 * nI n = _
      rw [pk_mul]
    refine v172_322 (IE_w i0 hw0) ⟨fun q => absurd q (nI_ge hn4 (by decide)), fun _ => ⟨n, rfl, hn4, 5 * n, i0', by omega, 5 * n + 1, ix8 n 1, by omega, 5 * n + 2, ix8 n 2, by omega, fun q => ⟨5 * n + 3, ix8 n 3, by omega, nxt _ ?_⟩, fun q => ⟨5 * n + 3, ix8 n 3, by omega, nxt _ ?_⟩⟩⟩
    · rw [if_neg (fun z => z (le0.mp q)), gIs, gIs, gIs, up_o (by omega), up_o (by omega), up_o (by omega)]
      have := (r n hn4).2.2.2.1
      rw [if_neg (fun z => Nat.lt_irrefl _ z.1)] at this
      exact this
    · rw [if_pos (fun z => q (le0.mpr z))]
theorem c172 {la : Nat} (hla : la < 401) (hw : HW h) (hr : RR k R (MRc h)) (hB : GB k R) (hk : k < 9) (p : PJ k R A h 1) (hA : ∀ c, A c 14 = 0 ∧ A c 15 = 0 ∧ A c 16 = 0) : ∃ h', Sp L xs 172 [.ref 397, .int (nI la)] h none h' ∧ FG h h' ∧ gI h' 434 = up (up (up (gI h 434) 2 (camS R A la)) 3 (pwM R A la)) 4 (b2i (!(wrk R A la || anyG (itT R A la) 144))) ∧ (∀ c, c < 144 → (gI h' 436 c = b2i (!decide (A c 0 = 0))) ∧ (¬ A c 0 = 0 → gI h' 435 (5 * c) = itT R A la c 14 ∧ gI h' 435 (5 * c + 1) = itT R A la c 15 ∧ gI h' 435 (5 * c + 2) = itT R A la c 16 ∧ gI h' 435 (5 * c + 3) = b2i (stkB R A c la && decide (itT R A la c 15 = 0)) ∧ gI h' 435 (5 * c + 4) = b2i (strB R A c la))) := by
  obtain ⟨h1, s1, i1, o1, z1, z35, z36, z397⟩ := c165 (L := L) (xs := xs) hw
  have hw1 := IE_w i1 hw
  have mv1 : ∀ b c j, j < 14 → MV h1 b c j = MV h b c j := by
    intro b c j hj
    by_cases h4 : j = 4
    · subst h4
      show gI h1 0 0 = gI h 0 0
      rw [o1 0 (by decide) (by decide)]
    · exact MV0_of (fun a ha => o1 a (by omega) (by omega)) b c hj h4
  have f1 : FG h h1 := ⟨i1, fun a h1 h2 => o1 a (by unfold mtc at h1; omega) (by unfold mtc at h1; omega), fun c j _ hj => mv1 0 c j hj, fun i _ => by rw [o1 411 (by decide) (by decide)], z397⟩
  have p1 : PJ k R A h1 1 := PJ_e (fun c j _ hj => mv1 1 c j hj) p
  have key : WP L xs 172 11 [some (.ref 397), some (.int (nI la)), some (.int 0), some (.int 0), some (.int (nI 0)), none, none, none, none] [] h1 (fun r h' => r = none ∧ ∃ h2 h3, IE h1 h2 ∧ (∀ a, ¬ (434 ≤ a ∧ a ≤ 436) → gI h2 a = gI h1 a) ∧ gI h2 434 = gI h1 434 ∧ (∀ c, c < 144 → gI h2 436 c = b2i (!decide (gI h1 405 c = 0)) ∧ gI h2 435 (5 * c + 3) = 1 ∧ gI h2 435 (5 * c + 4) = b2i (decide (gI h1 405 c = 6))) ∧ GN h2 h3 k R A (fun c => offs (A c) (MV h2 1 c)) la ∧ IE h3 h' ∧ (∀ a, ¬ a = 435 → ¬ a = 434 → gI h' a = gI h3 a) ∧ gI h' 434 = up (up (up (gI h3 434) 2 (gI h3 397 35)) 3 (pwM R A la)) 4 (b2i (decide (gI h3 397 36 = 0) && !wrk R A la)) ∧ (∀ c, c < 144 → gI h' 435 (5 * c) = gI h3 431 c ∧ gI h' 435 (5 * c + 1) = gI h3 432 c ∧ gI h' 435 (5 * c + 2) = gI h3 433 c ∧ gI h' 435 (5 * c + 3) = (if ¬ (if gI h3 432 c ≤ 0 then 0 else 1) = 0 then 0 else gI h3 435 (5 * c + 3)) ∧ gI h' 435 (5 * c + 4) = gI h3 435 (5 * c + 4))) := by
    refine c172a h1 hw1 (fun h2 z5 z6 z7 z8 i2 o2 e2 r2 => ?_) 144 0 h1 _ _ _ _ rfl (IE_r _) (fun _ _ => rfl) rfl (fun c hc => absurd hc (Nat.not_lt_zero _))
    have m2 : MV h2 = MV h1 := MV_434 o2
    have er2 : RR k R (MRc h2) := by rw [FG_M (FG_s i2 o2), FG_M f1]; exact hr
    have p2 : PJ k R A h2 1 := by
      unfold PJ
      rw [m2]
      exact p1
    refine c172b (la := la) (o := fun c => offs (A c) (MV h2 1 c)) (by omega) hB hk h2 (IE_w i2 hw1) er2 (fun h3 y5 y6 y7 y8 g3 => ?_) la 0 h2 z5 z6 z7 z8 (by omega) ⟨FG_s (IE_r _) (fun _ _ => rfl), rfl, rfl, PJ_PI p2, fun c hc q => ?_, ?_, ?_⟩
    · refine wp_imp (c172e (la := la) (fl := wrk R A la) (w := pwM R A la) (G := fun c => if gI h3 432 c ≤ 0 then 0 else 1) h3 (IE_w g3.1.1 (IE_w i2 hw1)) (fun c hc => ?_) 144 0 h3 _ _ _ _ _ rfl (IE_r _) (fun _ _ => rfl) (fun c hc => ⟨by rw [if_neg (Nat.not_lt_zero _)], by rw [if_neg (Nat.not_lt_zero _)], by rw [if_neg (Nat.not_lt_zero _)], by rw [if_neg (fun y => Nat.not_lt_zero _ y.1)], rfl⟩)) ?_
      · show gI h3 432 c ≤ 0 ↔ (if gI h3 432 c ≤ 0 then 0 else 1) = 0
        by_cases z : gI h3 432 c ≤ 0
        · rw [if_pos z]; simp [z]
        · rw [if_neg z]; simp [z]
      · intro r h' ⟨q1, q⟩
        exact ⟨q1, h2, h3, i2, o2, e2, r2, g3, q⟩
    · rw [if_neg (Nat.not_lt_zero _)]
      have := r2 c hc
      refine ⟨this.2.1, this.2.2.trans ?_⟩
      have e : gI h1 405 c = A c 0 := (p1 c hc).2.1.symm
      rw [e]
      rfl
    · rw [o2 397 (by omega), z35]; rfl
    · rw [o2 397 (by omega), z36]; rfl
  obtain ⟨r, h', t1, rfl, h2, h3, i2, o2, e2, r2, ⟨f3, e436, e434, p3, ct3, c35, c36⟩, i4, o4, q434, q435⟩ := v172 (L := L) (xs := xs) hw ⟨h1, s1, key⟩
  have m2 : MV h2 = MV h1 := MV_434 o2
  have m4 : MV h' = MV h3 := MV_434 (fun a ha => o4 a (by omega) (by omega))
  have fall : FG h h' := FG_t f1 (FG_t (FG_s i2 o2) (FG_t f3 (FG_s i4 (fun a ha => o4 a (by omega) (by omega)))))
  refine ⟨h', t1, fall, ?_, fun c hc => ⟨?_, fun nz => ?_⟩⟩
  · rw [q434, e434, e2, o1 434 (by decide) (by decide), c35, c36, mvd_anyG (fun c => (hA c).2.1) la (by omega)]
    refine congrArg _ ?_
    cases wrk R A la <;> cases anyG (itT R A la) 144 <;> simp [b2i]
  · rw [o4 436 (by decide) (by decide), e436, (r2 c hc).1]
    have e : gI h1 405 c = A c 0 := (p1 c hc).2.1.symm
    rw [e]
  · obtain ⟨a1, a2, a3, a4, a5⟩ := q435 c hc
    have st := itT_st R A la c
    have nz' : ¬ itT R A la c 0 = 0 := by rw [st.1]; exact nz
    have cnt : ∀ j, 14 ≤ j → j ≤ 16 → itT R A la c j = MV h3 1 c j + offs (A c) (MV h2 1 c) j := ((p3 c hc).2.1.2 nz').2
    have zero : ∀ j, 14 ≤ j → j ≤ 16 → offs (A c) (MV h2 1 c) j = 0 := by
      intro j h14 h16
      have zc := z1 c hc
      show A c j - MV h2 1 c j = 0
      rw [m2]
      rcases (show j = 14 ∨ j = 15 ∨ j = 16 by omega) with rfl | rfl | rfl
      · rw [(hA c).1, show MV h1 1 c 14 = 0 from zc.1]; decide
      · rw [(hA c).2.1, show MV h1 1 c 15 = 0 from zc.2.1]; decide
      · rw [(hA c).2.2, show MV h1 1 c 16 = 0 from zc.2.2]; decide
    have g14 : gI h3 431 c = itT R A la c 14 := by
      have := cnt 14 (by decide) (by decide)
      rw [zero 14 (by decide) (by decide), Int32.add_zero] at this
      exact this.symm
    have g15 : gI h3 432 c = itT R A la c 15 := by
      have := cnt 15 (by decide) (by decide)
      rw [zero 15 (by decide) (by decide), Int32.add_zero] at this
      exact this.symm
    have g16 : gI h3 433 c = itT R A la c 16 := by
      have := cnt 16 (by decide) (by decide)
      rw [zero 16 (by decide) (by decide), Int32.add_zero] at this
      exact this.symm
    have ctc := ct3 c hc nz
    rw [if_neg (Nat.not_lt_zero _)] at ctc
    obtain ⟨g, hg1, hg2⟩ := cnt15 (R := R) (fun c => (hA c).2.1) la c
    refine ⟨a1.trans g14, a2.trans g15, a3.trans g16, ?_, a5.trans ctc.2⟩
    rw [a4, ctc.1, g15, hg2]
    have l0 : (nI g ≤ 0) ↔ g = 0 := by
      have a : (nI g ≤ nI 0) ↔ g ≤ 0 := nI_leI (by omega) (by decide)
      show nI g ≤ nI 0 ↔ _
      rw [a]
      omega
    by_cases z : g = 0
    · rw [if_pos (l0.mpr z), if_neg (fun y => y rfl), z]
      show _ = b2i (stkB R A c la && decide (nI 0 = 0))
      rw [decide_eq_true (show nI 0 = 0 from rfl), Bool.and_true]
    · rw [if_neg (fun y => z (l0.mp y)), if_pos (by decide), decide_eq_false (nI_ne0 (by omega) (by omega)), Bool.and_false]
      rfl
end GG
