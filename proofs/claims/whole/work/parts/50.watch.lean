/-! The class watches the turn. -/
def wkC (x : Row) : Bool := decide (x 0 = 6) && !decide (x 11 = 0)
def bzC (R : Nat → Row) (x : Row) : Bool := decide (x 0 = 6) && (!decide (x 11 = 0) || !decide (x 9 ≤ rc R x 1))
def powS (R A : Nat → Row) : Nat → Int32
  | 0 => 0
  | n + 1 => if wkC (A n) = true then powS R A n + rc R (A n) 3 else powS R A n
def anyW (A : Nat → Row) : Nat → Bool
  | 0 => false
  | n + 1 => anyW A n || wkC (A n)
theorem powS_s (R A : Nat → Row) (n : Nat) : powS R A (n + 1) = if wkC (A n) = true then powS R A n + rc R (A n) 3 else powS R A n := rfl
theorem anyW_s (A : Nat → Row) (n : Nat) : anyW A (n + 1) = (anyW A n || wkC (A n)) := rfl
def pwM (R A : Nat → Row) : Nat → Int32
  | 0 => 0
  | n + 1 => if pwM R A n < powS R (itT R A (n + 1)) 144 then powS R (itT R A (n + 1)) 144 else pwM R A n
def wrk (R A : Nat → Row) : Nat → Bool
  | 0 => false
  | n + 1 => wrk R A n || anyW (itT R A (n + 1)) 144
def stkB (R A : Nat → Row) (c : Nat) : Nat → Bool
  | 0 => true
  | n + 1 => stkB R A c n && !decide (ofd R (itT R A (n + 1) c) = 0)
def strB (R A : Nat → Row) (c : Nat) : Nat → Bool
  | 0 => decide (A c 0 = 6)
  | n + 1 => strB R A c n && !bzC R (itT R A (n + 1) c)
/-- only object 235 and arrays 238, 239 -/
def wt (a : Nat) : Prop := a = 235 ∨ a = 238 ∨ a = 239
section WA
variable {L : Nat} {xs : Nat → Int32} {h : Hp} {k : Nat} {R A : Nat → Row}
/-- what one cell's watching leaves -/
def WSt (h0 h : Hp) (R B : Nat → Row) (n : Nat) : Prop := IE h0 h ∧ SX h0 h wt ∧ (∀ c, c < 144 → gI h 238 c = (if c < n ∧ ofd R (B c) = 0 then 0 else gI h0 238 c) ∧ gI h 239 c = (if c < n ∧ bzC R (B c) = true then 0 else gI h0 239 c)) ∧ gI h 235 10 = (if anyW B n = true then 0 else gI h0 235 10) ∧ (∀ j, ¬ j = 10 → gI h 235 j = gI h0 235 j)
theorem c10l (h0 : Hp) (hw0 : HW h0) (hR : RC h0 = R) {B : Nat → Row} (g0 : GH h0 k R B) : ∀ (m n : Nat) (h : Hp) (z : Option Value), n + m = 144 → WSt h0 h R B n → WP L xs 10 4 [some (.ref 235), some (.int (powS R B n)), some (.int (nI n)), z] [] h (fun r h' => r = none ∧ ∃ h1, WSt h0 h1 R B 144 ∧ h' = sI h1 235 9 (if gI h0 235 9 < powS R B 144 then powS R B 144 else gI h0 235 9))
  | 0, n, h, z, hn, W => by
    obtain rfl : n = 144 := by omega
    refine v10_4 (IE_w W.1 hw0) ⟨fun _ => ⟨rfl, h, W, ?_⟩, fun q => absurd (nI_le (Nat.le_refl _) (by decide)) q⟩
    rw [W.2.2.2.2 9 (by decide)]
  | m + 1, n, h, z, hn, W => by
    have hn4 : n < 144 := by omega
    obtain ⟨i0, s0, w1, w2, w3⟩ := W
    have hw := IE_w i0 hw0
    have hp := PT_240 hn4
    have erow : gI h (246 + n) = B n := by rw [s0 _ (by unfold wt; omega)]; exact (g0 n hn4).1
    have eRC : RC h = R := by rw [← hR]; exact RC_of s0 (fun a q => by unfold wt at q; omega)
    have hl : LR h (246 + n) := LR_of i0 (s0 _ (by unfold wt; omega)) (g0 n hn4).2.1
    have s34 : Sp L xs 34 [.ref (246 + n)] h (some (.int (ofd R (B n)))) h := by
      have := c34 (L := L) (xs := xs) hw hp hl
      rw [eRC, erow] at this
      exact this
    -- the row of what is left, over a heap g that holds the row still
    have rest : ∀ (g : Hp), IE h0 g → SX h0 g wt → (∀ c, c < 144 → gI g 238 c = (if c < n + 1 ∧ ofd R (B c) = 0 then 0 else gI h0 238 c)) → gI g 239 = gI h 239 → gI g 235 = gI h 235 → (gR h (246 + n) 4 = none → WP L xs 10 4 [some (.ref 235), some (.int (powS R B n)), some (.int (nI n + 1)), some (.ref (246 + n))] [] g (fun r h' => r = none ∧ ∃ h1, WSt h0 h1 R B 144 ∧ h' = sI h1 235 9 (if gI h0 235 9 < powS R B 144 then powS R B 144 else gI h0 235 9))) ∧ (∀ q : Nat, gR h (246 + n) 4 = some q → (((gI g (246 + n) 11) = 0) → ((RQ q g.1) ∧ (((gI g (246 + n) 9) ≤ (gI g q 1)) → (WP L xs 10 4 [some (.ref 235), some (.int (powS R B n)), some (.int (nI n + 1)), some (.ref (246 + n))] [] g (fun r h' => r = none ∧ ∃ h1, WSt h0 h1 R B 144 ∧ h' = sI h1 235 9 (if gI h0 235 9 < powS R B 144 then powS R B 144 else gI h0 235 9)))) ∧ (¬ ((gI g (246 + n) 9) ≤ (gI g q 1)) → (WP L xs 10 4 [some (.ref 235), some (.int (powS R B n)), some (.int (nI n + 1)), some (.ref (246 + n))] [] (sI g 239 n 0) (fun r h' => r = none ∧ ∃ h1, WSt h0 h1 R B 144 ∧ h' = sI h1 235 9 (if gI h0 235 9 < powS R B 144 then powS R B 144 else gI h0 235 9)))))) ∧ (¬ ((gI g (246 + n) 11) = 0) → ((RQ q g.1) ∧ (((gI (sI g 235 10 0) (246 + n) 11) = 0) → False) ∧ (¬ ((gI (sI g 235 10 0) (246 + n) 11) = 0) → (WP L xs 10 4 [some (.ref 235), some (.int (powS R B n + gI g q 3)), some (.int (nI n + 1)), some (.ref (246 + n))] [] (sI (sI g 235 10 0) 239 n 0) (fun r h' => r = none ∧ ∃ h1, WSt h0 h1 R B 144 ∧ h' = sI h1 235 9 (if gI h0 235 9 < powS R B 144 then powS R B 144 else gI h0 235 9))))))) := by
      intro g ig sg e238 e239 e235
      have grow : gI g (246 + n) = B n := by rw [sg _ (by unfold wt; omega)]; exact (g0 n hn4).1
      have gR4 : ∀ q, 444 ≤ q → gI g q = gI h0 q := fun q hq => sg _ (by unfold wt; omega)
      have m239 : ∀ (P : Prop) [Decidable P], (bzC R (B n) = true ↔ P) → ∀ g', (∀ c, gI g' 239 c = if P ∧ c = n then 0 else gI g 239 c) → ∀ c, c < 144 → gI g' 239 c = (if c < n + 1 ∧ bzC R (B c) = true then 0 else gI h0 239 c) := by
        intro P _ hP g' hg' c hc
        rw [hg' c, e239, (w1 c hc).2]
        by_cases e : c = n
        · subst e
          by_cases b : P
          · rw [if_pos ⟨b, rfl⟩, if_pos ⟨Nat.lt_succ_self _, hP.mpr b⟩]
          · rw [if_neg (fun z => b z.1), if_neg (fun z => Nat.lt_irrefl _ z.1), if_neg (fun z => b (hP.mp z.2))]
        · rw [if_neg (fun z => e z.2)]
          have l : (c < n + 1) = (c < n) := propext (by omega)
          simp only [l]
      constructor
      · intro hr
        have n6 : ¬ B n 0 = 6 := by
          intro q
          rw [← erow] at q
          rw [(hl.1 q).1] at hr
          cases hr
        have wk : wkC (B n) = false := by unfold wkC; rw [decide_eq_false n6]; rfl
        have bz : bzC R (B n) = false := by unfold bzC; rw [decide_eq_false n6]; rfl
        have ep : powS R B (n + 1) = powS R B n := by rw [powS_s, if_neg (by rw [wk]; decide)]
        rw [nI_1, ← ep]
        refine c10l h0 hw0 hR g0 m (n + 1) g _ (by omega) ⟨ig, sg, fun c hc => ⟨e238 c hc, m239 False (by rw [bz]; simp) g (fun c => by rw [if_neg (fun z => z.1)]) c hc⟩, ?_, fun j hj => ?_⟩
        · rw [e235, w2, anyW_s, wk, Bool.or_false]
        · rw [e235]; exact w3 j hj
      · intro q hr
        have k6 : B n 0 = 6 := by
          apply Decidable.byContradiction
          intro z
          rw [← erow] at z
          rw [hl.2 z] at hr
          cases hr
        have hq := (hl.1 (by rw [erow]; exact k6))
        rw [hr] at hq
        have eq1 : q = 444 + (B n 2).toNatClampNeg := by
          have := hq.1
          injection this with this
          rw [this, erow]
        have hRQ : RQ q g.1 := ⟨by rw [ig.1, ← i0.1, eq1, ← erow]; exact hq.2, SH_rec (by omega)⟩
        have rq : ∀ j, gI g q j = rc R (B n) j := by
          intro j
          rw [eq1, gR4 _ (by omega)]
          unfold rc
          rw [← hR]
          rfl
        rw [grow, rq 1, rq 3]
        refine ⟨fun q11 => ⟨hRQ, fun q9 => ?_, fun q9 => ?_⟩, fun q11 => ⟨hRQ, fun z => ?_, fun _ => ?_⟩⟩
        · have wk : wkC (B n) = false := by unfold wkC; rw [decide_eq_true q11]; simp
          have bz : bzC R (B n) = false := by unfold bzC; rw [decide_eq_true q11, decide_eq_true q9]; simp
          have ep : powS R B (n + 1) = powS R B n := by rw [powS_s, if_neg (by rw [wk]; decide)]
          rw [nI_1, ← ep]
          refine c10l h0 hw0 hR g0 m (n + 1) g _ (by omega) ⟨ig, sg, fun c hc => ⟨e238 c hc, m239 False (by rw [bz]; simp) g (fun c => by rw [if_neg (fun z => z.1)]) c hc⟩, ?_, fun j hj => ?_⟩
          · rw [e235, w2, anyW_s, wk, Bool.or_false]
          · rw [e235]; exact w3 j hj
        · have wk : wkC (B n) = false := by unfold wkC; rw [decide_eq_true q11]; simp
          have bz : bzC R (B n) = true := by unfold bzC; rw [decide_eq_true k6, decide_eq_false q9]; simp
          have ep : powS R B (n + 1) = powS R B n := by rw [powS_s, if_neg (by rw [wk]; decide)]
          rw [nI_1, ← ep]
          refine c10l h0 hw0 hR g0 m (n + 1) (sI g 239 n 0) _ (by omega) ⟨IE_s ig, fun a ha => by rw [gIo (by unfold wt at ha; omega)]; exact sg a ha, fun c hc => ⟨by rw [gIo (by decide)]; exact e238 c hc, m239 True (by rw [bz]; simp) (sI g 239 n 0) (fun c => by rw [gIs, up_a]; simp only [true_and]) c hc⟩, ?_, fun j hj => ?_⟩
          · rw [gIo (by decide), e235, w2, anyW_s, wk, Bool.or_false]
          · rw [gIo (by decide), e235]; exact w3 j hj
        · rw [gIo (by omega), grow] at z
          exact q11 z
        · have wk : wkC (B n) = true := by unfold wkC; rw [decide_eq_true k6, decide_eq_false q11]; rfl
          have bz : bzC R (B n) = true := by unfold bzC; rw [decide_eq_true k6, decide_eq_false q11]; rfl
          have ep : powS R B (n + 1) = powS R B n + rc R (B n) 3 := by
            show (if wkC (B n) = true then _ else _) = _
            rw [if_pos wk]
          rw [nI_1, ← ep]
          refine c10l h0 hw0 hR g0 m (n + 1) (sI (sI g 235 10 0) 239 n 0) _ (by omega) ⟨IE_s (IE_s ig), fun a ha => by rw [gIo (by unfold wt at ha; omega), gIo (by unfold wt at ha; omega)]; exact sg a ha, fun c hc => ⟨by rw [gIo (by decide), gIo (by decide)]; exact e238 c hc, m239 True (by rw [bz]; simp) (sI (sI g 235 10 0) 239 n 0) (fun c => by rw [gIs, up_a, gIo (by decide)]; simp only [true_and]) c hc⟩, ?_, fun j hj => ?_⟩
          · rw [gIo (by decide), gIs, up_s, anyW_s, wk, Bool.or_true, if_pos rfl]
          · rw [gIo (by decide), gIs, up_o hj, e235]; exact w3 j hj
    refine v10_4 hw ⟨fun q => absurd q (nI_ge hn4 (by decide)), fun _ => ⟨n, rfl, hn4, _, s34, fun q => ?_, fun q => ?_⟩⟩
    · have r1 := rest (sI h 238 n 0) (IE_s i0) (fun a ha => by rw [gIo (by unfold wt at ha; omega)]; exact s0 a ha) (fun c hc => by
        rw [gIs, up_a, (w1 c hc).1]
        by_cases e : c = n
        · subst e
          rw [if_pos rfl, if_pos ⟨Nat.lt_succ_self _, q⟩]
        · have l : (c < n + 1) = (c < n) := propext (by omega)
          rw [if_neg e]
          simp only [l]) (gIo (by decide)) (gIo (by decide))
      refine ⟨r1.1, fun q2 hr => ⟨fun z => ((r1.2 q2 hr).1 z), fun z => ?_⟩⟩
      obtain ⟨t1, t2, t3⟩ := (r1.2 q2 hr).2 z
      exact ⟨t1, fun y => (t2 y).elim, t3⟩
    · have r1 := rest h i0 s0 (fun c hc => by
        rw [(w1 c hc).1]
        by_cases e : c = n
        · subst e
          rw [if_neg (fun z => q z.2), if_neg (fun z => q z.2)]
        · have l : (c < n + 1) = (c < n) := propext (by omega)
          simp only [l]) rfl rfl
      refine ⟨r1.1, fun q2 hr => ⟨fun z => ((r1.2 q2 hr).1 z), fun z => ?_⟩⟩
      obtain ⟨t1, t2, t3⟩ := (r1.2 q2 hr).2 z
      exact ⟨t1, fun y => (t2 y).elim, t3⟩
theorem c10 (hw : HW h) (hR : RC h = R) {B : Nat → Row} (g0 : GH h k R B) : ∃ h1, Sp L xs 10 [.ref 235] h none (sI h1 235 9 (if gI h 235 9 < powS R B 144 then powS R B 144 else gI h 235 9)) ∧ WSt h h1 R B 144 := by
  obtain ⟨r, h', s1, rfl, h1, w, rfl⟩ := v10 (L := L) (xs := xs) hw (c10l (L := L) (xs := xs) h hw hR g0 144 0 h _ rfl ⟨IE_r h, SX_r h _, fun c hc => ⟨by rw [if_neg (fun z => Nat.not_lt_zero _ z.1)], by rw [if_neg (fun z => Nat.not_lt_zero _ z.1)]⟩, rfl, fun _ _ => rfl⟩)
  exact ⟨h1, s1, w⟩
end WA
