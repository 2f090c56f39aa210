/-! The class's Parts: contracts in rows. -/
def RC (h : Hp) : Nat → Row := fun r => gI h (444 + r)
/-- a part's link to its recipe -/
def LR (h : Hp) (p : Nat) : Prop := (gI h p 0 = 6 → gR h p 4 = some (444 + (gI h p 2).toNatClampNeg) ∧ 444 + (gI h p 2).toNatClampNeg < h.1) ∧ (¬ gI h p 0 = 6 → gR h p 4 = none)
theorem LR_c {h : Hp} {p : Nat} (hl : LR h p) : (gR h p 4 = none ∧ ¬ gI h p 0 = 6) ∨ (∃ q, gR h p 4 = some q ∧ gI h p 0 = 6 ∧ RQ q h.1 ∧ gI h q = rc (RC h) (gI h p)) := by
  by_cases k6 : gI h p 0 = 6
  · right
    exact ⟨_, (hl.1 k6).1, k6, ⟨(hl.1 k6).2, SH_rec (Nat.le_add_right _ _)⟩, rfl⟩
  · left
    exact ⟨hl.2 k6, k6⟩
section PA
variable {L : Nat} {xs : Nat → Int32} {h : Hp} {p : Nat} {i s : Int32}
theorem c27 (hw : HW h) (hp : PT p) : Sp L xs 27 [.ref p] h none (wO h p (up (up (up (gI h p) 14 0) 15 0) 16 0)) := by
  refine sp_eq (v27 hw hp ⟨rfl, ?_⟩)
  simp only [sI_wO, wO_wO, gI_wO]
theorem c29 (hw : HW h) (hp : PT p) : Sp L xs 29 [.ref p, .int s] h (some (.int (b2i (ldT (gI h p) s)))) h := by
  refine sp_eq (v29 hw hp ⟨fun c => ⟨?_, rfl⟩, fun c => ⟨fun d => ⟨?_, rfl⟩, fun d => ⟨?_, rfl⟩⟩⟩)
  · rw [ldT, if_pos c]; rfl
  · rw [ldT, if_neg c, if_pos d]; rfl
  · rw [ldT, if_neg c, if_neg d, iteb, iteb]
theorem c34 (hw : HW h) (hp : PT p) (hl : LR h p) : Sp L xs 34 [.ref p] h (some (.int (ofd (RC h) (gI h p)))) h := by
  refine sp_eq (v34 hw hp ?_)
  rcases LR_c hl with ⟨hr, k6⟩ | ⟨q, hr, k6, hq, he⟩
  · simp only [hr, reduceCtorEq, Option.some.injEq, forall_eq', forall_eq, false_implies, implies_true, true_implies, forall_const, true_and, and_true, not_true_eq_false, not_false_eq_true, ofd, k6, if_false]
  · simp only [hr, reduceCtorEq, Option.some.injEq, forall_eq', forall_eq, false_implies, implies_true, true_implies, forall_const, true_and, and_true, not_true_eq_false, not_false_eq_true, ofd, k6, if_true, he]
    exact ⟨fun c => by rw [if_pos c], fun c => ⟨hq, by rw [if_neg c]⟩⟩
theorem c36 (hw : HW h) (hp : PT p) (hl : LR h p) (k6 : gI h p 0 = 6) : Sp L xs 36 [.ref p, .int i] h (some (.int (b2i (hsR (rc (RC h) (gI h p)) (gI h p) i)))) h := by
  refine sp_eq (v36 hw hp ?_)
  rcases LR_c hl with ⟨hr, k⟩ | ⟨q, hr, -, hq, he⟩
  · exact absurd k6 k
  · simp only [hr, reduceCtorEq, Option.some.injEq, forall_eq', forall_eq, false_implies, implies_true, true_implies, forall_const, true_and, and_true, not_true_eq_false, not_false_eq_true, he]
    refine ⟨fun c => ?_, fun c => ⟨hq, fun d => ?_, fun d => ⟨fun e => ?_, fun e => ?_⟩⟩⟩
    · rw [hsR, if_pos c]; rfl
    · rw [hsR, if_neg c, if_pos d, iteb']
    · rw [hsR, if_neg c, if_neg d, if_pos e, iteb']
    · rw [hsR, if_neg c, if_neg d, if_neg e]; rfl
theorem b2i_nz {B : Bool} : (if b2i B = 0 then true else false) = !B := by cases B <;> rfl
theorem b2i_nz' {B : Bool} : (if b2i B = 0 then false else true) = B := by cases B <;> rfl
theorem c35 (hw : HW h) (hp : PT p) (hl : LR h p) : Sp L xs 35 [.ref p, .int i, .int s] h (some (.int (b2i (tks (RC h) (gI h p) i s)))) h := by
  have key : ∀ (c : gI h p 0 = 1 ∨ gI h p 0 = 2 ∨ gI h p 0 = 4), tks (RC h) (gI h p) i s = (decide (gI h p 5 = 0) && !ldT (gI h p) s) := fun c => by rw [tks, if_pos c]
  have fin : ∀ (c : gI h p 0 = 1 ∨ gI h p 0 = 2 ∨ gI h p 0 = 4), ((gI h p 5 = 0) → ∃ r6 : Int32, Sp L xs 29 [.ref p, .int s] h (some (.int r6)) h ∧ (some (Value.int (b2i (if r6 = 0 then true else false))) = some (.int (b2i (tks (RC h) (gI h p) i s))) ∧ h = h)) ∧ (¬ (gI h p 5 = 0) → (some (Value.int 0) = some (.int (b2i (tks (RC h) (gI h p) i s))) ∧ h = h)) := fun c => by
    rw [key c]
    refine ⟨fun d => ⟨_, c29 hw hp, ?_, rfl⟩, fun d => ⟨?_, rfl⟩⟩
    · rw [b2i_nz, decide_eq_true d, Bool.true_and]
    · rw [decide_eq_false d, Bool.false_and]; rfl
  have zero : ∀ (c : ¬ (gI h p 0 = 1 ∨ gI h p 0 = 2 ∨ gI h p 0 = 4)) (d : ¬ gI h p 0 = 6) (e : ¬ gI h p 0 = 7), (some (Value.int 0) = some (.int (b2i (tks (RC h) (gI h p) i s))) ∧ h = h) := fun c d e => by
    rw [tks, if_neg c, if_neg d, decide_eq_false e]; exact ⟨rfl, rfl⟩
  refine sp_eq (v35 hw hp ⟨fun c => fin (Or.inl c), fun n1 => ⟨fun c => fin (Or.inr (Or.inl c)), fun n2 => ⟨fun c => zero (by rw [c]; decide) (by rw [c]; decide) (by rw [c]; decide), fun n3 => ⟨fun c => fin (Or.inr (Or.inr c)), fun n4 => ⟨fun c => zero (by rw [c]; decide) (by rw [c]; decide) (by rw [c]; decide), fun n5 => ⟨fun c => ?_, fun n6 => ⟨fun c => ?_, fun n7 => zero (fun q => q.elim n1 (fun q => q.elim n2 n4)) n6 n7⟩⟩⟩⟩⟩⟩⟩)
  · have e : tks (RC h) (gI h p) i s = (!ldT (gI h p) s && hsR (rc (RC h) (gI h p)) (gI h p) i) := by rw [tks, if_neg (by rw [c]; decide), if_pos c]
    rw [e]
    refine ⟨_, c29 hw hp, fun d => ⟨_, c36 hw hp hl c, ?_, rfl⟩, fun d => ⟨?_, rfl⟩⟩
    · rw [b2i_0] at d
      rw [b2i_nz', d, Bool.not_false, Bool.true_and]
    · rw [b2i_n] at d
      rw [d, Bool.not_true, Bool.false_and]; rfl
  · rw [tks, if_neg (by rw [c]; decide), if_neg (by rw [c]; decide), decide_eq_true c]; exact ⟨rfl, rfl⟩
theorem c31 (hw : HW h) (hp : PT p) : Sp L xs 31 [.ref p] h none (wO h p (prpS (gI h p))) := by
  refine sp_eq (v31 hw hp ?_)
  have e : gI (sI h p 6 (gI h p 6 + 1)) p 6 = gI h p 6 + 1 := by rw [gIs, up_s]
  rw [e, prpS]
  refine ⟨fun c => ⟨rfl, ?_⟩, fun c => ⟨rfl, ?_⟩⟩
  · rw [if_pos c]
    simp only [sI_wO, wO_wO, gI_wO]
  · rw [if_neg c]
    simp only [sI_wO, wO_wO, gI_wO]
    refine congrArg _ ?_
    funext b
    simp only [up_a]
    by_cases b6 : b = 6 <;> simp [b6]
theorem gI_op {q : Nat} {k : Nat} {v : Int32} (hne : q ≠ p) (b : Nat) : gI (sI h p k v) q b = gI h q b := by rw [gIo hne]
theorem RQ_ne {q : Nat} (hp : PT p) (hq : RQ q h.1) : q ≠ p := by
  rintro rfl
  have := hq.2.symm.trans hp.2
  cases this
theorem c32 (hw : HW h) (hp : PT p) (hl : LR h p) (k6 : gI h p 0 = 6) : Sp L xs 32 [.ref p] h none (wO h p (runW (rc (RC h) (gI h p)) (gI h p))) := by
  refine sp_eq (v32 hw hp ?_)
  rcases LR_c hl with ⟨hr, k⟩ | ⟨q, hr, -, hq, he⟩
  · exact absurd k6 k
  · simp only [hr, reduceCtorEq, Option.some.injEq, forall_eq', forall_eq, false_implies, implies_true, true_implies, forall_const, true_and, and_true, not_true_eq_false, not_false_eq_true]
    have hne := RQ_ne hp hq
    simp only [gI_op hne, he]
    have e : gI (sI h p 10 (gI h p 10 + 1)) p 10 = gI h p 10 + 1 := by rw [gIs, up_s]
    rw [e, runW]
    refine ⟨hq, fun c => ?_, fun c => ?_⟩
    · rw [if_pos c]
      simp only [sI_wO, wO_wO, gI_wO]
    · rw [if_neg c]
      simp only [sI_wO, wO_wO, gI_wO]
      refine congrArg _ ?_
      funext b
      simp only [up_a]
      by_cases b10 : b = 10
      · subst b10; rfl
      · simp [b10]
theorem c33 (hw : HW h) (hp : PT p) (hl : LR h p) (k6 : gI h p 0 = 6) : Sp L xs 33 [.ref p] h none (wO h p (begW (rc (RC h) (gI h p)) (gI h p))) := by
  refine sp_eq (v33 hw hp ?_)
  rcases LR_c hl with ⟨hr, k⟩ | ⟨q, hr, -, hq, he⟩
  · exact absurd k6 k
  · simp only [hr, reduceCtorEq, Option.some.injEq, forall_eq', forall_eq, false_implies, implies_true, true_implies, forall_const, true_and, and_true, not_true_eq_false, not_false_eq_true]
    have hne := RQ_ne hp hq
    simp only [gI_op hne, he, begW]
    refine ⟨hq, fun c => ?_, fun c => ⟨fun d => ?_, fun d => ⟨fun e => ?_, fun e => ?_⟩⟩⟩
    · rw [if_pos c, wO_id]
    · rw [if_neg c, if_pos d, wO_id]
    · rw [if_neg c, if_neg d, if_pos e, wO_id]
    · rw [if_neg c, if_neg d, if_neg e]
      simp only [sI_wO, wO_wO, gI_wO]
theorem LR_wO {g : Row} (hl : LR h p) (h0 : g 0 = gI h p 0) (h2 : g 2 = gI h p 2) : LR (wO h p g) p := by
  unfold LR
  rw [gI_wO, h0, h2]
  exact hl
theorem RC_wO {g : Row} (hp : p < 444) : RC (wO h p g) = RC h := by
  funext r
  unfold RC
  rw [gI_wOo (by omega)]
theorem prpS_0 (x : Row) : prpS x 0 = x 0 ∧ prpS x 2 = x 2 := by
  unfold prpS
  split <;> simp [up_a]
theorem begW_0 (r x : Row) : begW r x 0 = x 0 ∧ begW r x 2 = x 2 := by
  unfold begW
  (repeat' split) <;> simp [up_a]
theorem runW_0 (r x : Row) : runW r x 0 = x 0 ∧ runW r x 2 = x 2 := by
  unfold runW
  (repeat' split) <;> simp [up_a]
theorem c30m (hw : HW h) (hp : PT p) (hl : LR h p) (k6 : gI h p 0 = 6) {Q : Option Value → Hp → Prop} (hq : Q none (wO h p (prpM (rc (RC h) (gI h p)) (gI h p)))) : (((gI h p 11) = 0) → (∃ (h7 : Hp), Sp L xs 33 [.ref p] h none h7 ∧ Q none h7)) ∧ (¬ ((gI h p 11) = 0) → (∃ (h11 : Hp), Sp L xs 32 [.ref p] h none h11 ∧ (((gI h11 p 11) = 0) → (∃ (h17 : Hp), Sp L xs 33 [.ref p] h11 none h17 ∧ Q none h17)) ∧ (¬ ((gI h11 p 11) = 0) → (Q none h11)))) := by
  refine ⟨fun c => ⟨_, c33 hw hp hl k6, ?_⟩, fun c => ⟨_, c32 hw hp hl k6, fun d => ?_, fun d => ?_⟩⟩
  · rw [prpM, if_pos c] at hq
    exact hq
  · have hl2 : LR (wO h p (runW (rc (RC h) (gI h p)) (gI h p))) p := LR_wO hl (runW_0 _ _).1 (runW_0 _ _).2
    refine ⟨_, c33 (HW_wO hw) hp hl2 (by rw [gI_wO, (runW_0 _ _).1]; exact k6), ?_⟩
    rw [gI_wO] at d ⊢
    rw [RC_wO hp.1, wO_wO]
    rw [prpM, if_neg c, if_pos d] at hq
    have e : rc (RC h) (runW (rc (RC h) (gI h p)) (gI h p)) = rc (RC h) (gI h p) := by
      unfold rc
      rw [(runW_0 _ _).2]
    rw [e]
    exact hq
  · rw [gI_wO] at d
    rw [prpM, if_neg c, if_neg d] at hq
    exact hq
theorem c30 (hw : HW h) (hp : PT p) (hl : LR h p) : Sp L xs 30 [.ref p] h none (wO h p (prp (RC h) (gI h p))) := by
  refine sp_eq (v30 hw hp ?_)
  by_cases k6 : gI h p 0 = 6
  · have n5 : ¬ gI h p 0 = 5 := by rw [k6]; decide
    refine ⟨fun c => absurd c n5, fun _ => ?_⟩
    rcases LR_c hl with ⟨hr, k⟩ | ⟨q, hr, -, hq, he⟩
    · exact absurd k6 k
    · simp only [hr, reduceCtorEq, Option.some.injEq, forall_eq', forall_eq, false_implies, implies_true, true_implies, forall_const, true_and, and_true, not_true_eq_false, not_false_eq_true]
      refine c30m (Q := fun _ h' => h' = wO h p (prp (RC h) (gI h p))) hw hp hl k6 ?_
      rw [prp, if_neg n5, if_pos k6]
  · have hr : gR h p 4 = none := hl.2 k6
    refine ⟨fun c => ⟨fun d => ⟨_, c31 hw hp, ?_⟩, fun d => ?_⟩, fun c => ?_⟩
    · rw [gR_wO]
      simp only [hr, reduceCtorEq, Option.some.injEq, forall_eq', forall_eq, false_implies, implies_true, true_implies, forall_const, true_and, and_true, not_true_eq_false, not_false_eq_true]
      rw [prp, if_pos c, if_pos d]
    · simp only [hr, reduceCtorEq, Option.some.injEq, forall_eq', forall_eq, false_implies, implies_true, true_implies, forall_const, true_and, and_true, not_true_eq_false, not_false_eq_true]
      rw [prp, if_pos c, if_neg d, wO_id]
    · simp only [hr, reduceCtorEq, Option.some.injEq, forall_eq', forall_eq, false_implies, implies_true, true_implies, forall_const, true_and, and_true, not_true_eq_false, not_false_eq_true]
      rw [prp, if_neg c, if_neg k6, wO_id]
theorem c37 (hw : HW h) (hp : PT p) (hl : LR h p) : Sp L xs 37 [.ref p, .int s] h none (wO h p (giv (gI h p) s)) := by
  refine sp_eq (v37 hw hp ?_)
  rcases LR_c hl with ⟨hr, k6⟩ | ⟨q, hr, k6, hq, he⟩
  · simp only [hr, reduceCtorEq, Option.some.injEq, forall_eq', forall_eq, false_implies, implies_true, true_implies, forall_const, true_and, and_true, not_true_eq_false, not_false_eq_true, giv, if_neg k6]
    refine ⟨fun c => ?_, fun c => ?_⟩
    · rw [if_pos c]
      simp only [sI_wO, wO_wO, gI_wO]
    · rw [if_neg c]
      simp only [sI_wO, wO_wO, gI_wO]
  · simp only [hr, reduceCtorEq, Option.some.injEq, forall_eq', forall_eq, false_implies, implies_true, true_implies, forall_const, true_and, and_true, not_true_eq_false, not_false_eq_true, giv, if_pos k6]
    have n4 : ¬ gI h p 0 = 4 := by rw [k6]; decide
    refine ⟨fun c => absurd c n4, fun c => ?_⟩
    rw [if_neg c]
    simp only [sI_wO, wO_wO, gI_wO]
theorem c38 (hw : HW h) (hp : PT p) (hl : LR h p) : Sp L xs 38 [.ref p, .int i, .int s] h none (wO h p (rcv (RC h) (gI h p) i s)) := by
  refine sp_eq (v38 hw hp ?_)
  rcases LR_c hl with ⟨hr, k6⟩ | ⟨q, hr, k6, hq, he⟩
  · simp only [hr, reduceCtorEq, Option.some.injEq, forall_eq', forall_eq, false_implies, implies_true, true_implies, forall_const, true_and, and_true, not_true_eq_false, not_false_eq_true, rcv, if_neg k6]
    refine ⟨fun c => ?_, fun c => ?_⟩
    · rw [if_pos c]
      simp only [sI_wO, wO_wO, gI_wO]
    · rw [if_neg c]
      simp only [sI_wO, wO_wO, gI_wO]
  · simp only [hr, reduceCtorEq, Option.some.injEq, forall_eq', forall_eq, false_implies, implies_true, true_implies, forall_const, true_and, and_true, not_true_eq_false, not_false_eq_true, rcv, if_pos k6, he]
    refine ⟨hq, fun c => ?_, fun c => ?_⟩
    · rw [if_pos c]
      simp only [sI_wO, wO_wO, gI_wO]
    · rw [if_neg c]
      simp only [sI_wO, wO_wO, gI_wO]
end PA
