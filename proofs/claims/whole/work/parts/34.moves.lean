/-! What moves: the pure part. -/
section MO
variable {R T : Nat → Row}
theorem win_s : ∀ (n t : Nat) (v : Nat × Nat × Nat), win R T n t = some v → v.1 < n ∧ bd R T v.1 = some (t, v.2)
  | 0, _, _, h => by cases h
  | n + 1, t, v, h => by
    unfold win at h
    cases hb : bd R T n with
    | none =>
      rw [hb] at h
      have := win_s n t v h
      exact ⟨by omega, this.2⟩
    | some b =>
      rw [hb] at h
      have h : addB (win R T n) n b t = some v := h
      unfold addB at h
      split at h
      · rename_i e
        split at h
        · injection h with h
          subst h
          exact ⟨by show n < n + 1; omega, by rw [hb, ← e]⟩
        · rename_i v0 hv
          split at h
          · injection h with h
            subst h
            exact ⟨by show n < n + 1; omega, by rw [hb, ← e]⟩
          · injection h with h
            subst h
            have := win_s n t v0 hv
            exact ⟨by omega, this.2⟩
      · have := win_s n t v h
        exact ⟨by omega, this.2⟩
theorem giv_0 (x : Row) (s : Int32) : giv x s 0 = x 0 ∧ giv x s 2 = x 2 ∧ giv x s 1 = x 1 ∧ giv x s 3 = x 3 := by
  unfold giv
  (repeat' split) <;> simp [up_a]
theorem rcv_0 (x : Row) (i s : Int32) : rcv R x i s 0 = x 0 ∧ rcv R x i s 2 = x 2 ∧ rcv R x i s 1 = x 1 ∧ rcv R x i s 3 = x 3 := by
  unfold rcv
  (repeat' split) <;> simp [up_a]
theorem giv_rcv {x : Row} {i s s' : Int32} (k6 : x 0 = 6) : giv (rcv R x i s') s = rcv R (giv x s) i s' := by
  have e : rc R (giv x s) = rc R x := by
    unfold rc
    rw [(giv_0 x s).2.1]
  have n4 : ¬ x 0 = 4 := by rw [k6]; decide
  have a1 : giv x s = up (up x 9 (x 9 - 1)) 15 (x 15 + 1) := by rw [giv, if_neg n4, if_pos k6]
  have a2 : ∀ y : Row, y 0 = 6 → giv y s = up (up y 9 (y 9 - 1)) 15 (y 15 + 1) := fun y hy => by rw [giv, if_neg (by rw [hy]; decide), if_pos hy]
  rw [a2 _ (by rw [(rcv_0 (R := R) x i s').1, k6])]
  have a3 : ∀ y : Row, y 0 = 6 → rcv R y i s' = up (up (if i = rc R y 4 then up y 7 (y 7 + 1) else up y 8 (y 8 + 1)) 12 s') 14 (y 14 + 1) := fun y hy => by rw [rcv, if_pos hy]
  rw [a3 x k6, a3 (giv x s) (by rw [(giv_0 x s).1, k6]), e, a1]
  funext b
  by_cases hi : i = rc R x 4
  · rw [if_pos hi, if_pos hi]
    simp only [up_a]
    by_cases b9 : b = 9
    · subst b9; rfl
    · by_cases b15 : b = 15
      · subst b15; rfl
      · by_cases b7 : b = 7
        · subst b7; rfl
        · by_cases b12 : b = 12
          · subst b12; rfl
          · by_cases b14 : b = 14
            · subst b14; rfl
            · simp [b9, b15, b7, b12, b14]
  · rw [if_neg hi, if_neg hi]
    simp only [up_a]
    by_cases b9 : b = 9
    · subst b9; rfl
    · by_cases b15 : b = 15
      · subst b15; rfl
      · by_cases b8 : b = 8
        · subst b8; rfl
        · by_cases b12 : b = 12
          · subst b12; rfl
          · by_cases b14 : b = 14
            · subst b14; rfl
            · simp [b9, b15, b8, b12, b14]
theorem ofd_6 {x : Row} (k6 : x 0 = 6) : ofd R x = if x 9 ≤ 0 then 0 else rc R x 0 := by rw [ofd, if_pos k6]
theorem ofd_n {x : Row} (k6 : ¬ x 0 = 6) : ofd R x = x 5 := by rw [ofd, if_neg k6]
theorem ofd_rcv {x : Row} {i s : Int32} (k6 : x 0 = 6) : ofd R (rcv R x i s) = ofd R x := by
  have e : rc R (rcv R x i s) = rc R x := by
    unfold rc
    rw [(rcv_0 x i s).2.1]
  rw [ofd_6 (by rw [(rcv_0 x i s).1, k6]), ofd_6 k6, e]
  have : rcv R x i s 9 = x 9 := by
    unfold rcv
    rw [if_pos k6]
    split <;> simp [up_a]
  rw [this]
/-- one that takes and gives is a machine -/
theorem both6 (hP : ∀ c, c < 144 → PG R (T c)) {g : Nat} {b v : Nat × Nat × Nat} (hg : g < 144) (hb : bd R T g = some b) (hv : win R T 144 g = some v) : T g 0 = 6 := by
  obtain ⟨v1, v2⟩ := win_s _ _ _ hv
  obtain ⟨-, -, z0, z1, -, -⟩ := bd_s hg (hP g hg) hb
  obtain ⟨-, -, -, -, -, hk⟩ := bd_s v1 (hP _ v1) v2
  apply Decidable.byContradiction
  intro k6
  rw [ofd_n k6] at z1
  rcases hk with ⟨-, h5, -, -⟩ | ⟨-, -, s, hs⟩
  · exact z1 h5
  · have hs : tks R (T g) (ofd R (T v.1)) s = true := hs
    unfold tks at hs
    split at hs
    · rw [Bool.and_eq_true] at hs
      exact z1 (of_decide_eq_true hs.1)
    · exact z1 ((hP g hg).2.1 (of_decide_eq_true hs))
theorem mvG_0 (a c : Nat) : mvG R T a c 0 = T c 0 ∧ mvG R T a c 2 = T c 2 ∧ mvG R T a c 1 = T c 1 ∧ mvG R T a c 3 = T c 3 := by
  cases hb : bd R T c with
  | none =>
    have e : mvG R T a c = T c := by unfold mvG; rw [hb]
    rw [e]
    exact ⟨rfl, rfl, rfl, rfl⟩
  | some b =>
    have e : mvG R T a c = if b.1 < a ∧ win R T 144 b.1 = some (c, b.2) then giv (T c) (nI ((b.2.1 + 2) % 4)) else T c := by unfold mvG; rw [hb]
    rw [e]
    split
    · exact giv_0 _ _
    · exact ⟨rfl, rfl, rfl, rfl⟩
theorem mv_0 (a b c : Nat) : mv R T a b c 0 = T c 0 ∧ mv R T a b c 2 = T c 2 ∧ mv R T a b c 1 = T c 1 ∧ mv R T a b c 3 = T c 3 := by
  have h := mvG_0 (R := R) (T := T) a c
  by_cases hc : c < b
  · cases hv : win R T 144 c with
    | none =>
      have e : mv R T a b c = mvG R T a c := by unfold mv; rw [if_pos hc, hv]
      rw [e]
      exact h
    | some v =>
      have e : mv R T a b c = rcv R (mvG R T a c) (ofd R (T v.1)) (nI v.2.1) := by unfold mv; rw [if_pos hc, hv]
      rw [e]
      have := rcv_0 (R := R) (mvG R T a c) (ofd R (T v.1)) (nI v.2.1)
      exact ⟨this.1.trans h.1, this.2.1.trans h.2.1, this.2.2.1.trans h.2.2.1, this.2.2.2.trans h.2.2.2⟩
  · have e : mv R T a b c = mvG R T a c := by unfold mv; rw [if_neg hc]
    rw [e]
    exact h
theorem mv_00 (c : Nat) : mv R T 0 0 c = T c := by
  unfold mv
  rw [if_neg (Nat.not_lt_zero _)]
  unfold mvG
  split
  · rfl
  · rw [if_neg (fun q => Nat.not_lt_zero _ q.1)]
theorem mvG_n {n c : Nat} (hc : ¬ ∃ v, win R T 144 n = some v ∧ v.1 = c) : mvG R T (n + 1) c = mvG R T n c := by
  unfold mvG
  split
  · rfl
  · rename_i b hb
    by_cases h1 : b.1 = n
    · have q : ¬ win R T 144 b.1 = some (c, b.2) := fun q => hc ⟨_, by rw [← h1]; exact q, rfl⟩
      rw [if_neg (fun z => q z.2), if_neg (fun z => q z.2)]
    · have e : (b.1 < n + 1) = (b.1 < n) := propext (by omega)
      simp only [e]
/-- a target that nobody gives to changes nothing -/
theorem mv_n {n : Nat} (hw : win R T 144 n = none) (c : Nat) : mv R T (n + 1) (n + 1) c = mv R T n n c := by
  have e : mvG R T (n + 1) c = mvG R T n c := mvG_n (by rintro ⟨v, q, -⟩; rw [hw] at q; cases q)
  unfold mv
  rw [e]
  by_cases hc : c = n
  · subst hc
    rw [if_pos (Nat.lt_succ_self _), if_neg (Nat.lt_irrefl _), hw]
  · have e : (c < n + 1) = (c < n) := propext (by omega)
    simp only [e]
theorem mv_o {n c : Nat} {v : Nat × Nat × Nat} (hw : win R T 144 n = some v) (h1 : ¬ c = n) (h2 : ¬ c = v.1) : mv R T (n + 1) (n + 1) c = mv R T n n c := by
  have e : mvG R T (n + 1) c = mvG R T n c := mvG_n (by rintro ⟨v', q, q2⟩; rw [hw] at q; injection q with q; subst q; exact h2 q2.symm)
  unfold mv
  rw [e]
  have e : (c < n + 1) = (c < n) := propext (by omega)
  simp only [e]
theorem mv_g (hP : ∀ c, c < 144 → PG R (T c)) {n : Nat} {v : Nat × Nat × Nat} (hn : n < 144) (hw : win R T 144 n = some v) : ¬ v.1 = n ∧ mv R T (n + 1) (n + 1) v.1 = giv (mv R T n n v.1) (nI ((v.2.1 + 2) % 4)) ∧ ofd R (mv R T n n v.1) = ofd R (T v.1) := by
  obtain ⟨v1, v2⟩ := win_s _ _ _ hw
  obtain ⟨-, hne, -, -, -, -⟩ := bd_s v1 (hP _ v1) v2
  have hne : ¬ v.1 = n := fun q => hne q.symm
  have g0 : mvG R T n v.1 = T v.1 := by
    unfold mvG
    rw [v2]
    show (if n < n ∧ _ then _ else _) = _
    rw [if_neg (fun z => Nat.lt_irrefl _ z.1)]
  have g1 : mvG R T (n + 1) v.1 = giv (T v.1) (nI ((v.2.1 + 2) % 4)) := by
    unfold mvG
    rw [v2]
    show (if n < n + 1 ∧ win R T 144 n = some (v.1, v.2) then _ else _) = _
    rw [if_pos ⟨Nat.lt_succ_self _, hw⟩]
  have e : (v.1 < n + 1) = (v.1 < n) := propext (by omega)
  refine ⟨hne, ?_⟩
  unfold mv
  rw [g0, g1]
  simp only [e]
  by_cases hl : v.1 < n
  · rw [if_pos hl, if_pos hl]
    cases hz : win R T 144 v.1 with
    | none => exact ⟨rfl, rfl⟩
    | some z =>
      have k6 := both6 hP v1 v2 hz
      exact ⟨(giv_rcv k6).symm, ofd_rcv k6⟩
  · rw [if_neg hl, if_neg hl]
    exact ⟨rfl, rfl⟩
theorem mv_t (hP : ∀ c, c < 144 → PG R (T c)) {n : Nat} {v : Nat × Nat × Nat} (hn : n < 144) (hw : win R T 144 n = some v) : mv R T (n + 1) (n + 1) n = rcv R (mv R T n n n) (ofd R (T v.1)) (nI v.2.1) := by
  have hne := (mv_g hP hn hw).1
  have e : mvG R T (n + 1) n = mvG R T n n := mvG_n (by rintro ⟨v', q, q2⟩; rw [hw] at q; injection q with q; subst q; exact hne q2)
  unfold mv
  rw [e, if_pos (Nat.lt_succ_self _), if_neg (Nat.lt_irrefl _), hw]
end MO
