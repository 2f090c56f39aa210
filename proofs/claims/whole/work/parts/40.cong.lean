/-! Rows that are alike step alike. -/
/-- alike: the same kind; if it is no bare cell, the same fields; the counters by o apart -/
def RE (o x y : Row) : Prop := x 0 = y 0 ∧ (¬ x 0 = 0 → (∀ j, j < 14 → ¬ j = 4 → x j = y j) ∧ (∀ j, 14 ≤ j → j ≤ 16 → x j = y j + o j))
/-- the recipes are alike, and a machine's is there -/
def RR (k : Nat) (R R' : Nat → Row) : Prop := ∀ a, a < k → ∀ j, j < 8 → R a j = R' a j
def AK (k : Nat) (x : Row) : Prop := x 0 = 6 → ∃ a, a < k ∧ x 2 = nI a
section CG
variable {o x y : Row} {R R' : Nat → Row} {k : Nat} {i s v v' : Int32}
theorem RE_up (h : RE o x y) (j : Nat) (hj : 1 ≤ j) (h1 : j < 14 → v = v') (h2 : 14 ≤ j → v = v' + o j) : RE o (up x j v) (up y j v') := by
  refine ⟨by rw [up_o (by omega), up_o (by omega)]; exact h.1, fun q => ?_⟩
  rw [up_o (by omega)] at q
  refine ⟨fun a ha h4 => ?_, fun a h14 ha => ?_⟩
  · by_cases e : a = j
    · subst e; rw [up_s, up_s]; exact h1 ha
    · rw [up_o e, up_o e]; exact (h.2 q).1 a ha h4
  · by_cases e : a = j
    · subst e; rw [up_s, up_s]; exact h2 h14
    · rw [up_o e, up_o e]; exact (h.2 q).2 a h14 ha
theorem RE_f (h : RE o x y) (q : ¬ x 0 = 0) (j : Nat) (hj : j < 14) (h4 : ¬ j = 4) : x j = y j := (h.2 q).1 j hj h4
theorem rc_e (hr : RR k R R') (hk : k < 9) (h : RE o x y) (ha : AK k x) (q : x 0 = 6) (j : Nat) (hj : j < 8) : rc R x j = rc R' y j := by
  obtain ⟨a, ha, e⟩ := ha q
  unfold rc
  rw [← RE_f h (by rw [q]; decide) 2 (by decide) (by decide), e, nI_c (by omega)]
  exact hr a ha j hj
theorem inc_o {a b c : Int32} (h : a = b + c) : a + 1 = (b + 1) + c := by
  rw [h, Int32.add_assoc, Int32.add_comm c 1, ← Int32.add_assoc]
theorem runW_e (h : RE o x y) (q : ¬ x 0 = 0) {r r' : Row} (e1 : r 1 = r' 1) (e2 : r 2 = r' 2) : RE o (runW r x) (runW r' y) := by
  have f := RE_f h q
  unfold runW
  rw [← e1, ← e2, ← f 10 (by decide) (by decide), ← f 9 (by decide) (by decide)]
  split
  · exact RE_up h 10 (by decide) (fun _ => rfl) (fun z => absurd z (by decide))
  · refine RE_up (RE_up (RE_up (RE_up h 9 (by decide) (fun _ => rfl) (fun z => absurd z (by decide))) 11 (by decide) (fun _ => rfl) (fun z => absurd z (by decide))) 10 (by decide) (fun _ => rfl) (fun z => absurd z (by decide))) 16 (by decide) (fun z => absurd z (by decide)) (fun _ => ?_)
    exact inc_o ((h.2 q).2 16 (by decide) (by decide))
theorem begW_e (h : RE o x y) (q : ¬ x 0 = 0) {r r' : Row} (e1 : r 1 = r' 1) (e5 : r 5 = r' 5) (e7 : r 7 = r' 7) : RE o (begW r x) (begW r' y) := by
  have f := RE_f h q
  unfold begW
  rw [← e1, ← e5, ← e7, ← f 9 (by decide) (by decide), ← f 7 (by decide) (by decide), ← f 8 (by decide) (by decide)]
  (repeat' split) <;> first | exact h | skip
  exact RE_up (RE_up (RE_up (RE_up h 7 (by decide) (fun _ => rfl) (fun z => absurd z (by decide))) 8 (by decide) (fun _ => rfl) (fun z => absurd z (by decide))) 11 (by decide) (fun _ => rfl) (fun z => absurd z (by decide))) 10 (by decide) (fun _ => rfl) (fun z => absurd z (by decide))
theorem prp_e (hr : RR k R R') (hk : k < 9) (h : RE o x y) (ha : AK k x) : RE o (prp R x) (prp R' y) := by
  unfold prp
  rw [← h.1]
  by_cases k5 : x 0 = 5
  · have q : ¬ x 0 = 0 := by rw [k5]; decide
    have f := RE_f h q
    rw [if_pos k5, if_pos k5, ← f 5 (by decide) (by decide)]
    split
    · unfold prpS
      rw [← f 6 (by decide) (by decide), ← f 3 (by decide) (by decide), ← f 2 (by decide) (by decide)]
      split
      · exact RE_up h 6 (by decide) (fun _ => rfl) (fun z => absurd z (by decide))
      · exact RE_up (RE_up h 5 (by decide) (fun _ => rfl) (fun z => absurd z (by decide))) 6 (by decide) (fun _ => rfl) (fun z => absurd z (by decide))
    · exact h
  · rw [if_neg k5, if_neg k5]
    by_cases k6 : x 0 = 6
    · rw [if_pos k6, if_pos k6]
      have q : ¬ x 0 = 0 := by rw [k6]; decide
      have f := RE_f h q
      have r := rc_e hr hk h ha k6
      have hrun := runW_e h q (r 1 (by decide)) (r 2 (by decide))
      unfold prpM
      rw [← f 11 (by decide) (by decide)]
      split
      · exact begW_e h q (r 1 (by decide)) (r 5 (by decide)) (r 7 (by decide))
      · have q2 : ¬ runW (rc R x) x 0 = 0 := by rw [(runW_0 _ _).1]; exact q
        rw [← RE_f hrun q2 11 (by decide) (by decide)]
        split
        · exact begW_e hrun q2 (r 1 (by decide)) (r 5 (by decide)) (r 7 (by decide))
        · exact hrun
    · rw [if_neg k6, if_neg k6]
      exact h
theorem ofd_e (hr : RR k R R') (hk : k < 9) (h : RE o x y) (ha : AK k x) (q : ¬ x 0 = 0) : ofd R x = ofd R' y := by
  have f := RE_f h q
  by_cases k6 : x 0 = 6
  · rw [ofd_6 k6, ofd_6 (h.1 ▸ k6), ← f 9 (by decide) (by decide), rc_e hr hk h ha k6 0 (by decide)]
  · rw [ofd_n k6, ofd_n (h.1 ▸ k6)]
    exact f 5 (by decide) (by decide)
theorem ldT_e (h : RE o x y) : ldT x s = ldT y s := by
  unfold ldT
  rw [← h.1]
  by_cases q : x 0 = 0
  · rw [if_pos q, if_pos q]
  · rw [← RE_f h q 1 (by decide) (by decide)]
theorem hsR_e (hr : RR k R R') (hk : k < 9) (h : RE o x y) (ha : AK k x) (k6 : x 0 = 6) : hsR (rc R x) x i = hsR (rc R' y) y i := by
  have q : ¬ x 0 = 0 := by rw [k6]; decide
  have f := RE_f h q
  have r := rc_e hr hk h ha k6
  unfold hsR
  rw [r 4 (by decide), r 5 (by decide), r 6 (by decide), r 7 (by decide), f 7 (by decide) (by decide), f 8 (by decide) (by decide)]
theorem tks_e (hr : RR k R R') (hk : k < 9) (h : RE o x y) (ha : AK k x) : tks R x i s = tks R' y i s := by
  unfold tks
  rw [← h.1, ldT_e h]
  by_cases q : x 0 = 1 ∨ x 0 = 2 ∨ x 0 = 4
  · rw [if_pos q, if_pos q]
    have q0 : ¬ x 0 = 0 := by rcases q with q | q | q <;> (rw [q]; decide)
    rw [RE_f h q0 5 (by decide) (by decide)]
  · rw [if_neg q, if_neg q]
    by_cases k6 : x 0 = 6
    · rw [if_pos k6, if_pos k6, hsR_e hr hk h ha k6]
    · rw [if_neg k6, if_neg k6]
theorem giv_e (h : RE o x y) : RE o (giv x s) (giv y s) := by
  by_cases q : x 0 = 0
  · have q' : y 0 = 0 := h.1 ▸ q
    refine ⟨by rw [(giv_0 x s).1, (giv_0 y s).1]; exact h.1, fun z => absurd ?_ z⟩
    rw [(giv_0 x s).1]
    exact q
  · have f := RE_f h q
    unfold giv
    rw [← h.1, ← f 9 (by decide) (by decide)]
    have h1 : RE o (if x 0 = 6 then up x 9 (x 9 - 1) else up x 5 0) (if x 0 = 6 then up y 9 (x 9 - 1) else up y 5 0) := by
      split
      · exact RE_up h 9 (by decide) (fun _ => rfl) (fun z => absurd z (by decide))
      · exact RE_up h 5 (by decide) (fun _ => rfl) (fun z => absurd z (by decide))
    refine RE_up ?_ 15 (by decide) (fun z => absurd z (by decide)) (fun _ => inc_o ((h.2 q).2 15 (by decide) (by decide)))
    split
    · exact RE_up h1 13 (by decide) (fun _ => rfl) (fun z => absurd z (by decide))
    · exact h1
theorem rcv_e (hr : RR k R R') (hk : k < 9) (h : RE o x y) (ha : AK k x) : RE o (rcv R x i s) (rcv R' y i s) := by
  by_cases q : x 0 = 0
  · refine ⟨by rw [(rcv_0 x i s).1, (rcv_0 y i s).1]; exact h.1, fun z => absurd ?_ z⟩
    rw [(rcv_0 x i s).1]
    exact q
  · have f := RE_f h q
    unfold rcv
    rw [← h.1, ← f 7 (by decide) (by decide), ← f 8 (by decide) (by decide)]
    have h1 : RE o (if x 0 = 6 then (if i = rc R x 4 then up x 7 (x 7 + 1) else up x 8 (x 8 + 1)) else if x 0 = 7 then x else up x 5 i) (if x 0 = 6 then (if i = rc R' y 4 then up y 7 (x 7 + 1) else up y 8 (x 8 + 1)) else if x 0 = 7 then y else up y 5 i) := by
      by_cases k6 : x 0 = 6
      · rw [if_pos k6, if_pos k6, rc_e hr hk h ha k6 4 (by decide)]
        split
        · exact RE_up h 7 (by decide) (fun _ => rfl) (fun z => absurd z (by decide))
        · exact RE_up h 8 (by decide) (fun _ => rfl) (fun z => absurd z (by decide))
      · rw [if_neg k6, if_neg k6]
        split
        · exact h
        · exact RE_up h 5 (by decide) (fun _ => rfl) (fun z => absurd z (by decide))
    exact RE_up (RE_up h1 12 (by decide) (fun _ => rfl) (fun z => absurd z (by decide))) 14 (by decide) (fun z => absurd z (by decide)) (fun _ => inc_o ((h.2 q).2 14 (by decide) (by decide)))
end CG
section CT
variable {o : Nat → Row} {R R' : Nat → Row} {T T' : Nat → Row} {k : Nat} {i : Int32}
/-- tables alike -/
def TE (k : Nat) (o T T' : Nat → Row) : Prop := ∀ c, c < 144 → RE (o c) (T c) (T' c) ∧ AK k (T c)
theorem bdO_e (hr : RR k R R') (hk : k < 9) (h : TE k o T T') {c s : Nat} (hc : c < 144) : bdO R T c s i = bdO R' T' c s i := by
  unfold bdO
  cases hb : nb c s with
  | none => rfl
  | some t =>
    have ht := nb_lt hc hb
    show (if tks R (T t) i (nI ((s + 2) % 4)) = true then _ else _) = (if tks R' (T' t) i (nI ((s + 2) % 4)) = true then _ else _)
    rw [← tks_e hr hk (h t ht).1 (h t ht).2]
    by_cases q : tks R (T t) i (nI ((s + 2) % 4)) = true
    · have q0 : ¬ T t 0 = 0 := by
        intro z
        unfold tks at q
        rw [if_neg (by rw [z]; decide), if_neg (by rw [z]; decide), decide_eq_false (by rw [z]; decide)] at q
        cases q
      rw [if_pos q, if_pos q, RE_f (h t ht).1 q0 12 (by decide) (by decide)]
    · rw [if_neg q, if_neg q]
theorem bdX_e (h : TE k o T T') {s : Nat} : ∀ (n m a : Nat), a < 144 → bdX T s n m a = bdX T' s n m a
  | 0, _, _, _ => rfl
  | n + 1, m, a, ha => by
    unfold bdX
    cases hb : nb a s with
    | none => rfl
    | some t =>
      have ht := nb_lt ha hb
      show (if T t 0 = 3 ∧ T t 1 = nI s then _ else _) = (if T' t 0 = 3 ∧ T' t 1 = nI s then _ else _)
      have e0 := (h t ht).1.1
      by_cases k3 : T t 0 = 3
      · have q0 : ¬ T t 0 = 0 := by rw [k3]; decide
        rw [← e0, ← RE_f (h t ht).1 q0 1 (by decide) (by decide), ← RE_f (h t ht).1 q0 5 (by decide) (by decide), bdX_e h n (m + 1) t ht]
      · rw [if_neg (fun z => k3 z.1), if_neg (fun z => k3 (e0.trans z.1))]
        exact bdX_e h n (m + 1) t ht
theorem bdY_e (hr : RR k R R') (hk : k < 9) (h : TE k o T T') {c : Nat} (hc : c < 144) (q : ¬ T c 0 = 0) : ∀ (n m : Nat), bdY R T c i n m = bdY R' T' c i n m
  | 0, _ => rfl
  | n + 1, m => by
    unfold bdY
    rw [← RE_f (h c hc).1 q 13 (by decide) (by decide), ldT_e (h c hc).1, bdO_e hr hk h hc, bdY_e hr hk h hc q n (m + 1)]
theorem bd_e (hr : RR k R R') (hk : k < 9) (h : TE k o T T') {c : Nat} (hc : c < 144) : bd R T c = bd R' T' c := by
  obtain ⟨h1, h2⟩ := h c hc
  unfold bd
  rw [← h1.1]
  by_cases q : T c 0 = 0
  · rw [if_pos (Or.inl q), if_pos (Or.inl q)]
  · rw [← ofd_e hr hk h1 h2 q, ← RE_f h1 q 1 (by decide) (by decide), bdX_e h 5 1 c hc, bdY_e hr hk h hc q, bdO_e hr hk h hc]
theorem win_e (hr : RR k R R') (hk : k < 9) (h : TE k o T T') : ∀ n, n ≤ 144 → win R T n = win R' T' n
  | 0, _ => rfl
  | n + 1, hn => by
    unfold win
    rw [win_e hr hk h n (by omega), bd_e hr hk h (by omega)]
theorem mvG_e (hr : RR k R R') (hk : k < 9) (h : TE k o T T') (a : Nat) {c : Nat} (hc : c < 144) : RE (o c) (mvG R T a c) (mvG R' T' a c) := by
  unfold mvG
  rw [← bd_e hr hk h hc, ← win_e hr hk h 144 (Nat.le_refl _)]
  split
  · exact (h c hc).1
  · split
    · exact giv_e (h c hc).1
    · exact (h c hc).1
theorem mv_e (hr : RR k R R') (hk : k < 9) (h : TE k o T T') (hP : ∀ c, c < 144 → PG R (T c)) (a b : Nat) {c : Nat} (hc : c < 144) : RE (o c) (mv R T a b c) (mv R' T' a b c) := by
  have hg := mvG_e hr hk h a hc
  unfold mv
  rw [← win_e hr hk h 144 (Nat.le_refl _)]
  split
  · split
    · exact hg
    · rename_i v hv
      obtain ⟨v1, v2⟩ := win_s _ _ _ hv
      have z := (bd_s v1 (hP _ v1) v2).2.2.1
      rw [← ofd_e hr hk (h _ v1).1 (h _ v1).2 z]
      refine rcv_e hr hk hg ?_
      intro q
      rw [(mvG_0 a c).1] at q
      rw [(mvG_0 a c).2.1]
      exact (h c hc).2 q
  · exact hg
theorem prT_e (hr : RR k R R') (hk : k < 9) (h : TE k o T T') : TE k o (prT R T) (prT R' T') := by
  intro c hc
  refine ⟨prp_e hr hk (h c hc).1 (h c hc).2, fun q => ?_⟩
  have q : prp R (T c) 0 = 6 := q
  rw [(prp_0 R _).1] at q
  show ∃ a, a < k ∧ prp R (T c) 2 = nI a
  rw [(prp_0 R _).2]
  exact (h c hc).2 q
theorem cam_e (hr : RR k R R') (hk : k < 9) (h : TE k o T T') : ∀ n, n ≤ 144 → cam R T n = cam R' T' n
  | 0, _ => rfl
  | n + 1, hn => by
    unfold cam
    rw [← win_e hr hk h 144 (Nat.le_refl _), cam_e hr hk h n (by omega), (h n (by omega)).1.1]
theorem anw_e (hr : RR k R R') (hk : k < 9) (h : TE k o T T') : ∀ n, n ≤ 144 → anw R T n = anw R' T' n
  | 0, _ => rfl
  | n + 1, hn => by
    unfold anw
    rw [← win_e hr hk h 144 (Nat.le_refl _), anw_e hr hk h n (by omega)]
theorem snk_e (hr : RR k R R') (hk : k < 9) (h : TE k o T T') (hP : ∀ c, c < 144 → PG R (T c)) (i : Nat) : ∀ n, n ≤ 144 → snk R T n i = snk R' T' n i
  | 0, _ => rfl
  | n + 1, hn => by
    unfold snk
    rw [← win_e hr hk h 144 (Nat.le_refl _)]
    cases hv : win R T 144 n with
    | none => exact snk_e hr hk h hP i n (by omega)
    | some v =>
      obtain ⟨v1, v2⟩ := win_s _ _ _ hv
      have z := (bd_s v1 (hP _ v1) v2).2.2.1
      show (if T n 0 = 7 ∧ (ofd R (T v.1)).toNatClampNeg = i then _ else _) = (if T' n 0 = 7 ∧ (ofd R' (T' v.1)).toNatClampNeg = i then _ else _)
      rw [← ofd_e hr hk (h _ v1).1 (h _ v1).2 z, ← (h n (by omega)).1.1, snk_e hr hk h hP i n (by omega)]
theorem stp_e (hr : RR k R R') (hk : k < 9) (h : TE k o T T') (hP : ∀ c, c < 144 → PG R (prp R (T c))) : TE k o (stp R T) (stp R' T') := by
  intro c hc
  refine ⟨mv_e hr hk (prT_e hr hk h) hP 144 144 hc, fun q => ?_⟩
  have q : mv R (prT R T) 144 144 c 0 = 6 := q
  rw [(mv_0 _ _ _).1] at q
  show ∃ a, a < k ∧ mv R (prT R T) 144 144 c 2 = nI a
  rw [(mv_0 _ _ _).2.1]
  exact (prT_e hr hk h c hc).2 q
end CT
