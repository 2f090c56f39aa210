/-! One step of 'ev' is one step of the machine. -/
def x_sl (i : Nat) : Nat := bif Nat.blt (SH i).1 12 then NF (SH i).1 else (SH i).2
def x_ss : Nat → Nat
  | 0 => 0
  | n + 1 => x_ss n + x_sl n
def x_WW (p : Program) (l : Launch) (e : Env) (R : Room) (s : State) (m : MethodId) (args : Array Value) (below : List Frame) (meth : Method) (c : Code) (Q : State → Prop) (b B0 : Nat) (KA : Nat → ClassId) (D : va_G) (n0 nL pc : Nat) (ls : x_L) (st : List Value) (h : Hp) : Prop :=
  ∀ (H : Heap) (locs : List Loc) (sl : Array Slot), va_P D vwCl (x_ws KA B0 h) H → va_S (fun q : Nat => B0 ≤ q) s.heap H locs → x_LOC b B0 nL sl ls → W p l e R s m args below meth c H locs (h.1 - n0) (x_ss h.1 - x_ss n0) Q (F0 m pc sl (st.map (x_cv b B0)))
/-- what a method's body stands on -/
def x_CX (p : Program) (s : State) (m : MethodId) (args : Array Value) (meth : Method) (c : Code) (j L : Nat) (xs : Nat → Int32) (b B0 n0 : Nat) (KA : Nat → ClassId) (D : va_G) : Prop :=
  p.tables.exec = Jvm.exec ∧ c.code = MB j ∧ c.maxLocals = ML j ∧ s.vm.findClass (MN j).cls = some m.cls ∧ (∀ w ∈ x_all, w.before args s = true) ∧ meth.sig.returnType = MR j ∧ ((MN j).name = "<init>" → meth.name = "<init>") ∧ meth.locks = false ∧ va_K D vwCl (x_tys KA) s ∧ x_NW s ∧ va_X b L xs s s.heap ∧ b < B0 ∧ s.heap.size = B0 + n0
/-- inversions -/
theorem x_nx_inv {pc : Nat} {ls : x_L} {st : List Value} {h : Hp} {q : Nat × x_L × List Value × Hp} (hs : x_nx pc ls st h = some (.inl q)) : q = (pc, ls, st, h) := by
  unfold x_nx at hs
  exact (Sum.inl.inj (Option.some.inj hs)).symm
section XI
variable {L : Nat} {xs : Nat → Int32} {j len a d pc : Nat} {v : Value} {t : List Nat} {ls : x_L} {st : List Value} {h : Hp} {q : Nat × x_L × List Value × Hp}
theorem inv0 (hs : x_step L xs j (0, len, a, d, v, t) pc ls st h = some (.inl q)) : ∃ w, ls[a]? = some (some w) ∧ x_vk w = d ∧ q = (pc + len, ls, w :: st, h) := by
  simp only [x_step, x_ld] at hs
  cases hl : ls[a]? with
  | none => rw [hl] at hs; cases hs
  | some y => cases y with
    | none => rw [hl] at hs; cases hs
    | some w =>
      rw [hl] at hs
      cases hb : Nat.beq (x_vk w) d with
      | false => simp only [hb, cond_false] at hs; cases hs
      | true =>
        simp only [hb, cond_true] at hs
        exact ⟨w, rfl, Nat.eq_of_beq_eq_true hb, x_nx_inv hs⟩
theorem inv1 (hs : x_step L xs j (1, len, a, d, v, t) pc ls st h = some (.inl q)) : ∃ w r, st = w :: r ∧ x_vk w = d ∧ a + w.category - 1 < ls.length ∧ q = (pc + len, x_st ls a w, r, h) := by
  simp only [x_step] at hs
  cases st with
  | nil => cases hs
  | cons w r =>
    cases hb : Nat.beq (x_vk w) d && Nat.blt (a + w.category - 1) ls.length with
    | false => simp only [hb, cond_false] at hs; cases hs
    | true =>
      simp only [hb, cond_true] at hs
      simp only [Bool.and_eq_true] at hb
      exact ⟨w, r, rfl, Nat.eq_of_beq_eq_true hb.1, by have := hb.2; simpa [Nat.blt_eq] using this, x_nx_inv hs⟩
theorem inv2 (hs : x_step L xs j (2, len, a, d, v, t) pc ls st h = some (.inl q)) : q = (pc + len, ls, v :: st, h) := by
  simp only [x_step] at hs
  exact x_nx_inv hs
theorem inv3 (hs : x_step L xs j (3, len, a, d, v, t) pc ls st h = some (.inl q)) : ∃ y x z r, st = .int y :: .int x :: r ∧ x_ib a x y = some z ∧ q = (pc + len, ls, .int z :: r, h) := by
  simp only [x_step] at hs
  split at hs
  · split at hs
    · rename_i hz
      exact ⟨_, _, _, _, rfl, hz, x_nx_inv hs⟩
    · cases hs
  · cases hs
theorem inv4 (hs : x_step L xs j (4, len, a, d, v, t) pc ls st h = some (.inl q)) : ∃ y x z r, st = .long y :: .long x :: r ∧ x_lb a x y = some z ∧ q = (pc + len, ls, .long z :: r, h) := by
  simp only [x_step] at hs
  split at hs
  · split at hs
    · rename_i hz
      exact ⟨_, _, _, _, rfl, hz, x_nx_inv hs⟩
    · cases hs
  · cases hs
theorem inv5 (hs : x_step L xs j (5, len, a, d, v, t) pc ls st h = some (.inl q)) : ∃ y x r, st = .int y :: .long x :: r ∧ q = (pc + len, ls, .long (x <<< (y.toInt64 &&& 63)) :: r, h) := by
  simp only [x_step] at hs
  split at hs
  · exact ⟨_, _, _, rfl, x_nx_inv hs⟩
  · cases hs
theorem inv6 (hs : x_step L xs j (6, len, a, d, v, t) pc ls st h = some (.inl q)) : ∃ w z r, st = w :: r ∧ x_un a w = some z ∧ q = (pc + len, ls, z :: r, h) := by
  simp only [x_step] at hs
  split at hs
  · split at hs
    · rename_i hz
      exact ⟨_, _, _, rfl, hz, x_nx_inv hs⟩
    · cases hs
  · cases hs
theorem inv7 (hs : x_step L xs j (7, len, a, d, v, t) pc ls st h = some (.inl q)) : ∃ y x r, st = .long y :: .long x :: r ∧ q = (pc + len, ls, .int (lg_cmp x y) :: r, h) := by
  simp only [x_step] at hs
  split at hs
  · exact ⟨_, _, _, rfl, x_nx_inv hs⟩
  · cases hs
theorem inv8 (hs : x_step L xs j (8, len, a, d, v, t) pc ls st h = some (.inl q)) : ∃ r, x_stk a st = some r ∧ q = (pc + len, ls, r, h) := by
  simp only [x_step] at hs
  split at hs
  · rename_i hz
    exact ⟨_, hz, x_nx_inv hs⟩
  · cases hs
theorem inv9 (hs : x_step L xs j (9, len, a, d, v, t) pc ls st h = some (.inl q)) : ∃ x r, st = .int x :: r ∧ ((x_cd d x 0 = true ∧ q = (a, ls, r, h)) ∨ (x_cd d x 0 = false ∧ q = (pc + len, ls, r, h))) := by
  simp only [x_step] at hs
  split at hs
  · rename_i x r
    cases hb : x_cd d x 0 with
    | true => rw [hb, cond_true] at hs; exact ⟨_, _, rfl, Or.inl ⟨hb, x_nx_inv hs⟩⟩
    | false => rw [hb, cond_false] at hs; exact ⟨_, _, rfl, Or.inr ⟨hb, x_nx_inv hs⟩⟩
  · cases hs
theorem inv10 (hs : x_step L xs j (10, len, a, d, v, t) pc ls st h = some (.inl q)) : ∃ y x r, st = .int y :: .int x :: r ∧ ((x_cd d x y = true ∧ q = (a, ls, r, h)) ∨ (x_cd d x y = false ∧ q = (pc + len, ls, r, h))) := by
  simp only [x_step] at hs
  split at hs
  · rename_i y x r
    cases hb : x_cd d x y with
    | true => rw [hb, cond_true] at hs; exact ⟨_, _, _, rfl, Or.inl ⟨hb, x_nx_inv hs⟩⟩
    | false => rw [hb, cond_false] at hs; exact ⟨_, _, _, rfl, Or.inr ⟨hb, x_nx_inv hs⟩⟩
  · cases hs
theorem inv11 (hs : x_step L xs j (11, len, a, d, v, t) pc ls st h = some (.inl q)) : ∃ r, (st = .null :: r ∧ q = (if d = 0 then a else pc + len, ls, r, h)) ∨ ∃ i, st = .ref i :: r ∧ q = (if d = 0 then pc + len else a, ls, r, h) := by
  simp only [x_step] at hs
  split at hs
  · rename_i r
    refine ⟨r, Or.inl ⟨rfl, ?_⟩⟩
    by_cases hd : d = 0
    · subst hd; simpa using x_nx_inv hs
    · rw [show Nat.beq d 0 = false by cases hq : Nat.beq d 0 with | true => exact absurd (Nat.eq_of_beq_eq_true hq) hd | false => rfl, cond_false] at hs
      rw [if_neg hd]; exact x_nx_inv hs
  · rename_i i r
    refine ⟨r, Or.inr ⟨i, rfl, ?_⟩⟩
    by_cases hd : d = 0
    · subst hd; simpa using x_nx_inv hs
    · rw [show Nat.beq d 0 = false by cases hq : Nat.beq d 0 with | true => exact absurd (Nat.eq_of_beq_eq_true hq) hd | false => rfl, cond_false] at hs
      rw [if_neg hd]; exact x_nx_inv hs
  · cases hs
theorem inv12 (hs : x_step L xs j (12, len, a, d, v, t) pc ls st h = some (.inl q)) : q = (a, ls, st, h) := by
  simp only [x_step] at hs
  exact x_nx_inv hs
theorem inv13 (hs : x_step L xs j (13, len, a, d, v, t) pc ls st h = some (.inl q)) : ∃ x r, st = .int x :: r ∧ q = (x_tgt x d t a, ls, r, h) := by
  simp only [x_step] at hs
  split at hs
  · exact ⟨_, _, rfl, x_nx_inv hs⟩
  · cases hs
theorem inv14 (hs : x_step L xs j (14, len, a, d, v, t) pc ls st h = some (.inl q)) : ∃ x r, st = .int x :: r ∧ q = (x_lk x t a, ls, r, h) := by
  simp only [x_step] at hs
  split at hs
  · exact ⟨_, _, rfl, x_nx_inv hs⟩
  · cases hs
theorem inv15 {z : Int32} (hs : x_step L xs j (15, len, a, d, .int z, t) pc ls st h = some (.inl q)) : ∃ x, ls[a]? = some (some (.int x)) ∧ q = (pc + len, x_st ls a (.int (x + z)), st, h) := by
  simp only [x_step] at hs
  split at hs
  · rename_i hz
    exact ⟨_, hz, x_nx_inv hs⟩
  · cases hs
theorem x_is_inv {i n tag le : Nat} (h : x_is i n tag le = true) : i < n ∧ SH i = (tag, le) := by
  simp only [x_is, Bool.and_eq_true] at h
  exact ⟨by simpa [Nat.blt_eq] using h.1, Prod.ext (Nat.eq_of_beq_eq_true h.2.1) (Nat.eq_of_beq_eq_true h.2.2)⟩
theorem x_in_inv {x : Int32} {n : Nat} (h : x_in x n = true) : vp_in x n := by
  simp only [x_in, Bool.not_eq_true', Bool.or_eq_false_iff, decide_eq_false_iff_not] at h
  exact fun q => q.elim h.1 h.2
theorem inv16 (hs : x_step L xs j (16, len, a, d, v, t) pc ls st h = some (.inl q)) : ∃ i r, st = .ref i :: r ∧ i < h.1 ∧ SH i = (a, 0) ∧ q = (pc + len, ls, x_fv h i d (FK a d) :: r, h) := by
  simp only [x_step] at hs
  split at hs
  · rename_i i r
    cases hb : x_is i h.1 a 0 with
    | false => rw [hb, cond_false] at hs; cases hs
    | true =>
      rw [hb, cond_true] at hs
      exact ⟨i, r, rfl, (x_is_inv hb).1, (x_is_inv hb).2, x_nx_inv hs⟩
  · cases hs
theorem inv17 (hs : x_step L xs j (17, len, a, d, v, t) pc ls st h = some (.inl q)) : ∃ w i r h', st = w :: .ref i :: r ∧ i < h.1 ∧ SH i = (a, 0) ∧ x_put h i d (FK a d) w = some h' ∧ q = (pc + len, ls, r, h') := by
  simp only [x_step] at hs
  split at hs
  · rename_i w i r
    cases hb : x_is i h.1 a 0 with
    | false => rw [hb, cond_false] at hs; cases hs
    | true =>
      rw [hb, cond_true] at hs
      split at hs
      · rename_i hp
        exact ⟨w, i, r, _, rfl, (x_is_inv hb).1, (x_is_inv hb).2, hp, x_nx_inv hs⟩
      · cases hs
  · cases hs
theorem inv18 (hs : x_step L xs j (18, len, a, d, v, t) pc ls st h = some (.inl q)) : (∃ x i r, st = .int x :: .ref i :: r ∧ i < h.1 ∧ x_sort a (SH i).1 = true ∧ vp_in x (SH i).2 ∧ q = (pc + len, ls, x_aget h a i x.toNatClampNeg :: r, h)) ∨ ∃ x z r, st = .int x :: .retAddr z :: r ∧ a = 20 ∧ vp_in x L ∧ q = (pc + len, ls, .int (xs x.toNatClampNeg) :: r, h) := by
  simp only [x_step] at hs
  split at hs
  · rename_i x i r
    cases hb : Nat.blt i h.1 && (x_sort a (SH i).1 && x_in x (SH i).2) with
    | false => rw [hb, cond_false] at hs; cases hs
    | true =>
      rw [hb, cond_true] at hs
      simp only [Bool.and_eq_true] at hb
      exact Or.inl ⟨x, i, r, rfl, by simpa [Nat.blt_eq] using hb.1, hb.2.1, x_in_inv hb.2.2, x_nx_inv hs⟩
  · rename_i x z r
    cases hb : Nat.beq a 20 && x_in x L with
    | false => rw [hb, cond_false] at hs; cases hs
    | true =>
      rw [hb, cond_true] at hs
      simp only [Bool.and_eq_true] at hb
      exact Or.inr ⟨x, z, r, rfl, Nat.eq_of_beq_eq_true hb.1, x_in_inv hb.2, x_nx_inv hs⟩
  · cases hs
theorem inv19 (hs : x_step L xs j (19, len, a, d, v, t) pc ls st h = some (.inl q)) : ∃ w x i r h', st = w :: .int x :: .ref i :: r ∧ i < h.1 ∧ x_sort a (SH i).1 = true ∧ vp_in x (SH i).2 ∧ x_aput h a i x.toNatClampNeg (SH i).1 w = some h' ∧ q = (pc + len, ls, r, h') := by
  simp only [x_step] at hs
  split at hs
  · rename_i w x i r
    cases hb : Nat.blt i h.1 && (x_sort a (SH i).1 && x_in x (SH i).2) with
    | false => rw [hb, cond_false] at hs; cases hs
    | true =>
      rw [hb, cond_true] at hs
      simp only [Bool.and_eq_true] at hb
      split at hs
      · rename_i hp
        exact ⟨w, x, i, r, _, rfl, by simpa [Nat.blt_eq] using hb.1, hb.2.1, x_in_inv hb.2.2, hp, x_nx_inv hs⟩
      · cases hs
  · cases hs
theorem inv20 (hs : x_step L xs j (20, len, a, d, v, t) pc ls st h = some (.inl q)) : (∃ i r, st = .ref i :: r ∧ i < h.1 ∧ 20 ≤ (SH i).1 ∧ q = (pc + len, ls, .int (Int32.ofNat (SH i).2) :: r, h)) ∨ ∃ z r, st = .retAddr z :: r ∧ q = (pc + len, ls, .int (Int32.ofNat L) :: r, h) := by
  simp only [x_step] at hs
  split at hs
  · rename_i i r
    cases hb : Nat.blt i h.1 && Nat.ble 20 (SH i).1 with
    | false => rw [hb, cond_false] at hs; cases hs
    | true =>
      rw [hb, cond_true] at hs
      simp only [Bool.and_eq_true] at hb
      exact Or.inl ⟨i, r, rfl, by simpa [Nat.blt_eq] using hb.1, Nat.le_of_ble_eq_true hb.2, x_nx_inv hs⟩
  · exact Or.inr ⟨_, _, rfl, x_nx_inv hs⟩
  · cases hs
theorem inv21 (hs : x_step L xs j (21, len, a, d, v, t) pc ls st h = some (.inl q)) : SH h.1 = (a, 0) ∧ q = (pc + len, ls, .ref h.1 :: st, hN h) := by
  simp only [x_step] at hs
  cases hb : x_is h.1 (h.1 + 1) a 0 with
  | false => rw [hb, cond_false] at hs; cases hs
  | true => rw [hb, cond_true] at hs; exact ⟨(x_is_inv hb).2, x_nx_inv hs⟩
theorem inv22 (hs : x_step L xs j (22, len, a, d, v, t) pc ls st h = some (.inl q)) : ∃ n r, st = .int n :: r ∧ ¬ n < 0 ∧ n.toNatClampNeg ≤ 100000 ∧ SH h.1 = (a, n.toNatClampNeg) ∧ q = (pc + len, ls, .ref h.1 :: r, hN h) := by
  simp only [x_step] at hs
  split at hs
  · rename_i n r
    cases hb : !(decide (n < 0)) && (Nat.ble n.toNatClampNeg 100000 && x_is h.1 (h.1 + 1) a n.toNatClampNeg) with
    | false => rw [hb, cond_false] at hs; cases hs
    | true =>
      rw [hb, cond_true] at hs
      simp only [Bool.and_eq_true, Bool.not_eq_true', decide_eq_false_iff_not] at hb
      exact ⟨n, r, rfl, hb.1, Nat.le_of_ble_eq_true hb.2.1, (x_is_inv hb.2.2).2, x_nx_inv hs⟩
  · cases hs
theorem inv23 (hs : x_step L xs j (23, len, a, d, v, t) pc ls st h = some (.inl q)) : ∃ n r, st = .int n :: r ∧ ¬ n < 0 ∧ n.toNatClampNeg ≤ 100000 ∧ SH h.1 = (a, n.toNatClampNeg) ∧ q = (pc + len, ls, .ref h.1 :: r, hN h) := by
  simp only [x_step] at hs
  split at hs
  · rename_i n r
    cases hb : !(decide (n < 0)) && (Nat.ble n.toNatClampNeg 100000 && x_is h.1 (h.1 + 1) a n.toNatClampNeg) with
    | false => rw [hb, cond_false] at hs; cases hs
    | true =>
      rw [hb, cond_true] at hs
      simp only [Bool.and_eq_true, Bool.not_eq_true', decide_eq_false_iff_not] at hb
      exact ⟨n, r, rfl, hb.1, Nat.le_of_ble_eq_true hb.2.1, (x_is_inv hb.2.2).2, x_nx_inv hs⟩
  · cases hs
theorem inv24 (hs : x_step L xs j (24, len, a, d, v, t) pc ls st h = some (.inl q)) : (a = 196 ∧ d = 2 ∧ ∃ y x r, st = .int y :: .int x :: r ∧ x_cats r ≤ 8 ∧ q = (pc + 3, ls, .int (if x < y then y else x) :: r, h)) ∨ (a = 197 ∧ d = 2 ∧ ∃ y x r, st = .long y :: .long x :: r ∧ x_cats r ≤ 8 ∧ q = (pc + 3, ls, .long (if y < x then x else y) :: r, h)) := by
  simp only [x_step] at hs
  cases h1 : Nat.beq a 196 with
  | true =>
    rw [h1, cond_true] at hs
    split at hs
    · rename_i y x r
      simp only [Bool.cond_eq_ite] at hs
      split at hs
      · rename_i hb
        simp only [Bool.and_eq_true] at hb
        exact Or.inl ⟨Nat.eq_of_beq_eq_true h1, Nat.eq_of_beq_eq_true hb.1, y, x, r, rfl, Nat.le_of_ble_eq_true hb.2, x_nx_inv hs⟩
      · cases hs
    · cases hs
  | false =>
    rw [h1, cond_false] at hs
    cases h2 : Nat.beq a 197 with
    | true =>
      rw [h2, cond_true] at hs
      split at hs
      · rename_i y x r
        simp only [Bool.cond_eq_ite] at hs
        split at hs
        · rename_i hb
          simp only [Bool.and_eq_true] at hb
          exact Or.inr ⟨Nat.eq_of_beq_eq_true h2, Nat.eq_of_beq_eq_true hb.1, y, x, r, rfl, Nat.le_of_ble_eq_true hb.2, x_nx_inv hs⟩
        · cases hs
      · cases hs
    | false =>
      rw [h2, cond_false] at hs
      simp only [x_call, Bool.cond_eq_ite] at hs
      split at hs <;> cases hs
theorem inv25 (hs : x_step L xs j (25, len, a, d, v, t) pc ls st h = some (.inl q)) : ∃ i r, st = .ref i :: r ∧ x_cats r ≤ 8 ∧ q = (pc + len, ls, r, h) := by
  simp only [x_step] at hs
  split at hs
  · rename_i i r
    cases hb : Nat.ble (x_cats r) 8 with
    | false => rw [hb, cond_false] at hs; cases hs
    | true => rw [hb, cond_true] at hs; exact ⟨i, r, rfl, Nat.le_of_ble_eq_true hb, x_nx_inv hs⟩
  · cases hs
theorem inv26 (hs : x_step L xs j (26, len, a, d, v, t) pc ls st h = some (.inl q)) : ∃ n dp i2 sp i1 r, st = .int n :: .int dp :: .ref i2 :: .int sp :: .ref i1 :: r ∧ x_cats r ≤ 8 ∧ i1 < h.1 ∧ (SH i1).1 = 21 ∧ i2 < h.1 ∧ (SH i2).1 = 21 ∧ ¬ sp < 0 ∧ ¬ dp < 0 ∧ ¬ n < 0 ∧ sp.toNatClampNeg + n.toNatClampNeg ≤ (SH i1).2 ∧ dp.toNatClampNeg + n.toNatClampNeg ≤ (SH i2).2 ∧ q = (pc + len, ls, r, hCpy h i1 i2 sp.toNatClampNeg dp.toNatClampNeg n.toNatClampNeg) := by
  simp only [x_step] at hs
  split at hs
  · rename_i n dp i2 sp i1 r
    simp only [Bool.cond_eq_ite] at hs
    split at hs <;> rename_i hb
    · simp only [Bool.and_eq_true, Bool.not_eq_true', decide_eq_false_iff_not] at hb
      obtain ⟨⟨g1, g2, g3⟩, g4, g5, g6, g7, g8⟩ := hb
      exact ⟨n, dp, i2, sp, i1, r, rfl, Nat.le_of_ble_eq_true g1, (x_is_inv g2).1, by rw [(x_is_inv g2).2], (x_is_inv g3).1, by rw [(x_is_inv g3).2], g4, g5, g6, Nat.le_of_ble_eq_true g7, Nat.le_of_ble_eq_true g8, x_nx_inv hs⟩
    · cases hs
  · cases hs
theorem inv27 (hs : x_step L xs j (27, len, a, d, v, t) pc ls st h = some (.inl q)) : False := by
  simp only [x_step] at hs
  split at hs <;> cases hs
end XI
