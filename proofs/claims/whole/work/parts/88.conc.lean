/-! The constructors, run on a heap that is written out: a list of what was stored. -/
abbrev CHp : Type := Nat × List (Nat × Nat × Int32) × List (Nat × Nat × Int64) × List (Nat × Nat × Option Nat)
def lkA {α : Type} (d : α) : List (Nat × Nat × α) → Nat → Nat → α
  | [], _, _ => d
  | e :: r, i, k => bif Nat.beq e.1 i && Nat.beq e.2.1 k then e.2.2 else lkA d r i k
def cAb (c : CHp) : Hp := (c.1, lkA 0 c.2.1, lkA 0 c.2.2.1, lkA none c.2.2.2)
def cI (c : CHp) (i k : Nat) (v : Int32) : CHp := (c.1, (i, k, v) :: c.2.1, c.2.2)
def cL (c : CHp) (i k : Nat) (v : Int64) : CHp := (c.1, c.2.1, (i, k, v) :: c.2.2.1, c.2.2.2)
def cR (c : CHp) (i k : Nat) (v : Option Nat) : CHp := (c.1, c.2.1, c.2.2.1, (i, k, v) :: c.2.2.2)
def cN (c : CHp) : CHp := (c.1 + 1, c.2)
def COk (c : CHp) : Prop := (∀ e ∈ c.2.1, e.1 < c.1) ∧ (∀ e ∈ c.2.2.1, e.1 < c.1) ∧ (∀ e ∈ c.2.2.2, e.1 < c.1)
theorem c_ne {a b : Nat} (h : ¬ a = b) : Nat.beq a b = false := by
  cases q : Nat.beq a b with
  | false => rfl
  | true => exact absurd (Nat.eq_of_beq_eq_true q) h
theorem lkA_u2 {α : Type} (d : α) (l : List (Nat × Nat × α)) (i k : Nat) (v : α) : lkA d ((i, k, v) :: l) = u2 (lkA d l) i k v := by
  funext a b
  show (bif Nat.beq i a && Nat.beq k b then v else lkA d l a b) = u2 (lkA d l) i k v a b
  unfold u2
  by_cases h1 : a = i
  · subst h1
    rw [Nat.beq_refl, Bool.true_and, if_pos rfl]
    by_cases h2 : b = k
    · subst h2
      rw [Nat.beq_refl, if_pos rfl]; rfl
    · rw [show Nat.beq k b = false from c_ne (fun q => h2 q.symm), if_neg h2]; rfl
  · rw [show Nat.beq i a = false from c_ne (fun q => h1 q.symm), if_neg h1]; rfl
theorem lkA_none {α : Type} {d : α} {i : Nat} : ∀ (l : List (Nat × Nat × α)), (∀ e ∈ l, ¬ e.1 = i) → ∀ k, lkA d l i k = d
  | [], _, _ => rfl
  | e :: r, h, k => by
    show (bif Nat.beq e.1 i && Nat.beq e.2.1 k then e.2.2 else lkA d r i k) = d
    rw [show Nat.beq e.1 i = false from c_ne (h e List.mem_cons_self), Bool.false_and, cond_false]
    exact lkA_none r (fun e he => h e (List.mem_cons_of_mem _ he)) k
theorem u1_same {α : Type} (f : Nat → Nat → α) (i : Nat) (g : Nat → α) (h : ∀ k, f i k = g k) : u1 f i g = f := by
  funext a b
  unfold u1
  by_cases q : a = i
  · rw [if_pos q, q, h b]
  · rw [if_neg q]
theorem cAb_I (c : CHp) (i k : Nat) (v : Int32) : cAb (cI c i k v) = sI (cAb c) i k v := by
  show (c.1, lkA 0 ((i, k, v) :: c.2.1), _, _) = (c.1, u2 (lkA 0 c.2.1) i k v, _, _)
  rw [lkA_u2]; rfl
theorem cAb_L (c : CHp) (i k : Nat) (v : Int64) : cAb (cL c i k v) = sL (cAb c) i k v := by
  show (c.1, _, lkA 0 ((i, k, v) :: c.2.2.1), _) = (c.1, _, u2 (lkA 0 c.2.2.1) i k v, _)
  rw [lkA_u2]; rfl
theorem cAb_R (c : CHp) (i k : Nat) (v : Option Nat) : cAb (cR c i k v) = sR (cAb c) i k v := by
  show (c.1, _, _, lkA none ((i, k, v) :: c.2.2.2)) = (c.1, _, _, u2 (lkA none c.2.2.2) i k v)
  rw [lkA_u2]; rfl
theorem cAb_N {c : CHp} (ok : COk c) : cAb (cN c) = hN (cAb c) := by
  obtain ⟨o1, o2, o3⟩ := ok
  show (c.1 + 1, lkA 0 c.2.1, lkA 0 c.2.2.1, lkA none c.2.2.2) = (c.1 + 1, u1 (lkA 0 c.2.1) c.1 (fun _ => 0), u1 (lkA 0 c.2.2.1) c.1 (fun _ => 0), u1 (lkA none c.2.2.2) c.1 (fun _ => none))
  rw [u1_same _ _ _ (lkA_none c.2.1 (fun e he q => by have := o1 e he; omega)), u1_same _ _ _ (lkA_none c.2.2.1 (fun e he q => by have := o2 e he; omega)), u1_same _ _ _ (lkA_none c.2.2.2 (fun e he q => by have := o3 e he; omega))]
theorem COk_N {c : CHp} (ok : COk c) : COk (cN c) := ⟨fun e he => Nat.lt_succ_of_lt (ok.1 e he), fun e he => Nat.lt_succ_of_lt (ok.2.1 e he), fun e he => Nat.lt_succ_of_lt (ok.2.2 e he)⟩
theorem COk_I {c : CHp} {i k : Nat} {v : Int32} (ok : COk c) (hi : i < c.1) : COk (cI c i k v) := ⟨fun e he => by
  rcases List.mem_cons.mp he with q | q
  · rw [q]; exact hi
  · exact ok.1 e q, ok.2⟩
theorem COk_L {c : CHp} {i k : Nat} {v : Int64} (ok : COk c) (hi : i < c.1) : COk (cL c i k v) := ⟨ok.1, fun e he => by
  rcases List.mem_cons.mp he with q | q
  · rw [q]; exact hi
  · exact ok.2.1 e q, ok.2.2⟩
theorem COk_R {c : CHp} {i k : Nat} {v : Option Nat} (ok : COk c) (hi : i < c.1) : COk (cR c i k v) := ⟨ok.1, ok.2.1, fun e he => by
  rcases List.mem_cons.mp he with q | q
  · rw [q]; exact hi
  · exact ok.2.2 e q⟩
/-- the instructions that leave the heap as it is -/
def x_hk (e : x_E) : Bool := match e with
  | (17, _, _, _, _, _) => false
  | (19, _, _, _, _, _) => false
  | (21, _, _, _, _, _) => false
  | (22, _, _, _, _, _) => false
  | (23, _, _, _, _, _) => false
  | (26, _, _, _, _, _) => false
  | _ => true
/-- and that ask nothing of the script -/
def x_ix (e : x_E) : Bool := match e with
  | (18, _, _, _, _, _) => false
  | (20, _, _, _, _, _) => false
  | _ => true
def x_sm (h : Hp) : x_O → Prop
  | .inl q => q.2.2.2 = h
  | .inr _ => True
theorem x_smN {h : Hp} {pc : Nat} {ls : x_L} {st : List Value} {o : x_O} (hs : x_nx pc ls st h = some o) : x_sm h o := by
  unfold x_nx at hs
  injection hs with e
  subst e
  rfl
theorem x_smB {h : Hp} {o : x_O} {b : Bool} {x y : Option x_O} (hx : x = some o → x_sm h o) (hy : y = some o → x_sm h o) (hs : (bif b then x else y) = some o) : x_sm h o := by
  cases b with
  | true => exact hx hs
  | false => exact hy hs
theorem x_smC {k m : Nat} {st : List Value} {h : Hp} {o : x_O} (hs : x_call k m st h = some o) : x_sm h o := by
  unfold x_call at hs
  refine x_smB (fun e => ?_) (fun e => by cases e) hs
  injection e with e
  subst e
  exact True.intro
theorem x_smS {L : Nat} {xs : Nat → Int32} {j pc : Nat} {en : x_E} {ls : x_L} {st : List Value} {h : Hp} {o : x_O} (he : x_hk en = true) (hs : x_step L xs j en pc ls st h = some o) : x_sm h o := by
  unfold x_step at hs
  split at hs
  case h_1 => split at hs; exact x_smN hs; cases hs
  case h_2 => split at hs; exact x_smB x_smN (fun e => by cases e) hs; cases hs
  case h_3 => exact x_smN hs
  case h_4 =>
    split at hs
    · split at hs; exact x_smN hs; cases hs
    · cases hs
  case h_5 =>
    split at hs
    · split at hs; exact x_smN hs; cases hs
    · cases hs
  case h_6 => split at hs; exact x_smN hs; cases hs
  case h_7 =>
    split at hs
    · split at hs; exact x_smN hs; cases hs
    · cases hs
  case h_8 => split at hs; exact x_smN hs; cases hs
  case h_9 => split at hs; exact x_smN hs; cases hs
  case h_10 => split at hs; exact x_smB x_smN x_smN hs; cases hs
  case h_11 => split at hs; exact x_smB x_smN x_smN hs; cases hs
  case h_12 =>
    split at hs
    · exact x_smB x_smN x_smN hs
    · exact x_smB x_smN x_smN hs
    · cases hs
  case h_13 => exact x_smN hs
  case h_14 => split at hs; exact x_smN hs; cases hs
  case h_15 => split at hs; exact x_smN hs; cases hs
  case h_16 => split at hs; exact x_smN hs; cases hs
  case h_17 =>
    split at hs
    · exact x_smB x_smN (fun e => by cases e) hs
    · cases hs
  case h_18 => exact absurd he Bool.false_ne_true
  case h_19 =>
    split at hs
    · exact x_smB x_smN (fun e => by cases e) hs
    · exact x_smB x_smN (fun e => by cases e) hs
    · cases hs
  case h_20 => exact absurd he Bool.false_ne_true
  case h_21 =>
    split at hs
    · exact x_smB x_smN (fun e => by cases e) hs
    · exact x_smN hs
    · cases hs
  case h_22 => exact absurd he Bool.false_ne_true
  case h_23 => exact absurd he Bool.false_ne_true
  case h_24 => exact absurd he Bool.false_ne_true
  case h_25 =>
    rename_i a b _ _
    refine x_smB (fun e => ?_) (fun e => ?_) hs
    · split at e
      · exact x_smB x_smN (fun e => by cases e) e
      · cases e
    · revert e
      cases h7 : Nat.beq a 197 with
      | true =>
        intro e
        rw [cond_true] at e
        split at e
        · exact x_smB x_smN (fun e => by cases e) e
        · cases e
      | false =>
        intro e
        rw [cond_false] at e
        exact x_smC e
  case h_26 =>
    split at hs
    · exact x_smB x_smN (fun e => by cases e) hs
    · cases hs
  case h_27 => exact absurd he Bool.false_ne_true
  case h_28 =>
    split at hs
    · injection hs with e
      subst e
      exact True.intro
    · cases hs
  case h_29 => cases hs
theorem x_stepL (L L' : Nat) (xs xs' : Nat → Int32) (j len a b : Nat) (v : Value) (t : List Nat) (pc : Nat) (ls : x_L) (st : List Value) (h : Hp) : ∀ (n : Nat), x_ix (n, len, a, b, v, t) = true → x_step L xs j (n, len, a, b, v, t) pc ls st h = x_step L' xs' j (n, len, a, b, v, t) pc ls st h
  | 0, _ => rfl
  | 1, _ => rfl
  | 2, _ => rfl
  | 3, _ => rfl
  | 4, _ => rfl
  | 5, _ => rfl
  | 6, _ => rfl
  | 7, _ => rfl
  | 8, _ => rfl
  | 9, _ => rfl
  | 10, _ => rfl
  | 11, _ => rfl
  | 12, _ => rfl
  | 13, _ => rfl
  | 14, _ => rfl
  | 15, _ => by cases v <;> rfl
  | 16, _ => rfl
  | 17, _ => rfl
  | 18, he => absurd he Bool.false_ne_true
  | 19, _ => rfl
  | 20, he => absurd he Bool.false_ne_true
  | 21, _ => rfl
  | 22, _ => rfl
  | 23, _ => rfl
  | 24, _ => rfl
  | 25, _ => rfl
  | 26, _ => rfl
  | 27, _ => rfl
  | n + 28, _ => rfl
/-- the instructions that change it -/
def c_chg (e : x_E) (pc : Nat) (ls : x_L) (st : List Value) (c : CHp) : Option (Nat × x_L × List Value × CHp) := match e with
  | (17, len, a, b, _, _) => match st with
    | .ref q :: .ref i :: r => bif x_is i c.1 a 0 && Nat.beq (FK a b) 2 then some (pc + len, ls, r, cR c i b (some q)) else none
    | .long x :: .ref i :: r => bif x_is i c.1 a 0 && Nat.beq (FK a b) 1 then some (pc + len, ls, r, cL c i b x) else none
    | _ => none
  | (19, len, a, _, _, _) => match st with
    | .int v :: .int x :: .ref i :: r => bif (Nat.blt i c.1 && (x_sort a (SH i).1 && x_in x (SH i).2)) && Nat.beq a 20 then some (pc + len, ls, r, cI c i x.toNatClampNeg v) else none
    | .long v :: .int x :: .ref i :: r => bif (Nat.blt i c.1 && (x_sort a (SH i).1 && x_in x (SH i).2)) && Nat.beq a 21 then some (pc + len, ls, r, cL c i x.toNatClampNeg v) else none
    | .ref q :: .int x :: .ref i :: r => bif (Nat.blt i c.1 && (x_sort a (SH i).1 && x_in x (SH i).2)) && (Nat.beq a 23 && x_is q c.1 (x_elc (SH i).1) 0) then some (pc + len, ls, r, cR c i x.toNatClampNeg (some q)) else none
    | _ => none
  | (21, len, a, _, _, _) => bif x_is c.1 (c.1 + 1) a 0 then some (pc + len, ls, .ref c.1 :: st, cN c) else none
  | (22, len, a, _, _, _) => match st with
    | .int n :: r => bif !(decide (n < 0)) && (Nat.ble n.toNatClampNeg 100000 && x_is c.1 (c.1 + 1) a n.toNatClampNeg) then some (pc + len, ls, .ref c.1 :: r, cN c) else none
    | _ => none
  | (23, len, a, _, _, _) => match st with
    | .int n :: r => bif !(decide (n < 0)) && (Nat.ble n.toNatClampNeg 100000 && x_is c.1 (c.1 + 1) a n.toNatClampNeg) then some (pc + len, ls, .ref c.1 :: r, cN c) else none
    | _ => none
  | _ => none
theorem bif_some {α : Type} {b : Bool} {x q : α} (h : (bif b then some x else none) = some q) : b = true ∧ x = q := by
  cases b with
  | true => exact ⟨rfl, Option.some.inj h⟩
  | false => cases h
theorem x_is_lt {i n a l : Nat} (h : x_is i n a l = true) : i < n := by
  simp only [x_is, Bool.and_eq_true, Nat.blt_eq] at h
  exact h.1
/-- what an instruction does, in the one and in the other -/
def Cst (L : Nat) (xs : Nat → Int32) (j : Nat) (e : x_E) (pc : Nat) (ls : x_L) (st : List Value) (c : CHp) (q : Nat × x_L × List Value × CHp) : Prop := x_step L xs j e pc ls st (cAb c) = some (.inl (q.1, q.2.1, q.2.2.1, cAb q.2.2.2)) ∧ COk q.2.2.2
theorem c_chgS {L : Nat} {xs : Nat → Int32} {j pc : Nat} {e : x_E} {ls : x_L} {st : List Value} {c : CHp} {q : Nat × x_L × List Value × CHp} (ok : COk c) (hs : c_chg e pc ls st c = some q) : Cst L xs j e pc ls st c q := by
  unfold c_chg at hs
  split at hs
  case h_1 len a b _ _ =>
    split at hs
    · obtain ⟨h1, rfl⟩ := bif_some hs
      simp only [Bool.and_eq_true] at h1
      have hf := Nat.eq_of_beq_eq_true h1.2
      refine ⟨?_, COk_R ok (x_is_lt h1.1)⟩
      rw [cAb_R]
      show (bif x_is _ c.1 a 0 then match x_put (cAb c) _ b (FK a b) _ with
        | some h' => x_nx (pc + len) ls _ h'
        | none => none else none) = _
      rw [h1.1, hf]
      rfl
    · obtain ⟨h1, rfl⟩ := bif_some hs
      simp only [Bool.and_eq_true] at h1
      have hf := Nat.eq_of_beq_eq_true h1.2
      refine ⟨?_, COk_L ok (x_is_lt h1.1)⟩
      rw [cAb_L]
      show (bif x_is _ c.1 a 0 then match x_put (cAb c) _ b (FK a b) _ with
        | some h' => x_nx (pc + len) ls _ h'
        | none => none else none) = _
      rw [h1.1, hf]
      rfl
    · cases hs
  case h_2 len a _ _ _ =>
    split at hs
    · obtain ⟨h1, rfl⟩ := bif_some hs
      rw [Bool.and_eq_true] at h1
      have hf := Nat.eq_of_beq_eq_true h1.2
      have hl := h1.1
      simp only [Bool.and_eq_true, Nat.blt_eq] at hl
      refine ⟨?_, COk_I ok hl.1⟩
      rw [cAb_I]
      show (bif (Nat.blt _ c.1 && (x_sort a (SH _).1 && x_in _ (SH _).2)) then match x_aput (cAb c) a _ _ (SH _).1 _ with
        | some h' => x_nx (pc + len) ls _ h'
        | none => none else none) = _
      rw [h1.1, hf]
      rfl
    · obtain ⟨h1, rfl⟩ := bif_some hs
      rw [Bool.and_eq_true] at h1
      have hf := Nat.eq_of_beq_eq_true h1.2
      have hl := h1.1
      simp only [Bool.and_eq_true, Nat.blt_eq] at hl
      refine ⟨?_, COk_L ok hl.1⟩
      rw [cAb_L]
      show (bif (Nat.blt _ c.1 && (x_sort a (SH _).1 && x_in _ (SH _).2)) then match x_aput (cAb c) a _ _ (SH _).1 _ with
        | some h' => x_nx (pc + len) ls _ h'
        | none => none else none) = _
      rw [h1.1, hf]
      rfl
    · obtain ⟨h1, rfl⟩ := bif_some hs
      rw [Bool.and_eq_true] at h1
      have h2 := h1.2
      rw [Bool.and_eq_true] at h2
      have hf := Nat.eq_of_beq_eq_true h2.1
      have hl := h1.1
      simp only [Bool.and_eq_true, Nat.blt_eq] at hl
      refine ⟨?_, COk_R ok hl.1⟩
      rw [cAb_R]
      show (bif (Nat.blt _ c.1 && (x_sort a (SH _).1 && x_in _ (SH _).2)) then match x_aput (cAb c) a _ _ (SH _).1 _ with
        | some h' => x_nx (pc + len) ls _ h'
        | none => none else none) = _
      rw [h1.1, hf, cond_true]
      show (match (bif x_is _ c.1 (x_elc (SH _).1) 0 then some (sR (cAb c) _ _ (some _)) else none) with
        | some h' => x_nx (pc + len) ls _ h'
        | none => none) = _
      rw [h2.2]
      rfl
    · cases hs
  case h_3 len a _ _ _ =>
    obtain ⟨h1, rfl⟩ := bif_some hs
    refine ⟨?_, COk_N ok⟩
    rw [cAb_N ok]
    show (bif x_is c.1 (c.1 + 1) a 0 then x_nx (pc + len) ls (.ref c.1 :: st) (hN (cAb c)) else none) = _
    rw [h1]
    rfl
  case h_4 len a _ _ _ =>
    split at hs
    · obtain ⟨h1, rfl⟩ := bif_some hs
      refine ⟨?_, COk_N ok⟩
      rw [cAb_N ok]
      show (bif !(decide (_ < 0)) && (Nat.ble _ 100000 && x_is c.1 (c.1 + 1) a _) then x_nx (pc + len) ls (.ref c.1 :: _) (hN (cAb c)) else none) = _
      rw [h1]
      rfl
    · cases hs
  case h_5 len a _ _ _ =>
    split at hs
    · obtain ⟨h1, rfl⟩ := bif_some hs
      refine ⟨?_, COk_N ok⟩
      rw [cAb_N ok]
      show (bif !(decide (_ < 0)) && (Nat.ble _ 100000 && x_is c.1 (c.1 + 1) a _) then x_nx (pc + len) ls (.ref c.1 :: _) (hN (cAb c)) else none) = _
      rw [h1]
      rfl
    · cases hs
  case h_6 => cases hs
/-- the run -/
def evc : Nat → Nat → Nat → x_L → List Value → CHp → Option (Option Value × CHp)
  | 0, _, _, _, _, _ => none
  | f + 1, j, pc, ls, st, c => match INS j pc with
    | none => none
    | some e => bif x_hk e then (bif x_ix e then (match x_step 0 (fun _ => 0) j e pc ls st (cAb c) with
      | none => none
      | some (.inl q) => evc f j q.1 q.2.1 q.2.2.1 c
      | some (.inr (.inl q)) => match evc f q.1 0 (x_loc (ML q.1) q.2.1) [] c with
        | none => none
        | some r => evc f j (pc + 3) ls (r.1.toList ++ q.2.2) r.2
      | some (.inr (.inr r)) => some (r, c)) else none) else (match c_chg e pc ls st c with
      | none => none
      | some q => evc f j q.1 q.2.1 q.2.2.1 q.2.2.2)
theorem evc_S (f j pc : Nat) (ls : x_L) (st : List Value) (c : CHp) : evc (f + 1) j pc ls st c = match INS j pc with
    | none => none
    | some e => bif x_hk e then (bif x_ix e then (match x_step 0 (fun _ => 0) j e pc ls st (cAb c) with
      | none => none
      | some (.inl q) => evc f j q.1 q.2.1 q.2.2.1 c
      | some (.inr (.inl q)) => match evc f q.1 0 (x_loc (ML q.1) q.2.1) [] c with
        | none => none
        | some r => evc f j (pc + 3) ls (r.1.toList ++ q.2.2) r.2
      | some (.inr (.inr r)) => some (r, c)) else none) else (match c_chg e pc ls st c with
      | none => none
      | some q => evc f j q.1 q.2.1 q.2.2.1 q.2.2.2) := rfl
theorem evc_ev (L : Nat) (xs : Nat → Int32) : ∀ (f j pc : Nat) (ls : x_L) (st : List Value) (c : CHp) (r : Option Value × CHp), COk c → evc f j pc ls st c = some r → ev L xs f j pc ls st (cAb c) = some (r.1, cAb r.2) ∧ COk r.2
  | 0, _, _, _, _, _, _, _, hr => by cases hr
  | f + 1, j, pc, ls, st, c, r, ok, hr => by
    rw [evc_S] at hr
    rw [ev_S]
    cases hi : INS j pc with
    | none => rw [hi] at hr; cases hr
    | some e =>
      simp only [hi] at hr ⊢
      cases hk : x_hk e with
      | true =>
        rw [hk, cond_true] at hr
        cases hx : x_ix e with
        | false => rw [hx, cond_false] at hr; cases hr
        | true =>
          rw [hx, cond_true] at hr
          obtain ⟨n, len, a, b, v, t⟩ := e
          rw [x_stepL L 0 xs (fun _ => 0) j len a b v t pc ls st (cAb c) n hx]
          cases hs : x_step 0 (fun _ => 0) j (n, len, a, b, v, t) pc ls st (cAb c) with
          | none => rw [hs] at hr; cases hr
          | some o =>
            have sm := x_smS hk hs
            simp only [hs] at hr ⊢
            cases o with
            | inl q =>
              have sm : q.2.2.2 = cAb c := sm
              simp only at hr ⊢
              rw [sm]
              exact evc_ev L xs f _ _ _ _ _ _ ok hr
            | inr o => cases o with
              | inl q =>
                simp only at hr ⊢
                cases h2 : evc f q.1 0 (x_loc (ML q.1) q.2.1) [] c with
                | none => rw [h2] at hr; cases hr
                | some r1 =>
                  rw [h2] at hr
                  obtain ⟨a1, a2⟩ := evc_ev L xs f _ _ _ _ _ _ ok h2
                  rw [a1]
                  exact evc_ev L xs f _ _ _ _ _ _ a2 hr
              | inr q =>
                simp only at hr ⊢
                injection hr with e
                subst e
                exact ⟨rfl, ok⟩
      | false =>
        rw [hk, cond_false] at hr
        cases hs : c_chg e pc ls st c with
        | none => rw [hs] at hr; cases hr
        | some q =>
          rw [hs] at hr
          obtain ⟨a1, a2⟩ := c_chgS (L := L) (xs := xs) (j := j) ok hs
          rw [a1]
          exact evc_ev L xs f _ _ _ _ _ _ a2 hr
/-- what the heap must hold behind both constructors -/
def c_chk (c : CHp) : Bool := Nat.beq c.1 444 && (c.2.1.all (fun e => Nat.beq e.1 420) && ((List.range 8).all (fun s => decide (lkA 0 c.2.1 420 s = -1)) && (c.2.2.1.all (fun e => Nat.beq e.1 438 || Nat.beq e.1 393) && (decide (lkA 0 c.2.2.1 393 3 = 1) && ((List.range 21).all (fun i => decide (lkA 0 c.2.2.1 438 i = 1)) && (c.2.2.2.all (fun e => !(Nat.blt 9 e.1 && Nat.blt e.1 154)) && (x_lkl.all (fun e => decide (lkA none c.2.2.2 e.1 e.2.1 = some e.2.2)) && ((List.range 144).all (fun k => decide (lkA none c.2.2.2 5 k = some (10 + k))) && ((List.range 144).all (fun k => decide (lkA none c.2.2.2 241 k = some (246 + k))) && (List.range 8).all (fun k => decide (lkA none c.2.2.2 154 k = some (155 + 10 * k))))))))))))
def c_fin (o : Option (Option Value × CHp)) : Bool := match o with
  | some (none, c2) => c_chk c2
  | _ => false
def c_mid (o : Option (Option Value × CHp)) : Bool := match o with
  | some (none, c1) => Nat.beq c1.1 397 && c_fin (evc 20000 122 0 (x_loc (ML 122) [.ref 397]) [] (cN c1))
  | _ => false
def c_run : Bool := c_mid (evc 20000 83 0 (x_loc (ML 83) [.ref 0]) [] (1, [], [], []))
