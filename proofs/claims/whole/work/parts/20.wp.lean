/-! Running 'ev' forward. Sp k As h r h': method k on the arguments As, heap h, answers r and leaves h'. WP: from here it ends with Q. -/
theorem ev_up (L : Nat) (xs : Nat → Int32) : ∀ (f g j pc : Nat) (ls : x_L) (st : List Value) (h : Hp) (r : Option Value × Hp), ev L xs f j pc ls st h = some r → f ≤ g → ev L xs g j pc ls st h = some r
  | 0, _, _, _, _, _, _, _, hr, _ => by cases hr
  | f + 1, 0, _, _, _, _, _, _, _, hg => by omega
  | f + 1, g + 1, j, pc, ls, st, h, r, hr, hg => by
    have hg : f ≤ g := by omega
    rw [ev_S] at hr ⊢
    cases hi : INS j pc with
    | none => rw [hi] at hr; cases hr
    | some en =>
      simp only [hi] at hr ⊢
      cases hs : x_step L xs j en pc ls st h with
      | none => rw [hs] at hr; cases hr
      | some o =>
        simp only [hs] at hr ⊢
        cases o with
        | inl q => exact ev_up L xs f g _ _ _ _ _ _ hr hg
        | inr o => cases o with
          | inl q =>
            cases h2 : ev L xs f q.1 0 (x_loc (ML q.1) q.2.1) [] h with
            | none => simp only [h2] at hr; cases hr
            | some r1 =>
              simp only [h2] at hr
              simp only [ev_up L xs f g _ _ _ _ _ _ h2 hg]
              exact ev_up L xs f g _ _ _ _ _ _ hr hg
          | inr q => exact hr
def Sp (L : Nat) (xs : Nat → Int32) (k : Nat) (As : List Value) (h : Hp) (r : Option Value) (h' : Hp) : Prop := ∃ f, ev L xs f k 0 (x_loc (ML k) As) [] h = some (r, h')
def WP (L : Nat) (xs : Nat → Int32) (j pc : Nat) (ls : x_L) (st : List Value) (h : Hp) (Q : Option Value → Hp → Prop) : Prop := ∃ (f : Nat) (r : Option Value) (h' : Hp), ev L xs f j pc ls st h = some (r, h') ∧ Q r h'
theorem sp_of {L : Nat} {xs : Nat → Int32} {k : Nat} {As : List Value} {h h0 : Hp} {r0 : Option Value} {ls : x_L} (hl : x_loc (ML k) As = ls) (w : WP L xs k 0 ls [] h (fun r h1 => r = r0 ∧ h1 = h0)) : Sp L xs k As h r0 h0 := by
  subst hl
  obtain ⟨f, r, h', h1, rfl, rfl⟩ := w
  exact ⟨f, h1⟩
theorem sp_ex {L : Nat} {xs : Nat → Int32} {k : Nat} {As : List Value} {h : Hp} {ls : x_L} {Q : Option Value → Hp → Prop} (hl : x_loc (ML k) As = ls) (w : WP L xs k 0 ls [] h Q) : ∃ (r : Option Value) (h' : Hp), Sp L xs k As h r h' ∧ Q r h' := by
  subst hl
  obtain ⟨f, r, h', h1, h2⟩ := w
  exact ⟨r, h', ⟨f, h1⟩, h2⟩
section EW
variable {L : Nat} {xs : Nat → Int32} {j pc pc' len a d : Nat} {v w w' : Value} {t : List Nat} {ls ls' : x_L} {st st' : List Value} {h h' : Hp} {Q : Option Value → Hp → Prop}
theorem wp_nx {en : x_E} (hi : INS j pc = some en) (hs : x_step L xs j en pc ls st h = some (.inl (pc', ls', st', h'))) (k : WP L xs j pc' ls' st' h' Q) : WP L xs j pc ls st h Q := by
  obtain ⟨f, r, h2, h3, h4⟩ := k
  refine ⟨f + 1, r, h2, ?_, h4⟩
  rw [ev_S]
  simp only [hi, hs]
  exact h3
theorem wp_call {en : x_E} {k : Nat} {As rest : List Value} {r : Option Value} (hi : INS j pc = some en) (hs : x_step L xs j en pc ls st h = some (.inr (.inl (k, As, rest)))) (hS : Sp L xs k As h r h') (hp : pc + 3 = pc') (kk : WP L xs j pc' ls (r.toList ++ rest) h' Q) : WP L xs j pc ls st h Q := by
  subst hp
  obtain ⟨f1, g1⟩ := hS
  obtain ⟨f, r2, h2, h3, h4⟩ := kk
  refine ⟨max f1 f + 1, r2, h2, ?_, h4⟩
  rw [ev_S]
  simp only [hi, hs]
  rw [ev_up L xs f1 (max f1 f) _ _ _ _ _ _ g1 (Nat.le_max_left _ _)]
  exact ev_up L xs f (max f1 f) _ _ _ _ _ _ h3 (Nat.le_max_right _ _)
theorem wp_ret {en : x_E} {r : Option Value} (hi : INS j pc = some en) (hs : x_step L xs j en pc ls st h = some (.inr (.inr r))) (hq : Q r h) : WP L xs j pc ls st h Q := by
  refine ⟨1, r, h, ?_, hq⟩
  rw [ev_S]
  simp only [hi, hs]
theorem wp_imp {Q' : Option Value → Hp → Prop} (k : WP L xs j pc ls st h Q') (hq : ∀ r h', Q' r h' → Q r h') : WP L xs j pc ls st h Q := by
  obtain ⟨f, r, h', h1, h2⟩ := k
  exact ⟨f, r, h', h1, hq r h' h2⟩
/-- rows, one a category -/
theorem e_ld (hi : INS j pc = some (0, len, a, d, v, t)) (hp : pc + len = pc') (hl : x_ld ls a d = some w) (k : WP L xs j pc' ls (w :: st) h Q) : WP L xs j pc ls st h Q := wp_nx hi (by simp only [x_step, hl, x_nx, hp]) k
theorem e_st (hi : INS j pc = some (1, len, a, d, v, t)) (hp : pc + len = pc') (hc : (Nat.beq (x_vk w) d && Nat.blt (a + w.category - 1) ls.length) = true) (hl : x_st ls a w = ls') (k : WP L xs j pc' ls' st h Q) : WP L xs j pc ls (w :: st) h Q := wp_nx hi (by simp only [x_step, hc, cond_true, hl, x_nx, hp]) k
theorem e_cn (hi : INS j pc = some (2, len, a, d, v, t)) (hp : pc + len = pc') (k : WP L xs j pc' ls (v :: st) h Q) : WP L xs j pc ls st h Q := wp_nx hi (by simp only [x_step, x_nx, hp]) k
theorem e_ib {x y z : Int32} (hi : INS j pc = some (3, len, a, d, v, t)) (hp : pc + len = pc') (hz : x_ib a x y = some z) (k : WP L xs j pc' ls (.int z :: st) h Q) : WP L xs j pc ls (.int y :: .int x :: st) h Q := wp_nx hi (by simp only [x_step, hz, x_nx, hp]) k
theorem e_lb {x y z : Int64} (hi : INS j pc = some (4, len, a, d, v, t)) (hp : pc + len = pc') (hz : x_lb a x y = some z) (k : WP L xs j pc' ls (.long z :: st) h Q) : WP L xs j pc ls (.long y :: .long x :: st) h Q := wp_nx hi (by simp only [x_step, hz, x_nx, hp]) k
theorem e_lshl {x : Int64} {y : Int32} (hi : INS j pc = some (5, len, a, d, v, t)) (hp : pc + len = pc') (k : WP L xs j pc' ls (.long (x <<< (y.toInt64 &&& 63)) :: st) h Q) : WP L xs j pc ls (.int y :: .long x :: st) h Q := wp_nx hi (by simp only [x_step, x_nx, hp]) k
theorem e_un (hi : INS j pc = some (6, len, a, d, v, t)) (hp : pc + len = pc') (hz : x_un a w = some w') (k : WP L xs j pc' ls (w' :: st) h Q) : WP L xs j pc ls (w :: st) h Q := wp_nx hi (by simp only [x_step, hz, x_nx, hp]) k
theorem e_lcmp {x y : Int64} (hi : INS j pc = some (7, len, a, d, v, t)) (hp : pc + len = pc') (k : WP L xs j pc' ls (.int (lg_cmp x y) :: st) h Q) : WP L xs j pc ls (.long y :: .long x :: st) h Q := wp_nx hi (by simp only [x_step, x_nx, hp]) k
theorem e_stk (hi : INS j pc = some (8, len, a, d, v, t)) (hp : pc + len = pc') (hz : x_stk a st = some st') (k : WP L xs j pc' ls st' h Q) : WP L xs j pc ls st h Q := wp_nx hi (by simp only [x_step, hz, x_nx, hp]) k
theorem e_if {x : Int32} (hi : INS j pc = some (9, len, a, d, v, t)) (hp : pc + len = pc') (k1 : x_cd d x 0 = true → WP L xs j a ls st h Q) (k2 : x_cd d x 0 = false → WP L xs j pc' ls st h Q) : WP L xs j pc ls (.int x :: st) h Q := by
  cases hb : x_cd d x 0 with
  | true => exact wp_nx hi (by simp only [x_step, hb, cond_true, x_nx]) (k1 hb)
  | false => exact wp_nx hi (by simp only [x_step, hb, cond_false, x_nx, hp]) (k2 hb)
theorem e_ic {x y : Int32} (hi : INS j pc = some (10, len, a, d, v, t)) (hp : pc + len = pc') (k1 : x_cd d x y = true → WP L xs j a ls st h Q) (k2 : x_cd d x y = false → WP L xs j pc' ls st h Q) : WP L xs j pc ls (.int y :: .int x :: st) h Q := by
  cases hb : x_cd d x y with
  | true => exact wp_nx hi (by simp only [x_step, hb, cond_true, x_nx]) (k1 hb)
  | false => exact wp_nx hi (by simp only [x_step, hb, cond_false, x_nx, hp]) (k2 hb)
theorem e_ifT {x : Int32} (hi : INS j pc = some (9, len, a, d, v, t)) (hb : x_cd d x 0 = true) (k1 : WP L xs j a ls st h Q) : WP L xs j pc ls (.int x :: st) h Q := wp_nx hi (by simp only [x_step, hb, cond_true, x_nx]) k1
theorem e_ifF {x : Int32} (hi : INS j pc = some (9, len, a, d, v, t)) (hp : pc + len = pc') (hb : x_cd d x 0 = false) (k1 : WP L xs j pc' ls st h Q) : WP L xs j pc ls (.int x :: st) h Q := wp_nx hi (by simp only [x_step, hb, cond_false, x_nx, hp]) k1
theorem e_icT {x y : Int32} (hi : INS j pc = some (10, len, a, d, v, t)) (hb : x_cd d x y = true) (k1 : WP L xs j a ls st h Q) : WP L xs j pc ls (.int y :: .int x :: st) h Q := wp_nx hi (by simp only [x_step, hb, cond_true, x_nx]) k1
theorem e_icF {x y : Int32} (hi : INS j pc = some (10, len, a, d, v, t)) (hp : pc + len = pc') (hb : x_cd d x y = false) (k1 : WP L xs j pc' ls st h Q) : WP L xs j pc ls (.int y :: .int x :: st) h Q := wp_nx hi (by simp only [x_step, hb, cond_false, x_nx, hp]) k1
theorem e_nul (hi : INS j pc = some (11, len, a, d, v, t)) (hq : (bif Nat.beq d 0 then a else pc + len) = pc') (k : WP L xs j pc' ls st h Q) : WP L xs j pc ls (.null :: st) h Q := wp_nx hi (by
  simp only [x_step, x_nx]
  cases hd : Nat.beq d 0 <;> simp only [hd, cond_true, cond_false] at hq ⊢ <;> rw [hq]) k
theorem e_nur {i : Nat} (hi : INS j pc = some (11, len, a, d, v, t)) (hq : (bif Nat.beq d 0 then pc + len else a) = pc') (k : WP L xs j pc' ls st h Q) : WP L xs j pc ls (.ref i :: st) h Q := wp_nx hi (by
  simp only [x_step, x_nx]
  cases hd : Nat.beq d 0 <;> simp only [hd, cond_true, cond_false] at hq ⊢ <;> rw [hq]) k
theorem e_go (hi : INS j pc = some (12, len, a, d, v, t)) (k : WP L xs j a ls st h Q) : WP L xs j pc ls st h Q := wp_nx hi (by simp only [x_step, x_nx]) k
theorem e_tab {x : Int32} (hi : INS j pc = some (13, len, a, d, v, t)) (ht : x_tgt x d t a = pc') (k : WP L xs j pc' ls st h Q) : WP L xs j pc ls (.int x :: st) h Q := wp_nx hi (by simp only [x_step, ht, x_nx]) k
theorem e_lk {x : Int32} (hi : INS j pc = some (14, len, a, d, v, t)) (ht : x_lk x t a = pc') (k : WP L xs j pc' ls st h Q) : WP L xs j pc ls (.int x :: st) h Q := wp_nx hi (by simp only [x_step, ht, x_nx]) k
theorem e_inc {x y z : Int32} (hi : INS j pc = some (15, len, a, d, .int y, t)) (hp : pc + len = pc') (hl : ls[a]? = some (some (.int x))) (hz : x + y = z) (hl' : x_st ls a (.int z) = ls') (k : WP L xs j pc' ls' st h Q) : WP L xs j pc ls st h Q := wp_nx hi (by simp only [x_step, hl, hz, hl', x_nx, hp]) k
theorem e_get {i : Nat} (hi : INS j pc = some (16, len, a, d, v, t)) (hp : pc + len = pc') (hx : x_is i h.1 a 0 = true) (hf : x_fv h i d (FK a d) = w) (k : WP L xs j pc' ls (w :: st) h Q) : WP L xs j pc ls (.ref i :: st) h Q := wp_nx hi (by simp only [x_step, hx, cond_true, hf, x_nx, hp]) k
theorem e_put {i : Nat} (hi : INS j pc = some (17, len, a, d, v, t)) (hp : pc + len = pc') (hx : x_is i h.1 a 0 = true) (hf : x_put h i d (FK a d) w = some h') (k : WP L xs j pc' ls st h' Q) : WP L xs j pc ls (w :: .ref i :: st) h Q := wp_nx hi (by simp only [x_step, hx, cond_true, hf, x_nx, hp]) k
theorem e_al {i n : Nat} {x : Int32} (hi : INS j pc = some (18, len, a, d, v, t)) (hp : pc + len = pc') (hx : (Nat.blt i h.1 && (x_sort a (SH i).1 && x_in x (SH i).2)) = true) (hc : x.toNatClampNeg = n) (hf : x_aget h a i n = w) (k : WP L xs j pc' ls (w :: st) h Q) : WP L xs j pc ls (.int x :: .ref i :: st) h Q := wp_nx hi (by simp only [x_step, hx, cond_true, hc, hf, x_nx, hp]) k
theorem e_als {z : Nat} {x y : Int32} (hi : INS j pc = some (18, len, 20, d, v, t)) (hp : pc + len = pc') (hx : x_in x L = true) (hf : xs x.toNatClampNeg = y) (k : WP L xs j pc' ls (.int y :: st) h Q) : WP L xs j pc ls (.int x :: .retAddr z :: st) h Q := wp_nx hi (by simp only [x_step, hx, show Nat.beq 20 20 = true from rfl, Bool.and_self, cond_true, hf, x_nx, hp]) k
theorem e_as {i n : Nat} {x : Int32} (hi : INS j pc = some (19, len, a, d, v, t)) (hp : pc + len = pc') (hx : (Nat.blt i h.1 && (x_sort a (SH i).1 && x_in x (SH i).2)) = true) (hc : x.toNatClampNeg = n) (hf : x_aput h a i n (SH i).1 w = some h') (k : WP L xs j pc' ls st h' Q) : WP L xs j pc ls (w :: .int x :: .ref i :: st) h Q := wp_nx hi (by simp only [x_step, hx, cond_true, hc, hf, x_nx, hp]) k
theorem e_len {i : Nat} {x : Int32} (hi : INS j pc = some (20, len, a, d, v, t)) (hp : pc + len = pc') (hx : (Nat.blt i h.1 && Nat.ble 20 (SH i).1) = true) (hc : Int32.ofNat (SH i).2 = x) (k : WP L xs j pc' ls (.int x :: st) h Q) : WP L xs j pc ls (.ref i :: st) h Q := wp_nx hi (by simp only [x_step, hx, cond_true, hc, x_nx, hp]) k
theorem e_lens {z : Nat} (hi : INS j pc = some (20, len, a, d, v, t)) (hp : pc + len = pc') (k : WP L xs j pc' ls (.int (Int32.ofNat L) :: st) h Q) : WP L xs j pc ls (.retAddr z :: st) h Q := wp_nx hi (by simp only [x_step, x_nx, hp]) k
theorem e_new {n : Nat} (hi : INS j pc = some (21, len, a, d, v, t)) (hp : pc + len = pc') (hn : h.1 = n) (hx : SH n = (a, 0)) (k : WP L xs j pc' ls (.ref n :: st) (hN h) Q) : WP L xs j pc ls st h Q := by
  subst hn
  exact wp_nx hi (by
    simp only [x_step, x_nx, hp]
    rw [show x_is h.1 (h.1 + 1) a 0 = true by simp [x_is, hx, Nat.blt_eq], cond_true]) k
theorem e_nwa {n : Nat} {x : Int32} {m : Nat} (hi : INS j pc = some (22, len, a, d, v, t)) (hp : pc + len = pc') (hn : h.1 = n) (hm : ¬ x < 0 ∧ x.toNatClampNeg = m ∧ m ≤ 100000) (hx : SH n = (a, m)) (k : WP L xs j pc' ls (.ref n :: st) (hN h) Q) : WP L xs j pc ls (.int x :: st) h Q := by
  subst hn
  obtain ⟨h1, rfl, h2⟩ := hm
  exact wp_nx hi (by
    simp only [x_step, x_nx, hp]
    rw [show (!(decide (x < 0)) && (Nat.ble x.toNatClampNeg 100000 && x_is h.1 (h.1 + 1) a x.toNatClampNeg)) = true by simp [x_is, hx, Nat.blt_eq, h1, Nat.ble_eq, h2], cond_true]) k
theorem e_nwq {n : Nat} {x : Int32} {m : Nat} (hi : INS j pc = some (23, len, a, d, v, t)) (hp : pc + len = pc') (hn : h.1 = n) (hm : ¬ x < 0 ∧ x.toNatClampNeg = m ∧ m ≤ 100000) (hx : SH n = (a, m)) (k : WP L xs j pc' ls (.ref n :: st) (hN h) Q) : WP L xs j pc ls (.int x :: st) h Q := by
  subst hn
  obtain ⟨h1, rfl, h2⟩ := hm
  exact wp_nx hi (by
    simp only [x_step, x_nx, hp]
    rw [show (!(decide (x < 0)) && (Nat.ble x.toNatClampNeg 100000 && x_is h.1 (h.1 + 1) a x.toNatClampNeg)) = true by simp [x_is, hx, Nat.blt_eq, h1, Nat.ble_eq, h2], cond_true]) k
/-- calls: As and rest are told; hs by rfl where the arguments are written out -/
theorem e_cI {k : Nat} {As rest : List Value} (hi : INS j pc = some (24, len, k, d, v, t)) (hp : pc + 3 = pc') (hk : (Nat.beq k 196 || Nat.beq k 197) = false) (hst : st = As.reverse ++ rest) (hg : (Nat.beq (MA k) As.length && (Nat.ble (x_cats As) (ML k) && Nat.ble (x_cats rest) 8)) = true) (hr : x_rcv k d As h = true) (hS : Sp L xs k As h (some w) h') (kk : WP L xs j pc' ls (w :: rest) h' Q) : WP L xs j pc ls st h Q := by
  simp only [Bool.and_eq_true, Bool.or_eq_false_iff] at hg hk
  have e1 : MA k = As.length := Nat.eq_of_beq_eq_true hg.1
  subst hst
  have e2 : (As.reverse ++ rest).take (MA k) = As.reverse := by rw [e1, List.take_left' (by simp)]
  have e3 : (As.reverse ++ rest).drop (MA k) = rest := by rw [e1, List.drop_left' (by simp)]
  have e4 : x_cats As.reverse = x_cats As := by unfold x_cats; rw [List.map_reverse, List.sum_reverse]
  refine wp_call (k := k) (As := As) (rest := rest) (r := some w) hi ?_ hS hp kk
  simp only [x_step, hk.1, hk.2, cond_false, x_call, e2, e3, e4, List.reverse_reverse, hg.2.1, hg.2.2, hr, Bool.and_self, Bool.and_true]
  rw [show Nat.ble (MA k) (As.reverse ++ rest).length = true by rw [e1]; simp [Nat.ble_eq], cond_true]
theorem e_cV {k : Nat} {As rest : List Value} (hi : INS j pc = some (24, len, k, d, v, t)) (hp : pc + 3 = pc') (hk : (Nat.beq k 196 || Nat.beq k 197) = false) (hst : st = As.reverse ++ rest) (hg : (Nat.beq (MA k) As.length && (Nat.ble (x_cats As) (ML k) && Nat.ble (x_cats rest) 8)) = true) (hr : x_rcv k d As h = true) (hS : Sp L xs k As h none h') (kk : WP L xs j pc' ls rest h' Q) : WP L xs j pc ls st h Q := by
  simp only [Bool.and_eq_true, Bool.or_eq_false_iff] at hg hk
  have e1 : MA k = As.length := Nat.eq_of_beq_eq_true hg.1
  subst hst
  have e2 : (As.reverse ++ rest).take (MA k) = As.reverse := by rw [e1, List.take_left' (by simp)]
  have e3 : (As.reverse ++ rest).drop (MA k) = rest := by rw [e1, List.drop_left' (by simp)]
  have e4 : x_cats As.reverse = x_cats As := by unfold x_cats; rw [List.map_reverse, List.sum_reverse]
  refine wp_call (k := k) (As := As) (rest := rest) (r := none) hi ?_ hS hp kk
  simp only [x_step, hk.1, hk.2, cond_false, x_call, e2, e3, e4, List.reverse_reverse, hg.2.1, hg.2.2, hr, Bool.and_self, Bool.and_true]
  rw [show Nat.ble (MA k) (As.reverse ++ rest).length = true by rw [e1]; simp [Nat.ble_eq], cond_true]
theorem e_max {x y : Int32} (hi : INS j pc = some (24, len, 196, 2, v, t)) (hp : pc + 3 = pc') (hc : Nat.ble (x_cats st) 8 = true) (k : WP L xs j pc' ls (.int (if x < y then y else x) :: st) h Q) : WP L xs j pc ls (.int y :: .int x :: st) h Q := wp_nx hi (by simp only [x_step, show Nat.beq 196 196 = true from rfl, show Nat.beq 2 2 = true from rfl, hc, Bool.and_self, cond_true, x_nx, hp]) k
theorem e_maxl {x y : Int64} (hi : INS j pc = some (24, len, 197, 2, v, t)) (hp : pc + 3 = pc') (hc : Nat.ble (x_cats st) 8 = true) (k : WP L xs j pc' ls (.long (if y < x then x else y) :: st) h Q) : WP L xs j pc ls (.long y :: .long x :: st) h Q := wp_nx hi (by simp only [x_step, show Nat.beq 197 196 = false from rfl, show Nat.beq 197 197 = true from rfl, show Nat.beq 2 2 = true from rfl, hc, Bool.and_self, cond_true, cond_false, x_nx, hp]) k
theorem e_obj {i : Nat} (hi : INS j pc = some (25, len, a, d, v, t)) (hp : pc + len = pc') (hc : Nat.ble (x_cats st) 8 = true) (k : WP L xs j pc' ls st h Q) : WP L xs j pc ls (.ref i :: st) h Q := wp_nx hi (by simp only [x_step, hc, cond_true, x_nx, hp]) k
theorem e_rt {r : Option Value} (hi : INS j pc = some (27, len, a, d, v, t)) (hr : x_rt j a st = some r) (hq : Q r h) : WP L xs j pc ls st h Q := wp_ret hi (by simp only [x_step, hr]) hq
/-- a value gets a name -/
theorem e_nm {x : Int32} (k : ∀ y : Int32, y = x → WP L xs j pc ls (.int y :: st) h Q) : WP L xs j pc ls (.int x :: st) h Q := k x rfl
theorem e_nml {x : Int64} (k : ∀ y : Int64, y = x → WP L xs j pc ls (.long y :: st) h Q) : WP L xs j pc ls (.long x :: st) h Q := k x rfl
end EW
