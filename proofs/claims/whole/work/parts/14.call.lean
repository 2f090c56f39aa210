/-! Calls of 'ev' and of the machine: what a call brings, what it asks. -/
theorem x_m_all {k : Nat} (h : x_mck k = true) : Cond.code (MN k) (MB k) (ML k) (MR k) ∈ x_all ∧ Cond.initialized (MN k).cls ∈ x_all ∧ plainName (MN k).cls = true ∧ ((MN k).cls ≠ "java/lang/invoke/MethodHandle" ∧ (MN k).cls ≠ "java/lang/invoke/VarHandle") := by
  simp only [x_mck, Bool.and_eq_true, decide_eq_true_eq] at h
  exact ⟨x_wd_in h.1.1, x_wd_in h.1.2.1, h.1.2.2.1, h.1.2.2.2⟩
theorem x_m_0 {k : Nat} (h : x_mck k = true) (hk : x_kd k = 0) : Cond.instanceMethod (MN k) ∈ x_all ∧ Cond.selects (MN k).cls (MN k) (MN k) ∈ x_all ∧ (parseMethodDescriptor (MN k).desc).map (fun d => d.parameters.length + 1) = some (MA k) ∧ MC k < 12 ∧ RN (MC k) = (MN k).cls := by
  unfold x_kd at hk
  unfold x_mck at h
  generalize x_mt.getD k (0, 9, 0, 0) = q at h hk
  obtain ⟨i1, kd, i2, i3⟩ := q
  have hk : kd = 0 := hk
  subst hk
  simp only [Bool.and_eq_true, decide_eq_true_eq, Nat.blt_eq] at h
  exact ⟨x_wd_in h.2.1, x_wd_in h.2.2.1, h.2.2.2.1, h.2.2.2.2.1, h.2.2.2.2.2⟩
theorem x_m_1 {k : Nat} (h : x_mck k = true) (hk : x_kd k = 1) : Cond.static (MN k) ∈ x_all ∧ (parseMethodDescriptor (MN k).desc).map (fun d => d.parameters.length) = some (MA k) := by
  unfold x_kd at hk
  unfold x_mck at h
  generalize x_mt.getD k (0, 9, 0, 0) = q at h hk
  obtain ⟨i1, kd, i2, i3⟩ := q
  have hk : kd = 1 := hk
  subst hk
  simp only [Bool.and_eq_true, decide_eq_true_eq] at h
  exact ⟨x_wd_in h.2.1, h.2.2⟩
theorem x_m_2 {k : Nat} (h : x_mck k = true) (hk : x_kd k = 2) : Cond.instanceMethod (MN k) ∈ x_all ∧ (parseMethodDescriptor (MN k).desc).map (fun d => d.parameters.length + 1) = some (MA k) ∧ (MN k).name = "<init>" := by
  unfold x_kd at hk
  unfold x_mck at h
  generalize x_mt.getD k (0, 9, 0, 0) = q at h hk
  obtain ⟨i1, kd, i2, i3⟩ := q
  have hk : kd = 2 := hk
  subst hk
  simp only [Bool.and_eq_true, decide_eq_true_eq] at h
  exact ⟨x_wd_in h.2.1, h.2.2.1, h.2.2.2⟩
theorem x_all_good {w : Cond} (h : w ∈ x_all) : w ∈ x_all ∧ ((w.onTables && w.keeps) = true ∨ ∃ ty, w = .arrayClass ty) := ⟨h, good_of_word (List.mem_filter.mp h).2⟩
abbrev x_cws (k : Nat) : List Cond := Cond.code (MN k) (MB k) (ML k) (MR k) :: x_all
theorem x_cws_good {k : Nat} (h : x_mck k = true) : ∀ w ∈ x_cws k, w ∈ x_all ∧ ((w.onTables && w.keeps) = true ∨ ∃ ty, w = .arrayClass ty) := by
  intro w hw
  rcases List.mem_cons.mp hw with rfl | hw
  · exact x_all_good (x_m_all h).1
  · exact x_all_good hw
/-- the state of the machine that a heap of 'ev' stands for -/
def x_OK (b B0 L : Nat) (xs : Nat → Int32) (KA : Nat → ClassId) (D : va_G) (h : Hp) (U : State) : Prop :=
  U.heap.size = B0 + h.1 ∧ va_P D vwCl (x_ws KA B0 h) U.heap ∧ va_K D vwCl (x_tys KA) U ∧ x_NW U ∧ va_X b L xs U U.heap ∧ b < B0
def x_Met (l : Launch) (b B0 L : Nat) (xs : Nat → Int32) (KA : Nat → ClassId) (D : va_G) (k : Nat) (As : List Value) (h : Hp) (r : Option Value) (h' : Hp) : Prop :=
  Met l (MN k) (x_cws k) ({ frames := MF k, cells := h'.1 - h.1, slots := x_ss h'.1 - x_ss h.1, locals := MO k }) (va_Pc (As.map (x_cv b B0)) (x_OK b B0 L xs KA D h)) (fun _ st o t => o = .returned (r.map (x_cv b B0)) ∧ x_OK b B0 L xs KA D h' t ∧ va_F (fun q : Nat => B0 ≤ q) st t) (h'.1 - h.1) (x_ss h'.1 - x_ss h.1) (fun q : Nat => B0 ≤ q)
theorem x_blind {b B0 L : Nat} {xs : Nat → Int32} {KA : Nat → ClassId} {D : va_G} {h : Hp} {av : List Value} : FrameBlind (va_Pc av (x_OK b B0 L xs KA D h)) := by
  intro a U g mk q
  obtain ⟨q0, q1, q2, q3, q4, q5, q6⟩ := q
  refine ⟨q0, q1, q2, va_K.moved (u := U) (U := U.calling g mk a) (Vm.Alike.refl U.vm) q3, ⟨fun w hw => va_Nw.same rfl rfl (q4.1 w hw), fun t => (q4.2 t).moved (Vm.Alike.refl U.vm)⟩, va_X.moved (u := U) (U := U.calling g mk a) (Vm.Alike.refl U.vm) q5, q6⟩
/-- no number of objects falls -/
theorem x_put_n {h h' : Hp} {i k kd : Nat} {v : Value} (hp : x_put h i k kd v = some h') : h'.1 = h.1 := by
  unfold x_put at hp
  split at hp
  · cases hp; rfl
  · cases hp; rfl
  · cases hp; rfl
  · cases hp; rfl
  · simp only [Bool.cond_eq_ite] at hp
    split at hp
    · cases hp; rfl
    · cases hp
  · cases hp
theorem x_aput_n {h h' : Hp} {a i k t : Nat} {v : Value} (hp : x_aput h a i k t v = some h') : h'.1 = h.1 := by
  unfold x_aput at hp
  split at hp
  · cases hp; rfl
  · cases hp; rfl
  · simp only [Bool.cond_eq_ite] at hp
    split at hp
    · cases hp; rfl
    · cases hp
  · simp only [Bool.cond_eq_ite] at hp
    split at hp
    · cases hp; rfl
    · cases hp
  · cases hp
theorem x_step_n {L : Nat} {xs : Nat → Int32} {j pc : Nat} {en : x_E} {ls : x_L} {st : List Value} {h : Hp} {q : Nat × x_L × List Value × Hp} (hs : x_step L xs j en pc ls st h = some (.inl q)) : h.1 ≤ q.2.2.2.1 := by
  obtain ⟨o, len, a, d, v, t⟩ := en
  rcases (show o = 0 ∨ o = 1 ∨ o = 2 ∨ o = 3 ∨ o = 4 ∨ o = 5 ∨ o = 6 ∨ o = 7 ∨ o = 8 ∨ o = 9 ∨ o = 10 ∨ o = 11 ∨ o = 12 ∨ o = 13 ∨ o = 14 ∨ o = 15 ∨ o = 16 ∨ o = 17 ∨ o = 18 ∨ o = 19 ∨ o = 20 ∨ o = 21 ∨ o = 22 ∨ o = 23 ∨ o = 24 ∨ o = 25 ∨ o = 26 ∨ o = 27 ∨ 28 ≤ o by omega) with rfl | rfl | rfl | rfl | rfl | rfl | rfl | rfl | rfl | rfl | rfl | rfl | rfl | rfl | rfl | rfl | rfl | rfl | rfl | rfl | rfl | rfl | rfl | rfl | rfl | rfl | rfl | rfl | ho
  · obtain ⟨_, _, _, rfl⟩ := inv0 hs; exact Nat.le_refl _
  · obtain ⟨_, _, _, _, _, rfl⟩ := inv1 hs; exact Nat.le_refl _
  · obtain rfl := inv2 hs; exact Nat.le_refl _
  · obtain ⟨_, _, _, _, _, _, rfl⟩ := inv3 hs; exact Nat.le_refl _
  · obtain ⟨_, _, _, _, _, _, rfl⟩ := inv4 hs; exact Nat.le_refl _
  · obtain ⟨_, _, _, _, rfl⟩ := inv5 hs; exact Nat.le_refl _
  · obtain ⟨_, _, _, _, _, rfl⟩ := inv6 hs; exact Nat.le_refl _
  · obtain ⟨_, _, _, _, rfl⟩ := inv7 hs; exact Nat.le_refl _
  · obtain ⟨_, _, rfl⟩ := inv8 hs; exact Nat.le_refl _
  · obtain ⟨_, _, _, ⟨_, rfl⟩ | ⟨_, rfl⟩⟩ := inv9 hs <;> exact Nat.le_refl _
  · obtain ⟨_, _, _, _, ⟨_, rfl⟩ | ⟨_, rfl⟩⟩ := inv10 hs <;> exact Nat.le_refl _
  · obtain ⟨_, ⟨_, rfl⟩ | ⟨_, _, rfl⟩⟩ := inv11 hs <;> exact Nat.le_refl _
  · obtain rfl := inv12 hs; exact Nat.le_refl _
  · obtain ⟨_, _, _, rfl⟩ := inv13 hs; exact Nat.le_refl _
  · obtain ⟨_, _, _, rfl⟩ := inv14 hs; exact Nat.le_refl _
  · cases v with
    | int z => obtain ⟨_, _, rfl⟩ := inv15 hs; exact Nat.le_refl _
    | _ => simp [x_step] at hs
  · obtain ⟨_, _, _, _, _, rfl⟩ := inv16 hs; exact Nat.le_refl _
  · obtain ⟨_, _, _, _, _, _, _, hp, rfl⟩ := inv17 hs; exact Nat.le_of_eq (x_put_n hp).symm
  · rcases inv18 hs with ⟨_, _, _, _, _, _, _, rfl⟩ | ⟨_, _, _, _, _, _, rfl⟩ <;> exact Nat.le_refl _
  · obtain ⟨_, _, _, _, _, _, _, _, _, hp, rfl⟩ := inv19 hs; exact Nat.le_of_eq (x_aput_n hp).symm
  · rcases inv20 hs with ⟨_, _, _, _, _, rfl⟩ | ⟨_, _, _, rfl⟩ <;> exact Nat.le_refl _
  · obtain ⟨_, rfl⟩ := inv21 hs; exact Nat.le_succ _
  · obtain ⟨_, _, _, _, _, _, rfl⟩ := inv22 hs; exact Nat.le_succ _
  · obtain ⟨_, _, _, _, _, _, rfl⟩ := inv23 hs; exact Nat.le_succ _
  · rcases inv24 hs with ⟨_, _, _, _, _, _, _, rfl⟩ | ⟨_, _, _, _, _, _, _, rfl⟩ <;> exact Nat.le_refl _
  · obtain ⟨_, _, _, _, rfl⟩ := inv25 hs; exact Nat.le_refl _
  · obtain ⟨_, _, _, _, _, _, _, _, _, _, _, _, _, _, _, _, _, rfl⟩ := inv26 hs; exact Nat.le_refl _
  · exact (inv27 hs).elim
  · exfalso
    obtain ⟨n, rfl⟩ : ∃ n, o = n + 28 := ⟨o - 28, by omega⟩
    cases hs
theorem ev_n {L : Nat} {xs : Nat → Int32} : ∀ (f j pc : Nat) (ls : x_L) (st : List Value) (h : Hp) (r : Option Value × Hp), ev L xs f j pc ls st h = some r → h.1 ≤ r.2.1
  | 0, _, _, _, _, _, _, hr => by cases hr
  | f + 1, j, pc, ls, st, h, r, hr => by
    rw [ev_S] at hr
    split at hr
    · cases hr
    · split at hr
      · cases hr
      · rename_i hs
        exact Nat.le_trans (x_step_n hs) (ev_n f _ _ _ _ _ _ hr)
      · split at hr
        · cases hr
        · rename_i h2
          exact Nat.le_trans (ev_n f _ _ _ _ _ _ h2) (ev_n f _ _ _ _ _ _ hr)
      · cases hr
        exact Nat.le_refl _
/-- what a call is -/
theorem inv_call {L : Nat} {xs : Nat → Int32} {j pc : Nat} {en : x_E} {ls : x_L} {st : List Value} {h : Hp} {q : Nat × List Value × List Value} (hs : x_step L xs j en pc ls st h = some (.inr (.inl q))) : en.1 = 24 ∧ en.2.2.1 = q.1 ∧ q.1 ≠ 196 ∧ q.1 ≠ 197 ∧ st = q.2.1.reverse ++ q.2.2 ∧ q.2.1.length = MA q.1 ∧ x_cats q.2.1 ≤ ML q.1 ∧ x_cats q.2.2 ≤ 8 ∧ x_rcv q.1 en.2.2.2.1 q.2.1 h = true := by
  obtain ⟨o, len, a, d, v, t⟩ := en
  by_cases ho : o = 24
  · subst ho
    simp only [x_step] at hs
    cases h1 : Nat.beq a 196 with
    | true =>
      rw [h1, cond_true] at hs
      split at hs
      · simp only [Bool.cond_eq_ite] at hs
        split at hs <;> cases hs
      · cases hs
    | false =>
      rw [h1, cond_false] at hs
      cases h2 : Nat.beq a 197 with
      | true =>
        rw [h2, cond_true] at hs
        split at hs
        · simp only [Bool.cond_eq_ite] at hs
          split at hs <;> cases hs
        · cases hs
      | false =>
        rw [h2, cond_false] at hs
        simp only [x_call, Bool.cond_eq_ite] at hs
        split at hs
        · rename_i hb
          cases hs
          simp only [Bool.and_eq_true] at hb
          have n1 : a ≠ 196 := fun q => by rw [q] at h1; cases h1
          have n2 : a ≠ 197 := fun q => by rw [q] at h2; cases h2
          have hle : MA a ≤ st.length := Nat.le_of_ble_eq_true hb.1
          have hc : ∀ l : List Value, x_cats l.reverse = x_cats l := fun l => by
            unfold x_cats
            rw [List.map_reverse, List.sum_reverse]
          refine ⟨rfl, rfl, n1, n2, ?_, ?_, ?_, Nat.le_of_ble_eq_true hb.2.2.1, hb.2.2.2⟩
          · show st = (st.take (MA a)).reverse.reverse ++ st.drop (MA a)
            rw [List.reverse_reverse, List.take_append_drop]
          · show (st.take (MA a)).reverse.length = MA a
            rw [List.length_reverse, List.length_take]
            omega
          · show x_cats (st.take (MA a)).reverse ≤ ML a
            rw [hc]
            exact Nat.le_of_ble_eq_true hb.2.1
        · cases hs
  · exfalso
    rcases (show o = 0 ∨ o = 1 ∨ o = 2 ∨ o = 3 ∨ o = 4 ∨ o = 5 ∨ o = 6 ∨ o = 7 ∨ o = 8 ∨ o = 9 ∨ o = 10 ∨ o = 11 ∨ o = 12 ∨ o = 13 ∨ o = 14 ∨ o = 15 ∨ o = 16 ∨ o = 17 ∨ o = 18 ∨ o = 19 ∨ o = 20 ∨ o = 21 ∨ o = 22 ∨ o = 23 ∨ o = 25 ∨ o = 26 ∨ o = 27 ∨ 28 ≤ o by omega) with rfl | rfl | rfl | rfl | rfl | rfl | rfl | rfl | rfl | rfl | rfl | rfl | rfl | rfl | rfl | rfl | rfl | rfl | rfl | rfl | rfl | rfl | rfl | rfl | rfl | rfl | rfl | ho
    all_goals first
      | (obtain ⟨n, rfl⟩ : ∃ n, o = n + 28 := ⟨o - 28, by omega⟩
         cases hs)
      | (simp only [x_step, x_nx, Bool.cond_eq_ite] at hs
         repeat' split at hs
         all_goals (cases hs; done))
      | (cases v with
         | int z =>
           simp only [x_step, x_nx] at hs
           split at hs <;> cases hs
         | _ => simp [x_step] at hs)
theorem inv_ret {L : Nat} {xs : Nat → Int32} {j pc : Nat} {en : x_E} {ls : x_L} {st : List Value} {h : Hp} {r : Option Value} (hs : x_step L xs j en pc ls st h = some (.inr (.inr r))) : en.1 = 27 ∧ x_rt j en.2.2.1 st = some r := by
  obtain ⟨o, len, a, d, v, t⟩ := en
  by_cases ho : o = 27
  · subst ho
    simp only [x_step] at hs
    split at hs
    · rename_i hq
      cases hs
      exact ⟨rfl, hq⟩
    · cases hs
  · exfalso
    rcases (show o = 0 ∨ o = 1 ∨ o = 2 ∨ o = 3 ∨ o = 4 ∨ o = 5 ∨ o = 6 ∨ o = 7 ∨ o = 8 ∨ o = 9 ∨ o = 10 ∨ o = 11 ∨ o = 12 ∨ o = 13 ∨ o = 14 ∨ o = 15 ∨ o = 16 ∨ o = 17 ∨ o = 18 ∨ o = 19 ∨ o = 20 ∨ o = 21 ∨ o = 22 ∨ o = 23 ∨ o = 24 ∨ o = 25 ∨ o = 26 ∨ 28 ≤ o by omega) with rfl | rfl | rfl | rfl | rfl | rfl | rfl | rfl | rfl | rfl | rfl | rfl | rfl | rfl | rfl | rfl | rfl | rfl | rfl | rfl | rfl | rfl | rfl | rfl | rfl | rfl | rfl | ho
    all_goals first
      | (obtain ⟨n, rfl⟩ : ∃ n, o = n + 28 := ⟨o - 28, by omega⟩
         cases hs)
      | (simp only [x_step, x_nx, x_call, Bool.cond_eq_ite] at hs
         repeat' split at hs
         all_goals (cases hs; done))
      | (cases v with
         | int z =>
           simp only [x_step, x_nx] at hs
           split at hs <;> cases hs
         | _ => simp [x_step] at hs)
