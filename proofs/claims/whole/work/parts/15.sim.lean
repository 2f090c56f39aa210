/-! 'ev' is the machine: whatever 'ev' answers, the machine comes to. -/
/-- the end of a body: what is to be shown where it returns -/
def x_fin (p : Program) (l : Launch) (e : Env) (R : Room) (s : State) (m : MethodId) (args : Array Value) (below : List Frame) (meth : Method) (c : Code) (Q : State → Prop) (b B0 : Nat) (KA : Nat → ClassId) (D : va_G) (n0 j : Nat) (r : Option Value) (h' : Hp) : Prop :=
  ∀ (pc a : Nat) (i : Instr) (st : List Value) (H : Heap) (locs : List Loc) (sl : Array Slot), decode (MB j) pc = .ok (i, 1) → ((i = .ireturn ∧ a = 0) ∨ (i = .lreturn ∧ a = 1) ∨ (i = .areturn ∧ a = 2) ∨ (i = .return_ ∧ a = 3)) → x_rt j a st = some r → va_P D vwCl (x_ws KA B0 h') H → va_S (fun q : Nat => B0 ≤ q) s.heap H locs → W p l e R s m args below meth c H locs (h'.1 - n0) (x_ss h'.1 - x_ss n0) Q (F0 m pc sl (st.map (x_cv b B0)))
def x_Sim (l : Launch) (b B0 L : Nat) (xs : Nat → Int32) (KA : Nat → ClassId) (D : va_G) (f : Nat) : Prop :=
  ∀ {p : Program} {e : Env} {R : Room} {s : State} {m : MethodId} {args : Array Value} {below : List Frame} {meth : Method} {c : Code} {Q : State → Prop} {n0 j : Nat} {pc : Nat} {ls : x_L} {st : List Value} {h h' : Hp} {r : Option Value}, ev L xs f j pc ls st h = some (r, h') → x_CX p s m args meth c j L xs b B0 n0 KA D → MF j ≤ R.frames → MO j ≤ R.locals → n0 ≤ h.1 → h'.1 - n0 ≤ R.cells → x_ss h'.1 - x_ss n0 ≤ R.slots → x_fin p l e R s m args below meth c Q b B0 KA D n0 j r h' → x_WW p l e R s m args below meth c Q b B0 KA D n0 (ML j) pc ls st h
theorem x_rtv {x : Int32} (h : x_ok01 x = true) : narrow .boolean (.int x) = .int x := by
  simp only [x_ok01, Bool.or_eq_true, decide_eq_true_eq] at h
  rcases h with rfl | rfl <;> rfl
/-- the end of a method -/
theorem x_fin_met {p : Program} {l : Launch} {e : Env} {R : Room} {s : State} {m : MethodId} {args : Array Value} {below : List Frame} {meth : Method} {c : Code} {b B0 L n0 j : Nat} {xs : Nat → Int32} {KA : Nat → ClassId} {D : va_G} {r : Option Value} {h' : Hp} (C : x_CX p s m args meth c j L xs b B0 n0 KA D) (hn : n0 ≤ h'.1) : x_fin p l e R s m args below meth c (MQ below (fun _ st o t => o = .returned (r.map (x_cv b B0)) ∧ x_OK b B0 L xs KA D h' t ∧ va_F (fun q : Nat => B0 ≤ q) st t) args s (h'.1 - n0) (x_ss h'.1 - x_ss n0) (fun q : Nat => B0 ≤ q)) b B0 KA D n0 j r h' := by
  intro pc a i st H locs sl hd hi hr P S
  refine x_sized fun hle => ?_
  obtain ⟨hz, -⟩ := x_size hn C.2.2.2.2.2.2.2.2.2.2.2.2 P S hle
  have hlk := C.2.2.2.2.2.2.2.1
  have hok : ∀ t : State, t.heap = H → s.WarmedH t.vm → x_OK b B0 L xs KA D h' t ∧ va_F (fun q : Nat => B0 ≤ q) s t := by
    intro t ht hW
    have hbl : b < s.heap.size := by have := C.2.2.2.2.2.2.2.2.2.2.2; omega
    refine ⟨⟨by rw [ht]; exact hz, by rw [ht]; exact P, va_K.moved hW.alike C.2.2.2.2.2.2.2.2.1, C.2.2.2.2.2.2.2.2.2.1.moved hW, ?_, C.2.2.2.2.2.2.2.2.2.2.2.1⟩, S.F ht⟩
    rw [ht]
    exact (va_X.moved hW.alike C.2.2.2.2.2.2.2.2.2.2.1).kept (S.2.1 b hbl (Nat.not_le.mpr C.2.2.2.2.2.2.2.2.2.2.2.1))
  have hret := C.2.2.2.2.2.1
  rcases hi with ⟨rfl, rfl⟩ | ⟨rfl, rfl⟩ | ⟨rfl, rfl⟩ | ⟨rfl, rfl⟩
  · unfold x_rt at hr
    split at hr <;> rename_i hq
    · split at hr <;> rename_i hty
      · cases hr
        exact W.iret C.1 C.2.1 (hret.trans hty) (fun t ht hW => ⟨rfl, hok t ht hW⟩) S.2.2 hd hlk
      · simp only [Bool.cond_eq_ite] at hr
        split at hr
        · rename_i h01
          cases hr
          exact W.zret C.1 C.2.1 (hret.trans hty) (x_rtv h01) (fun t ht hW => ⟨rfl, hok t ht hW⟩) S.2.2 hd hlk
        · cases hr
      · cases hr
    all_goals first | cases hq | (cases hr; done)
  · unfold x_rt at hr
    split at hr <;> rename_i hq
    · cases hq
    · split at hr <;> rename_i hty
      · cases hr
        exact W.lret C.1 C.2.1 (hret.trans hty) (fun t ht hW => ⟨rfl, hok t ht hW⟩) S.2.2 hd hlk
      · cases hr
    all_goals first | cases hq | (cases hr; done)
  · unfold x_rt at hr
    split at hr <;> rename_i hq
    · cases hq
    · cases hq
    · split at hr <;> rename_i hty
      · cases hr
        exact W.aret C.1 C.2.1 (hret.trans hty) (Or.inl ⟨_, rfl⟩) (Or.inr ⟨_, rfl⟩) (fun t ht hW => ⟨rfl, hok t ht hW⟩) S.2.2 hd hlk
      · cases hr
    · split at hr <;> rename_i hty
      · cases hr
        exact W.aret C.1 C.2.1 (hret.trans hty) (Or.inl ⟨_, rfl⟩) (Or.inl rfl) (fun t ht hW => ⟨rfl, hok t ht hW⟩) S.2.2 hd hlk
      · cases hr
    all_goals first | cases hq | (cases hr; done)
  · unfold x_rt at hr
    split at hr <;> rename_i hq
    · cases hq
    · cases hq
    · cases hq
    · cases hq
    · split at hr <;> rename_i hty
      · cases hr
        exact W.vret C.1 C.2.1 (hret.trans hty) (fun t ht hW => ⟨rfl, hok t ht hW⟩) S.2.2 hd hlk
      · cases hr
    all_goals first | cases hq | (cases hr; done)
/-- a method's contract out of its body -/
theorem x_metOf {l : Launch} {b B0 L : Nat} {xs : Nat → Int32} {KA : Nat → ClassId} {D : va_G} {f k : Nat} (ih : x_Sim l b B0 L xs KA D f) (hk : x_mck k = true) {As : List Value} {h h' : Hp} {r : Option Value} (hc : x_cats As ≤ ML k) (hev : ev L xs f k 0 (x_loc (ML k) As) [] h = some (r, h')) : x_Met l b B0 L xs KA D k As h r h' := by
  have M := x_m_all hk
  refine Met.ofW (cc := MB k) (maxL := ML k) (ret := MR k) M.2.2.1 rfl ?_
  intro p e s m args below meth c s₁ B hml hv
  obtain ⟨rfl, hz, hP, hK, hN, hX, hb⟩ := hv
  have hts := atoms_spec (ws := x_cws k) B.pre
  have hown : s.vm.findClass (MN k).cls = some m.cls := findClass_of_methodNamed B.named
  have hnm : meth.name = (MN k).name := (name_of_methodNamed B.named B.method).1
  have C : x_CX p s m ((As.map (x_cv b B0)).toArray) meth c k L xs b B0 h.1 KA D := ⟨B.exec, B.bytes, hml, hown, fun w hw => hts w (List.mem_cons_of_mem _ hw), B.returns, fun h9 => hnm.trans h9, B.notSynchronized, hK, hN, hX, hb, hz⟩
  rw [lg_entry_eq]
  have h1 := ih (R := (headSpec (x_cws k) ({ frames := MF k, cells := h'.1 - h.1, slots := x_ss h'.1 - x_ss h.1, locals := MO k })).room) hev C (Nat.le_refl _) (Nat.le_refl _) (Nat.le_refl _) (Nat.le_refl _) (Nat.le_refl _) (x_fin_met (l := l) (e := e) (R := (headSpec (x_cws k) ({ frames := MF k, cells := h'.1 - h.1, slots := x_ss h'.1 - x_ss h.1, locals := MO k })).room) (below := below) (r := r) C (ev_n _ _ _ _ _ _ _ hev)) s.heap [] _ hP va_S.rf (x_LOC.entry hc)
  rw [Nat.sub_self, Nat.sub_self] at h1
  exact h1
/-- behind a call -/
theorem x_after {p : Program} {l : Launch} {e : Env} {R : Room} {s : State} {m : MethodId} {args : Array Value} {below : List Frame} {meth : Method} {c : Code} {Q : State → Prop} {b B0 L n0 j : Nat} {xs : Nat → Int32} {KA : Nat → ClassId} {D : va_G} {H : Heap} {locs : List Loc} {sl : Array Slot} {pc : Nat} {ls : x_L} {st0 rest : List Value} {h h1 : Hp} {r1 : Option Value} {free : Addr → Prop} (hfree : ∀ q, free q → B0 ≤ q) (hn : n0 ≤ h.1) (h01 : h.1 ≤ h1.1) (S : va_S (fun q : Nat => B0 ≤ q) s.heap H locs) (O : x_LOC b B0 (ML j) sl ls)
    (hr : va_Run p l e R s m args below meth c H locs (h.1 - n0) (x_ss h.1 - x_ss n0) (h1.1 - h.1) (x_ss h1.1 - x_ss h.1) (F0 m pc sl st0) (rest.map (x_cv b B0)) (fun (st : State) (o : Outcome) (t : State) => o = .returned (r1.map (x_cv b B0)) ∧ x_OK b B0 L xs KA D h1 t ∧ va_F (fun q : Nat => B0 ≤ q) st t) free)
    (kk : x_WW p l e R s m args below meth c Q b B0 KA D n0 (ML j) (pc + 3) ls (r1.toList ++ rest) h1) : W p l e R s m args below meth c H locs (h.1 - n0) (x_ss h.1 - x_ss n0) Q (F0 m pc sl st0) := by
  intro T hT X
  obtain ⟨v, st₀, t, T', L', g0, X', hL, e1, e2, ⟨hv, hO, hF⟩, st⟩ := hr T hT X
  cases hv
  have m1 := x_ss_mono hn
  have m2 := x_ss_mono h01
  have c1 : h.1 - n0 + (h1.1 - h.1) = h1.1 - n0 := by omega
  have c2 : x_ss h.1 - x_ss n0 + (x_ss h1.1 - x_ss h.1) = x_ss h1.1 - x_ss n0 := by omega
  rw [c1, c2] at X'
  have hz := hF.1
  have hkp := hF.2
  rw [g0] at hz hkp
  have S' : va_S (fun q : Nat => B0 ≤ q) s.heap T'.heap (locs ++ L') := ⟨Nat.le_trans S.1 (by rw [e1]; exact hz), fun q h1 h2 => by rw [e1, hkp q (Nat.lt_of_lt_of_le h1 S.1) h2]; exact S.2.1 q h1 h2, fun q hq => by
    rcases List.mem_append.mp hq with h | h
    · exact S.2.2 q h
    · exact hfree _ (hL q h)⟩
  obtain ⟨t2, a1, b1⟩ := kk T'.heap (locs ++ L') sl (by rw [e1]; exact hO.2.1) S' O T' rfl X'
  refine ⟨t2, st t2 ?_, b1⟩
  have he : (r1.map (x_cv b B0)).toList ++ rest.map (x_cv b B0) = (r1.toList ++ rest).map (x_cv b B0) := by cases r1 <;> rfl
  show Steps _ _ _ (T'.setTop { method := m, pc := pc + 3, locals := sl, stack := (r1.map (x_cv b B0)).toList ++ rest.map (x_cv b B0), locked := none }) _
  rw [he]
  exact a1
set_option maxHeartbeats 4000000 in
theorem x_callW {l : Launch} {b B0 L : Nat} {xs : Nat → Int32} {KA : Nat → ClassId} {D : va_G} {f : Nat} (ih : x_Sim l b B0 L xs KA D f) {p : Program} {e : Env} {R : Room} {s : State} {m : MethodId} {args : Array Value} {below : List Frame} {meth : Method} {c : Code} {Q : State → Prop} {n0 j : Nat} {pc : Nat} {ls : x_L} {h : Hp} {k ix : Nat} {As rest : List Value} {en : x_E} {i : Instr} {r1 : Option Value × Hp} (C : x_CX p s m args meth c j L xs b B0 n0 KA D) (hn : n0 ≤ h.1) (hfr : MF j ≤ R.frames) (hlo : MO j ≤ R.locals) (hcap1 : r1.2.1 - n0 ≤ R.cells) (hcap2 : x_ss r1.2.1 - x_ss n0 ≤ R.slots) (hd : decode (MB j) pc = .ok (i, en.2.1)) (hk : x_ck j pc en i ix = true) (ho : en.1 = 24) (hkk : en.2.2.1 = k) (n1 : k ≠ 196) (n2 : k ≠ 197) (hlen : As.length = MA k) (hca : x_cats As ≤ ML k) (hcr : x_cats rest ≤ 8) (hrc : x_rcv k en.2.2.2.1 As h = true) (hev : ev L xs f k 0 (x_loc (ML k) As) [] h = some r1) (kk : x_WW p l e R s m args below meth c Q b B0 KA D n0 (ML j) (pc + 3) ls (r1.1.toList ++ rest) r1.2) : x_WW p l e R s m args below meth c Q b B0 KA D n0 (ML j) pc ls (As.reverse ++ rest) h := by
  obtain ⟨o, len, k', d, v, t⟩ := en
  have ho : o = 24 := ho
  have hkk : k' = k := hkk
  subst ho; subst hkk
  have h01 := ev_n _ _ _ _ _ _ _ hev
  intro H locs sl P S O
  refine x_sized fun hle => ?_
  obtain ⟨hz, -⟩ := x_size hn C.2.2.2.2.2.2.2.2.2.2.2.2 P S hle
  have m1 := x_ss_mono hn
  have m2 := x_ss_mono h01
  have hf1 : h.1 - n0 + (r1.2.1 - h.1) ≤ R.cells := by omega
  have hf2 : x_ss h.1 - x_ss n0 + (x_ss r1.2.1 - x_ss h.1) ≤ R.slots := by omega
  have hbl : b < s.heap.size := by have := C.2.2.2.2.2.2.2.2.2.2.2; omega
  have hpre : ∀ U : State, U.heap = H → s.WarmedH U.vm → va_Pc (As.map (x_cv b B0)) (x_OK b B0 L xs KA D h) (As.map (x_cv b B0)).toArray U := by
    intro U hU hW
    refine ⟨rfl, by rw [hU]; exact hz, by rw [hU]; exact P, va_K.moved hW.alike C.2.2.2.2.2.2.2.2.1, C.2.2.2.2.2.2.2.2.2.1.moved hW, ?_, C.2.2.2.2.2.2.2.2.2.2.2.1⟩
    rw [hU]
    exact (va_X.moved hW.alike C.2.2.2.2.2.2.2.2.2.2.1).kept (S.2.1 b hbl (Nat.not_le.mpr C.2.2.2.2.2.2.2.2.2.2.2.1))
  have hrs : 2 * (F0 m pc sl ((As.reverse ++ rest).map (x_cv b B0))).monitorRoom + ((rest.map (x_cv b B0)).map fun v => v.category).sum ≤ 8 := by
    rw [x_cv_cats]
    show 2 * 0 + _ ≤ 8
    omega
  have fix : CallFix p m c (MB j) (ML j) s args x_all (MN j).cls := ⟨C.1, C.2.1, C.2.2.1, C.2.2.2.1, C.2.2.2.2.1⟩
  have hstk : (As.reverse ++ rest).map (x_cv b B0) = (As.map (x_cv b B0)).reverse ++ rest.map (x_cv b B0) := by rw [List.map_append, List.map_reverse]
  have lnk : ∀ n m', x_lnk j n k' m' ix = true → k' < 200 ∧ MF k' + 1 ≤ R.frames ∧ 8 + (ML k' + 11) + MO k' ≤ R.locals ∧ (if m' < 3 then Cond.methodLink (MN j).cls n (MN k') ∈ x_all else (ix, (MN j).cls, n, MN k', "FloorTurn") ∈ x_nwl) := by
    intro n m' hl
    simp only [x_lnk, Bool.and_eq_true, Nat.blt_eq] at hl
    obtain ⟨g1, g2, g3, g4⟩ := hl
    have g3 := Nat.le_of_ble_eq_true g3
    have g0 : k' ≠ 200 := by
      rintro rfl
      have : MR 200 = some .boolean := by decide +kernel
      have h9 : x_kd 200 = 9 := by decide +kernel
      unfold x_rcv at hrc
      simp only [h9] at hrc
      split at hrc <;> simp at hrc
    refine ⟨by omega, by omega, by omega, ?_⟩
    by_cases hm : m' < 3
    · rw [if_pos hm]
      rw [show Nat.blt m' 3 = true by rw [Nat.blt_eq]; exact hm, cond_true] at g4
      exact x_wd_in g4
    · rw [if_neg hm]
      rw [show Nat.blt m' 3 = false by rw [← Bool.not_eq_true, Nat.blt_eq]; exact hm, cond_false, decide_eq_true_eq] at g4
      exact g4
  cases i with
  | invokevirtual n =>
    simp only [x_ck, Bool.and_eq_true, decide_eq_true_eq] at hk
    obtain ⟨⟨-, rfl, rfl⟩, hl⟩ := hk
    obtain ⟨g1, g2, g3, g4⟩ := lnk _ _ hl
    have mk := x_mok g1 n1 n2
    have M := x_m_all mk
    cases As with
    | nil => cases hrc
    | cons w As =>
      cases w <;> try (cases hrc; done)
      rename_i y
      simp only [x_rcv, Bool.and_eq_true] at hrc
      have M0 := x_m_0 mk (Nat.eq_of_beq_eq_true hrc.1)
      obtain ⟨hy, hsy⟩ := x_is_inv hrc.2
      have hM : x_Met l b B0 L xs KA D k' (.ref y :: As) h r1.1 r1.2 := x_metOf ih mk hca hev
      have cw : CallW R s args (MN j).cls (MN k').cls n (MN k') (MB k') (ML k') (MR k') (x_cws k') ({ frames := MF k', cells := r1.2.1 - h.1, slots := x_ss r1.2.1 - x_ss h.1, locals := MO k' }) (r1.2.1 - h.1) (x_ss r1.2.1 - x_ss h.1) As.length := ⟨⟨rfl, rfl, g2, g3, pay_in C.2.2.2.2.1 (x_cws_good mk), List.mem_cons_self, C.2.2.2.2.1 _ M.1, C.2.2.2.2.1 _ M.2.1, M.2.2.2, fun sig hsig => by
        have h2 := M0.2.2.1
        rw [hsig] at h2
        have h3 : sig.parameters.length + 1 = MA k' := Option.some.inj h2
        have h4 : As.length + 1 = MA k' := hlen
        omega, C.2.2.2.2.1 _ g4⟩, C.2.2.2.2.1 _ M0.1, C.2.2.2.2.1 _ M0.2.1⟩
      have hcell : ∃ cellB : Cell, H[B0 + y]? = some cellB ∧ cellB.vm.isStatics = false ∧ s.vm.findClass (MN k').cls = some cellB.cls := by
        have := va_recv (q0 := y) (ci := MC k') C.2.2.2.2.2.2.2.2.1 P (x_cf _ M0.2.2.2.1).1 (by rw [x_ws_get hy, x_en_obj M0.2.2.2.1 hsy])
        rw [← M0.2.2.2.2]
        exact this
      have hrun := va_runV (b := B0 + y) (As := As.map (x_cv b B0)) (rest := rest.map (x_cv b B0)) (e := e) (below := below) (meth := meth) (locs := locs) (g := F0 m pc sl (((.ref y :: As).reverse ++ rest).map (x_cv b B0))) fix hM cw ⟨x_blind, hcell, hpre⟩ rfl (by rw [List.length_map]) O.2.1 (by
        show ((Value.ref y :: As).reverse ++ rest).map (x_cv b B0) = _
        rw [hstk, List.map_cons, List.reverse_cons, List.append_assoc]
        rfl) hrs hd ⟨hf1, hf2⟩
      exact x_after (fun q hq => hq) hn h01 S O hrun kk
  | invokespecial n =>
    simp only [x_ck, Bool.and_eq_true, Bool.or_eq_true, decide_eq_true_eq] at hk
    rcases hk with ⟨⟨-, rfl, rfl, hrn, hnm⟩, hl⟩ | ⟨⟨-, rfl, rfl, hrn, hnm⟩, hl⟩ | ⟨⟨hq, -⟩, -⟩
    · obtain ⟨g1, g2, g3, g4⟩ := lnk _ _ hl
      have mk := x_mok g1 n1 n2
      have M := x_m_all mk
      cases As with
      | nil => cases hrc
      | cons w As =>
        cases w <;> try (cases hrc; done)
        rename_i y
        simp only [x_rcv] at hrc
        have M0 := x_m_2 mk (Nat.eq_of_beq_eq_true hrc)
        have hM : x_Met l b B0 L xs KA D k' (.ref y :: As) h r1.1 r1.2 := x_metOf ih mk hca hev
        have cw : CallB R s args (MN j).cls n (MN k') (MB k') (ML k') none (x_cws k') ({ frames := MF k', cells := r1.2.1 - h.1, slots := x_ss r1.2.1 - x_ss h.1, locals := MO k' }) (r1.2.1 - h.1) (x_ss r1.2.1 - x_ss h.1) As.length ∧ (MN k').name = "<init>" ∧ (Cond.instanceMethod (MN k')).before args s = true := ⟨⟨rfl, rfl, g2, g3, pay_in C.2.2.2.2.1 (x_cws_good mk), by rw [← hrn]; exact List.mem_cons_self, by have := C.2.2.2.2.1 _ M.1; rw [hrn] at this; exact this, C.2.2.2.2.1 _ M.2.1, M.2.2.2, fun sig hsig => by
          have h2 := M0.2.1
          rw [hsig] at h2
          have h3 : sig.parameters.length + 1 = MA k' := Option.some.inj h2
          have h4 : As.length + 1 = MA k' := hlen
          omega, C.2.2.2.2.1 _ g4⟩, M0.2.2, C.2.2.2.2.1 _ M0.1⟩
        have hrun := va_runI (b := B0 + y) (As := As.map (x_cv b B0)) (rest := rest.map (x_cv b B0)) (e := e) (below := below) (meth := meth) (locs := locs) (g := F0 m pc sl (((.ref y :: As).reverse ++ rest).map (x_cv b B0))) fix hM cw ⟨x_blind, hpre⟩ rfl (by rw [List.length_map]) O.2.1 (by
          show ((Value.ref y :: As).reverse ++ rest).map (x_cv b B0) = _
          rw [hstk, List.map_cons, List.reverse_cons, List.append_assoc]
          rfl) hrs hd ⟨hf1, hf2⟩
        exact x_after (fun q hq => hq) hn h01 S O hrun kk
    · obtain ⟨g1, g2, g3, g4⟩ := lnk _ _ hl
      have mk := x_mok g1 n1 n2
      have M := x_m_all mk
      cases As with
      | nil => cases hrc
      | cons w As =>
        cases w <;> try (cases hrc; done)
        rename_i y
        simp only [x_rcv] at hrc
        have M0 := x_m_2 mk (Nat.eq_of_beq_eq_true hrc)
        have hM : x_Met l b B0 L xs KA D k' (.ref y :: As) h r1.1 r1.2 := x_metOf ih mk hca hev
        have hnw : va_Nw (.methodLinkNest (MN j).cls n (MN k') "FloorTurn") s := C.2.2.2.2.2.2.2.2.2.1.1 _ g4
        have cw : va_CN R s args (MN j).cls n (MN k') "FloorTurn" (MB k') (ML k') none (x_cws k') ({ frames := MF k', cells := r1.2.1 - h.1, slots := x_ss r1.2.1 - x_ss h.1, locals := MO k' }) (r1.2.1 - h.1) (x_ss r1.2.1 - x_ss h.1) As.length ∧ (MN k').name = "<init>" ∧ (Cond.instanceMethod (MN k')).before args s = true := ⟨⟨⟨rfl, rfl, g2, g3, pay_in C.2.2.2.2.1 (x_cws_good mk), by rw [← hrn]; exact List.mem_cons_self⟩, by have := C.2.2.2.2.1 _ M.1; rw [hrn] at this; exact this, C.2.2.2.2.1 _ M.2.1, M.2.2.2, fun sig hsig => by
          have h2 := M0.2.1
          rw [hsig] at h2
          have h3 : sig.parameters.length + 1 = MA k' := Option.some.inj h2
          have h4 : As.length + 1 = MA k' := hlen
          omega, va_Nw.use rfl hnw⟩, M0.2.2, C.2.2.2.2.1 _ M0.1⟩
        have hrun := va_runIN (b := B0 + y) (As := As.map (x_cv b B0)) (rest := rest.map (x_cv b B0)) (e := e) (below := below) (meth := meth) (locs := locs) (g := F0 m pc sl (((.ref y :: As).reverse ++ rest).map (x_cv b B0))) fix hM cw ⟨x_blind, hpre⟩ rfl (by rw [List.length_map]) O.2.1 (by
          show ((Value.ref y :: As).reverse ++ rest).map (x_cv b B0) = _
          rw [hstk, List.map_cons, List.reverse_cons, List.append_assoc]
          rfl) hrs hd ⟨hf1, hf2⟩
        exact x_after (fun q hq => hq) hn h01 S O hrun kk
    · exact absurd hq (by decide)
  | invokestatic n =>
    simp only [x_ck, Bool.and_eq_true, Bool.or_eq_true, decide_eq_true_eq] at hk
    rcases hk with ⟨⟨-, rfl, rfl⟩, hl⟩ | ⟨⟨-, rfl, rfl⟩, hl⟩ | ⟨⟨hq, -⟩, -⟩
    · obtain ⟨g1, g2, g3, g4⟩ := lnk _ _ hl
      have mk := x_mok g1 n1 n2
      have M := x_m_all mk
      simp only [x_rcv] at hrc
      have M0 := x_m_1 mk (Nat.eq_of_beq_eq_true hrc)
      have hM : x_Met l b B0 L xs KA D k' As h r1.1 r1.2 := x_metOf ih mk hca hev
      have cw : CallB R s args (MN j).cls n (MN k') (MB k') (ML k') (MR k') (x_cws k') ({ frames := MF k', cells := r1.2.1 - h.1, slots := x_ss r1.2.1 - x_ss h.1, locals := MO k' }) (r1.2.1 - h.1) (x_ss r1.2.1 - x_ss h.1) As.length ∧ (Cond.static (MN k')).before args s = true := ⟨⟨rfl, rfl, g2, g3, pay_in C.2.2.2.2.1 (x_cws_good mk), List.mem_cons_self, C.2.2.2.2.1 _ M.1, C.2.2.2.2.1 _ M.2.1, M.2.2.2, fun sig hsig => by
        have h2 := M0.2
        rw [hsig] at h2
        have h3 : sig.parameters.length = MA k' := Option.some.inj h2
        have h4 : As.length = MA k' := hlen
        omega, C.2.2.2.2.1 _ g4⟩, C.2.2.2.2.1 _ M0.1⟩
      have hrun := va_runS (As := As.map (x_cv b B0)) (rest := rest.map (x_cv b B0)) (e := e) (below := below) (meth := meth) (locs := locs) (g := F0 m pc sl ((As.reverse ++ rest).map (x_cv b B0))) fix hM cw ⟨x_blind, hpre⟩ rfl (by rw [List.length_map]) O.2.1 hstk hrs hd ⟨hf1, hf2⟩
      exact x_after (fun q hq => hq) hn h01 S O hrun kk
    · obtain ⟨g1, g2, g3, g4⟩ := lnk _ _ hl
      have mk := x_mok g1 n1 n2
      have M := x_m_all mk
      simp only [x_rcv] at hrc
      have M0 := x_m_1 mk (Nat.eq_of_beq_eq_true hrc)
      have hM : x_Met l b B0 L xs KA D k' As h r1.1 r1.2 := x_metOf ih mk hca hev
      have hnw : va_Nw (.methodLinkNest (MN j).cls n (MN k') "FloorTurn") s := C.2.2.2.2.2.2.2.2.2.1.1 _ g4
      have cw : va_CN R s args (MN j).cls n (MN k') "FloorTurn" (MB k') (ML k') (MR k') (x_cws k') ({ frames := MF k', cells := r1.2.1 - h.1, slots := x_ss r1.2.1 - x_ss h.1, locals := MO k' }) (r1.2.1 - h.1) (x_ss r1.2.1 - x_ss h.1) As.length ∧ (Cond.static (MN k')).before args s = true ∧ True := ⟨⟨⟨rfl, rfl, g2, g3, pay_in C.2.2.2.2.1 (x_cws_good mk), List.mem_cons_self⟩, C.2.2.2.2.1 _ M.1, C.2.2.2.2.1 _ M.2.1, M.2.2.2, fun sig hsig => by
        have h2 := M0.2
        rw [hsig] at h2
        have h3 : sig.parameters.length = MA k' := Option.some.inj h2
        have h4 : As.length = MA k' := hlen
        omega, va_Nw.use rfl hnw⟩, C.2.2.2.2.1 _ M0.1, trivial⟩
      have hrun := va_runSN (As := As.map (x_cv b B0)) (rest := rest.map (x_cv b B0)) (e := e) (below := below) (meth := meth) (locs := locs) (g := F0 m pc sl ((As.reverse ++ rest).map (x_cv b B0))) fix hM cw ⟨x_blind, hpre⟩ rfl (by rw [List.length_map]) O.2.1 hstk hrs hd ⟨hf1, hf2⟩
      exact x_after (fun q hq => hq) hn h01 S O hrun kk
    · exact absurd hq (by decide)
  | ldc n => cases v <;> simp [x_ck] at hk
  | ldc_w n => cases v <;> simp [x_ck] at hk
  | ldc2_w n => cases v <;> simp [x_ck] at hk
  | _ => exact absurd hk (by simp [x_ck])
theorem x_sim (l : Launch) (b B0 L : Nat) (xs : Nat → Int32) (KA : Nat → ClassId) (D : va_G) (f : Nat) : x_Sim l b B0 L xs KA D f := by
  induction f with
  | zero =>
    intro p e R s m args below meth c Q n0 j pc ls st h h' r hev
    cases hev
  | succ f ih =>
    intro p e R s m args below meth c Q n0 j pc ls st h h' r hev C hfr hlo hn hc1 hc2 hfin
    rw [ev_S] at hev
    split at hev
    · cases hev
    · rename_i en hi
      obtain ⟨i, ix, hd, hk⟩ := x_site hi
      split at hev
      · cases hev
      · rename_i q hs
        have hq := ev_n _ _ _ _ _ _ _ hev
        have hq2 := x_step_n hs
        have hq : q.2.2.2.1 ≤ h'.1 := hq
        have m1 := x_ss_mono hq
        exact x_one C hs hd hk hfr hlo hn ⟨by omega, by omega⟩ (ih hev C hfr hlo (by omega) hc1 hc2 hfin)
      · rename_i q hs
        split at hev
        · cases hev
        · rename_i r1 hev1
          obtain ⟨k1, k2, k3, k4, k5, k6, k7, k8, k9⟩ := inv_call hs
          have h01 := ev_n _ _ _ _ _ _ _ hev1
          have h12 : r1.2.1 ≤ h'.1 := ev_n _ _ _ _ _ _ _ hev
          have m1 := x_ss_mono h12
          rw [k5]
          exact x_callW ih C hn hfr hlo (by omega) (by omega) hd hk k1 k2 k3 k4 k6 k7 k8 k9 hev1 (ih hev C hfr hlo (by omega) hc1 hc2 hfin)
      · rename_i r0 hs
        cases hev
        obtain ⟨k1, k2⟩ := inv_ret hs
        intro H locs sl P S O
        obtain ⟨o, len, a, d, v, t⟩ := en
        have k1 : o = 27 := k1
        subst k1
        have k2 : x_rt j a st = some r := k2
        have key : (i = .ireturn ∧ len = 1 ∧ a = 0) ∨ (i = .lreturn ∧ len = 1 ∧ a = 1) ∨ (i = .areturn ∧ len = 1 ∧ a = 2) ∨ (i = .return_ ∧ len = 1 ∧ a = 3) := by
          cases i with
          | ireturn => simp only [x_ck, decide_eq_true_eq] at hk; exact Or.inl ⟨rfl, hk.2.1, hk.2.2⟩
          | lreturn => simp only [x_ck, decide_eq_true_eq] at hk; exact Or.inr (Or.inl ⟨rfl, hk.2.1, hk.2.2⟩)
          | areturn => simp only [x_ck, decide_eq_true_eq] at hk; exact Or.inr (Or.inr (Or.inl ⟨rfl, hk.2.1, hk.2.2⟩))
          | return_ => simp only [x_ck, decide_eq_true_eq] at hk; exact Or.inr (Or.inr (Or.inr ⟨rfl, hk.2.1, hk.2.2⟩))
          | ldc n => cases v <;> simp [x_ck] at hk
          | ldc_w n => cases v <;> simp [x_ck] at hk
          | ldc2_w n => cases v <;> simp [x_ck] at hk
          | _ => exact absurd hk (by simp [x_ck])
        rcases key with ⟨rfl, rfl, rfl⟩ | ⟨rfl, rfl, rfl⟩ | ⟨rfl, rfl, rfl⟩ | ⟨rfl, rfl, rfl⟩
        · exact hfin pc 0 _ st H locs sl hd (Or.inl ⟨rfl, rfl⟩) k2 P S
        · exact hfin pc 1 _ st H locs sl hd (Or.inr (Or.inl ⟨rfl, rfl⟩)) k2 P S
        · exact hfin pc 2 _ st H locs sl hd (Or.inr (Or.inr (Or.inl ⟨rfl, rfl⟩))) k2 P S
        · exact hfin pc 3 _ st H locs sl hd (Or.inr (Or.inr (Or.inr ⟨rfl, rfl⟩))) k2 P S
