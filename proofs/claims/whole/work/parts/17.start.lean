/-! THE CLAIM OUT OF ONE WALK OF THE LAW'S BODY. Your part is whole_start (and what it stands on); all else here is the same for every law, but numbers. -/
def R_law : String := "FloorTurnLaw"
def lw_P (b : Addr) (xs : List Int32) (args : Array Value) (s : State) : Prop := args = #[.ref b] ∧ s.IntsAt b xs ∧ xs.length ≤ 4608 ∧ (Jvm.Cond.and given_1 narrow_1).before args s = true
def lw_Q (_ : Array Value) (s : State) (o : Outcome) (t : State) : Prop := o = .returned (some (.int 1)) ∧ Framed s o t [] 600000 7302250
def lw_Z (below : List Frame) (a : Array Value) (s : State) : State → Prop := fun t => ∃ o, t.status = .running ∧ Ended t below o ∧ lw_Q a s o t
/-- the law's own end, with 1 on the stack, nothing written that was there before, its room as the claim has it -/
theorem lw_ret {p : Program} {l : Launch} {e : Env} {s : State} {m : MethodId} {below : List Frame} {meth : Method} {c : Code} {b : Nat} (hx : p.tables.exec = Jvm.exec) (hb : c.code = code) (hr : meth.sig.returnType = ret) (hlocks : meth.locks = false) {pc : Nat} {H : Heap} {ls : Array Slot} (hdg : decode code pc = .ok (.ireturn, 1)) : W p l e room_1 s m #[Value.ref b] below meth c H [] 600000 7302250 (lw_Z below #[Value.ref b] s) (F0 m pc ls [.int 1]) := by
  intro T hT X
  obtain ⟨fs, hret, hrun, hended, hW, hframe⟩ := X.leave (v := some (.int 1)) (hlocks := hlocks) (fun h => by rw [hr] at h; cases h)
  have hmeth' : T.vm.method? m = some meth := X.method'
  refine ⟨T.setFrames fs, ?_, .returned (some (.int 1)), hrun, hended, rfl, ⟨_, rfl⟩, hW, hframe⟩
  jvm_step X.here [X.here.top, hx, hb, hdg, hmeth', hr, ret, narrow_b1]
  (try refine ⟨rfl, ?_⟩); (try refine ⟨rfl, ?_⟩)
  first | (intro acts; rw [hret _ acts rfl rfl rfl]) | rw [hret _ _ rfl rfl rfl]
  exact Steps.refl _
/-- what holds at the law's entry: the machine, the code, the tables' words (any of lw_tbl by 'hts w (by decide +kernel)'), the script of L ints xs at the cell b, what the Statement gives of the start (any of its parts by flat_of_before) -/
def lw_At (p : Program) (s : State) (m : MethodId) (meth : Method) (c : Code) (b L : Nat) (xs : Nat → Int32) : Prop :=
  p.tables.exec = Jvm.exec ∧ c.code = code ∧ meth.sig.returnType = ret ∧ c.maxLocals = 4 ∧ s.vm.findClass R_law = some m.cls ∧ (∀ w ∈ lw_tbl, w.before #[Value.ref b] s = true) ∧ va_X b L xs s s.heap ∧ b < s.heap.size ∧ meth.locks = false ∧ (Jvm.Cond.and given_1 narrow_1).before #[Value.ref b] s = true
/-- the law by 'ev': what is left to be shown, of 'ev' alone -/
theorem x_start {p : Program} {e : Env} {s : State} {m : MethodId} {below : List Frame} {meth : Method} {c : Code} (l : Launch) {b L : Nat} {xs : Nat → Int32} (C0 : lw_At p s m meth c b L xs) {f : Nat} {h' : Hp} (hev : ev L xs f 200 0 (x_loc (ML 200) [.retAddr 0]) [] x_h0 = some (some (.int 1), h')) (hn : h'.1 ≤ 452) : W p l e room_1 s m #[Value.ref b] below meth c s.heap [] 0 0 (lw_Z below #[Value.ref b] s) (entryFrame m ([Value.ref b] : List Value).toArray 4) := by
  obtain ⟨hx, hb, hr, hml, hown, hts, hX, hbl, hlocks, hgv⟩ := id C0
  obtain ⟨f1, f2, f3, f4, f5, f6, f7, f8⟩ := x_law_facts
  obtain ⟨KA, hKA⟩ := x_arrs hts
  obtain ⟨D, hD⟩ := x_classes hts
  have C : x_CX p s m #[Value.ref b] meth c 200 L xs b s.heap.size 0 KA D := by
    refine ⟨hx, by rw [f1]; exact hb, by rw [f2]; exact hml, by rw [f4]; exact hown, fun w hw => hts w (x_lw_all hw), by rw [f3]; exact hr, fun h9 => ?_, hlocks, ⟨hD, hKA⟩, ⟨fun q hq => va_Nw.of rfl (hts _ (x_nw_tbl q hq)), fun t => va_AO.of (hts _ (x_ao_tbl t))⟩, hX, hbl, rfl⟩
    rw [f5] at h9
    exact absurd h9 (by decide)
  have hS0 : x_ss h'.1 ≤ x_ss 452 := x_ss_mono hn
  have fin : x_fin p l e room_1 s m #[Value.ref b] below meth c (lw_Z below #[Value.ref b] s) b s.heap.size KA D 0 200 (some (.int 1)) h' := by
    intro pc a i st H locs sl hd hi hrt P S
    have key : i = .ireturn ∧ st = [.int 1] := by
      unfold x_rt at hrt
      split at hrt
      · rw [f3] at hrt
        simp only [Bool.cond_eq_ite] at hrt
        split at hrt
        · cases hrt
          rcases hi with ⟨rfl, -⟩ | ⟨-, hq⟩ | ⟨-, hq⟩ | ⟨-, hq⟩
          · exact ⟨rfl, rfl⟩
          all_goals cases hq
        · cases hrt
      all_goals first | (rw [f3] at hrt; cases hrt; done) | (cases hrt; done)
    obtain ⟨rfl, rfl⟩ := key
    rw [f1] at hd
    refine va_forget (fun q hq => S.2.2 q hq) ?_
    refine W.widen (k := 600000) (n := 7302250) (by omega) (by omega) ?_
    exact lw_ret hx hb hr hlocks hd
  have h0 : va_P D vwCl (x_ws KA s.heap.size x_h0) s.heap := fun k q hq => by simp [x_ws, x_h0] at hq
  have h1 := x_sim l b s.heap.size L xs KA D f (R := room_1) (e := e) (below := below) (Q := lw_Z below #[Value.ref b] s) hev C f6 f7 (Nat.zero_le _) (by
    show h'.1 - 0 ≤ 600000
    omega) (by
    show x_ss h'.1 - x_ss 0 ≤ 7302250
    omega) fin s.heap [] _ h0 va_S.rf (x_LOC.entry (by rw [f2]; decide))
  rw [lg_entry_eq]
  have e2 : (lg_sl (([Value.retAddr 0] : List Value).map (x_cv b s.heap.size)) ++ List.replicate (ML 200 - (lg_sl (([Value.retAddr 0] : List Value).map (x_cv b s.heap.size))).length) Slot.unset).toArray = (lg_sl ([Value.ref b]) ++ List.replicate (4 - (lg_sl ([Value.ref b])).length) Slot.unset).toArray := by
    rw [f2]
    rfl
  rw [e2] at h1
  exact h1
