/-! One step of 'ev' is one step of the machine: what makes objects; calls of java.lang.Object's and System's. -/
theorem hN_old {h : Hp} {k : Nat} (hk : k < h.1) : (hN h).2.1 k = h.2.1 k ∧ (hN h).2.2.1 k = h.2.2.1 k ∧ (hN h).2.2.2 k = h.2.2.2 k := ⟨u1_o (by omega), u1_o (by omega), u1_o (by omega)⟩
theorem hN_fv (h : Hp) (k : Nat) : ∀ kd : Nat, x_fv (hN h) h.1 k kd = (match kd with | 1 => .long 0 | 2 => .null | _ => .int 0)
  | 0 => by simp [x_fv, gI, hN, u1]
  | 1 => by simp [x_fv, gL, hN, u1]
  | 2 => by simp [x_fv, gR, hN, u1]
  | n + 3 => by simp [x_fv, gI, hN, u1]
theorem x_dflt {B0' : Nat} {ty : FieldType} (ht : x_tyok ty = true) (h : Hp) (k : Nat) : defaultValue ty = x_cv 0 B0' (x_fv (hN h) h.1 k (x_fk ty)) := by
  rw [hN_fv]
  cases ty <;> first | rfl | (simp [x_tyok] at ht)
theorem gI_new (h : Hp) : gI (hN h) h.1 = fun _ => 0 := u1_s
theorem gL_new (h : Hp) : gL (hN h) h.1 = fun _ => 0 := u1_s
theorem gL_cpy (h : Hp) (i k sp dp n : Nat) : gL (hCpy h i k sp dp n) k = va_cpy (gL h i) (gL h k) sp dp n := u1_s
theorem x_sl_obj {i a le : Nat} (ha : a < 12) (hs : SH i = (a, le)) : x_sl i = NF a := by
  unfold x_sl
  rw [hs, show Nat.blt a 12 = true by rw [Nat.blt_eq]; exact ha]
  rfl
theorem x_sl_arr {i a le : Nat} (ha : 12 ≤ a) (hs : SH i = (a, le)) : x_sl i = le := by
  unfold x_sl
  rw [hs, show Nat.blt a 12 = false by rw [← Bool.not_eq_true, Nat.blt_eq]; omega]
  rfl
section XN
variable {p : Program} {l : Launch} {e : Env} {R : Room} {s : State} {m : MethodId} {args : Array Value} {below : List Frame} {meth : Method} {c : Code} {Q : State → Prop} {b B0 : Nat} {KA : Nat → ClassId} {D : va_G} {n0 : Nat}
variable {L : Nat} {xs : Nat → Int32} {j len a d pc : Nat} {v : Value} {t : List Nat} {ls : x_L} {st : List Value} {h : Hp} {q : Nat × x_L × List Value × Hp}
theorem x_push {H H' : Heap} (hz : H.size = B0 + h.1) (P : va_P D vwCl (x_ws KA B0 h) H) (o1 : ∀ q, q < B0 + h.1 → H'[q]? = H[q]?) (he : va_at D vwCl (B0 + h.1, x_en KA B0 (hN h) h.1) H') : va_P D vwCl (x_ws KA B0 (hN h)) H' := by
  rw [← x_ws_push (h := h) (h' := hN h) (KA := KA) (B0 := B0) (e := x_en KA B0 (hN h) h.1) (a := B0 + h.1) rfl rfl rfl (fun k hk => x_en_eq (hN_old hk).1 (hN_old hk).2.1 (hN_old hk).2.2)]
  refine (P.kept fun k x hx => o1 x.1 (by rw [← hz]; exact (P k x hx).lt)).app fun k x hx => ?_
  have hk : k < 1 := (List.getElem?_eq_some_iff.mp hx).1
  rw [show k = 0 by omega] at hx
  cases hx
  exact he
theorem x_grown {H H' : Heap} {locs : List Loc} (hz : H.size = B0 + h.1) (S : va_S (fun q : Nat => B0 ≤ q) s.heap H locs) (z1 : H'.size = B0 + h.1 + 1) (o1 : ∀ q, q < B0 + h.1 → H'[q]? = H[q]?) : va_S (fun q : Nat => B0 ≤ q) s.heap H' locs :=
  ⟨Nat.le_trans S.1 (by omega), fun x h1 h2 => (o1 x (by have := S.1; omega)).trans (S.2.1 x h1 h2), S.2.2⟩
theorem q_new (hn : n0 ≤ h.1) (hcap : q.2.2.2.1 - n0 ≤ R.cells ∧ x_ss q.2.2.2.1 - x_ss n0 ≤ R.slots) (ha : a < 12) {n : Nat} (hw : Cond.classLink (MN j).cls n (RN a) ∈ x_all) (C : x_CX p s m args meth c j L xs b B0 n0 KA D) (hs : x_step L xs j (21, 3, a, d, v, t) pc ls st h = some (.inl q)) (hd : decode (MB j) pc = .ok (.new n, 3)) (kk : x_WW p l e R s m args below meth c Q b B0 KA D n0 (ML j) q.1 q.2.1 q.2.2.1 q.2.2.2) : x_WW p l e R s m args below meth c Q b B0 KA D n0 (ML j) pc ls st h := by
  obtain ⟨hsh, rfl⟩ := inv21 hs
  intro H locs sl P S O
  refine x_sized fun hle => ?_
  obtain ⟨hz, -⟩ := x_size hn C.2.2.2.2.2.2.2.2.2.2.2.2 P S hle
  have F := x_cf a ha
  have e1 : h.1 - n0 + 1 = (hN h).1 - n0 := by show _ = h.1 + 1 - n0; omega
  have e2 : x_ss h.1 - x_ss n0 + NF a = x_ss (hN h).1 - x_ss n0 := by
    have h1 := x_ss_mono hn
    show _ = x_ss h.1 + x_sl h.1 - x_ss n0
    rw [x_sl_obj ha hsh]
    omega
  refine W.newcK C.1 C.2.1 C.2.2.2.1 (C.2.2.2.2.1 _ hw) (C.2.2.2.2.1 _ F.2.2.2.2.1) (C.2.2.2.2.1 _ F.2.2.2.2.2) rfl hd (by rw [e1]; exact hcap.1) (by rw [e2]; exact hcap.2) (C.2.2.2.2.2.2.2.2.1.1 a _ F.1).2.1 hz fun H1 kC hkC g1 z1 o1 => ?_
  have hKn := C.2.2.2.2.2.2.2.2.1.1 a _ F.1
  have he : va_at D vwCl (B0 + h.1, x_en KA B0 (hN h) h.1) H1 := by
    rw [x_en_obj ha hsh]
    refine ⟨_, F.1, (u_born (TY a) C.2.2.2.2.1 F.2.1 hKn hkC g1 F.2.2.1).to fun k hk => ?_⟩
    show _ = (x_fs B0 (hN h) h.1 a).getD k .null
    rw [List.getD_eq_getElem?_getD, x_fs_get hk]
    exact x_dflt (B0' := B0) (x_tyok_all ha hk) h k
  have k2 := kk H1 locs sl (x_push hz P o1 he) (x_grown hz S z1 o1) O
  rw [e1, e2]
  exact k2
theorem q_newarray (hn : n0 ≤ h.1) (hcap : q.2.2.2.1 - n0 ≤ R.cells ∧ x_ss q.2.2.2.1 - x_ss n0 ≤ R.slots) {at_ : ArrayType} (hat : at_ = x_atp a) (ha : a = 20 ∨ a = 21 ∨ a = 22) (C : x_CX p s m args meth c j L xs b B0 n0 KA D) (hs : x_step L xs j (22, 2, a, d, v, t) pc ls st h = some (.inl q)) (hd : decode (MB j) pc = .ok (.newarray at_, 2)) (kk : x_WW p l e R s m args below meth c Q b B0 KA D n0 (ML j) q.1 q.2.1 q.2.2.1 q.2.2.2) : x_WW p l e R s m args below meth c Q b B0 KA D n0 (ML j) pc ls st h := by
  obtain ⟨n, r, rfl, hneg, hle2, hsh, rfl⟩ := inv22 hs
  intro H locs sl P S O
  refine x_sized fun hle => ?_
  obtain ⟨hz, -⟩ := x_size hn C.2.2.2.2.2.2.2.2.2.2.2.2 P S hle
  have e1 : h.1 - n0 + 1 = (hN h).1 - n0 := by show _ = h.1 + 1 - n0; omega
  have e2 : x_ss h.1 - x_ss n0 + n.toNatClampNeg = x_ss (hN h).1 - x_ss n0 := by
    have h1 := x_ss_mono hn
    show _ = x_ss h.1 + x_sl h.1 - x_ss n0
    rw [x_sl_arr (by omega) hsh]
    omega
  rcases ha with rfl | rfl | rfl
  · have hat : at_ = .int := hat
    subst hat
    have hby : n.toNatClampNeg * componentBytes (newarray.typeOf .int) ≤ 536870912 := Nat.le_trans (Nat.mul_le_mul hle2 (show componentBytes (newarray.typeOf .int) ≤ 8 by decide)) (by decide)
    refine va_newaK (atype := .int) C.1 C.2.1 (C.2.2.2.2.1 _ x_warr20) rfl hd rfl hneg rfl hby (by rw [e1]; exact hcap.1) (by rw [e2]; exact hcap.2) hz fun H1 cA g1 z1 o1 hAr hNm => ?_
    have hcA : cA = KA 0 := by
      have h9 : s.vm.findClass _ = some (KA 0) := (C.2.2.2.2.2.2.2.2.1.2 0 _ rfl).2
      exact Option.some.inj (hNm.symm.trans h9)
    subst hcA
    have he : va_at D vwCl (B0 + h.1, x_en KA B0 (hN h) h.1) H1 := by
      rw [x_en20 (by rw [hsh])]
      show H1[B0 + h.1]? = some (vp_cell _ _)
      rw [g1, hsh, gI_new]
      rfl
    have k2 := kk H1 locs sl (x_push hz P o1 he) (x_grown hz S z1 o1) O
    rw [e1, e2]
    exact k2
  · have hat : at_ = .long := hat
    subst hat
    have hby : n.toNatClampNeg * componentBytes (newarray.typeOf .long) ≤ 536870912 := Nat.le_trans (Nat.mul_le_mul hle2 (show componentBytes (newarray.typeOf .long) ≤ 8 by decide)) (by decide)
    refine va_newaK (atype := .long) C.1 C.2.1 (C.2.2.2.2.1 _ x_warr21) rfl hd rfl hneg rfl hby (by rw [e1]; exact hcap.1) (by rw [e2]; exact hcap.2) hz fun H1 cA g1 z1 o1 hAr hNm => ?_
    have hcA : cA = KA 1 := by
      have h9 : s.vm.findClass _ = some (KA 1) := (C.2.2.2.2.2.2.2.2.1.2 1 _ rfl).2
      exact Option.some.inj (hNm.symm.trans h9)
    subst hcA
    have he : va_at D vwCl (B0 + h.1, x_en KA B0 (hN h) h.1) H1 := by
      rw [x_en21 (by rw [hsh])]
      show H1[B0 + h.1]? = some (vp_cell _ _)
      rw [g1, hsh, gL_new]
      rfl
    have k2 := kk H1 locs sl (x_push hz P o1 he) (x_grown hz S z1 o1) O
    rw [e1, e2]
    exact k2
  · have hat : at_ = .boolean := hat
    subst hat
    have hby : n.toNatClampNeg * componentBytes (newarray.typeOf .boolean) ≤ 536870912 := Nat.le_trans (Nat.mul_le_mul hle2 (show componentBytes (newarray.typeOf .boolean) ≤ 8 by decide)) (by decide)
    refine va_newaK (atype := .boolean) C.1 C.2.1 (C.2.2.2.2.1 _ x_warr22) rfl hd rfl hneg rfl hby (by rw [e1]; exact hcap.1) (by rw [e2]; exact hcap.2) hz fun H1 cA g1 z1 o1 hAr hNm => ?_
    have hcA : cA = KA 2 := by
      have h9 : s.vm.findClass _ = some (KA 2) := (C.2.2.2.2.2.2.2.2.1.2 2 _ rfl).2
      exact Option.some.inj (hNm.symm.trans h9)
    subst hcA
    have he : va_at D vwCl (B0 + h.1, x_en KA B0 (hN h) h.1) H1 := by
      rw [x_en22 (by rw [hsh])]
      show H1[B0 + h.1]? = some (vp_cell _ _)
      rw [g1, hsh, gI_new]
      rfl
    have k2 := kk H1 locs sl (x_push hz P o1 he) (x_grown hz S z1 o1) O
    rw [e1, e2]
    exact k2
theorem q_anewarray (hn : n0 ≤ h.1) (hcap : q.2.2.2.1 - n0 ≤ R.cells ∧ x_ss q.2.2.2.1 - x_ss n0 ≤ R.slots) {n : Nat} (hw : Cond.classLink (MN j).cls n (x_ack a) ∈ x_all) (ha : a = 23 ∨ a = 24 ∨ a = 25) (C : x_CX p s m args meth c j L xs b B0 n0 KA D) (hs : x_step L xs j (23, 3, a, d, v, t) pc ls st h = some (.inl q)) (hd : decode (MB j) pc = .ok (.anewarray n, 3)) (kk : x_WW p l e R s m args below meth c Q b B0 KA D n0 (ML j) q.1 q.2.1 q.2.2.1 q.2.2.2) : x_WW p l e R s m args below meth c Q b B0 KA D n0 (ML j) pc ls st h := by
  obtain ⟨n, r, rfl, hneg, hle2, hsh, rfl⟩ := inv23 hs
  intro H locs sl P S O
  refine x_sized fun hle => ?_
  obtain ⟨hz, -⟩ := x_size hn C.2.2.2.2.2.2.2.2.2.2.2.2 P S hle
  have e1 : h.1 - n0 + 1 = (hN h).1 - n0 := by show _ = h.1 + 1 - n0; omega
  have e2 : x_ss h.1 - x_ss n0 + n.toNatClampNeg = x_ss (hN h).1 - x_ss n0 := by
    have h1 := x_ss_mono hn
    show _ = x_ss h.1 + x_sl h.1 - x_ss n0
    rw [x_sl_arr (by omega) hsh]
    omega
  refine W.anew C.1 C.2.1 C.2.2.2.1 (C.2.2.2.2.1 _ hw) (va_AO.use (C.2.2.2.2.2.2.2.2.2.1.2 a)) rfl hd rfl hneg (by omega) (by rw [e1]; exact hcap.1) (by rw [e2]; exact hcap.2) fun cA kA comp f1 f2 f3 f4 => ?_
  generalize hH1 : H.push ({ cls := cA, slots := Array.replicate n.toNatClampNeg .null, vm := .none } : Cell) = H1
  have z1 : H1.size = B0 + h.1 + 1 := by rw [← hH1, Array.size_push, hz]
  have g1 : H1[B0 + h.1]? = some (arrV cA n.toNatClampNeg (fun _ => .null)) := by rw [← hH1, ← hz, Array.getElem?_push_size, ← arrV_new]
  have o1 : ∀ q : Nat, q < B0 + h.1 → H1[q]? = H[q]? := fun q hq => by rw [← hH1, Array.getElem?_push, if_neg (Nat.ne_of_lt (by omega))]
  rcases ha with rfl | rfl | rfl
  · have hcA : cA = KA 3 := by
      obtain ⟨_, _, _, _, _, h9⟩ := (C.2.2.2.2.2.2.2.2.1.2 3 _ rfl).2
      exact Option.some.inj (f1.symm.trans h9)
    subst hcA
    have he : va_at D vwCl (B0 + h.1, x_en KA B0 (hN h) h.1) H1 := by
      rw [x_en23 (by rw [hsh])]
      show H1[B0 + h.1]? = some (vp_cell _ _)
      rw [g1, hsh, vp_cell_q]
      congr 2
      funext k
      simp [x_rr, gR, hN, u1, va_rf]
    have k2 := kk H1 locs sl (x_push hz P o1 he) (x_grown hz S z1 o1) O
    rw [e1, e2, hz]
    exact k2
  · have hcA : cA = KA 4 := by
      obtain ⟨_, _, _, _, _, h9⟩ := (C.2.2.2.2.2.2.2.2.1.2 4 _ rfl).2
      exact Option.some.inj (f1.symm.trans h9)
    subst hcA
    have he : va_at D vwCl (B0 + h.1, x_en KA B0 (hN h) h.1) H1 := by
      rw [x_en24 (by rw [hsh])]
      show H1[B0 + h.1]? = some (vp_cell _ _)
      rw [g1, hsh, vp_cell_q]
      congr 2
      funext k
      simp [x_rr, gR, hN, u1, va_rf]
    have k2 := kk H1 locs sl (x_push hz P o1 he) (x_grown hz S z1 o1) O
    rw [e1, e2, hz]
    exact k2
  · have hcA : cA = KA 5 := by
      obtain ⟨_, _, _, _, _, h9⟩ := (C.2.2.2.2.2.2.2.2.1.2 5 _ rfl).2
      exact Option.some.inj (f1.symm.trans h9)
    subst hcA
    have he : va_at D vwCl (B0 + h.1, x_en KA B0 (hN h) h.1) H1 := by
      rw [x_en25 (by rw [hsh])]
      show H1[B0 + h.1]? = some (vp_cell _ _)
      rw [g1, hsh, vp_cell_q]
      congr 2
      funext k
      simp [x_rr, gR, hN, u1, va_rf]
    have k2 := kk H1 locs sl (x_push hz P o1 he) (x_grown hz S z1 o1) O
    rw [e1, e2, hz]
    exact k2
theorem q_objinit {n : Nat} (hw : Cond.methodLink (MN j).cls n objectInit ∈ x_all) (hR : 1 ≤ R.frames ∧ 20 ≤ R.locals) (C : x_CX p s m args meth c j L xs b B0 n0 KA D) (hs : x_step L xs j (25, 3, a, d, v, t) pc ls st h = some (.inl q)) (hd : decode (MB j) pc = .ok (.invokespecial n, 3)) (kk : x_WW p l e R s m args below meth c Q b B0 KA D n0 (ML j) q.1 q.2.1 q.2.2.1 q.2.2.2) : x_WW p l e R s m args below meth c Q b B0 KA D n0 (ML j) pc ls st h := by
  obtain ⟨i, r, rfl, hr, rfl⟩ := inv25 hs
  intro H locs sl P S O
  refine W.objInit (a := B0 + i) (rest := r.map (x_cv b B0)) C.1 C.2.1 C.2.2.2.1 (C.2.2.2.2.1 _ hw) (C.2.2.2.2.1 _ x_wobj.1) (C.2.2.2.2.1 _ x_wobj.2) rfl (by rw [C.2.2.1]; exact O.2.1) rfl hd hR.1 ?_ (kk H locs sl P S O)
  have h2 := x_cv_cats b B0 r
  show 2 * 0 + _ + 12 ≤ _
  omega
theorem q_arraycopy {n : Nat} (hw : Cond.methodLink (MN j).cls n arraycopyName ∈ x_all) (hR : 1 ≤ R.frames ∧ 60 ≤ R.locals) (C : x_CX p s m args meth c j L xs b B0 n0 KA D) (hs : x_step L xs j (26, 3, a, d, v, t) pc ls st h = some (.inl q)) (hd : decode (MB j) pc = .ok (.invokestatic n, 3)) (kk : x_WW p l e R s m args below meth c Q b B0 KA D n0 (ML j) q.1 q.2.1 q.2.2.1 q.2.2.2) : x_WW p l e R s m args below meth c Q b B0 KA D n0 (ML j) pc ls st h := by
  obtain ⟨k, dp, i2, sp, i1, r, rfl, hr, hi1, hs1, hi2, hs2, g1, g2, g3, g4, g5, rfl⟩ := inv26 hs
  intro H locs sl P S O
  refine va_copyl C.1 C.2.1 (C.2.2.1.trans O.2.1.symm) C.2.2.2.1 (C.2.2.2.2.1 _ hw) (C.2.2.2.2.1 _ x_wacp.1) (C.2.2.2.2.1 _ x_wacp.2.1) (C.2.2.2.2.1 _ x_wacp.2.2) C.2.2.2.2.2.2.2.2.1 P x_ws_D S i1 i2 1 1 (by rw [x_ws_get hi1, x_en21 hs1]) (by rw [x_ws_get hi2, x_en21 hs2]) rfl rfl rfl g1 g2 g3 g4 g5 (fun i _ => rfl) hR.1 ?_ hd fun H1 locs1 P1 D1 S1 => ?_
  · have h2 := x_cv_cats b B0 r
    have h3 : nativeFrameWords "java/lang/System" "arraycopy" 5 + 11 ≤ 50 := by decide
    omega
  · rw [x_ws_set (h := h) (h' := hCpy h i1 i2 sp.toNatClampNeg dp.toNatClampNeg k.toNatClampNeg) rfl rfl (by rw [x_en21 hs2, gL_cpy]) (fun k hk => x_en_eq rfl (u1_o hk) rfl)] at P1
    exact kk H1 locs1 sl P1 S1 O
theorem x_max_eq : MN 196 = Lib.Math.max.name ∧ MB 196 = Lib.Math.max.code ∧ MN 197 = Lib.MathLoose.max_long.x ∧ MB 197 = Lib.MathLoose.max_long.code := by decide +kernel
theorem q_mmax (hn : n0 ≤ h.1) (hcap : q.2.2.2.1 - n0 ≤ R.cells ∧ x_ss q.2.2.2.1 - x_ss n0 ≤ R.slots) {n : Nat} (hw : Cond.methodLink (MN j).cls n (MN 196) ∈ x_all) (hR : 1 ≤ R.frames ∧ 21 ≤ R.locals) (C : x_CX p s m args meth c j L xs b B0 n0 KA D) (hs : x_step L xs j (24, 3, 196, d, v, t) pc ls st h = some (.inl q)) (hd : decode (MB j) pc = .ok (.invokestatic n, 3)) (kk : x_WW p l e R s m args below meth c Q b B0 KA D n0 (ML j) q.1 q.2.1 q.2.2.1 q.2.2.2) : x_WW p l e R s m args below meth c Q b B0 KA D n0 (ML j) pc ls st h := by
  rcases inv24 hs with ⟨-, -, y, x, r, rfl, hr, rfl⟩ | ⟨hq, -⟩
  · intro H locs sl P S O
    have w2 := x_wmax
    rw [x_max_eq.1] at hw w2
    rw [x_max_eq.2.1] at w2
    refine va_mmax C.1 C.2.1 (C.2.2.1.trans O.2.1.symm) C.2.2.2.1 (C.2.2.2.2.1 _ hw) (C.2.2.2.2.1 _ w2.1) (C.2.2.2.2.1 _ w2.2.2.2.2) (C.2.2.2.2.1 _ w2.2.1) hR.1 ?_ hcap.1 hcap.2 hd (kk H locs sl P S O)
    have h2 := x_cv_cats b B0 r
    omega
  · exact absurd hq (by decide)
theorem q_mmaxl (hn : n0 ≤ h.1) (hcap : q.2.2.2.1 - n0 ≤ R.cells ∧ x_ss q.2.2.2.1 - x_ss n0 ≤ R.slots) {n : Nat} (hw : Cond.methodLink (MN j).cls n (MN 197) ∈ x_all) (hR : 1 ≤ R.frames ∧ 23 ≤ R.locals) (C : x_CX p s m args meth c j L xs b B0 n0 KA D) (hs : x_step L xs j (24, 3, 197, d, v, t) pc ls st h = some (.inl q)) (hd : decode (MB j) pc = .ok (.invokestatic n, 3)) (kk : x_WW p l e R s m args below meth c Q b B0 KA D n0 (ML j) q.1 q.2.1 q.2.2.1 q.2.2.2) : x_WW p l e R s m args below meth c Q b B0 KA D n0 (ML j) pc ls st h := by
  rcases inv24 hs with ⟨hq, -⟩ | ⟨-, -, y, x, r, rfl, hr, rfl⟩
  · exact absurd hq (by decide)
  · intro H locs sl P S O
    have w2 := x_wmax
    rw [x_max_eq.2.2.1] at hw w2
    rw [x_max_eq.2.2.2] at w2
    refine va_mmax_long C.1 C.2.1 (C.2.2.1.trans O.2.1.symm) C.2.2.2.1 (C.2.2.2.2.1 _ hw) (C.2.2.2.2.1 _ w2.2.2.1) (C.2.2.2.2.1 _ w2.2.2.2.2) (C.2.2.2.2.1 _ w2.2.2.2.1) hR.1 ?_ hcap.1 hcap.2 hd (kk H locs sl P S O)
    have h2 := x_cv_cats b B0 r
    omega
theorem x_lk_ok (pc a : Nat) (dd : Int) (x : Int32) (h1 : (pc : Int) + dd = (a : Int)) : ∀ (ps : List (Int × Int)) (t : List Nat), ps.flatMap (fun q => [q.1, (pc : Int) + q.2]) = t.map (fun (n : Nat) => (n : Int)) → (pc : Int) + Op.lookupswitch.offset ps dd x.toInt = (x_lk x t a : Int)
  | [], t, h => by
    cases t with
    | nil => exact h1
    | cons _ _ => simp at h
  | (k, g) :: r, t, h => by
    cases t with
    | nil => simp at h
    | cons k' t => cases t with
      | nil => simp at h
      | cons g' t =>
        simp only [List.flatMap_cons, List.map_cons, List.cons_append, List.nil_append, List.cons.injEq] at h
        obtain ⟨e1, e2, e3⟩ := h
        subst e1
        have ih := x_lk_ok pc a dd x h1 r t e3
        rw [Op.lookupswitch.offset_cons]
        unfold x_lk
        by_cases hx : (k' : Int) = x.toInt
        · rw [if_pos hx, show decide (x.toInt = (k' : Int)) = true by simpa using hx.symm, cond_true]
          exact e2
        · rw [if_neg hx, show decide (x.toInt = (k' : Int)) = false by simpa using fun q : x.toInt = (k' : Int) => hx q.symm, cond_false]
          exact ih
theorem q_lookupswitch {dd : Int} {ps : Array (Int × Int)} (h0 : (ps.toList.zip (ps.toList.drop 1)).all (fun (a, next) => a.1 < next.1) = true) (h1 : (pc : Int) + dd = (a : Int)) (h2 : ps.toList.flatMap (fun q => [q.1, (pc : Int) + q.2]) = t.map (fun (n : Nat) => (n : Int))) (C : x_CX p s m args meth c j L xs b B0 n0 KA D) (hs : x_step L xs j (14, len, a, d, v, t) pc ls st h = some (.inl q)) (hd : decode (MB j) pc = .ok (.lookupswitch dd ps, len)) (kk : x_WW p l e R s m args below meth c Q b B0 KA D n0 (ML j) q.1 q.2.1 q.2.2.1 q.2.2.2) : x_WW p l e R s m args below meth c Q b B0 KA D n0 (ML j) pc ls st h := by
  obtain ⟨x, r, rfl, rfl⟩ := inv14 hs
  intro H locs sl P S O
  exact lv_lookup C.1 C.2.1 hd h0 rfl (x_lk_ok pc a dd x h1 ps.toList t h2) (kk H locs sl P S O)
end XN
