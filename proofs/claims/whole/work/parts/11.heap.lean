/-! One step of 'ev' is one step of the machine: what touches the heap. -/
theorem x_cv_fv (b B0 : Nat) (h : Hp) (i k kd : Nat) : x_cv b B0 (x_fv h i k kd) = x_cv 0 B0 (x_fv h i k kd) := by
  unfold x_fv
  split
  · rfl
  · split <;> rfl
  · rfl
theorem x_en_obj {KA : Nat → ClassId} {B0 : Nat} {h : Hp} {i a le : Nat} (ha : a < 12) (hs : SH i = (a, le)) : x_en KA B0 h i = .inr (a, x_fs B0 h i a) := by
  unfold x_en
  rw [hs]
  rcases (show a = 0 ∨ a = 1 ∨ a = 2 ∨ a = 3 ∨ a = 4 ∨ a = 5 ∨ a = 6 ∨ a = 7 ∨ a = 8 ∨ a = 9 ∨ a = 10 ∨ a = 11 by omega) with rfl | rfl | rfl | rfl | rfl | rfl | rfl | rfl | rfl | rfl | rfl | rfl <;> rfl
theorem x_en20 {KA : Nat → ClassId} {B0 : Nat} {h : Hp} {i : Nat} (hs : (SH i).1 = 20) : x_en KA B0 h i = .inl (KA 0, (SH i).2, .inl (gI h i)) := by unfold x_en; rw [hs]; rfl
theorem x_en21 {KA : Nat → ClassId} {B0 : Nat} {h : Hp} {i : Nat} (hs : (SH i).1 = 21) : x_en KA B0 h i = .inl (KA 1, (SH i).2, .inr (.inl (gL h i))) := by unfold x_en; rw [hs]; rfl
theorem x_en22 {KA : Nat → ClassId} {B0 : Nat} {h : Hp} {i : Nat} (hs : (SH i).1 = 22) : x_en KA B0 h i = .inl (KA 2, (SH i).2, .inl (gI h i)) := by unfold x_en; rw [hs]; rfl
theorem x_en23 {KA : Nat → ClassId} {B0 : Nat} {h : Hp} {i : Nat} (hs : (SH i).1 = 23) : x_en KA B0 h i = .inl (KA 3, (SH i).2, .inr (.inr (.inr (.inr (x_rr B0 h i))))) := by unfold x_en; rw [hs]; rfl
theorem x_en24 {KA : Nat → ClassId} {B0 : Nat} {h : Hp} {i : Nat} (hs : (SH i).1 = 24) : x_en KA B0 h i = .inl (KA 4, (SH i).2, .inr (.inr (.inr (.inr (x_rr B0 h i))))) := by unfold x_en; rw [hs]; rfl
theorem x_en25 {KA : Nat → ClassId} {B0 : Nat} {h : Hp} {i : Nat} (hs : (SH i).1 = 25) : x_en KA B0 h i = .inl (KA 5, (SH i).2, .inr (.inr (.inr (.inr (x_rr B0 h i))))) := by unfold x_en; rw [hs]; rfl
theorem x_fs_get {B0 : Nat} {h : Hp} {i a d : Nat} (hd : d < NF a) : (x_fs B0 h i a)[d]? = some (x_cv 0 B0 (x_fv h i d (FK a d))) := by simp [x_fs, hd]
theorem x_fs_set {B0 : Nat} {h h' : Hp} {i a d : Nat} {w : Value} (h1 : ∀ k, k ≠ d → x_fv h' i k (FK a k) = x_fv h i k (FK a k)) (h2 : x_fv h' i d (FK a d) = w) : (x_fs B0 h i a).set d (x_cv 0 B0 w) = x_fs B0 h' i a := by
  unfold x_fs
  apply List.ext_getElem?
  intro k
  rw [List.getElem?_set]
  by_cases hk : d = k
  · subst hk
    by_cases hl : d < NF a
    · simp [hl, h2]
    · simp [hl]
  · by_cases hl : k < NF a
    · simp [hl, hk, h1 k (Ne.symm hk)]
    · simp [hl, hk]
def x_tyok (t : FieldType) : Bool := match t with
  | .int => true
  | .long => true
  | .boolean => true
  | .object _ => true
  | .array _ => true
  | _ => false
theorem x_tyok_all {a k : Nat} (ha : a < 12) (hk : k < NF a) : x_tyok (TY a k) = true := by
  have h : (List.range 12).all (fun a => (List.range (NF a)).all (fun k => x_tyok (TY a k))) = true := by decide +kernel
  exact List.all_eq_true.mp (List.all_eq_true.mp h a (List.mem_range.mpr ha)) k (List.mem_range.mpr hk)
/-- what a store to a field asks and does -/
theorem x_put_ok {B0 : Nat} {h h' : Hp} {i a d : Nat} {w : Value} (ha : a < 12) (hd : d < NF a) (hp : x_put h i d (FK a d) w = some h') (b : Nat) : narrow (TY a d) (x_cv b B0 w) = x_cv b B0 w ∧ fits (TY a d) (x_cv b B0 w) = true ∧ x_cv b B0 w = x_cv 0 B0 w ∧ h'.1 = h.1 ∧ x_fv h' i d (FK a d) = w ∧ (∀ k, k ≠ d → ∀ kd, x_fv h' i k kd = x_fv h i k kd) ∧ ∀ k, k ≠ i → h'.2.1 k = h.2.1 k ∧ h'.2.2.1 k = h.2.2.1 k ∧ h'.2.2.2 k = h.2.2.2 k := by
  have ht := x_tyok_all ha hd
  unfold FK at hp ⊢
  generalize TY a d = ty at ht hp ⊢
  have oI : ∀ x : Int32, (∀ k, k ≠ d → ∀ kd, x_fv (sI h i d x) i k kd = x_fv h i k kd) ∧ ∀ k, k ≠ i → (sI h i d x).2.1 k = h.2.1 k ∧ (sI h i d x).2.2.1 k = h.2.2.1 k ∧ (sI h i d x).2.2.2 k = h.2.2.2 k := by
    intro x
    refine ⟨fun k hk kd => ?_, fun k hk => ⟨u2_o hk, rfl, rfl⟩⟩
    unfold x_fv
    simp [gI, gL, gR, sI, u2, hk]
  have oR : ∀ x : Option Nat, (∀ k, k ≠ d → ∀ kd, x_fv (sR h i d x) i k kd = x_fv h i k kd) ∧ ∀ k, k ≠ i → (sR h i d x).2.1 k = h.2.1 k ∧ (sR h i d x).2.2.1 k = h.2.2.1 k ∧ (sR h i d x).2.2.2 k = h.2.2.2 k := by
    intro x
    refine ⟨fun k hk kd => ?_, fun k hk => ⟨rfl, rfl, u2_o hk⟩⟩
    unfold x_fv
    simp [gI, gL, gR, sR, u2, hk]
  have oL : ∀ x : Int64, (∀ k, k ≠ d → ∀ kd, x_fv (sL h i d x) i k kd = x_fv h i k kd) ∧ ∀ k, k ≠ i → (sL h i d x).2.1 k = h.2.1 k ∧ (sL h i d x).2.2.1 k = h.2.2.1 k ∧ (sL h i d x).2.2.2 k = h.2.2.2 k := by
    intro x
    refine ⟨fun k hk kd => ?_, fun k hk => ⟨rfl, u2_o hk, rfl⟩⟩
    unfold x_fv
    simp [gI, gL, gR, sL, u2, hk]
  cases ty <;> simp only [x_tyok, Bool.false_eq_true] at ht <;> cases w <;> simp only [x_fk, x_put] at hp <;> try (cases hp; done)
  · cases hp
    rename_i x
    exact ⟨rfl, rfl, rfl, rfl, by simp [x_fv, x_fk, gI, sI, u2], (oI x).1, (oI x).2⟩
  · cases hp
    rename_i x
    exact ⟨rfl, rfl, rfl, rfl, by simp [x_fv, x_fk, gL, sL, u2], (oL x).1, (oL x).2⟩
  · rename_i x
    cases hb : x_ok01 x with
    | false => rw [hb, cond_false] at hp; cases hp
    | true =>
      rw [hb, cond_true] at hp
      cases hp
      simp only [x_ok01, Bool.or_eq_true, decide_eq_true_eq] at hb
      refine ⟨?_, ?_, rfl, rfl, by simp [x_fv, x_fk, gI, sI, u2], (oI x).1, (oI x).2⟩
      · rcases hb with rfl | rfl <;> rfl
      · rcases hb with rfl | rfl <;> rfl
  · cases hp
    exact ⟨rfl, rfl, rfl, rfl, by simp [x_fv, x_fk, gR, sR, u2], (oR none).1, (oR none).2⟩
  · cases hp
    rename_i x
    exact ⟨rfl, rfl, rfl, rfl, by simp [x_fv, x_fk, gR, sR, u2], (oR (some x)).1, (oR (some x)).2⟩
  · cases hp
    exact ⟨rfl, rfl, rfl, rfl, by simp [x_fv, x_fk, gR, sR, u2], (oR none).1, (oR none).2⟩
  · cases hp
    rename_i x
    exact ⟨rfl, rfl, rfl, rfl, by simp [x_fv, x_fk, gR, sR, u2], (oR (some x)).1, (oR (some x)).2⟩
theorem x_ss_mono {a b : Nat} (h : a ≤ b) : x_ss a ≤ x_ss b := by
  induction b with
  | zero => rw [show a = 0 by omega]; exact Nat.le_refl _
  | succ n ih =>
    rcases Nat.lt_or_ge n a with q | q
    · rw [show a = n + 1 by omega]; exact Nat.le_refl _
    · exact Nat.le_trans (ih q) (Nat.le_add_right _ _)
section XH
variable {p : Program} {l : Launch} {e : Env} {R : Room} {s : State} {m : MethodId} {args : Array Value} {below : List Frame} {meth : Method} {c : Code} {Q : State → Prop} {b B0 : Nat} {KA : Nat → ClassId} {D : va_G} {n0 : Nat} {H : Heap} {locs : List Loc} {cells slots : Nat} {g : JFrame}
variable {L : Nat} {xs : Nat → Int32} {j len a d pc : Nat} {v : Value} {t : List Nat} {ls : x_L} {st : List Value} {h : Hp} {q : Nat × x_L × List Value × Hp}
theorem x_sized (k : H.size ≤ s.heap.size + cells → W p l e R s m args below meth c H locs cells slots Q g) : W p l e R s m args below meth c H locs cells slots Q g := fun T hT X => k (by rw [← hT]; exact X.heapSize) T hT X
/-- the heap's size is that of the cells that 'ev' has made -/
theorem x_size (hn : n0 ≤ h.1) (hz : s.heap.size = B0 + n0) (hP : va_P D vwCl (x_ws KA B0 h) H) (hS : va_S (fun q : Nat => B0 ≤ q) s.heap H locs) (hle : H.size ≤ s.heap.size + (h.1 - n0)) : H.size = B0 + h.1 ∧ n0 ≤ h.1 := by
  have h1 := hS.1
  refine ⟨?_, hn⟩
  by_cases h0 : h.1 = 0
  · omega
  · have h2 := (hP (h.1 - 1) _ (x_ws_get (show h.1 - 1 < h.1 by omega))).lt
    have h3 : B0 + (h.1 - 1) < H.size := h2
    omega
theorem q_getfield (ha : a < 12) (hdn : d < NF a) (hr : (TT a d).1 = RN a) {n : Nat} (hw : Cond.fieldLink (MN j).cls n (RN a) (TT a d).2.1 (TT a d).2.2.1 ∈ x_all) (C : x_CX p s m args meth c j L xs b B0 n0 KA D) (hs : x_step L xs j (16, 3, a, d, v, t) pc ls st h = some (.inl q)) (hd : decode (MB j) pc = .ok (.getfield n, 3)) (kk : x_WW p l e R s m args below meth c Q b B0 KA D n0 (ML j) q.1 q.2.1 q.2.2.1 q.2.2.2) : x_WW p l e R s m args below meth c Q b B0 KA D n0 (ML j) pc ls st h := by
  obtain ⟨i, r, rfl, hi, hsh, rfl⟩ := inv16 hs
  intro H locs sl P S O
  have F := x_cf a ha
  have k2 := kk H locs sl P S O
  rw [List.map_cons, x_cv_fv] at k2
  exact va_get (C := RN a) (T := TT a) (N := NF a) C.1 C.2.1 C.2.2.2.2.1 F.2.1 C.2.2.2.1 C.2.2.2.2.2.2.2.2.1 P i (by rw [x_ws_get hi, x_en_obj ha hsh]) F.1 d hdn (C.2.2.2.2.1 _ hw) (fun x hx => by rw [hr] at hx; exact hx) (x_fs_get hdn) hd k2
theorem q_putfield (ha : a < 12) (hdn : d < NF a) (hr : (TT a d).1 = RN a) {n : Nat} (hw : Cond.fieldLink (MN j).cls n (RN a) (TT a d).2.1 (TT a d).2.2.1 ∈ x_all) (hfin : (TT a d).2.2.2 = false ∨ ((MN j).cls = RN a ∧ (MN j).name = "<init>")) (C : x_CX p s m args meth c j L xs b B0 n0 KA D) (hs : x_step L xs j (17, 3, a, d, v, t) pc ls st h = some (.inl q)) (hd : decode (MB j) pc = .ok (.putfield n, 3)) (kk : x_WW p l e R s m args below meth c Q b B0 KA D n0 (ML j) q.1 q.2.1 q.2.2.1 q.2.2.2) : x_WW p l e R s m args below meth c Q b B0 KA D n0 (ML j) pc ls st h := by
  obtain ⟨w, i, r, h', rfl, hi, hsh, hp, rfl⟩ := inv17 hs
  intro H locs sl P S O
  have F := x_cf a ha
  obtain ⟨g1, g2, g3, g4, g5, g6, g7⟩ := x_put_ok (B0 := B0) ha hdn hp b
  have hset : (x_ws KA B0 h).set i (B0 + i, .inr (a, (x_fs B0 h i a).set d (x_cv b B0 w))) = x_ws KA B0 h' := x_ws_set g4 rfl (by rw [x_en_obj ha hsh, g3, x_fs_set (fun k hk => g6 k hk _) g5]) (fun k hk => x_en_eq (g7 k hk).1 (g7 k hk).2.1 (g7 k hk).2.2)
  have hl : d < (x_fs B0 h i a).length := by simp [x_fs, hdn]
  have fin : ∀ (H1 : Heap) (locs1 : List Loc), va_P D vwCl ((x_ws KA B0 h).set i (B0 + i, .inr (a, (x_fs B0 h i a).set d (x_cv b B0 w)))) H1 → va_D (fun q : Nat => B0 ≤ q) ((x_ws KA B0 h).set i (B0 + i, .inr (a, (x_fs B0 h i a).set d (x_cv b B0 w)))) → va_S (fun q : Nat => B0 ≤ q) s.heap H1 locs1 → W p l e R s m args below meth c H1 locs1 (h.1 - n0) (x_ss h.1 - x_ss n0) Q (F0 m (pc + 3) sl (r.map (x_cv b B0))) := by
    intro H1 locs1 P1 D1 S1
    rw [hset] at P1
    have k2 := kk H1 locs1 sl P1 S1 O
    rw [g4] at k2
    exact k2
  cases hf : (TT a d).2.2.2 with
  | false => exact va_put (C := RN a) (T := TT a) (N := NF a) C.1 C.2.1 C.2.2.2.2.1 F.2.1 (TY a) F.2.2.1 F.2.2.2.1 C.2.2.2.1 C.2.2.2.2.2.2.2.2.1 P x_ws_D S i (by rw [x_ws_get hi, x_en_obj ha hsh]) F.1 d hdn (C.2.2.2.2.1 _ hw) (fun x hx => by rw [hr] at hx; exact hx) hf (F.2.2.1 d hdn) g1 g2 hl hd fin
  | true =>
    rcases hfin with hq | ⟨hc, hn⟩
    · rw [hf] at hq; cases hq
    · exact va_putF (C := RN a) (T := TT a) (N := NF a) C.1 C.2.1 C.2.2.2.2.1 F.2.1 (TY a) F.2.2.1 F.2.2.2.1 C.2.2.2.1 C.2.2.2.2.2.2.2.2.1 P x_ws_D S i (by rw [x_ws_get hi, x_en_obj ha hsh]) F.1 d hdn (C.2.2.2.2.1 _ hw) (fun x hx => by rw [hr] at hx; exact hx) hf (C.2.2.2.2.2.2.1 hn) (hr.trans hc.symm) (F.2.2.1 d hdn) g1 g2 hl hd fin
theorem x_sort20 {t : Nat} (h : x_sort 20 t = true) : t = 20 := by
  simp only [x_sort, Bool.or_eq_true, Bool.and_eq_true] at h
  rcases h with h | h
  · exact (Nat.eq_of_beq_eq_true h).symm
  · cases h.1
theorem x_sort21 {t : Nat} (h : x_sort 21 t = true) : t = 21 := by
  simp only [x_sort, Bool.or_eq_true, Bool.and_eq_true] at h
  rcases h with h | h
  · exact (Nat.eq_of_beq_eq_true h).symm
  · cases h.1
theorem x_sort22 {t : Nat} (h : x_sort 22 t = true) : t = 22 := by
  simp only [x_sort, Bool.or_eq_true, Bool.and_eq_true] at h
  rcases h with h | h
  · exact (Nat.eq_of_beq_eq_true h).symm
  · cases h.1
theorem x_sort23 {t : Nat} (h : x_sort 23 t = true) : t = 23 ∨ t = 24 ∨ t = 25 := by
  simp only [x_sort, Bool.or_eq_true, Bool.and_eq_true] at h
  rcases h with h | ⟨-, h | h⟩
  · exact Or.inl (Nat.eq_of_beq_eq_true h).symm
  · exact Or.inr (Or.inl (Nat.eq_of_beq_eq_true h))
  · exact Or.inr (Or.inr (Nat.eq_of_beq_eq_true h))
theorem q_iaload  (C : x_CX p s m args meth c j L xs b B0 n0 KA D) (hs : x_step L xs j (18, 1, 20, d, v, t) pc ls st h = some (.inl q)) (hd : decode (MB j) pc = .ok (.iaload, 1)) (kk : x_WW p l e R s m args below meth c Q b B0 KA D n0 (ML j) q.1 q.2.1 q.2.2.1 q.2.2.2) : x_WW p l e R s m args below meth c Q b B0 KA D n0 (ML j) pc ls st h := by
  rcases inv18 hs with ⟨x, i, r, rfl, hi, hso, hin, rfl⟩ | ⟨x, z, r, rfl, -, hin, rfl⟩
  · exact fun H locs sl P S O => va_iald C.1 C.2.1 C.2.2.2.2.2.2.2.2.1 P i 0 (by rw [x_ws_get hi, x_en20 (x_sort20 hso)]) rfl hin hd (kk H locs sl P S O)
  · exact fun H locs sl P S O => va_sld C.1 C.2.1 C.2.2.2.2.2.2.2.2.2.2.1 (by have := C.2.2.2.2.2.2.2.2.2.2.2; omega) (by have := C.2.2.2.2.2.2.2.2.2.2.2.1; exact Nat.not_le.mpr this) S hin hd (kk H locs sl P S O)
theorem q_laload  (C : x_CX p s m args meth c j L xs b B0 n0 KA D) (hs : x_step L xs j (18, 1, 21, d, v, t) pc ls st h = some (.inl q)) (hd : decode (MB j) pc = .ok (.laload, 1)) (kk : x_WW p l e R s m args below meth c Q b B0 KA D n0 (ML j) q.1 q.2.1 q.2.2.1 q.2.2.2) : x_WW p l e R s m args below meth c Q b B0 KA D n0 (ML j) pc ls st h := by
  rcases inv18 hs with ⟨x, i, r, rfl, hi, hso, hin, rfl⟩ | ⟨x, z, r, rfl, hz, -⟩
  · exact fun H locs sl P S O => va_lald C.1 C.2.1 C.2.2.2.2.2.2.2.2.1 P i 1 (by rw [x_ws_get hi, x_en21 (x_sort21 hso)]) rfl hin hd (kk H locs sl P S O)
  · cases hz
theorem q_baload  (C : x_CX p s m args meth c j L xs b B0 n0 KA D) (hs : x_step L xs j (18, 1, 22, d, v, t) pc ls st h = some (.inl q)) (hd : decode (MB j) pc = .ok (.baload, 1)) (kk : x_WW p l e R s m args below meth c Q b B0 KA D n0 (ML j) q.1 q.2.1 q.2.2.1 q.2.2.2) : x_WW p l e R s m args below meth c Q b B0 KA D n0 (ML j) pc ls st h := by
  rcases inv18 hs with ⟨x, i, r, rfl, hi, hso, hin, rfl⟩ | ⟨x, z, r, rfl, hz, -⟩
  · exact fun H locs sl P S O => va_zald C.1 C.2.1 C.2.2.2.2.2.2.2.2.1 P i 2 (by rw [x_ws_get hi, x_en22 (x_sort22 hso)]) rfl hin hd (kk H locs sl P S O)
  · cases hz
theorem x_rfq (b B0 : Nat) (h : Hp) (i k : Nat) : x_cv b B0 (x_aget h 23 i k) = va_rf (x_rr B0 h i k) := by
  simp only [x_aget, x_rr]
  cases gR h i k <;> rfl
theorem q_aaload  (C : x_CX p s m args meth c j L xs b B0 n0 KA D) (hs : x_step L xs j (18, 1, 23, d, v, t) pc ls st h = some (.inl q)) (hd : decode (MB j) pc = .ok (.aaload, 1)) (kk : x_WW p l e R s m args below meth c Q b B0 KA D n0 (ML j) q.1 q.2.1 q.2.2.1 q.2.2.2) : x_WW p l e R s m args below meth c Q b B0 KA D n0 (ML j) pc ls st h := by
  rcases inv18 hs with ⟨x, i, r, rfl, hi, hso, hin, rfl⟩ | ⟨x, z, r, rfl, hz, -⟩
  · intro H locs sl P S O
    have k2 := kk H locs sl P S O
    rw [List.map_cons, x_rfq] at k2
    rcases x_sort23 hso with q | q | q
    · exact va_aldq C.1 C.2.1 C.2.2.2.2.2.2.2.2.1 P i 3 (by rw [x_ws_get hi, x_en23 q]) rfl hin hd k2
    · exact va_aldq C.1 C.2.1 C.2.2.2.2.2.2.2.2.1 P i 4 (by rw [x_ws_get hi, x_en24 q]) rfl hin hd k2
    · exact va_aldq C.1 C.2.1 C.2.2.2.2.2.2.2.2.1 P i 5 (by rw [x_ws_get hi, x_en25 q]) rfl hin hd k2
  · cases hz
theorem gI_self (h : Hp) (i k : Nat) (y : Int32) : gI (sI h i k y) i = upd (gI h i) k y := by
  funext b
  simp [gI, sI, u2, upd]
theorem gL_self (h : Hp) (i k : Nat) (y : Int64) : gL (sL h i k y) i = vp_updL (gL h i) k y := by
  funext b
  simp [gL, sL, u2, vp_updL]
theorem q_iastore  (C : x_CX p s m args meth c j L xs b B0 n0 KA D) (hs : x_step L xs j (19, 1, 20, d, v, t) pc ls st h = some (.inl q)) (hd : decode (MB j) pc = .ok (.iastore, 1)) (kk : x_WW p l e R s m args below meth c Q b B0 KA D n0 (ML j) q.1 q.2.1 q.2.2.1 q.2.2.2) : x_WW p l e R s m args below meth c Q b B0 KA D n0 (ML j) pc ls st h := by
  obtain ⟨w, x, i, r, h', rfl, hi, hso, hin, hp, rfl⟩ := inv19 hs
  have hq := x_sort20 hso
  rw [hq] at hp
  cases w <;> simp only [x_aput] at hp <;> try (cases hp; done)
  rename_i y
  cases hp
  intro H locs sl P S O
  refine va_iast C.1 C.2.1 C.2.2.2.2.2.2.2.2.1 P x_ws_D S i 0 (by rw [x_ws_get hi, x_en20 hq]) rfl hin hd fun H1 locs1 P1 D1 S1 => ?_
  rw [x_ws_set (h := h) (h' := sI h i x.toNatClampNeg y) rfl rfl (by rw [x_en20 hq, gI_self]) (fun k hk => x_en_eq (u2_o hk) rfl rfl)] at P1
  exact kk H1 locs1 sl P1 S1 O
theorem q_lastore  (C : x_CX p s m args meth c j L xs b B0 n0 KA D) (hs : x_step L xs j (19, 1, 21, d, v, t) pc ls st h = some (.inl q)) (hd : decode (MB j) pc = .ok (.lastore, 1)) (kk : x_WW p l e R s m args below meth c Q b B0 KA D n0 (ML j) q.1 q.2.1 q.2.2.1 q.2.2.2) : x_WW p l e R s m args below meth c Q b B0 KA D n0 (ML j) pc ls st h := by
  obtain ⟨w, x, i, r, h', rfl, hi, hso, hin, hp, rfl⟩ := inv19 hs
  have hq := x_sort21 hso
  rw [hq] at hp
  cases w <;> simp only [x_aput] at hp <;> try (cases hp; done)
  rename_i y
  cases hp
  intro H locs sl P S O
  refine va_last C.1 C.2.1 C.2.2.2.2.2.2.2.2.1 P x_ws_D S i 1 (by rw [x_ws_get hi, x_en21 hq]) rfl hin hd fun H1 locs1 P1 D1 S1 => ?_
  rw [x_ws_set (h := h) (h' := sL h i x.toNatClampNeg y) rfl rfl (by rw [x_en21 hq, gL_self]) (fun k hk => x_en_eq rfl (u2_o hk) rfl)] at P1
  exact kk H1 locs1 sl P1 S1 O
theorem q_bastore  (C : x_CX p s m args meth c j L xs b B0 n0 KA D) (hs : x_step L xs j (19, 1, 22, d, v, t) pc ls st h = some (.inl q)) (hd : decode (MB j) pc = .ok (.bastore, 1)) (kk : x_WW p l e R s m args below meth c Q b B0 KA D n0 (ML j) q.1 q.2.1 q.2.2.1 q.2.2.2) : x_WW p l e R s m args below meth c Q b B0 KA D n0 (ML j) pc ls st h := by
  obtain ⟨w, x, i, r, h', rfl, hi, hso, hin, hp, rfl⟩ := inv19 hs
  have hq := x_sort22 hso
  rw [hq] at hp
  cases w <;> simp only [x_aput] at hp <;> try (cases hp; done)
  rename_i y
  cases hb : x_ok01 y with
  | false => rw [hb, cond_false] at hp; cases hp
  | true =>
  rw [hb, cond_true] at hp
  cases hp
  intro H locs sl P S O
  refine va_zast C.1 C.2.1 C.2.2.2.2.2.2.2.2.1 P x_ws_D S i 2 (by rw [x_ws_get hi, x_en22 hq]) rfl hin hd fun H1 locs1 P1 D1 S1 => ?_
  have hy : vp_nar .boolean y = y := by
    simp only [x_ok01, Bool.or_eq_true, decide_eq_true_eq] at hb
    rcases hb with rfl | rfl <;> rfl
  rw [hy] at P1
  rw [x_ws_set (h := h) (h' := sI h i x.toNatClampNeg y) rfl rfl (by rw [x_en22 hq, gI_self]) (fun k hk => x_en_eq (u2_o hk) rfl rfl)] at P1
  exact kk H1 locs1 sl P1 S1 O
theorem x_elc_cl : RN 3 = "FloorTurn$Part" ∧ RN 6 = "FloorTurn$Recipe" ∧ RN 9 = "FloorTurn$Shelf" := ⟨rfl, rfl, rfl⟩
theorem x_rr_up {B0 : Nat} {h : Hp} {i k v : Nat} : va_up (x_rr B0 h i) k (some (B0 + v)) = x_rr B0 (sR h i k (some v)) i := by
  funext a
  unfold va_up x_rr gR sR u2
  by_cases ha : a = k
  · simp [ha]
  · simp [ha]
theorem q_aastore  (C : x_CX p s m args meth c j L xs b B0 n0 KA D) (hs : x_step L xs j (19, 1, 23, d, v, t) pc ls st h = some (.inl q)) (hd : decode (MB j) pc = .ok (.aastore, 1)) (kk : x_WW p l e R s m args below meth c Q b B0 KA D n0 (ML j) q.1 q.2.1 q.2.2.1 q.2.2.2) : x_WW p l e R s m args below meth c Q b B0 KA D n0 (ML j) pc ls st h := by
  obtain ⟨w, x, i, r, h', rfl, hi, hso, hin, hp, rfl⟩ := inv19 hs
  cases w <;> simp only [x_aput] at hp <;> try (cases hp; done)
  rename_i y
  cases hb : x_is y h.1 (x_elc (SH i).1) 0 with
  | false => rw [hb, cond_false] at hp; cases hp
  | true =>
  rw [hb, cond_true] at hp
  cases hp
  obtain ⟨hy, hsy⟩ := x_is_inv hb
  intro H locs sl P S O
  rcases x_sort23 hso with q | q | q
  · rw [q] at hsy
    refine va_astq (r := (RN 3, TT 3, NF 3)) C.1 C.2.1 C.2.2.2.2.2.2.2.2.1 P x_ws_D S i 3 y 3 (by rw [x_ws_get hi, x_en23 q]) rfl (by rw [x_ws_get hy, x_en_obj (by decide) hsy]; rfl) (x_cf 3 (by decide)).1 hin hd fun H1 locs1 P1 D1 S1 => ?_
    rw [x_rr_up, x_ws_set (h := h) (h' := sR h i x.toNatClampNeg (some y)) rfl rfl (by rw [x_en23 q]) (fun k hk => x_en_eq rfl rfl (u2_o hk))] at P1
    exact kk H1 locs1 sl P1 S1 O
  · rw [q] at hsy
    refine va_astq (r := (RN 6, TT 6, NF 6)) C.1 C.2.1 C.2.2.2.2.2.2.2.2.1 P x_ws_D S i 4 y 6 (by rw [x_ws_get hi, x_en24 q]) rfl (by rw [x_ws_get hy, x_en_obj (by decide) hsy]; rfl) (x_cf 6 (by decide)).1 hin hd fun H1 locs1 P1 D1 S1 => ?_
    rw [x_rr_up, x_ws_set (h := h) (h' := sR h i x.toNatClampNeg (some y)) rfl rfl (by rw [x_en24 q]) (fun k hk => x_en_eq rfl rfl (u2_o hk))] at P1
    exact kk H1 locs1 sl P1 S1 O
  · rw [q] at hsy
    refine va_astq (r := (RN 9, TT 9, NF 9)) C.1 C.2.1 C.2.2.2.2.2.2.2.2.1 P x_ws_D S i 5 y 9 (by rw [x_ws_get hi, x_en25 q]) rfl (by rw [x_ws_get hy, x_en_obj (by decide) hsy]; rfl) (x_cf 9 (by decide)).1 hin hd fun H1 locs1 P1 D1 S1 => ?_
    rw [x_rr_up, x_ws_set (h := h) (h' := sR h i x.toNatClampNeg (some y)) rfl rfl (by rw [x_en25 q]) (fun k hk => x_en_eq rfl rfl (u2_o hk))] at P1
    exact kk H1 locs1 sl P1 S1 O
theorem x_shr {i : Nat} (h : 20 ≤ (SH i).1) : (SH i).1 = 20 ∨ (SH i).1 = 21 ∨ (SH i).1 = 22 ∨ (SH i).1 = 23 ∨ (SH i).1 = 24 ∨ (SH i).1 = 25 := by
  have g : x_shl.all (fun q => decide (20 ≤ q.1 → q.1 = 20 ∨ q.1 = 21 ∨ q.1 = 22 ∨ q.1 = 23 ∨ q.1 = 24 ∨ q.1 = 25)) = true := by decide +kernel
  unfold SH at h ⊢
  rw [List.getD_eq_getElem?_getD] at h ⊢
  cases hq : x_shl[i]? with
  | none => rw [hq] at h; exact absurd h (by decide)
  | some y =>
    rw [hq] at h
    have h2 := List.all_eq_true.mp g y (List.mem_of_getElem? hq)
    simp only [decide_eq_true_eq] at h2
    exact h2 h
theorem q_arraylength  (C : x_CX p s m args meth c j L xs b B0 n0 KA D) (hs : x_step L xs j (20, 1, a, d, v, t) pc ls st h = some (.inl q)) (hd : decode (MB j) pc = .ok (.arraylength, 1)) (kk : x_WW p l e R s m args below meth c Q b B0 KA D n0 (ML j) q.1 q.2.1 q.2.2.1 q.2.2.2) : x_WW p l e R s m args below meth c Q b B0 KA D n0 (ML j) pc ls st h := by
  rcases inv20 hs with ⟨i, r, rfl, hi, hso, rfl⟩ | ⟨z, r, rfl, rfl⟩
  · intro H locs sl P S O
    have k2 := kk H locs sl P S O
    have hlt : (SH i).1 = 20 ∨ (SH i).1 = 21 ∨ (SH i).1 = 22 ∨ (SH i).1 = 23 ∨ (SH i).1 = 24 ∨ (SH i).1 = 25 := x_shr hso
    rcases hlt with q | q | q | q | q | q
    · exact va_alen C.1 C.2.1 C.2.2.2.2.2.2.2.2.1 P i 0 (by rw [x_ws_get hi, x_en20 q]) (ty := .int) (x := ((SH i).2, .inl (gI h i))) rfl rfl hd k2
    · exact va_alen C.1 C.2.1 C.2.2.2.2.2.2.2.2.1 P i 1 (by rw [x_ws_get hi, x_en21 q]) (ty := .long) (x := ((SH i).2, .inr (.inl (gL h i)))) rfl rfl hd k2
    · exact va_alen C.1 C.2.1 C.2.2.2.2.2.2.2.2.1 P i 2 (by rw [x_ws_get hi, x_en22 q]) (ty := .boolean) (x := ((SH i).2, .inl (gI h i))) rfl rfl hd k2
    · exact va_alen C.1 C.2.1 C.2.2.2.2.2.2.2.2.1 P i 3 (by rw [x_ws_get hi, x_en23 q]) (ty := .object "FloorTurn$Part") (x := ((SH i).2, .inr (.inr (.inr (.inr (x_rr B0 h i)))))) rfl rfl hd k2
    · exact va_alen C.1 C.2.1 C.2.2.2.2.2.2.2.2.1 P i 4 (by rw [x_ws_get hi, x_en24 q]) (ty := .object "FloorTurn$Recipe") (x := ((SH i).2, .inr (.inr (.inr (.inr (x_rr B0 h i)))))) rfl rfl hd k2
    · exact va_alen C.1 C.2.1 C.2.2.2.2.2.2.2.2.1 P i 5 (by rw [x_ws_get hi, x_en25 q]) (ty := .object "FloorTurn$Shelf") (x := ((SH i).2, .inr (.inr (.inr (.inr (x_rr B0 h i)))))) rfl rfl hd k2
  · exact fun H locs sl P S O => va_slen C.1 C.2.1 C.2.2.2.2.2.2.2.2.2.2.1 (by have := C.2.2.2.2.2.2.2.2.2.2.2; omega) (by have := C.2.2.2.2.2.2.2.2.2.2.2.1; exact Nat.not_le.mpr this) S hd (kk H locs sl P S O)
end XH
