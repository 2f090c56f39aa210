/-! The world of the machine that a heap of 'ev' stands for; object i lies at B0 + i, the script at b. -/
def x_cv (b B0 : Nat) (v : Value) : Value := match v with
  | .ref i => .ref (B0 + i)
  | .retAddr _ => .ref b
  | w => w
theorem x_cv_cat (b B0 : Nat) (v : Value) : (x_cv b B0 v).category = v.category := by cases v <;> rfl
theorem x_cv_cats (b B0 : Nat) (st : List Value) : ((st.map (x_cv b B0)).map fun v => v.category).sum = x_cats st := by
  unfold x_cats
  rw [List.map_map]
  congr 1
  exact List.map_congr_left fun v _ => x_cv_cat b B0 v
def x_fs (B0 : Nat) (h : Hp) (i ci : Nat) : List Value := (List.range (NF ci)).map fun k => x_cv 0 B0 (x_fv h i k (FK ci k))
def x_rr (B0 : Nat) (h : Hp) (i : Nat) : Nat → Option Nat := fun k => (gR h i k).map fun q => B0 + q
def x_en (KA : Nat → ClassId) (B0 : Nat) (h : Hp) (i : Nat) : va_E := match (SH i).1 with
  | 20 => .inl (KA 0, (SH i).2, .inl (gI h i))
  | 21 => .inl (KA 1, (SH i).2, .inr (.inl (gL h i)))
  | 22 => .inl (KA 2, (SH i).2, .inl (gI h i))
  | 23 => .inl (KA 3, (SH i).2, .inr (.inr (.inr (.inr (x_rr B0 h i)))))
  | 24 => .inl (KA 4, (SH i).2, .inr (.inr (.inr (.inr (x_rr B0 h i)))))
  | 25 => .inl (KA 5, (SH i).2, .inr (.inr (.inr (.inr (x_rr B0 h i)))))
  | ci => .inr (ci, x_fs B0 h i ci)
def x_ws (KA : Nat → ClassId) (B0 : Nat) (h : Hp) : va_W := (List.range h.1).map fun i => (B0 + i, x_en KA B0 h i)
theorem x_ws_get {KA : Nat → ClassId} {B0 : Nat} {h : Hp} {i : Nat} (hi : i < h.1) : (x_ws KA B0 h)[i]? = some (B0 + i, x_en KA B0 h i) := by simp [x_ws, hi]
theorem x_ws_D {KA : Nat → ClassId} {B0 : Nat} {h : Hp} : va_D (fun q : Nat => B0 ≤ q) (x_ws KA B0 h) := by
  have g : ∀ (k : Nat) (q : Nat × va_E), (x_ws KA B0 h)[k]? = some q → q.1 = B0 + k := by
    intro k q hq
    by_cases hk : k < h.1
    · rw [x_ws_get hk] at hq
      cases hq
      rfl
    · have : (x_ws KA B0 h)[k]? = none := by simp [x_ws]; omega
      rw [this] at hq
      cases hq
  refine ⟨fun i j p q hi hj hpq => ?_, fun k q hq => ?_⟩
  · have h1 := g i p hi
    have h2 := g j q hj
    omega
  · show B0 ≤ q.1
    rw [g k q hq]
    omega
theorem x_ws_set {KA : Nat → ClassId} {B0 : Nat} {h h' : Hp} {i : Nat} {a : Nat} {e : va_E} (hn : h'.1 = h.1) (ha : a = B0 + i) (he : e = x_en KA B0 h' i) (ho : ∀ k, k ≠ i → x_en KA B0 h' k = x_en KA B0 h k) : (x_ws KA B0 h).set i (a, e) = x_ws KA B0 h' := by
  subst ha; subst he
  apply List.ext_getElem?
  intro k
  rw [List.getElem?_set]
  by_cases hk : i = k
  · subst hk
    by_cases hl : i < h.1
    · simp [x_ws, hl, hn]
    · simp [x_ws, hl, hn]
  · by_cases hl : k < h.1
    · simp [x_ws, hl, hn, hk, ho k (Ne.symm hk)]
    · simp [x_ws, hl, hn, hk]
theorem x_ws_push {KA : Nat → ClassId} {B0 : Nat} {h h' : Hp} {e : va_E} {a : Nat} (hn : h'.1 = h.1 + 1) (ha : a = B0 + h.1) (he : e = x_en KA B0 h' h.1) (ho : ∀ k, k < h.1 → x_en KA B0 h' k = x_en KA B0 h k) : x_ws KA B0 h ++ [(a, e)] = x_ws KA B0 h' := by
  subst ha; subst he
  unfold x_ws
  rw [hn, List.range_succ, List.map_append]
  congr 1
  exact (List.map_congr_left fun k hk => by rw [ho k (List.mem_range.mp hk)]).symm
theorem x_en_eq {KA : Nat → ClassId} {B0 : Nat} {h h' : Hp} {k : Nat} (h1 : h'.2.1 k = h.2.1 k) (h2 : h'.2.2.1 k = h.2.2.1 k) (h3 : h'.2.2.2 k = h.2.2.2 k) : x_en KA B0 h' k = x_en KA B0 h k := by
  unfold x_en x_fs x_rr x_fv gI gL gR
  rw [h1, h2, h3]
theorem u2_o {α : Type} {f : Nat → Nat → α} {i k a : Nat} {v : α} (h : a ≠ i) : u2 f i k v a = f a := by funext b; simp [u2, h]
theorem u1_o {α : Type} {f : Nat → Nat → α} {i a : Nat} {g : Nat → α} (h : a ≠ i) : u1 f i g a = f a := by funext b; simp [u1, h]
theorem u1_s {α : Type} {f : Nat → Nat → α} {i : Nat} {g : Nat → α} : u1 f i g i = g := by funext b; simp [u1]
def x_tys (KA : Nat → ClassId) : List (ClassId × FieldType) := [(KA 0, .int), (KA 1, .long), (KA 2, .boolean), (KA 3, .object "FloorTurn$Part"), (KA 4, .object "FloorTurn$Recipe"), (KA 5, .object "FloorTurn$Shelf")]
def x_NW (U : State) : Prop := (∀ q ∈ x_nwl, va_Nw (.methodLinkNest q.2.1 q.2.2.1 q.2.2.2.1 q.2.2.2.2) U) ∧ ∀ t : Nat, va_AO (x_ack t) U
theorem x_NW.moved {u U : State} (hW : u.WarmedH U.vm) (h : x_NW u) : x_NW U := ⟨fun q hq => va_Nw.warmM hW (h.1 q hq), fun t => (h.2 t).moved hW.alike⟩
/-- locals -/
def x_LOC (b B0 n : Nat) (sl : Array Slot) (ls : x_L) : Prop := ls.length = n ∧ sl.size = n ∧ lv_wf sl ∧ ∀ (i : Nat) (v : Value), ls[i]? = some (some v) → sl[i]? = some (.val (x_cv b B0 v))
def x_prs (b B0 : Nat) (ls : x_L) : List (Nat × Value) := (List.range ls.length).filterMap fun i => match ls[i]? with
  | some (some v) => some (i, x_cv b B0 v)
  | _ => none
theorem x_prs_mem {b B0 : Nat} {ls : x_L} {i : Nat} {w : Value} : (i, w) ∈ x_prs b B0 ls ↔ ∃ v, ls[i]? = some (some v) ∧ w = x_cv b B0 v := by
  unfold x_prs
  rw [List.mem_filterMap]
  constructor
  · rintro ⟨k, hk, hq⟩
    split at hq
    · rename_i v hv
      cases hq
      exact ⟨v, hv, rfl⟩
    · cases hq
  · rintro ⟨v, hv, rfl⟩
    have hlt : i < ls.length := (List.getElem?_eq_some_iff.mp hv).1
    refine ⟨i, List.mem_range.mpr hlt, ?_⟩
    rw [hv]
theorem x_LOC.has {b B0 n : Nat} {sl : Array Slot} {ls : x_L} (h : x_LOC b B0 n sl ls) : lv_has sl n (x_prs b B0 ls) := by
  refine ⟨h.2.1, h.2.2.1, fun q hq => ?_⟩
  obtain ⟨v, hv, hw⟩ := x_prs_mem.mp (show (q.1, q.2) ∈ x_prs b B0 ls from hq)
  rw [hw]
  exact h.2.2.2 _ _ hv
theorem x_clr_S (ls : x_L) (a : Nat) : x_clr ls (a + 1) = bif x_wide ls[a]? then ls.set a none else ls := rfl
theorem x_clr_len : ∀ (a : Nat) (ls : x_L), (x_clr ls a).length = ls.length
  | 0, _ => rfl
  | a + 1, ls => by
    rw [x_clr_S]
    cases x_wide ls[a]? <;> simp
theorem x_st_len (ls : x_L) (a : Nat) (v : Value) : (x_st ls a v).length = ls.length := by
  unfold x_st
  cases Nat.beq v.category 2 <;> simp [x_clr_len]
theorem x_wide_cat {q : Option (Option Value)} {v : Value} (hq : q = some (some v)) (hk : x_vk v ≤ 2) : x_wide q = Nat.beq v.category 2 := by
  subst hq
  cases v <;> first | rfl | (simp [x_vk] at hk)
theorem x_clr_get : ∀ (a : Nat) (ls : x_L) (i : Nat) (w : Value), (x_clr ls a)[i]? = some (some w) → ls[i]? = some (some w) ∧ ¬ (i + 1 = a ∧ w.category = 2)
  | 0, ls, i, w, h => ⟨h, fun q => by omega⟩
  | a + 1, ls, i, w, h => by
    rw [x_clr_S] at h
    cases hw : x_wide ls[a]? with
    | true =>
      rw [hw, cond_true] at h
      by_cases hi : a = i
      · subst hi
        rw [List.getElem?_set] at h
        by_cases hl : a < ls.length
        · simp [hl] at h
        · simp [hl] at h
      · rw [List.getElem?_set_ne hi] at h
        exact ⟨h, fun q => hi (by omega)⟩
    | false =>
      rw [hw, cond_false] at h
      refine ⟨h, fun q => ?_⟩
      have hi : i = a := by omega
      subst hi
      rw [h] at hw
      have h2 : Nat.beq w.category 2 = false := hw
      rw [q.2] at h2
      cases h2
theorem x_st_get1 {ls : x_L} {a : Nat} {v : Value} (hv : v.category = 1) {i : Nat} {w : Value} (h : (x_st ls a v)[i]? = some (some w)) : (i = a ∧ w = v) ∨ (i ≠ a ∧ ls[i]? = some (some w) ∧ ¬ (i + 1 = a ∧ w.category = 2)) := by
  unfold x_st at h
  rw [show Nat.beq v.category 2 = false by rw [hv]; rfl, cond_false] at h
  by_cases hi : a = i
  · subst hi
    rw [List.getElem?_set] at h
    by_cases hl : a < (x_clr ls a).length
    · simp [hl] at h
      exact Or.inl ⟨rfl, h.symm⟩
    · simp [hl] at h
  · rw [List.getElem?_set_ne hi] at h
    exact Or.inr ⟨Ne.symm hi, x_clr_get _ _ _ _ h⟩
theorem x_st_get2 {ls : x_L} {a : Nat} {v : Value} (hv : v.category = 2) {i : Nat} {w : Value} (h : (x_st ls a v)[i]? = some (some w)) : (i = a ∧ w = v) ∨ (i ≠ a ∧ i ≠ a + 1 ∧ ls[i]? = some (some w) ∧ ¬ (i + 1 = a ∧ w.category = 2)) := by
  unfold x_st at h
  rw [show Nat.beq v.category 2 = true by rw [hv]; rfl, cond_true] at h
  by_cases hi : a = i
  · subst hi
    rw [List.getElem?_set] at h
    by_cases hl : a < ((x_clr ls a).set (a + 1) none).length
    · simp only [hl, if_true] at h
      exact Or.inl ⟨rfl, (Option.some.inj (Option.some.inj h)).symm⟩
    · simp only [hl, if_true, if_false] at h
      cases h
  · rw [List.getElem?_set_ne hi] at h
    by_cases hi2 : a + 1 = i
    · subst hi2
      rw [List.getElem?_set] at h
      by_cases hl : a + 1 < (x_clr ls a).length
      · simp [hl] at h
      · simp [hl] at h
    · rw [List.getElem?_set_ne hi2] at h
      exact Or.inr ⟨Ne.symm hi, Ne.symm hi2, x_clr_get _ _ _ _ h⟩
theorem x_LOC.st1 {b B0 n : Nat} {sl sl' : Array Slot} {ls : x_L} (O : x_LOC b B0 n sl ls) {a : Nat} {v : Value} (hv : v.category = 1) (h : lv_has sl' n ((a, x_cv b B0 v) :: (x_prs b B0 ls).filter (fun q => !(q.1 == a) && !(q.1 + 1 == a && q.2.category == 2)))) : x_LOC b B0 n sl' (x_st ls a v) := by
  refine ⟨by rw [x_st_len]; exact O.1, h.1, h.2.1, fun i w hw => ?_⟩
  rcases x_st_get1 hv hw with ⟨rfl, rfl⟩ | ⟨h1, h2, h3⟩
  · exact h.2.2 _ List.mem_cons_self
  · refine h.2.2 (i, x_cv b B0 w) (List.mem_cons_of_mem _ (List.mem_filter.mpr ⟨x_prs_mem.mpr ⟨w, h2, rfl⟩, ?_⟩))
    simp only [x_cv_cat, Bool.and_eq_true, Bool.not_eq_true', beq_eq_false_iff_ne, ne_eq, Bool.and_eq_false_iff]
    refine ⟨h1, ?_⟩
    by_cases q : i + 1 = a
    · exact Or.inr fun q2 => h3 ⟨q, q2⟩
    · exact Or.inl q
theorem x_LOC.st2 {b B0 n : Nat} {sl sl' : Array Slot} {ls : x_L} (O : x_LOC b B0 n sl ls) {a : Nat} {v : Value} (hv : v.category = 2) (h : lv_has sl' n ((a, x_cv b B0 v) :: (x_prs b B0 ls).filter (fun q => !(q.1 == a) && (!(q.1 == a + 1) && !(q.1 + 1 == a && q.2.category == 2))))) : x_LOC b B0 n sl' (x_st ls a v) := by
  refine ⟨by rw [x_st_len]; exact O.1, h.1, h.2.1, fun i w hw => ?_⟩
  rcases x_st_get2 hv hw with ⟨rfl, rfl⟩ | ⟨h1, h1', h2, h3⟩
  · exact h.2.2 _ List.mem_cons_self
  · refine h.2.2 (i, x_cv b B0 w) (List.mem_cons_of_mem _ (List.mem_filter.mpr ⟨x_prs_mem.mpr ⟨w, h2, rfl⟩, ?_⟩))
    simp only [x_cv_cat, Bool.and_eq_true, Bool.not_eq_true', beq_eq_false_iff_ne, ne_eq, Bool.and_eq_false_iff]
    refine ⟨h1, h1', ?_⟩
    by_cases q : i + 1 = a
    · exact Or.inr fun q2 => h3 ⟨q, q2⟩
    · exact Or.inl q
/-- the locals at an entry -/
theorem x_args_lv : ∀ (b B0 : Nat) (vs : List Value) (k i : Nat) (v : Value), (vs.flatMap fun v => bif Nat.beq v.category 2 then [some v, none] else [some v])[i]? = some (some v) → (k + i, x_cv b B0 v) ∈ lv_args k (vs.map (x_cv b B0))
  | b, B0, [], k, i, v, h => by simp at h
  | b, B0, w :: r, k, i, v, h => by
    rw [List.flatMap_cons] at h
    rw [List.map_cons]
    unfold lv_args
    by_cases hc : w.category = 2
    · rw [show Nat.beq w.category 2 = true by rw [hc]; rfl, cond_true] at h
      rw [x_cv_cat, if_pos hc]
      match i, h with
      | 0, h =>
        have : w = v := by simpa using h
        subst this
        exact List.mem_cons_self
      | 1, h => simp at h
      | i + 2, h =>
        have h' := x_args_lv b B0 r (k + 2) i v (by simpa using h)
        rw [show k + (i + 2) = k + 2 + i by omega]
        exact List.mem_cons_of_mem _ h'
    · have hb : Nat.beq w.category 2 = false := by
        cases hq : Nat.beq w.category 2 with
        | true => exact absurd (Nat.eq_of_beq_eq_true hq) hc
        | false => rfl
      have hc1 : w.category = 1 := by
        rcases lv_cat w with q | q
        · exact q
        · exact absurd q hc
      rw [hb, cond_false] at h
      rw [x_cv_cat, if_neg hc]
      match i, h with
      | 0, h =>
        have : w = v := by simpa using h
        subst this
        exact List.mem_cons_self
      | i + 1, h =>
        have h' := x_args_lv b B0 r (k + 1) i v (by simpa using h)
        rw [show k + (i + 1) = k + 1 + i by omega]
        exact List.mem_cons_of_mem _ h'
theorem x_loc_words : ∀ (vs : List Value), (vs.flatMap fun v => bif Nat.beq v.category 2 then [some v, (none : Option Value)] else [some v]).length = x_cats vs
  | [] => rfl
  | w :: r => by
    have ih := x_loc_words r
    rw [List.flatMap_cons, List.length_append, ih]
    unfold x_cats
    rw [List.map_cons, List.sum_cons]
    congr 1
    cases w <;> rfl
theorem x_sl_words : ∀ (vs : List Value), (lg_sl vs).length = x_cats vs
  | [] => rfl
  | w :: r => by
    have ih := x_sl_words r
    unfold lg_sl at ih ⊢
    rw [List.flatMap_cons, List.length_append, ih]
    unfold x_cats
    rw [List.map_cons, List.sum_cons]
    congr 1
    cases w <;> rfl
theorem x_cats_map (b B0 : Nat) (vs : List Value) : x_cats (vs.map (x_cv b B0)) = x_cats vs := x_cv_cats b B0 vs
theorem x_LOC.entry {b B0 n : Nat} {vs : List Value} (hn : x_cats vs ≤ n) : x_LOC b B0 n ((lg_sl (vs.map (x_cv b B0)) ++ List.replicate (n - (lg_sl (vs.map (x_cv b B0))).length) Slot.unset).toArray) (x_loc n vs) := by
  have h1 : (lg_sl (vs.map (x_cv b B0))).length ≤ n := by rw [x_sl_words, x_cats_map]; exact hn
  have h2 := lv_entry (vs.map (x_cv b B0)) h1
  refine ⟨?_, h2.1, h2.2.1, fun i v hv => ?_⟩
  · unfold x_loc
    rw [List.length_append, List.length_replicate, x_loc_words]
    omega
  · unfold x_loc at hv
    rcases Nat.lt_or_ge i (vs.flatMap fun v => bif Nat.beq v.category 2 then [some v, (none : Option Value)] else [some v]).length with q | q
    · rw [List.getElem?_append_left q] at hv
      have h3 := x_args_lv b B0 vs 0 i v hv
      rw [Nat.zero_add] at h3
      exact h2.2.2 _ h3
    · rw [List.getElem?_append_right q, List.getElem?_replicate] at hv
      split at hv <;> cases hv
