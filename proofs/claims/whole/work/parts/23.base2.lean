/-! What objects are, by families: floors FL, shelves SB, parts PT, recipes RQ; the links HW; what every run keeps. -/
def LKf (i k : Nat) : Option Nat := if i = 5 then (if k < 144 then some (10 + k) else none) else if i = 241 then (if k < 144 then some (246 + k) else none) else if i = 154 then (if k < 8 then some (155 + 10 * k) else none) else x_lkf i k
/-- the heap holds all links -/
def HW (h : Hp) : Prop := 444 ≤ h.1 ∧ ∀ i k q : Nat, LKf i k = some q → gR h i k = some q
def FL (f : Nat) : Prop := f = 4 ∨ f = 240
def PT (p : Nat) : Prop := p < 444 ∧ SH p = (3, 0)
def SB (b : Nat) : Prop := ∃ s, s < 8 ∧ b = 155 + 10 * s
def RQ (q n : Nat) : Prop := q < n ∧ SH q = (6, 0)
theorem HW_sI {h : Hp} {i k : Nat} {v : Int32} (w : HW h) : HW (sI h i k v) := w
theorem HW_sL {h : Hp} {i k : Nat} {v : Int64} (w : HW h) : HW (sL h i k v) := w
theorem HW_hCpy {h : Hp} {s d sp dp n : Nat} (w : HW h) : HW (hCpy h s d sp dp n) := w
theorem HW_of {h h' : Hp} (w : HW h) (h1 : h'.1 = h.1) (h2 : gR h' = gR h) : HW h' := by
  unfold HW
  rw [h1, h2]
  exact w
theorem x_lfind_mem : ∀ (l : List (Nat × Nat × Nat)) (i k q : Nat), x_lfind l i k = some q → (i, k, q) ∈ l
  | [], _, _, _, h => by simp [x_lfind] at h
  | e :: r, i, k, q, h => by
    unfold x_lfind at h
    cases hb : (Nat.beq e.1 i && Nat.beq e.2.1 k) with
    | true =>
      rw [hb, cond_true] at h
      simp only [Bool.and_eq_true] at hb
      have h1 := Nat.eq_of_beq_eq_true hb.1
      have h2 := Nat.eq_of_beq_eq_true hb.2
      injection h with h3
      subst h1; subst h2; subst h3
      exact List.mem_cons_self
    | false =>
      rw [hb, cond_false] at h
      exact List.mem_cons_of_mem _ (x_lfind_mem r i k q h)
theorem x_lkl_ok : ∀ e ∈ x_lkl, (SH e.1).1 ≠ 3 ∧ e.1 ≠ 3 ∧ e.1 < 444 := by decide +kernel
theorem LKf_none {i k : Nat} (hi : SH i = (3, 0) ∨ i = 3 ∨ 444 ≤ i) : LKf i k = none := by
  have h5 : SH 5 = (23, 144) := by decide +kernel
  have h241 : SH 241 = (23, 144) := by decide +kernel
  have h154 : SH 154 = (25, 8) := by decide +kernel
  unfold LKf
  have a1 : i ≠ 5 := by
    rintro rfl
    rw [h5] at hi
    simp at hi
  have a2 : i ≠ 241 := by
    rintro rfl
    rw [h241] at hi
    simp at hi
  have a3 : i ≠ 154 := by
    rintro rfl
    rw [h154] at hi
    simp at hi
  rw [if_neg a1, if_neg a2, if_neg a3]
  cases hq : x_lkf i k with
  | none => rfl
  | some q =>
    exfalso
    have hm := x_lkl_ok _ (x_lfind_mem _ _ _ _ hq)
    simp only at hm
    rcases hi with hi | hi | hi
    · exact hm.1 (by rw [hi])
    · exact hm.2.1 hi
    · omega
theorem HW_sRn {h : Hp} {i k : Nat} {v : Option Nat} (hi : SH i = (3, 0) ∨ i = 3 ∨ 444 ≤ i) (w : HW h) : HW (sR h i k v) := by
  refine ⟨w.1, fun a b q hq => ?_⟩
  rw [gR_sR, if_neg]
  · exact w.2 a b q hq
  · rintro ⟨rfl, rfl⟩
    rw [LKf_none hi] at hq
    cases hq
theorem HW_sRp {h : Hp} {i k : Nat} {v : Option Nat} (hp : PT i) (w : HW h) : HW (sR h i k v) := HW_sRn (Or.inl hp.2) w
theorem HW_sR3 {h : Hp} {k : Nat} {v : Option Nat} (w : HW h) : HW (sR h 3 k v) := HW_sRn (Or.inr (Or.inl rfl)) w
theorem HW_hN {h : Hp} (w : HW h) : HW (hN h) := by
  refine ⟨Nat.le_succ_of_le w.1, fun a b q hq => ?_⟩
  have ha : a ≠ h.1 := by
    intro e
    rw [LKf_none (Or.inr (Or.inr (e ▸ w.1)))] at hq
    cases hq
  show u1 h.2.2.2 h.1 (fun _ => none) a b = some q
  unfold u1
  rw [if_neg ha]
  exact w.2 a b q hq
theorem RQ_hN {n : Nat} (h : Hp) (h1 : h.1 = n) (h2 : SH n = (6, 0)) : RQ n (hN h).1 := ⟨by rw [← h1]; exact Nat.lt_succ_self _, h2⟩
/-- the methods that keep the links and how many objects there are -/
def x_okm (k : Nat) : Bool := !([0, 1, 4, 13, 25, 42, 51, 64, 76, 81, 83, 84, 122, 200].contains k)
def x_okE (e : x_E) : Bool := match e with
  | (17, _, a, b, _, _) => !(Nat.beq (FK a b) 2) || (Nat.beq a 3 && Nat.beq b 4)
  | (19, _, a, _, _, _) => !(Nat.beq a 23)
  | (21, _, _, _, _, _) => false
  | (22, _, _, _, _, _) => false
  | (23, _, _, _, _, _) => false
  | (24, _, a, _, _, _) => Nat.beq a 196 || (Nat.beq a 197 || x_okm a)
  | _ => true
theorem x_okT : ∀ j, j < 201 → x_okm j = true → ((x_prog j).all fun p => x_okE p.2.1) = true := by decide +kernel
theorem x_okI {j pc : Nat} {e : x_E} (hj : x_okm j = true) (hi : INS j pc = some e) : x_okE e = true := by
  obtain ⟨i, x, hx⟩ := x_find_mem _ _ _ hi
  by_cases hl : j < 201
  · have := List.all_eq_true.mp (x_okT j hl hj) _ hx
    exact this
  · have : x_prog j = [] := by
      unfold x_prog
      rw [List.getD_eq_getElem?_getD, List.getElem?_eq_none (by
        have : x_progs.length = 201 := by decide +kernel
        omega)]
      rfl
    rw [this] at hx
    cases hx
def x_kp (h : Hp) : x_O → Prop
  | .inl q => (HW h → HW q.2.2.2) ∧ q.2.2.2.1 = h.1
  | .inr (.inl q) => x_okm q.1 = true
  | .inr (.inr _) => True
theorem x_kpP {h h' : Hp} {i k kd a : Nat} {v : Value} (ho : (!(Nat.beq kd 2) || (Nat.beq a 3 && Nat.beq k 4)) = true) (hi : x_is i h.1 a 0 = true) (hp : x_put h i k kd v = some h') : (HW h → HW h') ∧ h'.1 = h.1 := by
  unfold x_put at hp
  split at hp
  · injection hp with e; subst e; exact ⟨fun w => w, rfl⟩
  · injection hp with e; subst e; exact ⟨fun w => w, rfl⟩
  · injection hp with e; subst e
    have ha : a = 3 := by simp at ho; exact ho.1
    subst ha
    have hs : SH i = (3, 0) := by
      simp only [x_is, Bool.and_eq_true] at hi
      exact Prod.ext (Nat.eq_of_beq_eq_true hi.2.1) (Nat.eq_of_beq_eq_true hi.2.2)
    exact ⟨fun w => HW_sRn (Or.inl hs) w, rfl⟩
  · injection hp with e; subst e
    have ha : a = 3 := by simp at ho; exact ho.1
    subst ha
    have hs : SH i = (3, 0) := by
      simp only [x_is, Bool.and_eq_true] at hi
      exact Prod.ext (Nat.eq_of_beq_eq_true hi.2.1) (Nat.eq_of_beq_eq_true hi.2.2)
    exact ⟨fun w => HW_sRn (Or.inl hs) w, rfl⟩
  · rename_i x
    cases hx : x_ok01 x with
    | true => rw [hx, cond_true] at hp; injection hp with e; subst e; exact ⟨fun w => w, rfl⟩
    | false => rw [hx, cond_false] at hp; cases hp
  · cases hp
theorem x_kpA {h h' : Hp} {i k t a : Nat} {v : Value} (ho : (!(Nat.beq a 23)) = true) (hp : x_aput h a i k t v = some h') : (HW h → HW h') ∧ h'.1 = h.1 := by
  unfold x_aput at hp
  split at hp
  · injection hp with e; subst e; exact ⟨fun w => w, rfl⟩
  · injection hp with e; subst e; exact ⟨fun w => w, rfl⟩
  · rename_i x
    cases hx : x_ok01 x with
    | true => rw [hx, cond_true] at hp; injection hp with e; subst e; exact ⟨fun w => w, rfl⟩
    | false => rw [hx, cond_false] at hp; cases hp
  · exact absurd ho (by decide)
  · cases hp
theorem x_kpN {h : Hp} {pc : Nat} {ls : x_L} {st : List Value} {o : x_O} (hs : x_nx pc ls st h = some o) : x_kp h o := by
  unfold x_nx at hs
  injection hs with e
  subst e
  exact ⟨fun w => w, rfl⟩
theorem x_kpB {h : Hp} {o : x_O} {b : Bool} {x y : Option x_O} (hx : x = some o → x_kp h o) (hy : y = some o → x_kp h o) (hs : (bif b then x else y) = some o) : x_kp h o := by
  cases b with
  | true => exact hx hs
  | false => exact hy hs
theorem x_kpC {k m : Nat} {st : List Value} {h : Hp} {o : x_O} (hk : x_okm k = true) (hs : x_call k m st h = some o) : x_kp h o := by
  unfold x_call at hs
  refine x_kpB (fun e => ?_) (fun e => by cases e) hs
  injection e with e
  subst e
  exact hk
theorem x_kpS {L : Nat} {xs : Nat → Int32} {j pc : Nat} {en : x_E} {ls : x_L} {st : List Value} {h : Hp} {o : x_O} (he : x_okE en = true) (hs : x_step L xs j en pc ls st h = some o) : x_kp h o := by
  unfold x_step at hs
  split at hs
  case h_1 => split at hs; exact x_kpN hs; cases hs
  case h_2 => split at hs; exact x_kpB x_kpN (fun e => by cases e) hs; cases hs
  case h_3 => exact x_kpN hs
  case h_4 =>
    split at hs
    · split at hs; exact x_kpN hs; cases hs
    · cases hs
  case h_5 =>
    split at hs
    · split at hs; exact x_kpN hs; cases hs
    · cases hs
  case h_6 => split at hs; exact x_kpN hs; cases hs
  case h_7 =>
    split at hs
    · split at hs; exact x_kpN hs; cases hs
    · cases hs
  case h_8 => split at hs; exact x_kpN hs; cases hs
  case h_9 => split at hs; exact x_kpN hs; cases hs
  case h_10 => split at hs; exact x_kpB x_kpN x_kpN hs; cases hs
  case h_11 => split at hs; exact x_kpB x_kpN x_kpN hs; cases hs
  case h_12 =>
    split at hs
    · exact x_kpB x_kpN x_kpN hs
    · exact x_kpB x_kpN x_kpN hs
    · cases hs
  case h_13 => exact x_kpN hs
  case h_14 => split at hs; exact x_kpN hs; cases hs
  case h_15 => split at hs; exact x_kpN hs; cases hs
  case h_16 => split at hs; exact x_kpN hs; cases hs
  case h_17 =>
    split at hs
    · exact x_kpB x_kpN (fun e => by cases e) hs
    · cases hs
  case h_18 =>
    split at hs
    · rename_i i r
      revert hs
      cases hc : x_is i h.1 _ 0 with
      | false => intro hs; cases hs
      | true =>
        intro hs
        rw [cond_true] at hs
        split at hs
        · rename_i h' hp
          unfold x_nx at hs
          injection hs with e
          subst e
          exact x_kpP he hc hp
        · cases hs
    · cases hs
  case h_19 =>
    split at hs
    · exact x_kpB x_kpN (fun e => by cases e) hs
    · exact x_kpB x_kpN (fun e => by cases e) hs
    · cases hs
  case h_20 =>
    split at hs
    · refine x_kpB (fun e => ?_) (fun e => by cases e) hs
      split at e
      · rename_i h' hp
        unfold x_nx at e
        injection e with e
        subst e
        exact x_kpA he hp
      · cases e
    · cases hs
  case h_21 =>
    split at hs
    · exact x_kpB x_kpN (fun e => by cases e) hs
    · exact x_kpN hs
    · cases hs
  case h_22 => exact absurd he Bool.false_ne_true
  case h_23 => exact absurd he Bool.false_ne_true
  case h_24 => exact absurd he Bool.false_ne_true
  case h_25 =>
    rename_i a b _ _
    refine x_kpB (fun e => ?_) (fun e => ?_) hs
    · split at e
      · exact x_kpB x_kpN (fun e => by cases e) e
      · cases e
    · revert e
      cases h7 : Nat.beq a 197 with
      | true =>
        intro e
        rw [cond_true] at e
        split at e
        · exact x_kpB x_kpN (fun e => by cases e) e
        · cases e
      | false =>
        intro e
        rw [cond_false] at e
        cases h6 : Nat.beq a 196 with
        | true =>
          rw [h6, cond_true] at hs
          split at hs
          · exact x_kpB x_kpN (fun e => by cases e) hs
          · cases hs
        | false =>
          have hk : x_okm a = true := by
            simpa [x_okE, h6, h7] using he
          exact x_kpC hk e
  case h_26 =>
    split at hs
    · exact x_kpB x_kpN (fun e => by cases e) hs
    · cases hs
  case h_27 =>
    split at hs
    · refine x_kpB (fun e => ?_) (fun e => by cases e) hs
      unfold x_nx at e
      injection e with e
      subst e
      exact ⟨fun w => w, rfl⟩
    · cases hs
  case h_28 =>
    split at hs
    · injection hs with e
      subst e
      exact True.intro
    · cases hs
  case h_29 => cases hs
theorem ev_HW (L : Nat) (xs : Nat → Int32) : ∀ (f j pc : Nat) (ls : x_L) (st : List Value) (h : Hp) (r : Option Value × Hp), x_okm j = true → HW h → ev L xs f j pc ls st h = some r → HW r.2 ∧ r.2.1 = h.1
  | 0, _, _, _, _, _, _, _, _, hr => by cases hr
  | f + 1, j, pc, ls, st, h, r, hj, hw, hr => by
    rw [ev_S] at hr
    cases hi : INS j pc with
    | none => rw [hi] at hr; cases hr
    | some en =>
      simp only [hi] at hr
      cases hs : x_step L xs j en pc ls st h with
      | none => rw [hs] at hr; cases hr
      | some o =>
        simp only [hs] at hr
        have hk := x_kpS (x_okI hj hi) hs
        cases o with
        | inl q =>
          have h1 := ev_HW L xs f _ _ _ _ _ _ hj (hk.1 hw) hr
          exact ⟨h1.1, h1.2.trans hk.2⟩
        | inr o => cases o with
          | inl q =>
            cases h2 : ev L xs f q.1 0 (x_loc (ML q.1) q.2.1) [] h with
            | none => simp only [h2] at hr; cases hr
            | some r1 =>
              simp only [h2] at hr
              have h3 := ev_HW L xs f _ _ _ _ _ _ hk hw h2
              have h4 := ev_HW L xs f _ _ _ _ _ _ hj h3.1 hr
              exact ⟨h4.1, h4.2.trans h3.2⟩
          | inr q =>
            simp only at hr
            injection hr with e
            subst e
            exact ⟨hw, rfl⟩
theorem HW_sp {L : Nat} {xs : Nat → Int32} {k : Nat} {As : List Value} {h h' : Hp} {r : Option Value} (hk : x_okm k = true) (s : Sp L xs k As h r h') (w : HW h) : HW h' ∧ h'.1 = h.1 := by
  obtain ⟨f, hf⟩ := s
  exact ev_HW L xs f _ _ _ _ _ _ hk w hf
theorem sp_eq {L : Nat} {xs : Nat → Int32} {k : Nat} {As : List Value} {h h0 : Hp} {r0 : Option Value} (w : ∃ r h', Sp L xs k As h r h' ∧ (r = r0 ∧ h' = h0)) : Sp L xs k As h r0 h0 := by
  obtain ⟨r, h', h1, rfl, rfl⟩ := w
  exact h1
/-- objects by families -/
theorem PT_4 {k : Nat} (hk : k < 144) : PT (10 + k) := by
  have : ∀ k, k < 144 → SH (10 + k) = (3, 0) := by decide +kernel
  exact ⟨by omega, this k hk⟩
theorem PT_240 {k : Nat} (hk : k < 144) : PT (246 + k) := by
  have : ∀ k, k < 144 → SH (246 + k) = (3, 0) := by decide +kernel
  exact ⟨by omega, this k hk⟩
theorem PT_f {f k : Nat} (hf : FL f) (hk : k < 144) : PT (f + 6 + k) := by
  rcases hf with rfl | rfl
  · exact PT_4 hk
  · exact PT_240 hk
theorem LK_p4 {k : Nat} (hk : k < 144) : LKf 5 k = some (10 + k) := by simp [LKf, hk]
theorem LK_p240 {k : Nat} (hk : k < 144) : LKf 241 k = some (246 + k) := by simp [LKf, hk]
theorem LK_pf {f k : Nat} (hf : FL f) (hk : k < 144) : LKf (f + 1) k = some (f + 6 + k) := by
  rcases hf with rfl | rfl
  · exact LK_p4 hk
  · exact LK_p240 hk
theorem LK_s {k : Nat} (hk : k < 8) : LKf 154 k = some (155 + 10 * k) := by simp [LKf, hk]
theorem SB_of {k : Nat} (hk : k < 8) : SB (155 + 10 * k) := ⟨k, hk, rfl⟩
theorem FL_sh0 {f : Nat} (hf : FL f) : SH f = (2, 0) := by rcases hf with rfl | rfl <;> decide +kernel
theorem FL_sh1 {f : Nat} (hf : FL f) : SH (f + 1) = (23, 144) := by rcases hf with rfl | rfl <;> decide +kernel
theorem FL_sh2 {f : Nat} (hf : FL f) : SH (f + 2) = (20, 21) := by rcases hf with rfl | rfl <;> decide +kernel
theorem FL_sh3 {f : Nat} (hf : FL f) : SH (f + 3) = (20, 144) := by rcases hf with rfl | rfl <;> decide +kernel
theorem FL_sh4 {f : Nat} (hf : FL f) : SH (f + 4) = (20, 144) := by rcases hf with rfl | rfl <;> decide +kernel
theorem FL_sh5 {f : Nat} (hf : FL f) : SH (f + 5) = (20, 144) := by rcases hf with rfl | rfl <;> decide +kernel
theorem FL_lt0 {f : Nat} (hf : FL f) : f < 444 := by rcases hf with rfl | rfl <;> decide
theorem FL_lt1 {f : Nat} (hf : FL f) : f + 1 < 444 := by rcases hf with rfl | rfl <;> decide
theorem FL_lt2 {f : Nat} (hf : FL f) : f + 2 < 444 := by rcases hf with rfl | rfl <;> decide
theorem FL_lt3 {f : Nat} (hf : FL f) : f + 3 < 444 := by rcases hf with rfl | rfl <;> decide
theorem FL_lt4 {f : Nat} (hf : FL f) : f + 4 < 444 := by rcases hf with rfl | rfl <;> decide
theorem FL_lt5 {f : Nat} (hf : FL f) : f + 5 < 444 := by rcases hf with rfl | rfl <;> decide
theorem FL_lk0 {f : Nat} (hf : FL f) : LKf f 0 = some 2 := by rcases hf with rfl | rfl <;> decide +kernel
theorem FL_lk1 {f : Nat} (hf : FL f) : LKf f 1 = some (f + 1) := by rcases hf with rfl | rfl <;> decide +kernel
theorem FL_lk2 {f : Nat} (hf : FL f) : LKf f 2 = some (f + 2) := by rcases hf with rfl | rfl <;> decide +kernel
theorem FL_lk4 {f : Nat} (hf : FL f) : LKf f 4 = some (f + 3) := by rcases hf with rfl | rfl <;> decide +kernel
theorem FL_lk5 {f : Nat} (hf : FL f) : LKf f 5 = some (f + 4) := by rcases hf with rfl | rfl <;> decide +kernel
theorem FL_lk6 {f : Nat} (hf : FL f) : LKf f 6 = some (f + 5) := by rcases hf with rfl | rfl <;> decide +kernel
theorem FL_4 : FL 4 := Or.inl rfl
theorem FL_240 : FL 240 := Or.inr rfl
theorem SB_all : ∀ s, s < 8 → SH (155 + 10 * s) = (9, 0) ∧ SH (155 + 10 * s + 1) = (8, 0) ∧ SH (155 + 10 * s + 2) = (21, 100) ∧ SH (155 + 10 * s + 3) = (4, 0) ∧ SH (155 + 10 * s + 4) = (20, 144) ∧ SH (155 + 10 * s + 5) = (20, 144) ∧ SH (155 + 10 * s + 6) = (20, 144) ∧ SH (155 + 10 * s + 7) = (20, 144) ∧ SH (155 + 10 * s + 8) = (20, 144) ∧ SH (155 + 10 * s + 9) = (20, 144) := by decide +kernel
theorem SB_alk : ∀ s, s < 8 → LKf (155 + 10 * s) 0 = some (155 + 10 * s + 1) ∧ LKf (155 + 10 * s) 1 = some (155 + 10 * s + 3) ∧ LKf (155 + 10 * s + 1) 0 = some (155 + 10 * s + 2) ∧ LKf (155 + 10 * s + 3) 0 = some (155 + 10 * s + 4) ∧ LKf (155 + 10 * s + 3) 1 = some (155 + 10 * s + 5) ∧ LKf (155 + 10 * s + 3) 2 = some (155 + 10 * s + 6) ∧ LKf (155 + 10 * s + 3) 3 = some (155 + 10 * s + 7) ∧ LKf (155 + 10 * s + 3) 4 = some (155 + 10 * s + 8) ∧ LKf (155 + 10 * s + 3) 5 = some (155 + 10 * s + 9) := by decide +kernel
theorem SB_sh0 {b : Nat} (hb : SB b) : SH b = (9, 0) := by obtain ⟨s, hs, rfl⟩ := hb; exact (SB_all s hs).1
theorem SB_sh1 {b : Nat} (hb : SB b) : SH (b + 1) = (8, 0) := by obtain ⟨s, hs, rfl⟩ := hb; exact (SB_all s hs).2.1
theorem SB_sh2 {b : Nat} (hb : SB b) : SH (b + 2) = (21, 100) := by obtain ⟨s, hs, rfl⟩ := hb; exact (SB_all s hs).2.2.1
theorem SB_sh3 {b : Nat} (hb : SB b) : SH (b + 3) = (4, 0) := by obtain ⟨s, hs, rfl⟩ := hb; exact (SB_all s hs).2.2.2.1
theorem SB_sh4 {b : Nat} (hb : SB b) : SH (b + 4) = (20, 144) := by obtain ⟨s, hs, rfl⟩ := hb; exact (SB_all s hs).2.2.2.2.1
theorem SB_sh5 {b : Nat} (hb : SB b) : SH (b + 5) = (20, 144) := by obtain ⟨s, hs, rfl⟩ := hb; exact (SB_all s hs).2.2.2.2.2.1
theorem SB_sh6 {b : Nat} (hb : SB b) : SH (b + 6) = (20, 144) := by obtain ⟨s, hs, rfl⟩ := hb; exact (SB_all s hs).2.2.2.2.2.2.1
theorem SB_sh7 {b : Nat} (hb : SB b) : SH (b + 7) = (20, 144) := by obtain ⟨s, hs, rfl⟩ := hb; exact (SB_all s hs).2.2.2.2.2.2.2.1
theorem SB_sh8 {b : Nat} (hb : SB b) : SH (b + 8) = (20, 144) := by obtain ⟨s, hs, rfl⟩ := hb; exact (SB_all s hs).2.2.2.2.2.2.2.2.1
theorem SB_sh9 {b : Nat} (hb : SB b) : SH (b + 9) = (20, 144) := by obtain ⟨s, hs, rfl⟩ := hb; exact (SB_all s hs).2.2.2.2.2.2.2.2.2
theorem SB_lt0 {b : Nat} (hb : SB b) : b < 444 := by obtain ⟨s, hs, rfl⟩ := hb; omega
theorem SB_lt1 {b : Nat} (hb : SB b) : b + 1 < 444 := by obtain ⟨s, hs, rfl⟩ := hb; omega
theorem SB_lt2 {b : Nat} (hb : SB b) : b + 2 < 444 := by obtain ⟨s, hs, rfl⟩ := hb; omega
theorem SB_lt3 {b : Nat} (hb : SB b) : b + 3 < 444 := by obtain ⟨s, hs, rfl⟩ := hb; omega
theorem SB_lt4 {b : Nat} (hb : SB b) : b + 4 < 444 := by obtain ⟨s, hs, rfl⟩ := hb; omega
theorem SB_lt5 {b : Nat} (hb : SB b) : b + 5 < 444 := by obtain ⟨s, hs, rfl⟩ := hb; omega
theorem SB_lt6 {b : Nat} (hb : SB b) : b + 6 < 444 := by obtain ⟨s, hs, rfl⟩ := hb; omega
theorem SB_lt7 {b : Nat} (hb : SB b) : b + 7 < 444 := by obtain ⟨s, hs, rfl⟩ := hb; omega
theorem SB_lt8 {b : Nat} (hb : SB b) : b + 8 < 444 := by obtain ⟨s, hs, rfl⟩ := hb; omega
theorem SB_lt9 {b : Nat} (hb : SB b) : b + 9 < 444 := by obtain ⟨s, hs, rfl⟩ := hb; omega
theorem SB_lk0_0 {b : Nat} (hb : SB b) : LKf b 0 = some (b + 1) := by obtain ⟨s, hs, rfl⟩ := hb; exact (SB_alk s hs).1
theorem SB_lk0_1 {b : Nat} (hb : SB b) : LKf b 1 = some (b + 3) := by obtain ⟨s, hs, rfl⟩ := hb; exact (SB_alk s hs).2.1
theorem SB_lk1_0 {b : Nat} (hb : SB b) : LKf (b + 1) 0 = some (b + 2) := by obtain ⟨s, hs, rfl⟩ := hb; exact (SB_alk s hs).2.2.1
theorem SB_lk3_0 {b : Nat} (hb : SB b) : LKf (b + 3) 0 = some (b + 4) := by obtain ⟨s, hs, rfl⟩ := hb; exact (SB_alk s hs).2.2.2.1
theorem SB_lk3_1 {b : Nat} (hb : SB b) : LKf (b + 3) 1 = some (b + 5) := by obtain ⟨s, hs, rfl⟩ := hb; exact (SB_alk s hs).2.2.2.2.1
theorem SB_lk3_2 {b : Nat} (hb : SB b) : LKf (b + 3) 2 = some (b + 6) := by obtain ⟨s, hs, rfl⟩ := hb; exact (SB_alk s hs).2.2.2.2.2.1
theorem SB_lk3_3 {b : Nat} (hb : SB b) : LKf (b + 3) 3 = some (b + 7) := by obtain ⟨s, hs, rfl⟩ := hb; exact (SB_alk s hs).2.2.2.2.2.2.1
theorem SB_lk3_4 {b : Nat} (hb : SB b) : LKf (b + 3) 4 = some (b + 8) := by obtain ⟨s, hs, rfl⟩ := hb; exact (SB_alk s hs).2.2.2.2.2.2.2.1
theorem SB_lk3_5 {b : Nat} (hb : SB b) : LKf (b + 3) 5 = some (b + 9) := by obtain ⟨s, hs, rfl⟩ := hb; exact (SB_alk s hs).2.2.2.2.2.2.2.2
theorem x_isP {p n : Nat} (hp : PT p) (hn : 444 ≤ n) : x_is p n 3 0 = true := x_isC hp.1 hn hp.2
theorem x_isF {f n : Nat} (hf : FL f) (hn : 444 ≤ n) : x_is f n 2 0 = true := x_isC (FL_lt0 hf) hn (FL_sh0 hf)
theorem x_isB0 {b n : Nat} (hb : SB b) (hn : 444 ≤ n) : x_is b n 9 0 = true := x_isC (SB_lt0 hb) hn (SB_sh0 hb)
theorem x_isB1 {b n : Nat} (hb : SB b) (hn : 444 ≤ n) : x_is (b + 1) n 8 0 = true := x_isC (SB_lt1 hb) hn (SB_sh1 hb)
theorem x_isB3 {b n : Nat} (hb : SB b) (hn : 444 ≤ n) : x_is (b + 3) n 4 0 = true := x_isC (SB_lt3 hb) hn (SB_sh3 hb)
theorem x_isA {i n tag le : Nat} (h1 : i < 444) (hn : 444 ≤ n) (h2 : SH i = (tag, le)) : x_is i n tag (SH i).2 = true := by
  rw [h2]
  exact x_isC h1 hn h2
theorem x_alE {i n a le tag k : Nat} {x : Int32} (h1 : i < 444) (hn : 444 ≤ n) (h2 : SH i = (tag, le)) (hs : x_sort a tag = true) (hx : x = nI k) (hk : k < le) (hle : le < 2147483648) : (Nat.blt i n && (x_sort a (SH i).1 && x_in x (SH i).2)) = true := by
  subst hx
  exact x_alC h1 hn h2 hs hk hle
theorem x_alN {i n a le tag k : Nat} {x : Int32} (h1 : i < 444) (hn : 444 ≤ n) (h2 : SH i = (tag, le)) (hs : x_sort a tag = true) (hle : le < 100000) (hx : x = nI k) (hk : k < le) : (Nat.blt i n && (x_sort a (SH i).1 && x_in x (SH i).2)) = true := x_alE h1 hn h2 hs hx hk (by omega)
theorem x_clE {x : Int32} {k le : Nat} (hx : x = nI k) (hk : k < le) (hle : le < 2147483648) : x.toNatClampNeg = k := by
  subst hx
  exact nI_clamp (by omega)
theorem x_lenN {i n le tag : Nat} (h1 : i < 444) (hn : 444 ≤ n) (h2 : SH i = (tag, le)) (ht : 20 ≤ tag) : (Nat.blt i n && Nat.ble 20 (SH i).1) = true := x_lenC h1 hn h2 ht
theorem x_lkN {x : Int32} {k g d t : Nat} {r : List Nat} (hk : k < 1000) (h : ¬ x = nI k) (h2 : x_lk x r d = t) : x_lk x (k :: g :: r) d = t := by
  unfold x_lk
  rw [show decide (x.toInt = (k : Int)) = false by
    apply decide_eq_false
    intro e
    apply h
    apply Int32.toInt_inj.mp
    rw [nI_toInt (by omega), e], cond_false]
  exact h2
theorem x_apR {h : Hp} {q k : Nat} {t : Nat} (h3 : SH 3 = (t, 8)) (hq : x_is q h.1 6 0 = true) : x_aput h 23 3 k (SH 3).1 (.ref q) = some (sR h 3 k (some q)) := by
  rw [show (SH 3).1 = 24 by decide +kernel]
  show (bif x_is q h.1 (x_elc 24) 0 then some (sR h 3 k (some q)) else none) = _
  rw [show x_elc 24 = 6 from rfl, hq, cond_true]
theorem e_cpy {L : Nat} {xs : Nat → Int32} {j pc pc' len a b : Nat} {v : Value} {t : List Nat} {ls : x_L} {st : List Value} {h h' : Hp} {Q : Option Value → Hp → Prop} {q d ts td sp dp n : Nat} {xs1 xd xn : Int32} (hi : INS j pc = some (26, len, a, b, v, t)) (hp : pc + len = pc') (hc : Nat.ble (x_cats st) 8 = true) (h1 : x_is q h.1 21 (SH q).2 = true) (h2 : x_is d h.1 21 (SH d).2 = true) (s1 : SH q = (ts, 100)) (s2 : SH d = (td, 100)) (e1 : xs1 = nI sp) (e2 : xd = nI dp) (e3 : xn = nI n) (g1 : sp + n ≤ 100) (g2 : dp + n ≤ 100) (he : hCpy h q d sp dp n = h') (k : WP L xs j pc' ls st h' Q) : WP L xs j pc ls (.int xn :: .int xd :: .ref d :: .int xs1 :: .ref q :: st) h Q := by
  subst e1; subst e2; subst e3; subst he
  refine wp_nx hi ?_ k
  have c1 : (nI sp).toNatClampNeg = sp := nI_clamp (by omega)
  have c2 : (nI dp).toNatClampNeg = dp := nI_clamp (by omega)
  have c3 : (nI n).toNatClampNeg = n := nI_clamp (by omega)
  have p1 : (decide (nI sp < 0)) = false := decide_eq_false (nI_pos (by omega))
  have p2 : (decide (nI dp < 0)) = false := decide_eq_false (nI_pos (by omega))
  have p3 : (decide (nI n < 0)) = false := decide_eq_false (nI_pos (by omega))
  simp only [x_step, hc, h1, h2, c1, c2, c3, p1, p2, p3]
  rw [s1, s2]
  rw [show Nat.ble (sp + n) 100 = true from Nat.ble_eq.mpr g1, show Nat.ble (dp + n) 100 = true from Nat.ble_eq.mpr g2]
  simp only [Bool.and_self, Bool.not_false, cond_true, x_nx, hp]
theorem LK_HW {h : Hp} (w : HW h) : LK h := by
  intro i k q hq
  refine w.2 i k q ?_
  have h5 : ∀ e ∈ x_lkl, e.1 ≠ 5 ∧ e.1 ≠ 241 ∧ e.1 ≠ 154 := by decide +kernel
  have := h5 _ (x_lfind_mem _ _ _ _ hq)
  unfold LKf
  rw [if_neg this.1, if_neg this.2.1, if_neg this.2.2]
  exact hq
