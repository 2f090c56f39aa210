/-! Reading and writing heaps; truth values; the links that never change. -/
def b2i (b : Bool) : Int32 := if b then 1 else 0
theorem b2i_t : b2i true = 1 := rfl
theorem b2i_f : b2i false = 0 := rfl
theorem b2i_01 (b : Bool) : x_ok01 (b2i b) = true := by cases b <;> rfl
theorem b2i_inj {a b : Bool} (h : b2i a = b2i b) : a = b := by cases a <;> cases b <;> first | rfl | (exact absurd h (by decide))
section EB
variable {L : Nat} {xs : Nat → Int32} {j pc pc' len a : Nat} {v : Value} {t : List Nat} {ls : x_L} {st : List Value} {h : Hp} {Q : Option Value → Hp → Prop} {B : Bool}
theorem e_b0 (hi : INS j pc = some (9, len, a, 0, v, t)) (hp : pc + len = pc') (k1 : B = false → WP L xs j a ls st h Q) (k2 : B = true → WP L xs j pc' ls st h Q) : WP L xs j pc ls (.int (b2i B) :: st) h Q := by
  cases B with
  | true => exact e_ifF hi hp rfl (k2 rfl)
  | false => exact e_ifT hi rfl (k1 rfl)
theorem e_b1 (hi : INS j pc = some (9, len, a, 1, v, t)) (hp : pc + len = pc') (k1 : B = true → WP L xs j a ls st h Q) (k2 : B = false → WP L xs j pc' ls st h Q) : WP L xs j pc ls (.int (b2i B) :: st) h Q := by
  cases B with
  | true => exact e_ifT hi rfl (k1 rfl)
  | false => exact e_ifF hi hp rfl (k2 rfl)
end EB
theorem gI_sI (h : Hp) (i k : Nat) (v : Int32) (a b : Nat) : gI (sI h i k v) a b = if a = i ∧ b = k then v else gI h a b := by
  unfold gI sI u2
  by_cases h1 : a = i <;> by_cases h2 : b = k <;> simp [h1, h2]
theorem gL_sL (h : Hp) (i k : Nat) (v : Int64) (a b : Nat) : gL (sL h i k v) a b = if a = i ∧ b = k then v else gL h a b := by
  unfold gL sL u2
  by_cases h1 : a = i <;> by_cases h2 : b = k <;> simp [h1, h2]
theorem gR_sR (h : Hp) (i k : Nat) (v : Option Nat) (a b : Nat) : gR (sR h i k v) a b = if a = i ∧ b = k then v else gR h a b := by
  unfold gR sR u2
  by_cases h1 : a = i <;> by_cases h2 : b = k <;> simp [h1, h2]
theorem gL_sI (h : Hp) (i k : Nat) (v : Int32) : gL (sI h i k v) = gL h := rfl
theorem gR_sI (h : Hp) (i k : Nat) (v : Int32) : gR (sI h i k v) = gR h := rfl
theorem gI_sL (h : Hp) (i k : Nat) (v : Int64) : gI (sL h i k v) = gI h := rfl
theorem gR_sL (h : Hp) (i k : Nat) (v : Int64) : gR (sL h i k v) = gR h := rfl
theorem gI_sR (h : Hp) (i k : Nat) (v : Option Nat) : gI (sR h i k v) = gI h := rfl
theorem gL_sR (h : Hp) (i k : Nat) (v : Option Nat) : gL (sR h i k v) = gL h := rfl
theorem n_sI (h : Hp) (i k : Nat) (v : Int32) : (sI h i k v).1 = h.1 := rfl
theorem n_sL (h : Hp) (i k : Nat) (v : Int64) : (sL h i k v).1 = h.1 := rfl
theorem n_sR (h : Hp) (i k : Nat) (v : Option Nat) : (sR h i k v).1 = h.1 := rfl
theorem x_isC {i n tag le : Nat} (h1 : i < 444) (hn : 444 ≤ n) (h2 : SH i = (tag, le)) : x_is i n tag le = true := by
  simp only [x_is, h2, Bool.and_eq_true, Nat.blt_eq]
  exact ⟨by omega, Nat.beq_refl _, Nat.beq_refl _⟩
theorem x_isV {i n tag le : Nat} (h1 : i < n) (h2 : SH i = (tag, le)) : x_is i n tag le = true := by
  simp only [x_is, h2, Bool.and_eq_true, Nat.blt_eq]
  exact ⟨h1, Nat.beq_refl _, Nat.beq_refl _⟩
theorem x_fvR {h : Hp} {i d a q : Nat} (hk : FK a d = 2) (hr : gR h i d = some q) : x_fv h i d (FK a d) = .ref q := by
  rw [hk]
  simp only [x_fv, hr]
theorem x_fvN {h : Hp} {i d a : Nat} (hk : FK a d = 2) (hr : gR h i d = none) : x_fv h i d (FK a d) = .null := by
  rw [hk]
  simp only [x_fv, hr]
theorem x_agR {h : Hp} {i n q : Nat} (hr : gR h i n = some q) : x_aget h 23 i n = .ref q := by simp only [x_aget, hr]
theorem x_agN {h : Hp} {i n : Nat} (hr : gR h i n = none) : x_aget h 23 i n = .null := by simp only [x_aget, hr]
/-- a place in an array of known length -/
theorem x_alC {i n a le tag k : Nat} (h1 : i < 444) (hn : 444 ≤ n) (h2 : SH i = (tag, le)) (hs : x_sort a tag = true) (hk : k < le) (hle : le < 2147483648) : (Nat.blt i n && (x_sort a (SH i).1 && x_in (nI k) (SH i).2)) = true := by
  simp only [h2, hs, Bool.and_eq_true, Nat.blt_eq, x_in, Bool.not_eq_true', Bool.or_eq_false_iff, decide_eq_false_iff_not]
  refine ⟨by omega, trivial, ?_⟩
  have h3 := nI_in (c := k) (N := le) hk (by omega)
  exact ⟨fun q => h3 (Or.inl q), fun q => h3 (Or.inr q)⟩
theorem x_alX {i n a le tag : Nat} {x : Int32} (h1 : i < 444) (hn : 444 ≤ n) (h2 : SH i = (tag, le)) (hs : x_sort a tag = true) (hk : vp_in x le) : (Nat.blt i n && (x_sort a (SH i).1 && x_in x (SH i).2)) = true := by
  simp only [h2, hs, Bool.and_eq_true, Nat.blt_eq, x_in, Bool.not_eq_true', Bool.or_eq_false_iff, decide_eq_false_iff_not]
  exact ⟨by omega, trivial, fun q => hk (Or.inl q), fun q => hk (Or.inr q)⟩
theorem x_lenC {i n le tag : Nat} (h1 : i < 444) (hn : 444 ≤ n) (h2 : SH i = (tag, le)) (ht : 20 ≤ tag) : (Nat.blt i n && Nat.ble 20 (SH i).1) = true := by
  simp only [h2, Bool.and_eq_true, Nat.blt_eq, Nat.ble_eq]
  exact ⟨by omega, ht⟩
def x_lkl : List (Nat × Nat × Nat) := [(0, 0, 1), (0, 1, 2), (0, 2, 4), (0, 3, 154), (0, 4, 235), (0, 5, 390), (0, 6, 393), (2, 0, 3), (4, 0, 2), (4, 1, 5), (4, 2, 6), (4, 4, 7), (4, 5, 8), (4, 6, 9), (155, 0, 156), (155, 1, 158), (156, 0, 157), (158, 0, 159), (158, 1, 160), (158, 2, 161), (158, 3, 162), (158, 4, 163), (158, 5, 164), (165, 0, 166), (165, 1, 168), (166, 0, 167), (168, 0, 169), (168, 1, 170), (168, 2, 171), (168, 3, 172), (168, 4, 173), (168, 5, 174), (175, 0, 176), (175, 1, 178), (176, 0, 177), (178, 0, 179), (178, 1, 180), (178, 2, 181), (178, 3, 182), (178, 4, 183), (178, 5, 184), (185, 0, 186), (185, 1, 188), (186, 0, 187), (188, 0, 189), (188, 1, 190), (188, 2, 191), (188, 3, 192), (188, 4, 193), (188, 5, 194), (195, 0, 196), (195, 1, 198), (196, 0, 197), (198, 0, 199), (198, 1, 200), (198, 2, 201), (198, 3, 202), (198, 4, 203), (198, 5, 204), (205, 0, 206), (205, 1, 208), (206, 0, 207), (208, 0, 209), (208, 1, 210), (208, 2, 211), (208, 3, 212), (208, 4, 213), (208, 5, 214), (215, 0, 216), (215, 1, 218), (216, 0, 217), (218, 0, 219), (218, 1, 220), (218, 2, 221), (218, 3, 222), (218, 4, 223), (218, 5, 224), (225, 0, 226), (225, 1, 228), (226, 0, 227), (228, 0, 229), (228, 1, 230), (228, 2, 231), (228, 3, 232), (228, 4, 233), (228, 5, 234), (235, 0, 240), (235, 1, 236), (235, 2, 237), (235, 3, 238), (235, 4, 239), (240, 0, 2), (240, 1, 241), (240, 2, 242), (240, 4, 243), (240, 5, 244), (240, 6, 245), (390, 0, 391), (390, 1, 392), (393, 0, 394), (393, 1, 395), (393, 2, 396), (397, 0, 398), (397, 2, 399), (397, 3, 400), (397, 4, 401), (397, 5, 402), (397, 6, 403), (397, 7, 404), (397, 8, 405), (397, 9, 406), (397, 10, 407), (397, 11, 408), (397, 12, 409), (397, 13, 410), (397, 15, 411), (397, 16, 412), (397, 17, 413), (397, 18, 414), (397, 19, 415), (397, 20, 416), (397, 21, 417), (397, 22, 418), (397, 23, 419), (397, 24, 420), (397, 25, 421), (397, 26, 422), (397, 27, 423), (397, 28, 424), (397, 29, 425), (397, 30, 426), (397, 31, 427), (397, 32, 428), (397, 33, 429), (397, 34, 430), (397, 37, 431), (397, 38, 432), (397, 39, 433), (397, 41, 434), (397, 42, 435), (397, 43, 436), (397, 44, 437), (397, 45, 438), (397, 46, 439), (397, 47, 440), (397, 48, 441), (397, 49, 442), (397, 50, 443)]
def x_lfind : List (Nat × Nat × Nat) → Nat → Nat → Option Nat
  | [], _, _ => none
  | q :: r, i, k => bif Nat.beq q.1 i && Nat.beq q.2.1 k then some q.2.2 else x_lfind r i k
def x_lkf (i k : Nat) : Option Nat := x_lfind x_lkl i k
/-- the links that never change -/
def LK (h : Hp) : Prop := ∀ i k q : Nat, x_lkf i k = some q → gR h i k = some q
def x_rv (r : Option Nat) : Value := match r with
  | none => .null
  | some q => .ref q
theorem x_tgt_out {x : Int32} {b a : Nat} {t : List Nat} (hb : b + t.length < 1000) (h : ∀ k, k < t.length → ¬ x = nI (b + k)) : x_tgt x b t a = a := by
  unfold x_tgt
  rw [show (decide (x.toInt < (b : Int)) || decide ((b : Int) + t.length ≤ x.toInt)) = true by
    by_cases h1 : x.toInt < (b : Int)
    · simp [h1]
    · by_cases h2 : (b : Int) + t.length ≤ x.toInt
      · simp [h2]
      · exfalso
        refine h (x.toInt - b).toNat (by omega) ?_
        apply Int32.toInt_inj.mp
        rw [nI_toInt (by omega)]
        omega, cond_true]
theorem x_ib_div {x y : Int32} (h : ¬ y = 0) : x_ib 3 x y = some (x / y) := if_neg h
theorem x_ib_rem {x y : Int32} (h : ¬ y = 0) : x_ib 4 x y = some (x - x / y * y) := if_neg h
theorem x_lb_div {x y : Int64} (h : ¬ y = 0) : x_lb 3 x y = some (x / y) := if_neg h
theorem x_lb_rem {x y : Int64} (h : ¬ y = 0) : x_lb 4 x y = some (x - x / y * y) := if_neg h
theorem e_reg {L : Nat} {xs : Nat → Int32} {j pc pc' : Nat} {ls ls' : x_L} {st st' : List Value} {h : Hp} {Q : Option Value → Hp → Prop} (a : WP L xs j pc' ls' st' h Q → WP L xs j pc ls st h Q) (b : WP L xs j pc' ls' st' h Q) : WP L xs j pc ls st h Q := a b
/-- a place gets so much more, or less -/
def aI (h : Hp) (i k : Nat) (v : Int32) : Hp := sI h i k (gI h i k + v)
def bI (h : Hp) (i k : Nat) (v : Int32) : Hp := sI h i k (gI h i k - v)
theorem n_aI (h : Hp) (i k : Nat) (v : Int32) : (aI h i k v).1 = h.1 := rfl
theorem n_bI (h : Hp) (i k : Nat) (v : Int32) : (bI h i k v).1 = h.1 := rfl
theorem gR_aI (h : Hp) (i k : Nat) (v : Int32) : gR (aI h i k v) = gR h := rfl
theorem gR_bI (h : Hp) (i k : Nat) (v : Int32) : gR (bI h i k v) = gR h := rfl
theorem gL_aI (h : Hp) (i k : Nat) (v : Int32) : gL (aI h i k v) = gL h := rfl
theorem gL_bI (h : Hp) (i k : Nat) (v : Int32) : gL (bI h i k v) = gL h := rfl
theorem gI_aI (h : Hp) (i k : Nat) (v : Int32) (a b : Nat) : gI (aI h i k v) a b = if a = i ∧ b = k then gI h i k + v else gI h a b := gI_sI _ _ _ _ _ _
theorem gI_bI (h : Hp) (i k : Nat) (v : Int32) (a b : Nat) : gI (bI h i k v) a b = if a = i ∧ b = k then gI h i k - v else gI h a b := gI_sI _ _ _ _ _ _
theorem gI_osI {h : Hp} {i k a b : Nat} {v : Int32} (hne : a ≠ i) : gI (sI h i k v) a b = gI h a b := by rw [gI_sI, if_neg (fun q => hne q.1)]
theorem gI_ksI {h : Hp} {i k a b : Nat} {v : Int32} (hne : b ≠ k) : gI (sI h i k v) a b = gI h a b := by rw [gI_sI, if_neg (fun q => hne q.2)]
theorem gL_psI {h : Hp} {i k a b : Nat} {v : Int32} : gL (sI h i k v) a b = gL h a b := rfl
theorem gI_oaI {h : Hp} {i k a b : Nat} {v : Int32} (hne : a ≠ i) : gI (aI h i k v) a b = gI h a b := by rw [gI_aI, if_neg (fun q => hne q.1)]
theorem gI_kaI {h : Hp} {i k a b : Nat} {v : Int32} (hne : b ≠ k) : gI (aI h i k v) a b = gI h a b := by rw [gI_aI, if_neg (fun q => hne q.2)]
theorem gL_paI {h : Hp} {i k a b : Nat} {v : Int32} : gL (aI h i k v) a b = gL h a b := rfl
theorem gI_obI {h : Hp} {i k a b : Nat} {v : Int32} (hne : a ≠ i) : gI (bI h i k v) a b = gI h a b := by rw [gI_bI, if_neg (fun q => hne q.1)]
theorem gI_kbI {h : Hp} {i k a b : Nat} {v : Int32} (hne : b ≠ k) : gI (bI h i k v) a b = gI h a b := by rw [gI_bI, if_neg (fun q => hne q.2)]
theorem gL_pbI {h : Hp} {i k a b : Nat} {v : Int32} : gL (bI h i k v) a b = gL h a b := rfl
theorem gL_osL {h : Hp} {i k a b : Nat} {v : Int64} (hne : a ≠ i) : gL (sL h i k v) a b = gL h a b := by rw [gL_sL, if_neg (fun q => hne q.1)]
theorem gL_ksL {h : Hp} {i k a b : Nat} {v : Int64} (hne : b ≠ k) : gL (sL h i k v) a b = gL h a b := by rw [gL_sL, if_neg (fun q => hne q.2)]
theorem gI_psL {h : Hp} {i k a b : Nat} {v : Int64} : gI (sL h i k v) a b = gI h a b := rfl
theorem gI_psR {h : Hp} {i k a b : Nat} {v : Option Nat} : gI (sR h i k v) a b = gI h a b := rfl
theorem gL_psR {h : Hp} {i k a b : Nat} {v : Option Nat} : gL (sR h i k v) a b = gL h a b := rfl
theorem le_sI {h : Hp} {i k n : Nat} {v : Int32} (hn : n ≤ h.1) : n ≤ (sI h i k v).1 := hn
theorem LK_sI {h : Hp} {i k : Nat} {v : Int32} (hL : LK h) : LK (sI h i k v) := hL
theorem le_aI {h : Hp} {i k n : Nat} {v : Int32} (hn : n ≤ h.1) : n ≤ (aI h i k v).1 := hn
theorem LK_aI {h : Hp} {i k : Nat} {v : Int32} (hL : LK h) : LK (aI h i k v) := hL
theorem le_bI {h : Hp} {i k n : Nat} {v : Int32} (hn : n ≤ h.1) : n ≤ (bI h i k v).1 := hn
theorem LK_bI {h : Hp} {i k : Nat} {v : Int32} (hL : LK h) : LK (bI h i k v) := hL
theorem le_sL {h : Hp} {i k n : Nat} {v : Int64} (hn : n ≤ h.1) : n ≤ (sL h i k v).1 := hn
theorem LK_sL {h : Hp} {i k : Nat} {v : Int64} (hL : LK h) : LK (sL h i k v) := hL
theorem gR_psI {h : Hp} {i k a b : Nat} {v : Int32} : gR (sI h i k v) a b = gR h a b := rfl
theorem gR_paI {h : Hp} {i k a b : Nat} {v : Int32} : gR (aI h i k v) a b = gR h a b := rfl
theorem gR_pbI {h : Hp} {i k a b : Nat} {v : Int32} : gR (bI h i k v) a b = gR h a b := rfl
theorem gR_psL {h : Hp} {i k a b : Nat} {v : Int64} : gR (sL h i k v) a b = gR h a b := rfl
theorem gR_osR {h : Hp} {i k a b : Nat} {v : Option Nat} (hne : a ≠ i) : gR (sR h i k v) a b = gR h a b := by rw [gR_sR, if_neg (fun q => hne q.1)]
theorem gR_ksR {h : Hp} {i k a b : Nat} {v : Option Nat} (hne : b ≠ k) : gR (sR h i k v) a b = gR h a b := by rw [gR_sR, if_neg (fun q => hne q.2)]
theorem le_sR {h : Hp} {i k n : Nat} {v : Option Nat} (hn : n ≤ h.1) : n ≤ (sR h i k v).1 := hn
