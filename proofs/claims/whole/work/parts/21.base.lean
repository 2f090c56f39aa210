/-! Reading and writing heaps; truth values; the links that never change. -/
def b2i (b : Bool) : Int32 := if b then 1 else 0
theorem b2i_t : b2i true = 1 := rfl
theorem b2i_f : b2i false = 0 := rfl
theorem b2i_01 (b : Bool) : x_ok01 (b2i b) = true := by cases b <;> rfl
theorem b2i_inj {a b : Bool} (h : b2i a = b2i b) : a = b := by cases a <;> cases b <;> first | rfl | (exact absurd h (by decide))
section EB
variable {L : Nat} {xs : Nat → Int32} {j pc pc' len a : Nat} {v : Value} {t : List Nat} {ls : x_L} {st : List Value} {h : Hp} {Q : Option Value → Hp → Prop} {B : Bool}
theorem e_b0 (hi : INS j pc = some (9, len, a, 0, v, t)) (hp : pc + len = pc') (k1 : B = false → WP L xs j a ls st h Q) (k2 : B = true → WP L xs j pc' ls st h Q) : WP L xs j pc ls (.int (b2i B) :: st) h Q := by
  cases B with
  | true => exact e_ifF hi hp rfl (k2 rfl)
  | false => exact e_ifT hi rfl (k1 rfl)
theorem e_b1 (hi : INS j pc = some (9, len, a, 1, v, t)) (hp : pc + len = pc') (k1 : B = true → WP L xs j a ls st h Q) (k2 : B = false → WP L xs j pc' ls st h Q) : WP L xs j pc ls (.int (b2i B) :: st) h Q := by
  cases B with
  | true => exact e_ifT hi rfl (k1 rfl)
  | false => exact e_ifF hi hp rfl (k2 rfl)
end EB
theorem gI_sI (h : Hp) (i k : Nat) (v : Int32) (a b : Nat) : gI (sI h i k v) a b = if a = i ∧ b = k then v else gI h a b := by
  unfold gI sI u2
  by_cases h1 : a = i <;> by_cases h2 : b = k <;> simp [h1, h2]
theorem gL_sL (h : Hp) (i k : Nat) (v : Int64) (a b : Nat) : gL (sL h i k v) a b = if a = i ∧ b = k then v else gL h a b := by
  unfold gL sL u2
  by_cases h1 : a = i <;> by_cases h2 : b = k <;> simp [h1, h2]
theorem gR_sR (h : Hp) (i k : Nat) (v : Option Nat) (a b : Nat) : gR (sR h i k v) a b = if a = i ∧ b = k then v else gR h a b := by
  unfold gR sR u2
  by_cases h1 : a = i <;> by_cases h2 : b = k <;> simp [h1, h2]
theorem gL_sI (h : Hp) (i k : Nat) (v : Int32) : gL (sI h i k v) = gL h := rfl
theorem gR_sI (h : Hp) (i k : Nat) (v : Int32) : gR (sI h i k v) = gR h := rfl
theorem gI_sL (h : Hp) (i k : Nat) (v : Int64) : gI (sL h i k v) = gI h := rfl
theorem gR_sL (h : Hp) (i k : Nat) (v : Int64) : gR (sL h i k v) = gR h := rfl
theorem gI_sR (h : Hp) (i k : Nat) (v : Option Nat) : gI (sR h i k v) = gI h := rfl
theorem gL_sR (h : Hp) (i k : Nat) (v : Option Nat) : gL (sR h i k v) = gL h := rfl
theorem n_sI (h : Hp) (i k : Nat) (v : Int32) : (sI h i k v).1 = h.1 := rfl
theorem n_sL (h : Hp) (i k : Nat) (v : Int64) : (sL h i k v).1 = h.1 := rfl
theorem n_sR (h : Hp) (i k : Nat) (v : Option Nat) : (sR h i k v).1 = h.1 := rfl
theorem x_isC {i n tag le : Nat} (h1 : i < 444) (hn : 444 ≤ n) (h2 : SH i = (tag, le)) : x_is i n tag le = true := by
  simp only [x_is, h2, Bool.and_eq_true, Nat.blt_eq]
  exact ⟨by omega, Nat.beq_refl _, Nat.beq_refl _⟩
theorem x_isV {i n tag le : Nat} (h1 : i < n) (h2 : SH i = (tag, le)) : x_is i n tag le = true := by
  simp only [x_is, h2, Bool.and_eq_true, Nat.blt_eq]
  exact ⟨h1, Nat.beq_refl _, Nat.beq_refl _⟩
theorem x_fvR {h : Hp} {i d a q : Nat} (hk : FK a d = 2) (hr : gR h i d = some q) : x_fv h i d (FK a d) = .ref q := by
  rw [hk]
  simp only [x_fv, hr]
theorem x_fvN {h : Hp} {i d a : Nat} (hk : FK a d = 2) (hr : gR h i d = none) : x_fv h i d (FK a d) = .null := by
  rw [hk]
  simp only [x_fv, hr]
theorem x_agR {h : Hp} {i n q : Nat} (hr : gR h i n = some q) : x_aget h 23 i n = .ref q := by simp only [x_aget, hr]
theorem x_agN {h : Hp} {i n : Nat} (hr : gR h i n = none) : x_aget h 23 i n = .null := by simp only [x_aget, hr]
/-- a place in an array of known length -/
theorem x_alC {i n a le tag k : Nat} (h1 : i < 444) (hn : 444 ≤ n) (h2 : SH i = (tag, le)) (hs : x_sort a tag = true) (hk : k < le) (hle : le < 2147483648) : (Nat.blt i n && (x_sort a (SH i).1 && x_in (nI k) (SH i).2)) = true := by
  simp only [h2, hs, Bool.and_eq_true, Nat.blt_eq, x_in, Bool.not_eq_true', Bool.or_eq_false_iff, decide_eq_false_iff_not]
  refine ⟨by omega, trivial, ?_⟩
  have h3 := nI_in (c := k) (N := le) hk (by omega)
  exact ⟨fun q => h3 (Or.inl q), fun q => h3 (Or.inr q)⟩
theorem x_alX {i n a le tag : Nat} {x : Int32} (h1 : i < 444) (hn : 444 ≤ n) (h2 : SH i = (tag, le)) (hs : x_sort a tag = true) (hk : vp_in x le) : (Nat.blt i n && (x_sort a (SH i).1 && x_in x (SH i).2)) = true := by
  simp only [h2, hs, Bool.and_eq_true, Nat.blt_eq, x_in, Bool.not_eq_true', Bool.or_eq_false_iff, decide_eq_false_iff_not]
  exact ⟨by omega, trivial, fun q => hk (Or.inl q), fun q => hk (Or.inr q)⟩
theorem x_lenC {i n le tag : Nat} (h1 : i < 444) (hn : 444 ≤ n) (h2 : SH i = (tag, le)) (ht : 20 ≤ tag) : (Nat.blt i n && Nat.ble 20 (SH i).1) = true := by
  simp only [h2, Bool.and_eq_true, Nat.blt_eq, Nat.ble_eq]
  exact ⟨by omega, ht⟩
