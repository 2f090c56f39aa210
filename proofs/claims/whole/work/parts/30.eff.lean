/-! What a run changes: IE (only ints), rows of ints. -/
def up (f : Nat → Int32) (k : Nat) (v : Int32) : Nat → Int32 := fun b => if b = k then v else f b
theorem up_a (f : Nat → Int32) (k : Nat) (v : Int32) (b : Nat) : up f k v b = if b = k then v else f b := rfl
theorem up_s (f : Nat → Int32) (k : Nat) (v : Int32) : up f k v k = v := if_pos rfl
theorem up_o {f : Nat → Int32} {k : Nat} {v : Int32} {b : Nat} (h : b ≠ k) : up f k v b = f b := if_neg h
def IE (h h' : Hp) : Prop := h'.1 = h.1 ∧ gL h' = gL h ∧ gR h' = gR h
theorem IE_r (h : Hp) : IE h h := ⟨rfl, rfl, rfl⟩
theorem IE_t {a b c : Hp} (h1 : IE a b) (h2 : IE b c) : IE a c := ⟨h2.1.trans h1.1, h2.2.1.trans h1.2.1, h2.2.2.trans h1.2.2⟩
theorem IE_s {h0 h : Hp} {i k : Nat} {v : Int32} (e : IE h0 h) : IE h0 (sI h i k v) := e
theorem IE_w {h h' : Hp} (e : IE h h') (w : HW h) : HW h' := HW_of w e.1 e.2.2
theorem gIs (h : Hp) (i k : Nat) (v : Int32) : gI (sI h i k v) i = up (gI h i) k v := by
  funext b
  rw [gI_sI, up_a]
  simp
theorem gIo {h : Hp} {i k : Nat} {v : Int32} {a : Nat} (n : a ≠ i) : gI (sI h i k v) a = gI h a := by
  funext b
  exact gI_osI n
theorem gIsR (h : Hp) (i k : Nat) (v : Option Nat) : gI (sR h i k v) = gI h := rfl
theorem gRs (h : Hp) (i k : Nat) (v : Int32) : gR (sI h i k v) = gR h := rfl
theorem sI1 (h : Hp) (i k : Nat) (v : Int32) : (sI h i k v).1 = h.1 := rfl
/-- two heaps hold the same ints but in some objects -/
def SX (h h' : Hp) (P : Nat → Prop) : Prop := ∀ a, ¬ P a → gI h' a = gI h a
theorem b2i_0 {B : Bool} : b2i B = 0 ↔ B = false := by cases B <;> decide
theorem b2i_n {B : Bool} : ¬ b2i B = 0 ↔ B = true := by cases B <;> decide
theorem b2i_1 {B : Bool} : b2i B = 1 ↔ B = true := by cases B <;> decide
theorem iteb (P : Prop) [Decidable P] : (if P then true else false) = decide P := by
  by_cases h : P <;> simp [h]
theorem iteb' (P : Prop) [Decidable P] : (if P then false else true) = !decide P := by
  by_cases h : P <;> simp [h]
theorem nIlt {a : Nat} {n : Nat} (ha : a < 2147483648) (hn : n < 2147483648) : (nI n ≤ nI a) ↔ n ≤ a := nI_leI (by omega) (by omega)
theorem nI_inj {a b : Nat} (ha : a < 2147483648) (hb : b < 2147483648) (h : nI a = nI b) : a = b := (nI_eq (by omega) (by omega)).mp h
theorem nI_m1 {a : Nat} (ha : a < 2147483648) : ¬ nI a = -1 := by
  intro h
  have := congrArg Int32.toInt h
  rw [nI_toInt (by omega)] at this
  have h2 : ((-1 : Int32)).toInt = -1 := by decide
  omega
theorem nI_c {a : Nat} (ha : a < 2147483648) : (nI a).toNatClampNeg = a := nI_clamp (by omega)
/-- an object's ints, all at once -/
def wO (h : Hp) (i : Nat) (g : Nat → Int32) : Hp := (h.1, u1 h.2.1 i g, h.2.2)
theorem sI_wO (h : Hp) (i k : Nat) (v : Int32) : sI h i k v = wO h i (up (gI h i) k v) := by
  unfold sI wO
  refine congrArg (fun z => (h.1, z, h.2.2)) ?_
  funext a b
  unfold u2 u1 up gI
  by_cases h1 : a = i
  · simp [h1]
  · simp [h1]
theorem gI_wO (h : Hp) (i : Nat) (g : Nat → Int32) : gI (wO h i g) i = g := by
  funext b
  show u1 h.2.1 i g i b = g b
  unfold u1
  rw [if_pos rfl]
theorem gI_wOo {h : Hp} {i a : Nat} {g : Nat → Int32} (n : a ≠ i) : gI (wO h i g) a = gI h a := by
  funext b
  show u1 h.2.1 i g a b = h.2.1 a b
  unfold u1
  rw [if_neg n]
theorem wO_wO (h : Hp) (i : Nat) (g k : Nat → Int32) : wO (wO h i g) i k = wO h i k := by
  unfold wO
  refine congrArg (fun z => (h.1, z, h.2.2)) ?_
  funext a b
  show u1 (u1 h.2.1 i g) i k a b = _
  unfold u1
  by_cases h1 : a = i
  · rw [if_pos h1, if_pos h1]
  · rw [if_neg h1, if_neg h1, if_neg h1]
theorem wO_id (h : Hp) (i : Nat) : wO h i (gI h i) = h := by
  unfold wO
  have : u1 h.2.1 i (gI h i) = h.2.1 := by
    funext a b
    unfold u1 gI
    by_cases h1 : a = i
    · subst h1; rw [if_pos rfl]
    · rw [if_neg h1]
  rw [this]
theorem gR_wO (h : Hp) (i : Nat) (g : Nat → Int32) : gR (wO h i g) = gR h := rfl
theorem gL_wO (h : Hp) (i : Nat) (g : Nat → Int32) : gL (wO h i g) = gL h := rfl
theorem n_wO (h : Hp) (i : Nat) (g : Nat → Int32) : (wO h i g).1 = h.1 := rfl
theorem HW_wO {h : Hp} {i : Nat} {g : Nat → Int32} (w : HW h) : HW (wO h i g) := w
theorem IE_wO {h0 h : Hp} {i : Nat} {g : Nat → Int32} (e : IE h0 h) : IE h0 (wO h i g) := e
theorem SX_wO {h0 h : Hp} {i : Nat} {g : Nat → Int32} {P : Nat → Prop} (hi : P i) (s : SX h0 h P) : SX h0 (wO h i g) P := by
  intro a ha
  rw [gI_wOo (by rintro rfl; exact ha hi)]
  exact s a ha
theorem SX_r (h : Hp) (P : Nat → Prop) : SX h h P := fun _ _ => rfl
theorem SH_rec {i : Nat} (h : 444 ≤ i) : SH i = (6, 0) := by
  unfold SH
  rw [List.getD_eq_getElem?_getD, List.getElem?_eq_none (by
    have : x_shl.length = 444 := by decide +kernel
    omega)]
  rfl
