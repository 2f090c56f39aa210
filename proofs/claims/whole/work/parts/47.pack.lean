/-! A part's state in one number. (wb_tb to wb_or: from kit/laws/BITS.to-paste.) -/
theorem wb_tb (n : Nat) : (lN n).toBitVec = BitVec.ofNat 64 n := rfl
theorem wb_inj {a b : Int64} (h : a.toBitVec = b.toBitVec) : a = b := Int64.toBitVec_inj.mp h
theorem wb_c : ∀ k, k < 64 → ((nI k).toInt64 &&& 63) = lN k := by decide +kernel
theorem wb_sm : ∀ k, k < 64 → (BitVec.ofNat 64 k).smod 64 = BitVec.ofNat 64 k := by decide +kernel
theorem wb_shl (n : Nat) {k : Nat} (hk : k < 64) : lN n <<< ((nI k).toInt64 &&& 63) = lN (n * 2 ^ k) := by
  rw [wb_c k hk]
  apply wb_inj
  rw [Int64.toBitVec_shiftLeft, wb_tb, wb_tb, wb_tb, wb_sm k hk]
  apply BitVec.eq_of_toNat_eq
  rw [BitVec.shiftLeft_eq', BitVec.toNat_shiftLeft, BitVec.toNat_ofNat, BitVec.toNat_ofNat, BitVec.toNat_ofNat, Nat.mod_eq_of_lt (show k < 2 ^ 64 by omega), Nat.shiftLeft_eq, Nat.mul_mod, Nat.mod_mod, ← Nat.mul_mod]
theorem wb_or {a b : Nat} (ha : a < 2 ^ 64) (hb : b < 2 ^ 64) : lN a ||| lN b = lN (a ||| b) := by
  apply wb_inj
  rw [Int64.toBitVec_or, wb_tb, wb_tb, wb_tb]
  apply BitVec.eq_of_toNat_eq
  rw [BitVec.toNat_or, BitVec.toNat_ofNat, BitVec.toNat_ofNat, BitVec.toNat_ofNat, Nat.mod_eq_of_lt ha, Nat.mod_eq_of_lt hb, Nat.mod_eq_of_lt (Nat.or_lt_two_pow ha hb)]
theorem sh_or {n a k m : Nat} (hk : k < 7) (hm : 2 ^ k = m) (hn : n < 2 ^ 50) (ha : a < m) : (lN n <<< ((nI k).toInt64 &&& 63)) ||| lN a = lN (n * m + a) := by
  subst hm
  have h7 : 2 ^ k ≤ 2 ^ 6 := Nat.pow_le_pow_right (by decide) (by omega)
  have h8 : n * 2 ^ k ≤ 2 ^ 50 * 2 ^ 6 := Nat.mul_le_mul (by omega) h7
  rw [wb_shl n (by omega), wb_or (by omega) (by omega), ← Nat.shiftLeft_eq, ← Nat.shiftLeft_add_eq_or_of_lt ha]
def pkA (x : Row) : Nat := rn x 5 * 64 + rn x 6
def pkB (x : Row) : Nat := pkA x * 16 + rn x 7
def pkC (x : Row) : Nat := pkB x * 16 + rn x 8
def pkD (x : Row) : Nat := pkC x * 16 + rn x 9
def pkE (x : Row) : Nat := pkD x * 64 + rn x 10
def pkF (x : Row) : Nat := pkE x * 2 + rn x 11
def pkG (x : Row) : Nat := pkF x * 4 + rn x 12
def pkN (x : Row) : Nat := pkG x * 4 + rn x 13
/-- small numbers -/
def SMx (x : Row) : Prop := (∀ j, 5 ≤ j → j < 14 → x j = nI (rn x j)) ∧ rn x 5 < 21 ∧ rn x 6 < 64 ∧ rn x 7 < 16 ∧ rn x 8 < 16 ∧ rn x 9 < 16 ∧ rn x 10 < 64 ∧ rn x 11 < 2 ∧ rn x 12 < 4 ∧ rn x 13 < 4
section PK
variable {L : Nat} {xs : Nat → Int32} {h : Hp} {p k : Nat} {R : Nat → Row} {x y : Row}
theorem rn_e {j n : Nat} (e : x j = nI n) (hn : n < 2147483648) : rn x j = n ∧ x j = nI (rn x j) := by
  have : rn x j = n := by unfold rn; rw [e, nI_c hn]
  exact ⟨this, by rw [this]; exact e⟩
theorem GR_SM (hB : GB k R) (g : GR k R x) : SMx x := by
  obtain ⟨g1, g2, g3, ⟨i, hi, e5⟩, g5, ⟨t, ht, e12⟩, ⟨v, hv, e13⟩, g8, g9, g10, g11⟩ := g
  have r5 := rn_e e5 (by omega)
  have r12 := rn_e e12 (by omega)
  have r13 := rn_e e13 (by omega)
  have r6 : rn x 6 < 64 ∧ x 6 = nI (rn x 6) := by
    by_cases q : x 0 = 5
    · obtain ⟨i, p, c, -, -, -, q4, -, q6, q7⟩ := g8 q
      have := rn_e q7 (by omega)
      exact ⟨by omega, this.2⟩
    · have := rn_e (n := 0) (g9 q) (by decide)
      exact ⟨by omega, this.2⟩
  have r7 : (rn x 7 < 16 ∧ x 7 = nI (rn x 7)) ∧ (rn x 8 < 16 ∧ x 8 = nI (rn x 8)) ∧ (rn x 9 < 16 ∧ x 9 = nI (rn x 9)) ∧ (rn x 10 < 64 ∧ x 10 = nI (rn x 10)) ∧ (rn x 11 < 2 ∧ x 11 = nI (rn x 11)) := by
    by_cases q : x 0 = 6
    · obtain ⟨a, ha, ea, s1, s2, m, w, e7, b7, e8, b8, e9, b9, e10, b10, hw⟩ := g11 q
      obtain ⟨-, -, -, -, c1, -, c2, -, -, -, -, c5, -, c7, -⟩ := hB a ha
      have a7 := rn_e e7 (by omega)
      have a8 := rn_e e8 (by omega)
      have a9 := rn_e e9 (by omega)
      have a10 := rn_e e10 (by omega)
      refine ⟨⟨by omega, a7.2⟩, ⟨by omega, a8.2⟩, ⟨by omega, a9.2⟩, ⟨by omega, a10.2⟩, ?_⟩
      rcases hw with q | ⟨q, -⟩
      · have := rn_e (n := 0) q (by decide)
        exact ⟨by omega, this.2⟩
      · have := rn_e (n := 1) q (by decide)
        exact ⟨by omega, this.2⟩
    · obtain ⟨q7, q8, q9, q10, q11⟩ := g10 q
      have a7 := rn_e (n := 0) q7 (by decide)
      have a8 := rn_e (n := 0) q8 (by decide)
      have a9 := rn_e (n := 0) q9 (by decide)
      have a10 := rn_e (n := 0) q10 (by decide)
      have a11 := rn_e (n := 0) q11 (by decide)
      exact ⟨⟨by omega, a7.2⟩, ⟨by omega, a8.2⟩, ⟨by omega, a9.2⟩, ⟨by omega, a10.2⟩, ⟨by omega, a11.2⟩⟩
  refine ⟨fun j h5 h14 => ?_, by omega, r6.1, r7.1.1, r7.2.1.1, r7.2.2.1.1, r7.2.2.2.1.1, r7.2.2.2.2.1, by omega, by omega⟩
  rcases (show j = 5 ∨ j = 6 ∨ j = 7 ∨ j = 8 ∨ j = 9 ∨ j = 10 ∨ j = 11 ∨ j = 12 ∨ j = 13 by omega) with rfl | rfl | rfl | rfl | rfl | rfl | rfl | rfl | rfl
  · exact r5.2
  · exact r6.2
  · exact r7.1.2
  · exact r7.2.1.2
  · exact r7.2.2.1.2
  · exact r7.2.2.2.1.2
  · exact r7.2.2.2.2.2
  · exact r12.2
  · exact r13.2
theorem pkN_b (s : SMx x) : pkA x < 1344 ∧ pkB x < 21504 ∧ pkC x < 344064 ∧ pkD x < 5505024 ∧ pkE x < 352321536 ∧ pkF x < 704643072 ∧ pkG x < 2818572288 ∧ pkN x < 11274289152 := by
  obtain ⟨-, s5, s6, s7, s8, s9, s10, s11, s12, s13⟩ := s
  unfold pkN pkG pkF pkE pkD pkC pkB pkA
  omega
theorem pkN_inj (s : SMx x) (t : SMx y) (e : pkN x = pkN y) : ∀ j, 5 ≤ j → j < 14 → x j = y j := by
  obtain ⟨sj, s5, s6, s7, s8, s9, s10, s11, s12, s13⟩ := s
  obtain ⟨tj, t5, t6, t7, t8, t9, t10, t11, t12, t13⟩ := t
  have e1 : pkG x = pkG y ∧ rn x 13 = rn y 13 := by unfold pkN at e; omega
  have e2 : pkF x = pkF y ∧ rn x 12 = rn y 12 := by have := e1.1; unfold pkG at this; omega
  have e3 : pkE x = pkE y ∧ rn x 11 = rn y 11 := by have := e2.1; unfold pkF at this; omega
  have e4 : pkD x = pkD y ∧ rn x 10 = rn y 10 := by have := e3.1; unfold pkE at this; omega
  have e5 : pkC x = pkC y ∧ rn x 9 = rn y 9 := by have := e4.1; unfold pkD at this; omega
  have e6 : pkB x = pkB y ∧ rn x 8 = rn y 8 := by have := e5.1; unfold pkC at this; omega
  have e7 : pkA x = pkA y ∧ rn x 7 = rn y 7 := by have := e6.1; unfold pkB at this; omega
  have e8 : rn x 5 = rn y 5 ∧ rn x 6 = rn y 6 := by have := e7.1; unfold pkA at this; omega
  intro j h5 h14
  rw [sj j h5 h14, tj j h5 h14]
  rcases (show j = 5 ∨ j = 6 ∨ j = 7 ∨ j = 8 ∨ j = 9 ∨ j = 10 ∨ j = 11 ∨ j = 12 ∨ j = 13 by omega) with rfl | rfl | rfl | rfl | rfl | rfl | rfl | rfl | rfl
  · rw [e8.1]
  · rw [e8.2]
  · rw [e7.2]
  · rw [e6.2]
  · rw [e5.2]
  · rw [e4.2]
  · rw [e3.2]
  · rw [e2.2]
  · rw [e1.2]
theorem pkN_eq (h : ∀ j, 5 ≤ j → j < 14 → x j = y j) : pkN x = pkN y := by
  have r : ∀ j, 5 ≤ j → j < 14 → rn x j = rn y j := fun j a b => by unfold rn; rw [h j a b]
  unfold pkN pkG pkF pkE pkD pkC pkB pkA
  rw [r 5 (by decide) (by decide), r 6 (by decide) (by decide), r 7 (by decide) (by decide), r 8 (by decide) (by decide), r 9 (by decide) (by decide), r 10 (by decide) (by decide), r 11 (by decide) (by decide), r 12 (by decide) (by decide), r 13 (by decide) (by decide)]
theorem c40 (hw : HW h) (hp : PT p) (s : SMx (gI h p)) : Sp L xs 40 [.ref p] h (some (.long (lN (pkN (gI h p))))) h := by
  obtain ⟨b1, b2, b3, b4, b5, b6, b7, b8⟩ := pkN_b s
  obtain ⟨sj, s5, s6, s7, s8, s9, s10, s11, s12, s13⟩ := s
  have t : ∀ j, 5 ≤ j → j < 14 → rn (gI h p) j < 64 → (gI h p j).toInt64 = lN (rn (gI h p) j) := fun j a b c => by
    exact (congrArg Int32.toInt64 (sj j a b)).trans (nI_l (by omega))
  have tb : (b2i (if gI h p 11 = 0 then false else true)).toInt64 = lN (rn (gI h p) 11) := by
    have := sj 11 (by decide) (by decide)
    rcases (show rn (gI h p) 11 = 0 ∨ rn (gI h p) 11 = 1 by omega) with q | q
    · rw [q] at this ⊢
      rw [this]
      decide
    · rw [q] at this ⊢
      rw [this]
      decide
  refine sp_eq (v40 hw hp ?_)
  rintro y1 rfl y2 rfl y7 rfl
  refine ⟨?_, rfl⟩
  rw [t 5 (by decide) (by decide) (by omega), t 6 (by decide) (by decide) (by omega), t 7 (by decide) (by decide) (by omega), t 8 (by decide) (by decide) (by omega), t 9 (by decide) (by decide) (by omega), t 10 (by decide) (by decide) (by omega), t 12 (by decide) (by decide) (by omega), t 13 (by decide) (by decide) (by omega), tb]
  have w6 : ∀ n a, n < 2 ^ 50 → a < 64 → (lN n <<< ((6 : Int32).toInt64 &&& 63)) ||| lN a = lN (n * 64 + a) := fun n a hn ha => sh_or (k := 6) (by decide) rfl hn ha
  have w4 : ∀ n a, n < 2 ^ 50 → a < 16 → (lN n <<< ((4 : Int32).toInt64 &&& 63)) ||| lN a = lN (n * 16 + a) := fun n a hn ha => sh_or (k := 4) (by decide) rfl hn ha
  have w1 : ∀ n a, n < 2 ^ 50 → a < 2 → (lN n <<< ((1 : Int32).toInt64 &&& 63)) ||| lN a = lN (n * 2 + a) := fun n a hn ha => sh_or (k := 1) (by decide) rfl hn ha
  have w2 : ∀ n a, n < 2 ^ 50 → a < 4 → (lN n <<< ((2 : Int32).toInt64 &&& 63)) ||| lN a = lN (n * 4 + a) := fun n a hn ha => sh_or (k := 2) (by decide) rfl hn ha
  rw [w6 _ _ (by omega) s6]
  rw [show rn (gI h p) 5 * 64 + rn (gI h p) 6 = pkA (gI h p) from rfl, w4 _ _ (by omega) s7]
  rw [show pkA (gI h p) * 16 + rn (gI h p) 7 = pkB (gI h p) from rfl, w4 _ _ (by omega) s8]
  rw [show pkB (gI h p) * 16 + rn (gI h p) 8 = pkC (gI h p) from rfl, w4 _ _ (by omega) s9]
  rw [show pkC (gI h p) * 16 + rn (gI h p) 9 = pkD (gI h p) from rfl, w6 _ _ (by omega) s10]
  rw [show pkD (gI h p) * 64 + rn (gI h p) 10 = pkE (gI h p) from rfl, w1 _ _ (by omega) s11]
  rw [show pkE (gI h p) * 2 + rn (gI h p) 11 = pkF (gI h p) from rfl, w2 _ _ (by omega) s12]
  rw [show pkF (gI h p) * 4 + rn (gI h p) 12 = pkG (gI h p) from rfl, w2 _ _ (by omega) s13]
  rfl
end PK
