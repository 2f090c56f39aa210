/-! The reference's fractions, and which recipes it takes. -/
def loN (X B : Nat) : Nat := X / Nat.gcd X B
def loD (X B : Nat) : Nat := B / Nat.gcd X B
/-- the rates stand in lowest terms in objects 439, 440 -/
def LV (h : Hp) (tp : Nat → Nat) (B : Nat) : Prop := ∀ i, i < 21 → gL h 439 i = lN (loN (tp i) B) ∧ gL h 440 i = lN (loD (tp i) B)
/-- what the reference's wants change -/
def LW (h h' : Hp) : Prop := h'.1 = h.1 ∧ gI h' = gI h ∧ gR h' = gR h ∧ ∀ a, ¬ a = 439 → ¬ a = 440 → gL h' a = gL h a
theorem loN_le (X B : Nat) : loN X B ≤ X := Nat.div_le_self _ _
theorem loD_le (X B : Nat) : loD X B ≤ B := Nat.div_le_self _ _
theorem lo_mul {X B : Nat} : loN X B * B = X * loD X B := by
  unfold loN loD
  have e1 := Nat.div_mul_cancel (Nat.gcd_dvd_left X B)
  have e2 := Nat.div_mul_cancel (Nat.gcd_dvd_right X B)
  generalize X / Nat.gcd X B = x at *
  generalize B / Nat.gcd X B = b at *
  generalize Nat.gcd X B = g at *
  rw [← e1, ← e2]
  ac_rfl
theorem loD_pos {X B : Nat} (hB : 0 < B) : 0 < loD X B := Nat.div_pos (Nat.gcd_le_right X hB) (Nat.gcd_pos_of_pos_right X hB)
section RW1
variable {L : Nat} {xs : Nat → Int32} {h h0 : Hp} {k c s v r o i M B n p q it : Nat} {x l : Int32} {R : Nat → Row} {S dn : Nat → Bool} {tp mc : Nat → Nat}
theorem c178l (hw : HW h) {z0 z1 z2 z3 : Option Value} (hz : x_wide (some z3) = false) : ∀ (n a b : Nat) (z8 z9 : Option Value), b ≤ n → a < 2 ^ 63 → b < 2 ^ 63 → WP L xs 178 6 [z0, z1, z2, z3, some (.long (lN a)), none, some (.long (lN b)), none, z8, z9] [] h (fun r h' => r = some (.long (lN (Nat.gcd a b))) ∧ h' = h) := by
  intro n
  induction n with
  | zero =>
    intro a b z8 z9 hb ha hb3
    obtain rfl : b = 0 := by omega
    exact v178_6 hw hz ⟨fun _ => ⟨by rw [Nat.gcd_zero_right], rfl⟩, fun q => absurd ((lN_e (by decide) (by decide)).mpr rfl) q⟩
  | succ n ih =>
    intro a b z8 z9 hb ha hb3
    by_cases b0 : b = 0
    · subst b0
      exact v178_6 hw hz ⟨fun _ => ⟨by rw [Nat.gcd_zero_right], rfl⟩, fun q => absurd ((lN_e (by decide) (by decide)).mpr rfl) q⟩
    · have nb : ¬ lN b = 0 := fun q => b0 ((lN_0 hb3).mp q)
      have nc : ¬ lg_cmp (lN b) 0 = 0 := fun q => b0 ((lN_e hb3 (by decide)).mp q)
      refine v178_6 hw hz ⟨fun q => absurd q nc, fun _ => ⟨nb, ?_⟩⟩
      have hr : a % b < b := Nat.mod_lt a (by omega)
      rw [lN_mod ha hb3, Nat.gcd_comm, Nat.gcd_rec, Nat.gcd_comm]
      exact ih b (a % b) _ _ (by omega) hb3 (by omega)
theorem c178 (hw : HW h) {a b : Nat} (ha : a < 2 ^ 63) (hb : b < 2 ^ 63) : Sp L xs 178 [.long (lN a), .long (lN b)] h (some (.long (lN (Nat.gcd a b)))) h :=
  sp_eq (v178 hw (c178l hw rfl b a b none none (Nat.le_refl b) ha hb))
/-- one item is wanted more: x over B, which is a over b -/
theorem c179 (hw : HW h) {x a b : Nat} (hi : i < 21) (lv : LV h tp B) (hB : 0 < B) (hB2 : B < 2 ^ 22) (ht : tp i < 2 ^ 34) (e : x * b = a * B) (hb : 0 < b) (hb2 : b < 2 ^ 24) (ha : a < 2 ^ 33) : ∃ h', Sp L xs 179 [.ref 397, .int (nI i), .long (lN a), .long (lN b)] h none h' ∧ LW h h' ∧ LV h' (upN tp i (tp i + x)) B := by
  obtain ⟨e1, e2⟩ := lv i hi
  have u1 := loN_le (tp i) B
  have w1 := loD_le (tp i) B
  have w0 := loD_pos (X := tp i) hB
  have lm := lo_mul (X := tp i) (B := B)
  generalize loN (tp i) B = u at *
  generalize loD (tp i) B = w at *
  have b1 : u * b ≤ 2 ^ 34 * 2 ^ 24 := Nat.mul_le_mul (by omega) (by omega)
  have b2 : a * w ≤ 2 ^ 33 * 2 ^ 22 := Nat.mul_le_mul (by omega) (by omega)
  have b3 : w * b ≤ 2 ^ 22 * 2 ^ 24 := Nat.mul_le_mul (by omega) (by omega)
  have q0 : 0 < w * b := Nat.mul_pos w0 hb
  have PB : (u * b + a * w) * B = (tp i + x) * (w * b) := by
    calc (u * b + a * w) * B = (u * B) * b + (a * B) * w := by rw [Nat.add_mul]; ac_rfl
      _ = (tp i * w) * b + (x * b) * w := by rw [lm, e]
      _ = (tp i + x) * (w * b) := by rw [Nat.add_mul]; ac_rfl
  have fe := frac_eq PB q0 hB
  have s178 := c178 (L := L) (xs := xs) (a := u * b + a * w) (b := w * b) hw (by omega) (by omega)
  have gp : 0 < Nat.gcd (u * b + a * w) (w * b) := Nat.gcd_pos_of_pos_right _ q0
  have gl : Nat.gcd (u * b + a * w) (w * b) ≤ w * b := Nat.gcd_le_right _ q0
  have gn : ¬ lN (Nat.gcd (u * b + a * w) (w * b)) = 0 := fun z => by
    have := (lN_0 (by omega)).mp z
    omega
  refine ⟨_, sp_eq (v179 hw ⟨i, rfl, hi, lN (Nat.gcd (u * b + a * w) (w * b)), by rw [e1, e2, lN_mul, lN_mul, lN_add, lN_mul]; exact s178, gn, gn, rfl, rfl⟩), ⟨rfl, rfl, rfl, fun a h1 h2 => by rw [gLp h2, gLp h1]⟩, fun j hj => ?_⟩
  rw [gLp (by decide), gLq, gLq, gLp (by decide), e1, e2, lN_mul, lN_mul, lN_add, lN_mul, lN_div (by omega) (by omega), lN_div (by omega) (by omega)]
  unfold upN
  by_cases y : j = i
  · rw [if_pos y, if_pos y, if_pos y]
    unfold loN loD
    rw [fe.1, fe.2]
    exact ⟨rfl, rfl⟩
  · rw [if_neg y, if_neg y, if_neg y]
    exact lv j hj
/-- the reference's recipes -/
def RF (h : Hp) (k : Nat) (R : Nat → Row) : Prop := HW h ∧ gI h 397 1 = nI k ∧ k ≤ 8 ∧ GB k R ∧ (∀ r r', r < k → r' < k → ¬ r = r' → ¬ R r 0 = R r' 0) ∧ ∀ r, r < k → gI h 400 r = nI (rn (R r) 0) ∧ gI h 399 r = nI (rn (R r) 1) ∧ gI h 401 r = nI (rn (R r) 2) ∧ gI h 402 (2 * r) = nI (rn (R r) 4) ∧ gI h 403 (2 * r) = nI (rn (R r) 5) ∧ gI h 402 (2 * r + 1) = nI (rn (R r) 6) ∧ gI h 403 (2 * r + 1) = nI (rn (R r) 7)
theorem RF_of {h h' : Hp} (f : RF h k R) (hw : HW h') (e1 : gI h' 397 = gI h 397) (e : ∀ a, 399 ≤ a → a ≤ 403 → gI h' a = gI h a) : RF h' k R := by
  obtain ⟨f1, f2, f3, f4, f5, f6⟩ := f
  refine ⟨hw, by rw [e1]; exact f2, f3, f4, f5, fun r hr => ?_⟩
  rw [e 400 (by decide) (by decide), e 399 (by decide) (by decide), e 401 (by decide) (by decide), e 402 (by decide) (by decide), e 403 (by decide) (by decide)]
  exact f6 r hr
theorem dp_n (f : RF h k R) (hr : r < k) (ho : o < k) : dp R k r o ↔ rn (R r) 4 = rn (R o) 0 ∨ rn (R r) 6 = rn (R o) 0 := by
  obtain ⟨all, -, a0, -, -, -, -, -, -, a4, -, -, a6, -⟩ := f.2.2.2.1 r hr
  obtain ⟨all2, -, b0, -⟩ := f.2.2.2.1 o ho
  unfold dp
  rw [all 4 (by decide), all 6 (by decide), all2 0 (by decide), nI_eq (by omega) (by omega), nI_eq (by omega) (by omega)]
  exact ⟨fun w => w.2.2, fun w => ⟨hr, ho, w⟩⟩
/-- item masks -/
def IM (R : Nat → Row) (k : Nat) (m : Int32) (S : Nat → Bool) : Prop := ∀ r, r < k → bt m (rn (R r) 0) = S r
theorem c181t {m d : Int32} (f : RF h k R) (im : IM R k m S) (dm : ∀ r, r < 8 → bt d r = dn r) (hr : r < k) : (if ((m >>> ((gI h 400 r) &&& 31)) &&& 1) = 1 then (if ((d >>> ((nI r) &&& 31)) &&& 1) = 0 then true else false) else false) = lft S dn r := by
  obtain ⟨all, -, a0, -⟩ := f.2.2.2.1 r hr
  have hk := f.2.2.1
  rw [(f.2.2.2.2.2 r hr).1, b_at (by omega), b_at (by omega), im r hr, dm r (by omega)]
  unfold lft
  cases S r <;> cases dn r <;> rfl
theorem c181b {m d : Int32} (f : RF h k R) (im : IM R k m S) (dm : ∀ r, r < 8 → bt d r = dn r) (hr : r < k) {Q : Option Value → Hp → Prop} (Kn : ∀ z4 z5 z6, ¬ freeP R k S dn r → WP L xs 181 2 [some (.ref 397), some (.int m), some (.int d), some (.int (nI (r + 1))), z4, z5, z6] [] h Q) (Ky : freeP R k S dn r → Q (some (.int (nI r))) h) : ∀ (j o : Nat) (b : Bool) (z6 : Option Value), o + j = k → (b = true → lft S dn r = true ∧ ∀ t, t < o → lft S dn t = true → ¬ dp R k t r) → (b = false → ¬ freeP R k S dn r) → WP L xs 181 42 [some (.ref 397), some (.int m), some (.int d), some (.int (nI r)), some (.int (b2i b)), some (.int (nI o)), z6] [] h Q
  | 0, o, b, z6, ho, ht, hf => by
    obtain rfl : o = k := by omega
    have hk := f.2.2.1
    refine v181_42 f.1 ?_
    rw [f.2.1, nI_1]
    refine ⟨fun _ => ⟨fun q => Kn _ _ _ (hf (b2i_0.mp q)), fun q => Ky ?_⟩, fun q => absurd (nI_le (Nat.le_refl _) (by omega)) q⟩
    obtain ⟨l, w⟩ := ht (b2i_n.mp q)
    exact ⟨l, fun t h1 h2 => w t h1 h2⟩
  | j + 1, o, b, z6, ho, ht, hf => by
    have hk := f.2.2.1
    have hok : o < k := by omega
    refine v181_42 f.1 ?_
    rw [f.2.1, nI_1, nI_1]
    refine ⟨fun q => absurd q (nI_ge hok (by omega)), fun _ => ⟨fun q => Kn _ _ _ (hf (b2i_0.mp q)), fun q => ?_⟩⟩
    obtain ⟨l, w⟩ := ht (b2i_n.mp q)
    have te := c181t (dn := dn) f im dm hok
    refine ⟨o, rfl, by omega, ?_⟩
    rw [te]
    have nr := dp_n f hok hr
    obtain ⟨-, -, -, n4, -, n6, -⟩ := f.2.2.2.2.2 o hok
    obtain ⟨g0, -⟩ := f.2.2.2.2.2 r hr
    obtain ⟨-, -, a0, -, -, -, -, -, -, a4, -, -, a6, -⟩ := f.2.2.2.1 o hok
    obtain ⟨-, -, c0, -⟩ := f.2.2.2.1 r hr
    refine ⟨fun lo => ⟨2 * o, ix4 o, by omega, r, rfl, by omega, fun e => ?_, fun e => ⟨2 * o + 1, ix5 o, by omega, ?_⟩⟩, fun lo => ?_⟩
    · rw [n4, g0] at e
      have e := nI_inj (by omega) (by omega) e
      exact c181b f im dm hr Kn Ky j (o + 1) false _ (by omega) (fun z => by cases z) (fun _ fr => fr.2 o hok lo (nr.mpr (Or.inl e)))
    · rw [n4, g0, nI_eq (by omega) (by omega)] at e
      rw [n6, g0]
      by_cases e6 : nI (rn (R o) 6) = nI (rn (R r) 0)
      · rw [if_pos e6]
        have e6 := nI_inj (by omega) (by omega) e6
        exact c181b f im dm hr Kn Ky j (o + 1) false _ (by omega) (fun z => by cases z) (fun _ fr => fr.2 o hok lo (nr.mpr (Or.inr e6)))
      · rw [if_neg e6]
        rw [nI_eq (by omega) (by omega)] at e6
        refine c181b f im dm hr Kn Ky j (o + 1) true _ (by omega) (fun _ => ⟨l, fun t h1 h2 d => ?_⟩) (fun z => by cases z)
        by_cases y : t = o
        · rw [y] at d
          rcases nr.mp d with z | z
          · exact e z
          · exact e6 z
        · exact w t (by omega) h2 d
    · refine c181b f im dm hr Kn Ky j (o + 1) true _ (by omega) (fun _ => ⟨l, fun t h1 h2 d => ?_⟩) (fun z => by cases z)
      by_cases y : t = o
      · rw [y] at h2
        exact lo h2
      · exact w t (by omega) h2 d
theorem c181l {m d : Int32} (f : RF h k R) (im : IM R k m S) (dm : ∀ r, r < 8 → bt d r = dn r) (so : SOk R k S) : ∀ (j r : Nat) (z4 z5 z6 : Option Value), r + j = k → (∀ t, t < r → ¬ freeP R k S dn t) → WP L xs 181 2 [some (.ref 397), some (.int m), some (.int d), some (.int (nI r)), z4, z5, z6] [] h (fun r h' => (∃ v, r = some (.int v) ∧ ((∃ r, pickP R k S dn r ∧ v = nI r) ∨ (v = -1 ∧ ∀ r, ¬ freeP R k S dn r))) ∧ h' = h)
  | 0, r, z4, z5, z6, hr, cl => by
    obtain rfl : r = k := by omega
    have hk := f.2.2.1
    refine v181_2 f.1 ?_
    rw [f.2.1]
    exact ⟨fun _ => ⟨⟨-1, rfl, Or.inr ⟨rfl, fun t ft => cl t (so.1 t (lft_t.mp ft.1).1) ft⟩⟩, rfl⟩, fun q => absurd (nI_le (Nat.le_refl _) (by omega)) q⟩
  | j + 1, r, z4, z5, z6, hr, cl => by
    have hk := f.2.2.1
    have hrk : r < k := by omega
    refine v181_2 f.1 ?_
    rw [f.2.1]
    refine ⟨fun q => absurd q (nI_ge hrk (by omega)), fun _ => ⟨r, rfl, by omega, ?_⟩⟩
    rw [c181t (dn := dn) f im dm hrk]
    refine c181b f im dm hrk (fun z4 z5 z6 nf => c181l f im dm so j (r + 1) z4 z5 z6 (by omega) (fun t ht => ?_)) (fun fr => ⟨⟨nI r, rfl, Or.inl ⟨r, ⟨hrk, fr, cl⟩, rfl⟩⟩, rfl⟩) k 0 _ _ (by omega) (fun b => ⟨b, fun t ht => absurd ht (Nat.not_lt_zero t)⟩) (fun b fr => by rw [fr.1] at b; cases b)
    by_cases y : t = r
    · rw [y]; exact nf
    · exact cl t (by omega)
theorem c181 {m d : Int32} (f : RF h k R) (im : IM R k m S) (dm : ∀ r, r < 8 → bt d r = dn r) (so : SOk R k S) : ∃ v, Sp L xs 181 [.ref 397, .int m, .int d] h (some (.int v)) h ∧ ((∃ r, pickP R k S dn r ∧ v = nI r) ∨ (v = -1 ∧ ∀ r, ¬ freeP R k S dn r)) := by
  obtain ⟨r, h', s, ⟨v, rfl, e⟩, rfl⟩ := v181 (L := L) (xs := xs) (x := m) (y := d) f.1 (c181l (L := L) (xs := xs) f im dm so k 0 none none none (by omega) (fun t ht => absurd ht (Nat.not_lt_zero t)))
  exact ⟨v, s, e⟩
end RW1
