/-! Bits (begun from kit/laws/BITS.to-paste); which recipes a recipe needs, over others too. -/
def bt (x : Int32) (i : Nat) : Bool := x.toBitVec.getLsbD i
theorem b_ext {x y : Int32} (h : ∀ i, i < 32 → bt x i = bt y i) : x = y := Int32.toBitVec_inj.mp (BitVec.eq_of_getLsbD_eq (fun i hi => h i hi))
theorem b_or (x y : Int32) (i : Nat) : bt (x ||| y) i = (bt x i || bt y i) := by unfold bt; rw [Int32.toBitVec_or, BitVec.getLsbD_or]
theorem b_and (x y : Int32) (i : Nat) : bt (x &&& y) i = (bt x i && bt y i) := by unfold bt; rw [Int32.toBitVec_and, BitVec.getLsbD_and]
theorem b_xor (x y : Int32) (i : Nat) : bt (x ^^^ y) i = (bt x i ^^ bt y i) := by unfold bt; rw [Int32.toBitVec_xor, BitVec.getLsbD_xor]
theorem b_m1 : ∀ i, i < 32 → bt (-1) i = true := by decide +kernel
theorem b_0 (i : Nat) : bt 0 i = false := BitVec.getLsbD_zero
theorem s_l : ∀ n, n < 32 → ((nI n &&& 31).toBitVec.smod 32).toNat = n := by decide +kernel
theorem b_shl (n : Nat) (hn : n < 32) (x : Int32) {i : Nat} (hi : i < 32) : bt (x <<< (nI n &&& 31)) i = (decide (n ≤ i) && bt x (i - n)) := by
  unfold bt
  rw [Int32.toBitVec_shiftLeft]
  show (x.toBitVec <<< ((nI n &&& 31).toBitVec.smod 32).toNat).getLsbD i = _
  rw [s_l n hn, BitVec.getLsbD_shiftLeft]
  rcases Nat.lt_or_ge i n with h | h
  · simp [h, Nat.not_le.mpr h]
  · simp [hi, h, Nat.not_lt.mpr h]
theorem b_sshr (n : Nat) (hn : n < 32) (x : Int32) {i : Nat} (hi : i < 32) : bt (x >>> (nI n &&& 31)) i = if n + i < 32 then bt x (n + i) else bt x 31 := by
  unfold bt
  rw [Int32.toBitVec_shiftRight]
  show (x.toBitVec.sshiftRight ((nI n &&& 31).toBitVec.smod 32).toNat).getLsbD i = _
  rw [s_l n hn, BitVec.getLsbD_sshiftRight, BitVec.msb_eq_getLsbD_last]
  simp [hi]
theorem b_1 : ∀ i, i < 32 → bt 1 i = decide (i = 0) := by decide +kernel
theorem b_one {r i : Nat} (hr : r < 32) (hi : i < 32) : bt ((1 : Int32) <<< (nI r &&& 31)) i = decide (i = r) := by
  rw [b_shl r hr 1 hi, b_1 (i - r) (by omega)]
  by_cases h : r ≤ i
  · rw [decide_eq_true h, Bool.true_and]
    by_cases e : i = r
    · rw [decide_eq_true e, decide_eq_true (by omega)]
    · rw [decide_eq_false e, decide_eq_false (by omega)]
  · rw [decide_eq_false h, decide_eq_false (show ¬ i = r by omega)]; rfl
/-- a bit, shifted down and cut out -/
theorem b_at {x : Int32} {r : Nat} (hr : r < 32) : ((x >>> (nI r &&& 31)) &&& 1) = b2i (bt x r) := by
  refine b_ext (fun i hi => ?_)
  rw [b_and, b_sshr r hr x hi, b_1 i hi]
  by_cases h : i = 0
  · subst h
    rw [if_pos (by omega), decide_eq_true rfl, Bool.and_true, Nat.add_zero]
    cases bt x r with
    | true => exact (by decide : true = bt 1 0)
    | false => exact (by decide : false = bt 0 0)
  · rw [decide_eq_false h, Bool.and_false]
    cases bt x r with
    | true =>
      show false = bt 1 i
      rw [b_1 i hi, decide_eq_false h]
    | false =>
      show false = bt 0 i
      rw [b_0]
theorem hsB_bt {x : Int32} {r : Nat} (hr : r < 32) : hsB x (nI r) = bt x r := by
  unfold hsB
  rw [b_at hr]
  cases bt x r <;> decide
/-- less one bit -/
theorem b_less {x : Int32} {r i : Nat} (hr : r < 32) (hi : i < 32) : bt (x &&& (((1 : Int32) <<< (nI r &&& 31)) ^^^ (-1))) i = (bt x i && !decide (i = r)) := by
  rw [b_and, b_xor, b_one hr hi, b_m1 i hi]
  cases bt x i <;> cases decide (i = r) <;> rfl
/-! Which recipes a recipe needs: at once (dp), over the first v ones (Wv), over any (Wv k). -/
def dp (R : Nat → Row) (k r o : Nat) : Prop := r < k ∧ o < k ∧ (R r 4 = R o 0 ∨ R r 6 = R o 0)
def Wv (R : Nat → Row) (k : Nat) : Nat → Nat → Nat → Prop
  | 0, r, o => dp R k r o
  | v + 1, r, o => Wv R k v r o ∨ (Wv R k v r v ∧ Wv R k v v o)
section WV
variable {R : Nat → Row} {k v r o m : Nat}
theorem Wv_s : Wv R k (v + 1) r o ↔ Wv R k v r o ∨ (Wv R k v r v ∧ Wv R k v v o) := Iff.rfl
theorem Wv_lt : ∀ {v r o : Nat}, Wv R k v r o → r < k ∧ o < k
  | 0, _, _, h => ⟨h.1, h.2.1⟩
  | _ + 1, _, _, h => by
    rcases h with h | ⟨h1, h2⟩
    · exact Wv_lt h
    · exact ⟨(Wv_lt h1).1, (Wv_lt h2).2⟩
theorem Wv_up {r o : Nat} : ∀ {v w : Nat}, v ≤ w → Wv R k v r o → Wv R k w r o
  | v, 0, hw, h => by
    obtain rfl : v = 0 := by omega
    exact h
  | v, w + 1, hw, h => by
    by_cases e : v = w + 1
    · rw [← e]; exact h
    · exact Or.inl (Wv_up (by omega) h)
/-- closed over the first v -/
theorem Wv_cl : ∀ (v : Nat) {r o m : Nat}, m < v → Wv R k v r m → Wv R k v m o → Wv R k v r o
  | 0, _, _, _, hm, _, _ => absurd hm (Nat.not_lt_zero _)
  | v + 1, r, o, m, hm, h1, h2 => by
    by_cases e : m = v
    · subst e
      have a1 : Wv R k m r m := by
        rcases h1 with h | ⟨h, -⟩ <;> exact h
      have a2 : Wv R k m m o := by
        rcases h2 with h | ⟨-, h⟩ <;> exact h
      exact Or.inr ⟨a1, a2⟩
    · have lt : m < v := by omega
      rcases h1 with h1 | ⟨h1, h3⟩
      · rcases h2 with h2 | ⟨h2, h4⟩
        · exact Or.inl (Wv_cl v lt h1 h2)
        · exact Or.inr ⟨Wv_cl v lt h1 h2, h4⟩
      · rcases h2 with h2 | ⟨h2, h4⟩
        · exact Or.inr ⟨h1, Wv_cl v lt h3 h2⟩
        · exact Or.inr ⟨h1, h4⟩
theorem Wv_dp (h : dp R k r o) : Wv R k k r o := Wv_up (v := 0) (Nat.zero_le k) h
theorem Wv_tr (h1 : Wv R k k r m) (h2 : Wv R k k m o) : Wv R k k r o := Wv_cl k (Wv_lt h1).2 h1 h2
/-- its first step -/
theorem Wv_first : ∀ (v : Nat), v ≤ k → ∀ {r o : Nat}, Wv R k v r o → dp R k r o ∨ ∃ m, dp R k r m ∧ Wv R k k m o
  | 0, _, _, _, h => Or.inl h
  | v + 1, hv, r, o, h => by
    rcases h with h | ⟨h1, h2⟩
    · exact Wv_first v (by omega) h
    · have n2 := Wv_up (w := k) (by omega) h2
      rcases Wv_first v (by omega) h1 with a | ⟨m, a, b⟩
      · exact Or.inr ⟨v, a, n2⟩
      · exact Or.inr ⟨m, a, Wv_tr b n2⟩
/-- its last step -/
theorem Wv_last : ∀ (v : Nat), v ≤ k → ∀ {r o : Nat}, Wv R k v r o → dp R k r o ∨ ∃ m, Wv R k k r m ∧ dp R k m o
  | 0, _, _, _, h => Or.inl h
  | v + 1, hv, r, o, h => by
    rcases h with h | ⟨h1, h2⟩
    · exact Wv_last v (by omega) h
    · have n1 := Wv_up (w := k) (by omega) h1
      rcases Wv_last v (by omega) h2 with a | ⟨m, a, b⟩
      · exact Or.inr ⟨v, n1, a⟩
      · exact Or.inr ⟨m, Wv_tr n1 a, b⟩
end WV
/-! The class gathers them. -/
section GN
variable {L : Nat} {xs : Nat → Int32} {h h0 : Hp} {k c s v r o i : Nat} {x : Int32} {R : Nat → Row}
theorem btO_fnd (hk : k < 9) (di : ∀ r r', r < k → r' < k → ¬ r = r' → ¬ R r 0 = R r' 0) (ho : o < 32) : bt (btO (fndI R x k 0)) o = true ↔ o < k ∧ x = R o 0 := by
  unfold btO
  by_cases q : fndI R x k 0 = -1
  · rw [if_pos q, b_0]
    refine ⟨fun w => (by cases w), fun ⟨w1, w2⟩ => ?_⟩
    exact absurd w2.symm (fndI_n k 0 q (by omega) o (Nat.zero_le o) (by omega))
  · rw [if_neg q]
    obtain ⟨r, -, hr, e, e2⟩ := fndI_s k 0 q
    rw [e, b_one (by omega) ho, decide_eq_true_iff]
    constructor
    · rintro rfl
      exact ⟨by omega, e2.symm⟩
    · rintro ⟨w1, w2⟩
      apply Decidable.byContradiction
      intro y
      exact di o r w1 (by omega) y (w2.symm.trans e2.symm)
/-- the rows of needs hold the relation N -/
def ND (h : Hp) (N : Nat → Nat → Prop) : Prop := ∀ r, r < 8 → ∀ o, o < 32 → (bt (gI h 396 r) o = true ↔ N r o)
def onN (a : Nat) : Prop := a = 396
theorem c53i (b : RLb h0 k) : ∀ (m i : Nat) (h : Hp) (z3 : Option Value) {Q : Option Value → Hp → Prop}, i + m = k → IE h0 h → SX h0 h onN → (∀ r, r < 8 → ∀ o, o < 32 → (bt (gI h 396 r) o = true ↔ r < i ∧ dp (RC h0) k r o)) → (∀ h z3, IE h0 h → SX h0 h onN → ND h (dp (RC h0) k) → WP L xs 53 67 [some (.ref 393), some (.ref 2), some (.int 0), z3] [] h Q) → WP L xs 53 10 [some (.ref 393), some (.ref 2), some (.int (nI i)), z3] [] h Q
  | 0, i, h, z3, Q, hi, ie, sx, nd, K => by
    obtain rfl : i = k := by omega
    have hk := b.2.1
    have e2 : gI h 2 1 = nI i := by rw [sx 2 (by unfold onN; decide)]; exact b.2.2.2.1
    refine v53_10 (IE_w ie b.1) ?_
    rw [e2]
    refine ⟨fun _ => K h z3 ie sx (fun r hr o ho => (nd r hr o ho).trans ⟨fun w => w.2, fun w => ⟨w.1, w⟩⟩), fun q => absurd (nI_le (Nat.le_refl _) (by omega)) q⟩
  | m + 1, i, h, z3, Q, hi, ie, sx, nd, K => by
    have hk := b.2.1
    have hik : i < k := by omega
    have e2 : gI h 2 1 = nI k := by rw [sx 2 (by unfold onN; decide)]; exact b.2.2.2.1
    have e3 : gR h 3 i = some (444 + i) := by rw [ie.2.2]; exact b.2.2.2.2.2.1 i hik
    have hw := IE_w ie b.1
    have eR : RC h = RC h0 := by
      funext r
      exact sx (444 + r) (by unfold onN; omega)
    have b' : RLb h k := RLb_of (h := h0) hw ie.1 (fun a ha => sx a (by unfold onN; omega)) (by rw [sx 397 (by unfold onN; decide)]) (fun q => by rw [ie.2.2]) b
    have rq : RQ (444 + i) h.1 := ⟨by rw [b'.2.2.1]; omega, SH_rec (by omega)⟩
    refine v53_10 hw ?_
    rw [e2]
    refine ⟨fun q => absurd q (nI_ge hik (by omega)), fun _ => ⟨i, rfl, by omega, fun q => (by rw [e3] at q; cases q), fun q8 q => ?_⟩⟩
    rw [e3] at q
    injection q with q
    subst q
    refine ⟨rq, _, c3 b', fun q => (by rw [e3] at q; cases q), fun q13 q => ?_⟩
    rw [e3] at q
    injection q with q
    subst q
    refine ⟨rq, _, c3 b', ?_⟩
    rw [nI_1]
    refine c53i b m (i + 1) _ z3 (by omega) (IE_s ie) (fun a ha => ?_) (fun r hr o ho => ?_) K
    · rw [gIo ha]; exact sx a ha
    · rw [gIs, up_a]
      by_cases y : r = i
      · subst y
        rw [if_pos rfl, b_or, Bool.or_eq_true, eR]
        have g4 : gI h (444 + r) 4 = RC h0 r 4 := by rw [← eR]; rfl
        have g6 : gI h (444 + r) 6 = RC h0 r 6 := by rw [← eR]; rfl
        rw [g4, g6, btO_fnd hk b.2.2.2.2.2.2.2.2 ho, btO_fnd hk b.2.2.2.2.2.2.2.2 ho]
        constructor
        · rintro (⟨w1, w2⟩ | ⟨w1, w2⟩)
          · exact ⟨Nat.lt_succ_self r, hik, w1, Or.inl w2⟩
          · exact ⟨Nat.lt_succ_self r, hik, w1, Or.inr w2⟩
        · rintro ⟨-, -, w1, w2 | w2⟩
          · exact Or.inl ⟨w1, w2⟩
          · exact Or.inr ⟨w1, w2⟩
      · rw [if_neg y, nd r hr o ho]
        exact ⟨fun w => ⟨by omega, w.2⟩, fun w => ⟨by omega, w.2⟩⟩
/-- in round v: the rows below j are done -/
def WJ (R : Nat → Row) (k v j r o : Nat) : Prop := (r < j ∧ Wv R k (v + 1) r o) ∨ (j ≤ r ∧ Wv R k v r o)
theorem c53j (b : RLb h0 k) (hv : v < k) {Q : Option Value → Hp → Prop} (K : ∀ h z3, IE h0 h → SX h0 h onN → ND h (Wv (RC h0) k (v + 1)) → WP L xs 53 67 [some (.ref 393), some (.ref 2), some (.int (nI (v + 1))), z3] [] h Q) : ∀ (m j : Nat) (h : Hp), j + m = k → IE h0 h → SX h0 h onN → ND h (WJ (RC h0) k v j) → WP L xs 53 77 [some (.ref 393), some (.ref 2), some (.int (nI v)), some (.int (nI j))] [] h Q
  | 0, j, h, hj, ie, sx, nd => by
    obtain rfl : j = k := by omega
    have hk := b.2.1
    have e2 : gI h 2 1 = nI j := by rw [sx 2 (by unfold onN; decide)]; exact b.2.2.2.1
    refine v53_77 (IE_w ie b.1) ?_
    rw [e2, nI_1]
    refine ⟨fun _ => K h _ ie sx (fun r hr o ho => (nd r hr o ho).trans ⟨fun w => ?_, fun w => Or.inl ⟨(Wv_lt w).1, w⟩⟩), fun q => absurd (nI_le (Nat.le_refl _) (by omega)) q⟩
    rcases w with w | w
    · exact w.2
    · exact absurd (Wv_lt w.2).1 (by omega)
  | m + 1, j, h, hj, ie, sx, nd => by
    have hk := b.2.1
    have e2 : gI h 2 1 = nI k := by rw [sx 2 (by unfold onN; decide)]; exact b.2.2.2.1
    have vv : ∀ o, o < 32 → (bt (gI h 396 v) o = true ↔ Wv (RC h0) k v v o) := fun o ho => (nd v (by omega) o ho).trans ⟨fun w => by
      rcases w with ⟨-, w⟩ | ⟨-, w⟩
      · rcases w with w | ⟨-, w⟩ <;> exact w
      · exact w, fun w => by
      by_cases y : v < j
      · exact Or.inl ⟨y, Or.inl w⟩
      · exact Or.inr ⟨by omega, w⟩⟩
    have jj : ∀ o, o < 32 → (bt (gI h 396 j) o = true ↔ Wv (RC h0) k v j o) := fun o ho => (nd j (by omega) o ho).trans ⟨fun w => by
      rcases w with ⟨w, -⟩ | ⟨-, w⟩
      · omega
      · exact w, fun w => Or.inr ⟨Nat.le_refl j, w⟩⟩
    refine v53_77 (IE_w ie b.1) ?_
    rw [e2, nI_1]
    refine ⟨fun q => absurd q (nI_ge (show j < k by omega) (by omega)), fun _ => ⟨j, rfl, by omega, fun q => ⟨v, rfl, by omega, ?_⟩, fun q => ?_⟩⟩
    · rw [hsB_bt (by omega)] at q
      have jv := (jj v (by omega)).mp q
      rw [nI_1]
      refine c53j b hv K m (j + 1) _ (by omega) (IE_s ie) (fun a ha => by rw [gIo ha]; exact sx a ha) (fun r hr o ho => ?_)
      rw [gIs, up_a]
      by_cases y : r = j
      · rw [if_pos y, b_or, Bool.or_eq_true, jj o ho, vv o ho, y]
        constructor
        · rintro (w | w)
          · exact Or.inl ⟨Nat.lt_succ_self j, Or.inl w⟩
          · exact Or.inl ⟨Nat.lt_succ_self j, Or.inr ⟨jv, w⟩⟩
        · rintro (⟨-, w⟩ | ⟨w, -⟩)
          · rcases w with w | ⟨-, w⟩
            · exact Or.inl w
            · exact Or.inr w
          · omega
      · rw [if_neg y, nd r hr o ho]
        exact ⟨fun w => by
          rcases w with ⟨w1, w2⟩ | ⟨w1, w2⟩
          · exact Or.inl ⟨by omega, w2⟩
          · exact Or.inr ⟨by omega, w2⟩, fun w => by
          rcases w with ⟨w1, w2⟩ | ⟨w1, w2⟩
          · exact Or.inl ⟨by omega, w2⟩
          · exact Or.inr ⟨by omega, w2⟩⟩
    · rw [hsB_bt (by omega)] at q
      have jv : ¬ Wv (RC h0) k v j v := fun w => q ((jj v (by omega)).mpr w)
      rw [nI_1]
      refine c53j b hv K m (j + 1) h (by omega) ie sx (fun r hr o ho => ?_)
      by_cases y : r = j
      · rw [y, jj o ho]
        constructor
        · exact fun w => Or.inl ⟨Nat.lt_succ_self j, Or.inl w⟩
        · rintro (⟨-, w⟩ | ⟨w, -⟩)
          · rcases w with w | ⟨w, -⟩
            · exact w
            · exact absurd w jv
          · omega
      · rw [nd r hr o ho]
        exact ⟨fun w => by
          rcases w with ⟨w1, w2⟩ | ⟨w1, w2⟩
          · exact Or.inl ⟨by omega, w2⟩
          · exact Or.inr ⟨by omega, w2⟩, fun w => by
          rcases w with ⟨w1, w2⟩ | ⟨w1, w2⟩
          · exact Or.inl ⟨by omega, w2⟩
          · exact Or.inr ⟨by omega, w2⟩⟩
theorem c53v (b : RLb h0 k) : ∀ (m v : Nat) (h : Hp) (z3 : Option Value), v + m = k → IE h0 h → SX h0 h onN → ND h (Wv (RC h0) k v) → WP L xs 53 67 [some (.ref 393), some (.ref 2), some (.int (nI v)), z3] [] h (fun r h' => r = none ∧ IE h0 h' ∧ SX h0 h' onN ∧ ND h' (Wv (RC h0) k k))
  | 0, v, h, z3, hv, ie, sx, nd => by
    obtain rfl : v = k := by omega
    have hk := b.2.1
    have e2 : gI h 2 1 = nI v := by rw [sx 2 (by unfold onN; decide)]; exact b.2.2.2.1
    refine v53_67 (IE_w ie b.1) ?_
    rw [e2]
    exact ⟨fun _ => ⟨rfl, ie, sx, nd⟩, fun q => absurd (nI_le (Nat.le_refl _) (by omega)) q⟩
  | m + 1, v, h, z3, hv, ie, sx, nd => by
    have hk := b.2.1
    have e2 : gI h 2 1 = nI k := by rw [sx 2 (by unfold onN; decide)]; exact b.2.2.2.1
    refine v53_67 (IE_w ie b.1) ?_
    rw [e2]
    refine ⟨fun q => absurd q (nI_ge (show v < k by omega) (by omega)), fun _ => c53j b (by omega) (fun h z3 i s n => c53v b m (v + 1) h z3 (by omega) i s n) k 0 h (by omega) ie sx (fun r hr o ho => (nd r hr o ho).trans ⟨fun w => Or.inr ⟨Nat.zero_le r, w⟩, fun w => ?_⟩)⟩
    rcases w with ⟨w, -⟩ | ⟨-, w⟩
    · exact absurd w (Nat.not_lt_zero r)
    · exact w
theorem c53 (b : RLb h k) : ∃ h', Sp L xs 53 [.ref 393, .ref 2] h none h' ∧ IE h h' ∧ SX h h' onN ∧ ND h' (Wv (RC h) k k) := by
  obtain ⟨h1, s1, i1, x1, z1⟩ := c199 (L := L) (xs := xs) (h := h) (a := 396) (n := 8) (v := 0) b.1 (by decide) (by decide) (by decide)
  have key := c53i (L := L) (xs := xs) b k 0 h1 none (Q := fun r h' => r = none ∧ IE h h' ∧ SX h h' onN ∧ ND h' (Wv (RC h) k k)) (by omega) i1 x1 (fun r hr o ho => by
    rw [z1 r hr, b_0]
    exact ⟨fun w => (by cases w), fun w => absurd w.1 (Nat.not_lt_zero r)⟩) (fun h' z3 i s n => c53v b k 0 h' z3 (by omega) i s n)
  obtain ⟨r, h', s, rfl, e⟩ := v53 (L := L) (xs := xs) b.1 ⟨h1, s1, key⟩
  exact ⟨h', s, e⟩
end GN
