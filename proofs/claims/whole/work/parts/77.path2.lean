/-! The reference's path; the call path. -/
section PT2
variable {L : Nat} {xs : Nat → Int32} {h h0 : Hp} {z a s n k : Nat} {T : Nat → Row} {D : Nat → Nat}
theorem enc_n (e : Nat) : enc e = nI (if e = 0 then 1000 else e) := by
  unfold enc
  by_cases q : e = 0
  · rw [if_pos q, if_pos q]; rfl
  · rw [if_neg q, if_neg q]
theorem enc_le {g b : Nat} (hg : g < 200) (hb : b < 200) (l : enc b ≤ enc g) : bsn g b = b := by
  rw [enc_n, enc_n, nI_leI (by split <;> omega) (by split <;> omega)] at l
  unfold bsn
  by_cases g0 : g = 0
  · rw [if_pos g0]
  · rw [if_neg g0] at l ⊢
    by_cases b0 : b = 0
    · rw [if_pos b0] at l; omega
    · rw [if_neg b0] at l ⊢
      rw [if_neg (by omega)]
theorem enc_nle {g b : Nat} (hg : g < 200) (hb : b < 200) (l : ¬ enc b ≤ enc g) : bsn g b = g := by
  rw [enc_n, enc_n, nI_leI (by split <;> omega) (by split <;> omega)] at l
  unfold bsn
  by_cases g0 : g = 0
  · rw [if_pos g0] at l
    exfalso
    apply l
    split <;> omega
  · rw [if_neg g0] at l ⊢
    by_cases b0 : b = 0
    · rw [if_pos b0]
    · rw [if_neg b0] at l ⊢
      rw [if_pos (by omega)]
theorem c187 (hw : HW h) (ha : a < 144) : Sp L xs 187 [.ref 397, .int (nI a)] h (some (.int (b2i (cnG (gI h 405 a))))) h := by
  have ca : x_isCell (nI a) = true := (in3_t (a := 0) (b := 143) (by omega) (by decide) (by decide)).mpr ⟨Nat.zero_le _, by omega⟩
  refine sp_eq (v187 hw ⟨fun _ => ⟨a, rfl, ha, fun q => ⟨?_, rfl⟩, fun n0 => ⟨fun q => ⟨?_, rfl⟩, fun n2 => ⟨?_, rfl⟩⟩⟩, fun q => absurd ca q⟩)
  · rw [q]; rfl
  · rw [q]; rfl
  · unfold cnG
    by_cases n7 : gI h 405 a = 7
    · rw [n7]; rfl
    · rw [if_neg n7, decide_eq_true ⟨n0, n2, n7⟩]
theorem c188 (hw : HW h) (ha : a < 144) : Sp L xs 188 [.ref 397, .int (nI a)] h (some (.int (b2i (cnT (gI h 405 a))))) h := by
  have ca : x_isCell (nI a) = true := (in3_t (a := 0) (b := 143) (by omega) (by decide) (by decide)).mpr ⟨Nat.zero_le _, by omega⟩
  refine sp_eq (v188 hw ⟨fun _ => ⟨a, rfl, ha, fun q => ⟨?_, rfl⟩, fun n0 => ⟨fun q => ⟨?_, rfl⟩, fun n2 => ⟨?_, rfl⟩⟩⟩, fun q => absurd ca q⟩)
  · rw [q]; rfl
  · rw [q]; rfl
  · unfold cnT
    by_cases n7 : gI h 405 a = 5
    · rw [n7]; rfl
    · rw [if_neg n7, decide_eq_true ⟨n0, n2, n7⟩]
/-- the reference's distances in heap h -/
def DRef (T : Nat → Row) (z : Nat) (h : Hp) : Prop := ∀ k, k < 144 → gI h 443 k = enc (DF T z k) ∧ DF T z k < 200 ∧ DOk T z k (DF T z k)
theorem FAM_D {h' : Hp} (f : FAM T h h' z) : IE h h' ∧ SX h h' (fun a => a = 443) ∧ DRef T z h' := by
  obtain ⟨f1, f2, D, f3⟩ := f
  refine ⟨f1, f2, fun k hk => ?_⟩
  obtain ⟨e1, e2, e3⟩ := f3 k hk
  have e := DF_v e3
  rw [← e]; exact ⟨e1, e2, e3⟩
theorem c189l (hw : HW h) (kd : KD T h) (dr : DRef T z h) (ha : a < 144) (hz : z < 144) (tz : ¬ T z 0 = 0) : ∀ (m s : Nat) (z5 : Option Value), s + m = 4 → adB T a z s = false → WP L xs 189 35 [some (.ref 397), some (.int (nI a)), some (.int (nI z)), some (.int (enc (bsT T (DF T z) a s))), some (.int (nI s)), z5] [] h (fun r h' => r = some (.int (if adB T a z 4 = true then 0 else encC (bsT T (DF T z) a 4))) ∧ h' = h)
  | 0, s, z5, hs, b => by
    obtain rfl : s = 4 := by omega
    have hb := bsT_le (T := T) (D := DF T z) (n := 199) (fun k hk => by have := (dr k hk).2.1; omega) ha 4 (Nat.le_refl 4)
    refine v189_35 hw ⟨fun _ => ⟨?_, rfl⟩, fun q => absurd (nI_le (Nat.le_refl 4) (by decide)) q⟩
    rw [if_neg (show ¬ adB T a z 4 = true by rw [b]; decide)]
    unfold encC
    by_cases q : bsT T (DF T z) a 4 = 0
    · rw [if_pos ((enc_0 (by omega)).mpr q), if_pos q]
    · rw [if_neg (fun w => q ((enc_0 (by omega)).mp w)), if_neg q]
      unfold enc
      rw [if_neg q]
  | m + 1, s, z5, hs, b => by
    have hs4 : s < 4 := by omega
    have hD : ∀ k, k < 144 → DF T z k ≤ 199 := fun k hk => by have := (dr k hk).2.1; omega
    have hb := bsT_le (T := T) hD ha s (by omega)
    have rek := fun z5 bb => c189l hw kd dr ha hz tz m (s + 1) z5 (by omega) bb
    have nn := (nbr_all a ha s hs4).2
    have s128 := c128k (L := L) (xs := xs) (i := nI s) hw kd ha
    have adn : ¬ goS T a s = some z → adB T a z (s + 1) = false := fun ng => by
      show (adB T a z s || adb T a z s) = false
      rw [b, adb_n ng]; rfl
    rw [bsT_s] at rek
    have none' : goS T a s = none → ∀ z5, WP L xs 189 35 [some (.ref 397), some (.int (nI a)), some (.int (nI z)), some (.int (enc (bsT T (DF T z) a s))), some (.int (nI (s + 1))), z5] [] h (fun r h' => r = some (.int (if adB T a z 4 = true then 0 else encC (bsT T (DF T z) a 4))) ∧ h' = h) := fun e z5 => by
      have e2 : bsn (gdN (DF T z) (goS T a s)) (bsT T (DF T z) a s) = bsT T (DF T z) a s := by rw [e]; exact if_pos rfl
      rw [e2] at rek
      exact rek z5 (adn (by rw [e]; intro w; cases w))
    refine v189_35 hw ⟨fun q => absurd q (nI_ge hs4 (by decide)), fun _ => ?_⟩
    rw [nI_1]
    cases hb2 : nb a s with
    | none =>
      rw [hb2] at nn
      rw [nn]
      refine ⟨fun _ => none' ?_ _, fun q => absurd rfl q⟩
      cases l : ldT (T a) (nI s) with
      | true => rw [goS_t l]; exact hb2
      | false => exact goS_f l
    | some k =>
      rw [hb2] at nn
      rw [nn]
      have hk := nb_144 a ha s hs4 k hb2
      obtain ⟨d1, d2, d3⟩ := dr k hk
      have k0 := (kd k hk).1
      have bare : ¬ T k 0 = 0 → DF T z k = 0 := fun w => by
        apply Decidable.byContradiction
        intro y
        exact w (DF_bare d3 y)
      refine ⟨fun q => absurd q (nI_m1 (by omega)), fun _ => ⟨_, s128, fun l0 => none' (goS_f (b2i_0.mp l0)) _, fun l0 => ?_⟩⟩
      have g : goS T a s = some k := by rw [goS_t (b2i_n.mp l0)]; exact hb2
      have eg : gdN (DF T z) (goS T a s) = DF T z k := by rw [g]; rfl
      rw [eg] at rek
      -- a cell with a part counts for nothing
      have full : ¬ T k 0 = 0 → adB T a z (s + 1) = false → ∀ z5, WP L xs 189 35 [some (.ref 397), some (.int (nI a)), some (.int (nI z)), some (.int (enc (bsT T (DF T z) a s))), some (.int (nI (s + 1))), z5] [] h (fun r h' => r = some (.int (if adB T a z 4 = true then 0 else encC (bsT T (DF T z) a 4))) ∧ h' = h) := fun w bb z5 => by
        have e2 : bsn (DF T z k) (bsT T (DF T z) a s) = bsT T (DF T z) a s := if_pos (bare w)
        rw [e2] at rek
        exact rek z5 bb
      have opn : ∀ z5, adB T a z (s + 1) = false → ((enc (bsT T (DF T z) a s) ≤ gI h 443 k) → WP L xs 189 35 [some (.ref 397), some (.int (nI a)), some (.int (nI z)), some (.int (enc (bsT T (DF T z) a s))), some (.int (nI (s + 1))), z5] [] h (fun r h' => r = some (.int (if adB T a z 4 = true then 0 else encC (bsT T (DF T z) a 4))) ∧ h' = h)) ∧ (¬ (enc (bsT T (DF T z) a s) ≤ gI h 443 k) → WP L xs 189 35 [some (.ref 397), some (.int (nI a)), some (.int (nI z)), some (.int (gI h 443 k)), some (.int (nI (s + 1))), z5] [] h (fun r h' => r = some (.int (if adB T a z 4 = true then 0 else encC (bsT T (DF T z) a 4))) ∧ h' = h)) := fun z5 bb => by
        rw [d1]
        refine ⟨fun l => ?_, fun l => ?_⟩
        · have e := enc_le d2 (by omega) l
          rw [e] at rek
          exact rek z5 bb
        · have e := enc_nle d2 (by omega) l
          rw [e] at rek
          exact rek z5 bb
      refine ⟨fun e => ?_, fun e => ?_⟩
      · have ez : k = z := nI_inj (by omega) (by omega) e
        subst ez
        have t128 := c128k (L := L) (xs := xs) (i := (nI s + 2) - (nI s + 2) / 4 * 4) hw kd hk
        refine ⟨_, t128, fun r0 => ⟨?_, rfl⟩, fun r0 => ⟨k, rfl, hk, fun t0 => absurd (k0.symm.trans t0) tz, fun _ => full tz ?_ _⟩⟩
        · have lf := b2i_0.mp r0
          rw [(opp4 s hs4).2] at lf
          rw [adB_all ha hs4 g b, lf]; rfl
        · have lf := b2i_n.mp r0
          rw [(opp4 s hs4).2] at lf
          show (adB T a k s || adb T a k s) = false
          rw [b]
          unfold adb
          rw [lf]; simp
      · have ez : ¬ k = z := fun w => e (by rw [w])
        have bb := adn (by rw [g]; intro w; injection w with w; exact ez w)
        refine ⟨k, rfl, hk, fun _ => opn _ bb, fun t0 => full (fun w => t0 (k0.trans w)) bb _⟩
theorem c189 (hw : HW h) (kd : KD T h) (ha : a < 144) (hz : z < 144) : ∃ h', Sp L xs 189 [.ref 397, .int (nI a), .int (nI z)] h (some (.int (pth T a z))) h' ∧ IE h h' ∧ SX h h' (fun a => a = 443) ∧ (¬ pth T a z = -1 → DRef T z h') := by
  have s187 := c187 (L := L) (xs := xs) hw ha
  have s188 := c188 (L := L) (xs := xs) hw hz
  rw [(kd a ha).1] at s187
  rw [(kd z hz).1] at s188
  by_cases bad : a = z ∨ cnG (T a 0) = false ∨ cnT (T z 0) = false
  · have e : pth T a z = -1 := if_pos bad
    rw [e]
    refine ⟨h, sp_eq (v189 hw ⟨_, s187, fun _ => ⟨rfl, rfl⟩, fun q1 => ⟨_, s188, fun _ => ⟨rfl, rfl⟩, fun q2 => ⟨fun _ => ⟨rfl, rfl⟩, fun q3 => ?_⟩⟩⟩), IE_r h, SX_r h _, fun q => absurd rfl q⟩
    exfalso
    rcases bad with b | b | b
    · exact q3 (by rw [b])
    · rw [b] at q1; exact q1 rfl
    · rw [b] at q2; exact q2 rfl
  · have n1 : ¬ nI a = nI z := fun q => bad (Or.inl (nI_inj (by omega) (by omega) q))
    have n2 : cnG (T a 0) = true := by
      cases w : cnG (T a 0) with
      | true => rfl
      | false => exact absurd (Or.inr (Or.inl w)) bad
    have n3 : cnT (T z 0) = true := by
      cases w : cnT (T z 0) with
      | true => rfl
      | false => exact absurd (Or.inr (Or.inr w)) bad
    have tz : ¬ T z 0 = 0 := fun q => by rw [q] at n3; exact absurd n3 (by decide)
    obtain ⟨h', s185, f⟩ := c185 (L := L) (xs := xs) hw kd hz
    obtain ⟨f1, f2, f3⟩ := FAM_D f
    have w' := IE_w f1 hw
    have kd' : KD T h' := fun c hc => by rw [f2 405 (by decide), f2 406 (by decide)]; exact kd c hc
    have key := c189l (L := L) (xs := xs) w' kd' f3 ha hz tz 4 0 none (by omega) rfl
    have e : pth T a z = (if adB T a z 4 = true then 0 else encC (bsT T (DF T z) a 4)) := if_neg bad
    rw [n2] at s187
    rw [n3] at s188
    refine ⟨h', ?_, f1, f2, fun _ => f3⟩
    rw [e]
    exact sp_eq (v189 hw ⟨_, s187, fun q => absurd q (by decide), fun _ => ⟨_, s188, fun q => absurd q (by decide), fun _ => ⟨fun q => absurd q n1, fun _ => ⟨h', s185, key⟩⟩⟩⟩)
/-- what both searches may write -/
def scw (a : Nat) : Prop := a = 390 ∨ a = 391 ∨ a = 392 ∨ a = 443
theorem Rel_o {H : Hp} (r : Rel h k) (e : IE h H) (o : ∀ a, ¬ a = 1 → ¬ a = 398 → ¬ scw a → gI H a = gI h a) (rr : RLr H) : Rel H k := by
  obtain ⟨r1, r2, r3, r4, r5, r6⟩ := r
  have o2 : ∀ a, (¬ a = 1 ∧ ¬ a = 398 ∧ ¬ (390 ≤ a ∧ a ≤ 392) ∧ ¬ a = 443) → gI H a = gI h a := fun a ⟨x, y, z, w⟩ => o a x y (by unfold scw; omega)
  refine ⟨RLb_of (h := h) (IE_w e r1.1) e.1 (fun a ha => o2 a (by omega)) (by rw [o2 397 (by decide)]) (fun _ => by rw [e.2.2]) r1, RLf_of (h := h) e.1 ?_ (fun a ha => o2 a (by unfold inF at ha; omega)) (by rw [o2 397 (by decide)]) (fun _ _ => by rw [e.2.2]) r2, rr, RLs_of (h := h) (fun a ha => o2 a (by unfold inS at ha; omega)) (fun _ _ => by rw [e.2.1]) r4, RLt_of (h := h) (fun a ha => o2 a (by omega)) (by rw [o2 397 (by decide)]) r5, RLp_of (h := h) (o2 394 (by decide)) (o2 441 (by decide)) (fun _ _ => by rw [e.2.1]) r6⟩
  funext j
  exact o2 (444 + j) (by omega)
theorem KD_of (r : Rel h k) {H : Hp} (e5 : gI H 405 = gI h 405) (e6 : gI H 406 = gI h 406) : KD (flT h) H := by
  intro c hc
  obtain ⟨-, -, ⟨a3, a4⟩, -⟩ := r.2.1.1 c hc
  rw [e5, e6]
  refine ⟨a3.symm, fun q => ?_⟩
  have := a4 q 1 (by decide) (by decide)
  rw [MV0] at this
  exact this.symm
theorem op_path {x y : Int32} : OPI L xs 106 190 [.ref 0, .int x, .int y] [.ref 397, .int x, .int y] := by
  intro h k r
  have hw := r.1.1
  have bad : (¬ x_isCell x = true ∨ ¬ x_isCell y = true) → ∃ (v : Int32) (h1 h2 : Hp) (k2 : Nat), Sp L xs 106 [.ref 0, .int x, .int y] h (some (.int v)) h1 ∧ HW h1 ∧ Sp L xs 190 [.ref 397, .int x, .int y] h1 (some (.int v)) h2 ∧ Rel h2 k2 := fun q => by
    have s65 : Sp L xs 65 [.ref 390, .ref 4, .int x, .int y] h (some (.int (-1))) h := by
      refine sp_eq (v65 hw ⟨fun hx => ⟨fun hy => ?_, fun _ => ⟨rfl, rfl⟩⟩, fun _ => ⟨rfl, rfl⟩⟩)
      rcases q with q | q
      · exact absurd hx q
      · exact absurd hy q
    have s189 : Sp L xs 189 [.ref 397, .int x, .int y] h (some (.int (-1))) h := by
      by_cases hx : x_isCell x = true
      · have hy : ¬ x_isCell y = true := by
          rcases q with q | q
          · exact absurd hx q
          · exact q
        obtain ⟨a, ha, rfl⟩ := isCell_n hx
        have s188 : Sp L xs 188 [.ref 397, .int y] h (some (.int 0)) h := sp_eq (v188 hw ⟨fun w => absurd w hy, fun _ => ⟨rfl, rfl⟩⟩)
        exact sp_eq (v189 hw ⟨_, c187 hw ha, fun _ => ⟨rfl, rfl⟩, fun _ => ⟨_, s188, fun _ => ⟨rfl, rfl⟩, fun w => absurd rfl w⟩⟩)
      · have s187 : Sp L xs 187 [.ref 397, .int x] h (some (.int 0)) h := sp_eq (v187 hw ⟨fun w => absurd w hx, fun _ => ⟨rfl, rfl⟩⟩)
        exact sp_eq (v189 hw ⟨_, s187, fun _ => ⟨rfl, rfl⟩, fun w => absurd rfl w⟩)
    exact ⟨-1, h, h, k, sp_eq (v106 hw ⟨_, _, s65, rfl, rfl⟩), hw, sp_eq (v190 hw ⟨_, _, s189, rfl, rfl⟩), r⟩
  by_cases hx : x_isCell x = true
  · by_cases hy : x_isCell y = true
    · obtain ⟨a, ha, rfl⟩ := isCell_n hx
      obtain ⟨z, hz, rfl⟩ := isCell_n hy
      obtain ⟨h1, s65, i1, x1, -⟩ := c65 (L := L) (xs := xs) hw ha hz
      have w1 := IE_w i1 hw
      have kd : KD (flT h) h1 := KD_of r (x1 405 (by unfold rob; omega)) (x1 406 (by unfold rob; omega))
      obtain ⟨h2, s189, i2, x2, -⟩ := c189 (L := L) (xs := xs) w1 kd ha hz
      have o : ∀ a, ¬ scw a → gI h2 a = gI h a := fun a q => (x2 a (by unfold scw at q; omega)).trans (x1 a (by unfold scw at q; unfold rob; omega))
      refine ⟨_, h1, h2, k, sp_eq (v106 hw ⟨_, _, s65, rfl, rfl⟩), w1, sp_eq (v190 w1 ⟨_, _, s189, rfl, rfl⟩), Rel_o r (IE_t i1 i2) (fun a _ _ q => o a q) (RLr_of (h := h) (fun a q => o a (by unfold scw; omega)) r.2.2.1)⟩
    · exact bad (Or.inr hy)
  · exact bad (Or.inl hx)
end PT2
