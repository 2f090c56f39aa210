/-! The reference's distances. -/
section RG3
variable {L : Nat} {xs : Nat → Int32} {h h0 : Hp} {T : Nat → Row} {z k n : Nat} {E : Nat → Nat}
theorem c185s (hw : HW h0) (kd : KD T h0) (hz : z < 144) : ∀ (m s : Nat) (h : Hp) (E : Nat → Nat) (z3 z4 : Option Value), s + m = 4 → AE h0 h E → (∀ k, k < 144 → ¬ E k = 0 → E k = 1 ∧ rch T z 1 k) → (∀ s', s' < s → ∀ k, nb z s' = some k → ldT (T z) (nI s') = false → T k 0 = 0 → E k = 1) → WP L xs 185 26 [some (.ref 397), some (.int (nI z)), some (.int (nI s)), z3, z4] [] h (fun r h' => r = none ∧ FAM T h0 h' z)
  | 0, s, h, E, z3, z4, hs, a, e1, cl => by
    obtain rfl : s = 4 := by omega
    refine v185_26 (IE_w a.1 hw) ⟨fun _ => ?_, fun q => absurd (nI_le (Nat.le_refl 4) (by decide)) q⟩
    refine c185m hw kd rfl 145 1 h E 1 _ (by omega) (Nat.le_refl 1) (by omega) a ⟨fun k hk hz => ?_, fun k hk t ha => ?_, fun j k hj hk hz hl => ?_⟩ (fun q => absurd q (by decide)) (Or.inr rfl)
    · obtain ⟨q, w⟩ := e1 k hk hz
      rw [q]; exact ⟨Nat.le_refl 1, w⟩
    · obtain ⟨s', hs', hn, hL⟩ := ha
      rw [cl s' hs' k hn hL t]
      decide
    · omega
  | m + 1, s, h, E, z3, z4, hs, a, e1, cl => by
    have hs4 : s < 4 := by omega
    have nn := (nbr_all z hz s hs4).2
    have hw1 := IE_w a.1 hw
    refine v185_26 hw1 ⟨fun q => absurd q (nI_ge hs4 (by decide)), fun _ => ?_⟩
    rw [nI_1]
    cases hb : nb z s with
    | none =>
      rw [hb] at nn
      rw [nn]
      refine ⟨fun _ => c185s hw kd hz m (s + 1) h E _ _ (by omega) a e1 (fun s' hs' k hn hL t => ?_), fun q => absurd rfl q⟩
      by_cases y : s' = s
      · rw [y, hb] at hn; cases hn
      · exact cl s' (by omega) k hn hL t
    | some k =>
      rw [hb] at nn
      rw [nn]
      have hk := nb_144 z hz s hs4 k hb
      have ke : gI h 405 k = T k 0 := by rw [a.2.1 405 (by decide)]; exact (kd k hk).1
      have kd1 : KD T h := fun c hc => by
        have := kd c hc
        rw [a.2.1 405 (by decide), a.2.1 406 (by decide)]
        exact this
      have s128 := c128k (L := L) (xs := xs) (i := nI s) hw1 kd1 hz
      refine ⟨fun q => absurd q (nI_m1 (by omega)), fun _ => ⟨k, rfl, hk, fun t0 => ⟨_, s128, fun l0 => ?_, fun l0 => ?_⟩, fun t0 => ?_⟩⟩
      · have hl := b2i_0.mp l0
        have t : T k 0 = 0 := ke.symm.trans t0
        refine c185s hw kd hz m (s + 1) _ (upD E k 1) _ _ (by omega) ⟨IE_s a.1, fun q hq => (gIo hq).trans (a.2.1 q hq), fun q hq => ?_⟩ (fun q hq hz => ?_) (fun s' hs' k' hn hL t' => ?_)
        · rw [gIs, up_a]
          unfold upD
          by_cases y : q = k
          · rw [if_pos y, if_pos y]; exact ⟨rfl, by decide⟩
          · rw [if_neg y, if_neg y]; exact a.2.2 q hq
        · by_cases y : q = k
          · have e3 : upD E k 1 q = 1 := if_pos y
            rw [e3, y]
            exact ⟨rfl, hk, t, Or.inl ⟨s, hs4, hb, hl⟩⟩
          · have e3 : upD E k 1 q = E q := if_neg y
            rw [e3] at hz ⊢
            exact e1 q hq hz
        · unfold upD
          by_cases y : k' = k
          · exact if_pos y
          · rw [if_neg y]
            refine cl s' ?_ k' hn hL t'
            apply Decidable.byContradiction
            intro w
            have : s' = s := by omega
            rw [this, hb] at hn
            injection hn with hn
            exact y hn.symm
      · have hl : ldT (T z) (nI s) = true := b2i_n.mp l0
        refine c185s hw kd hz m (s + 1) h E _ _ (by omega) a e1 (fun s' hs' k' hn hL t' => ?_)
        by_cases y : s' = s
        · rw [y, hl] at hL; cases hL
        · exact cl s' (by omega) k' hn hL t'
      · refine c185s hw kd hz m (s + 1) h E _ _ (by omega) a e1 (fun s' hs' k' hn hL t' => ?_)
        by_cases y : s' = s
        · rw [y, hb] at hn
          injection hn with hn
          rw [← hn] at t'
          exact absurd (ke.trans t') t0
        · exact cl s' (by omega) k' hn hL t'
theorem c185i (hw : HW h0) (kd : KD T h0) (hz : z < 144) {z3 z4 : Option Value} : ∀ (m n : Nat) (h : Hp), n + m = 144 → IE h0 h → SX h0 h (fun a => a = 443) → (∀ k, k < n → gI h 443 k = 1000) → WP L xs 185 2 [some (.ref 397), some (.int (nI z)), some (.int (nI n)), z3, z4] [] h (fun r h' => r = none ∧ FAM T h0 h' z)
  | 0, n, h, hn, a, s, e => by
    obtain rfl : n = 144 := by omega
    refine v185_2 (IE_w a hw) ⟨fun _ => ?_, fun q => absurd (nI_le (Nat.le_refl 144) (by decide)) q⟩
    exact c185s hw kd hz 4 0 h (fun _ => 0) _ _ (by omega) ⟨a, s, fun k hk => ⟨e k hk, (by decide : (0 : Nat) < 200)⟩⟩ (fun k _ hz => absurd rfl hz) (fun s' hs' => absurd hs' (Nat.not_lt_zero s'))
  | m + 1, n, h, hn, a, s, e => by
    have hn4 : n < 144 := by omega
    refine v185_2 (IE_w a hw) ⟨fun q => absurd q (nI_ge hn4 (by decide)), fun _ => ⟨n, rfl, hn4, ?_⟩⟩
    rw [nI_1]
    refine c185i hw kd hz m (n + 1) _ (by omega) (IE_s a) (fun q hq => (gIo hq).trans (s q hq)) (fun k hk => ?_)
    rw [gIs, up_a]
    by_cases y : k = n
    · rw [if_pos y]
    · rw [if_neg y]; exact e k (by omega)
theorem c185 (hw : HW h0) (kd : KD T h0) (hz : z < 144) : ∃ h', Sp L xs 185 [.ref 397, .int (nI z)] h0 none h' ∧ FAM T h0 h' z := by
  obtain ⟨r, h', s, rfl, e⟩ := v185 (L := L) (xs := xs) (x := nI z) hw (c185i (L := L) (xs := xs) hw kd hz 144 0 h0 (by omega) (IE_r h0) (fun _ _ => rfl) (fun k hk => absurd hk (Nat.not_lt_zero k)))
  exact ⟨h', s, e⟩
end RG3
