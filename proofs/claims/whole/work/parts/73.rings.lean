/-! The reference's rings. -/
section RG
variable {L : Nat} {xs : Nat → Int32} {h h0 : Hp} {T : Nat → Row} {z k j n r d c : Nat} {E : Nat → Nat} {i : Int32}
def KD (T : Nat → Row) (h0 : Hp) : Prop := ∀ c, c < 144 → gI h0 405 c = T c 0 ∧ (¬ T c 0 = 0 → gI h0 406 c = T c 1)
theorem c128p {x : Row} (hw : HW h) (hc : c < 144) (k0 : gI h 405 c = x 0) (k1 : ¬ x 0 = 0 → gI h 406 c = x 1) : Sp L xs 128 [.ref 397, .int (nI c), .int i] h (some (.int (b2i (ldT x i)))) h := by
  refine sp_eq (v128 hw ⟨c, rfl, hc, ?_⟩)
  rw [k0]
  refine ⟨fun q => ⟨?_, rfl⟩, fun n4 => ⟨fun q => ⟨?_, rfl⟩, fun n0 => ⟨fun q => ⟨?_, rfl⟩, fun n7 => ⟨?_, rfl⟩⟩⟩⟩
  · rw [k1 (by rw [q]; decide), iteb, ldT, if_neg (show ¬ x 0 = 0 by rw [q]; decide), if_neg (show ¬ x 0 = 7 by rw [q]; decide), if_pos q]
  · rw [ldT, if_pos q]; rfl
  · rw [ldT, if_neg n0, if_pos q]; rfl
  · rw [k1 n0, iteb, ldT, if_neg n0, if_neg n7, if_neg n4]
theorem c128k (hw : HW h) (kd : KD T h) (hc : c < 144) : Sp L xs 128 [.ref 397, .int (nI c), .int i] h (some (.int (b2i (ldT (T c) i)))) h := c128p hw hc (kd c hc).1 (kd c hc).2
def enc (e : Nat) : Int32 := if e = 0 then 1000 else nI e
def AE (h0 h : Hp) (E : Nat → Nat) : Prop := IE h0 h ∧ SX h0 h (fun a => a = 443) ∧ ∀ k, k < 144 → gI h 443 k = enc (E k) ∧ E k < 200
theorem enc_0 {e : Nat} (he : e < 200) : enc e = 1000 ↔ e = 0 := by
  unfold enc
  by_cases q : e = 0
  · rw [if_pos q]; exact ⟨fun _ => q, fun _ => rfl⟩
  · rw [if_neg q]
    exact ⟨fun w => absurd (nI_inj (by omega) (by decide) (show nI e = nI 1000 from w)) (by omega), fun w => absurd w q⟩
theorem enc_r {e r : Nat} (he : e < 200) (hr : r < 200) (h1 : 1 ≤ r) : enc e = nI r ↔ e = r := by
  unfold enc
  by_cases q : e = 0
  · rw [if_pos q]
    exact ⟨fun w => absurd (nI_inj (by decide) (by omega) (show nI 1000 = nI r from w)) (by omega), fun w => absurd w (by omega)⟩
  · rw [if_neg q]
    exact ⟨fun w => nI_inj (by omega) (by omega) w, fun w => by rw [w]⟩
/-- after some sides of cell j: what is new -/
def NW (T : Nat → Row) (j d : Nat) (E0 E : Nat → Nat) (b : Int32) : Prop := (∀ k, ¬ E0 k = 0 → E k = E0 k) ∧ (∀ k, k < 144 → ¬ E k = 0 → E0 k = 0 → E k = d ∧ nxC j k ∧ T k 0 = 0) ∧ ((b = 0 ∧ E = E0) ∨ (b = 1 ∧ mkd E0 144 < mkd E 144))
theorem c186l (hw : HW h0) (kd : KD T h0) (hj : j < 144) (hd0 : ¬ d = 0) (hd : d < 200) {E0 : Nat → Nat} (hE0 : ∀ k, k < 144 → ¬ E0 k = 0 → E0 k ≤ d) : ∀ (m s : Nat) (h : Hp) (E : Nat → Nat) (b : Int32) (z5 : Option Value), s + m = 4 → AE h0 h E → NW T j d E0 E b → (∀ s', s' < s → ∀ k, nb j s' = some k → T k 0 = 0 → ¬ E k = 0 ∧ E k ≤ d) → WP L xs 186 5 [some (.ref 397), some (.int (nI j)), some (.int (nI d)), some (.int b), some (.int (nI s)), z5] [] h (fun r h' => ∃ (b : Int32) (E : Nat → Nat), r = some (.int b) ∧ AE h0 h' E ∧ NW T j d E0 E b ∧ ∀ k, nxC j k → T k 0 = 0 → ¬ E k = 0 ∧ E k ≤ d)
  | 0, s, h, E, b, z5, hs, a, w, cl => by
    obtain rfl : s = 4 := by omega
    have ob : x_ok01 b = true := by
      rcases w.2.2 with ⟨q, -⟩ | ⟨q, -⟩ <;> (rw [q]; decide)
    exact v186_5 (IE_w a.1 hw) ⟨fun _ => ⟨ob, b, E, rfl, a, w, fun k ⟨s', hs', hn⟩ t => cl s' hs' k hn t⟩, fun q => absurd (nI_le (Nat.le_refl 4) (by decide)) q⟩
  | m + 1, s, h, E, b, z5, hs, a, w, cl => by
    have hs4 : s < 4 := by omega
    have nn := (nbr_all j hj s hs4).2
    refine v186_5 (IE_w a.1 hw) ⟨fun q => absurd q (nI_ge hs4 (by decide)), fun _ => ?_⟩
    rw [nI_1]
    cases hb : nb j s with
    | none =>
      rw [hb] at nn
      rw [nn]
      refine ⟨fun _ => c186l hw kd hj hd0 hd hE0 m (s + 1) h E b _ (by omega) a w (fun s' hs' k hn t => ?_), fun q => absurd rfl q⟩
      by_cases y : s' = s
      · rw [y, hb] at hn; cases hn
      · exact cl s' (by omega) k hn t
    | some k =>
      rw [hb] at nn
      rw [nn]
      have hk := nb_144 j hj s hs4 k hb
      have ke : gI h 405 k = T k 0 := by rw [a.2.1 405 (by decide)]; exact (kd k hk).1
      obtain ⟨e1, e2⟩ := a.2.2 k hk
      have mx : ∀ k, k < 144 → ¬ E k = 0 → E k ≤ d := fun k hk hz => by
        by_cases q : E0 k = 0
        · rw [(w.2.1 k hk hz q).1]; exact Nat.le_refl d
        · rw [w.1 k q]; exact hE0 k hk q
      refine ⟨fun q => absurd q (nI_m1 (by omega)), fun _ => ⟨k, rfl, hk, fun t0 => ⟨fun u => ?_, fun u => ?_⟩, fun t0 => ?_⟩⟩
      · rw [e1] at u
        have k0 := (enc_0 e2).mp u
        have t : T k 0 = 0 := ke.symm.trans t0
        have dk : upD E k d k = d := if_pos rfl
        have dn : ∀ j, ¬ E j = 0 → upD E k d j = E j := fun j hj => if_neg (fun e => hj (by rw [e]; exact k0))
        have z0 : E0 k = 0 := by
          apply Decidable.byContradiction
          intro y
          exact y ((w.1 k y).symm.trans k0)
        refine c186l hw kd hj hd0 hd hE0 m (s + 1) _ (upD E k d) 1 _ (by omega) ⟨IE_s a.1, fun q hq => (gIo hq).trans (a.2.1 q hq), fun q hq => ?_⟩ ⟨fun q hq => ?_, fun q hq hz y => ?_, Or.inr ⟨rfl, ?_⟩⟩ (fun s' hs' k' hn t' => ?_)
        · rw [gIs, up_a]
          unfold upD
          by_cases y : q = k
          · rw [if_pos y, if_pos y]
            exact ⟨by unfold enc; rw [if_neg hd0], hd⟩
          · rw [if_neg y, if_neg y]; exact a.2.2 q hq
        · have e3 := w.1 q hq
          rw [dn q (by rw [e3]; exact hq)]
          exact e3
        · by_cases e : q = k
          · rw [e, dk]; exact ⟨rfl, ⟨s, hs4, hb⟩, t⟩
          · have e3 : upD E k d q = E q := if_neg e
            rw [e3] at hz ⊢
            exact w.2.1 q hq hz y
        · rw [mkd_up k0 hd0 144 hk]
          rcases w.2.2 with ⟨-, q⟩ | ⟨-, q⟩
          · rw [q]; exact Nat.lt_succ_self _
          · omega
        · by_cases y : s' = s
          · rw [y, hb] at hn
            injection hn with hn
            rw [← hn, dk]
            exact ⟨hd0, Nat.le_refl d⟩
          · have := cl s' (by omega) k' hn t'
            rw [dn k' this.1]
            exact this
      · rw [e1] at u
        have k0 : ¬ E k = 0 := fun q => u ((enc_0 e2).mpr q)
        refine c186l hw kd hj hd0 hd hE0 m (s + 1) h E b _ (by omega) a w (fun s' hs' k' hn t' => ?_)
        by_cases y : s' = s
        · rw [y, hb] at hn
          injection hn with hn
          rw [← hn]
          exact ⟨k0, mx k hk k0⟩
        · exact cl s' (by omega) k' hn t'
      · refine c186l hw kd hj hd0 hd hE0 m (s + 1) h E b _ (by omega) a w (fun s' hs' k' hn t' => ?_)
        by_cases y : s' = s
        · rw [y, hb] at hn
          injection hn with hn
          rw [← hn] at t'
          exact absurd (ke.trans t') t0
        · exact cl s' (by omega) k' hn t'
theorem c186 (hw : HW h0) (kd : KD T h0) (hj : j < 144) (hd0 : ¬ d = 0) (hd : d < 200) (hE : ∀ k, k < 144 → ¬ E k = 0 → E k ≤ d) (a : AE h0 h E) : ∃ (b : Int32) (E' : Nat → Nat) (h' : Hp), Sp L xs 186 [.ref 397, .int (nI j), .int (nI d)] h (some (.int b)) h' ∧ AE h0 h' E' ∧ NW T j d E E' b ∧ ∀ k, nxC j k → T k 0 = 0 → ¬ E' k = 0 ∧ E' k ≤ d := by
  have key := c186l (L := L) (xs := xs) hw kd hj hd0 hd hE 4 0 h E 0 none (by omega) a ⟨fun _ _ => rfl, fun k _ hz y => absurd y hz, Or.inl ⟨rfl, rfl⟩⟩ (fun s' hs' => absurd hs' (Nat.not_lt_zero s'))
  obtain ⟨r, h', s, b, E', rfl, e⟩ := v186 (L := L) (xs := xs) (IE_w a.1 hw) key
  exact ⟨b, E', h', s, e⟩
end RG
