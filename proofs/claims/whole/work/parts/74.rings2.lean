/-! The reference's rounds. -/
section RG2
variable {L : Nat} {xs : Nat → Int32} {h h0 : Hp} {T : Nat → Row} {z k j n r d c : Nat} {E : Nat → Nat} {i : Int32}
/-- before round r -/
def RI (T : Nat → Row) (z r : Nat) (E : Nat → Nat) : Prop := (∀ k, k < 144 → ¬ E k = 0 → E k ≤ r ∧ rch T z (E k) k) ∧ (∀ k, k < 144 → T k 0 = 0 → atT T z k → ¬ E k = 0 ∧ E k ≤ 1) ∧ ∀ j k, j < 144 → k < 144 → ¬ E j = 0 → E j < r → nxC j k → T k 0 = 0 → ¬ E k = 0 ∧ E k ≤ E j + 1
/-- in round r, n cells looked at -/
def RM (T : Nat → Row) (z r n : Nat) (Er E : Nat → Nat) (fl : Int32) : Prop := (∀ k, ¬ Er k = 0 → E k = Er k) ∧ (∀ k, k < 144 → ¬ E k = 0 → Er k = 0 → E k = r + 1 ∧ rch T z (r + 1) k) ∧ (∀ c, c < n → Er c = r → ∀ k, nxC c k → T k 0 = 0 → ¬ E k = 0 ∧ E k ≤ r + 1) ∧ ((fl = 0 ∧ E = Er) ∨ (fl = 1 ∧ mkd Er 144 < mkd E 144))
theorem RM_RI {Er : Nat → Nat} {fl : Int32} (I : RI T z r Er) (m : RM T z r 144 Er E fl) : RI T z (r + 1) E := by
  obtain ⟨i1, i2, i3⟩ := I
  obtain ⟨m1, m2, m3, -⟩ := m
  refine ⟨fun k hk hz => ?_, fun k hk t a => ?_, fun j k hj hk hz hl hx t => ?_⟩
  · by_cases q : Er k = 0
    · obtain ⟨e, w⟩ := m2 k hk hz q
      rw [e]; exact ⟨Nat.le_refl _, w⟩
    · rw [m1 k q]
      have := i1 k hk q
      exact ⟨by omega, this.2⟩
  · have := i2 k hk t a
    rw [m1 k this.1]; exact this
  · by_cases q : Er j = 0
    · have := (m2 j hj hz q).1
      omega
    · have e := m1 j q
      rw [e] at hl ⊢
      by_cases y : Er j = r
      · rw [y]
        exact m3 j hj y k hx t
      · have := i3 j k hj hk q (by omega) hx t
        rw [m1 k this.1]
        exact this
theorem c185r (hw : HW h0) (kd : KD T h0) (h1 : 1 ≤ r) (hr : r < 150) {Er : Nat → Nat} (I : RI T z r Er) {z1 : Option Value} (hz1 : x_wide (some z1) = false) {Q : Option Value → Hp → Prop} (K : ∀ (h : Hp) (E : Nat → Nat) (fl : Int32) (z4 : Option Value), AE h0 h E → RM T z r 144 Er E fl → WP L xs 185 77 [some (.ref 397), z1, some (.int fl), some (.int (nI (r + 1))), z4] [] h Q) : ∀ (m n : Nat) (h : Hp) (E : Nat → Nat) (fl : Int32), n + m = 144 → AE h0 h E → RM T z r n Er E fl → WP L xs 185 86 [some (.ref 397), z1, some (.int fl), some (.int (nI r)), some (.int (nI n))] [] h Q
  | 0, n, h, E, fl, hn, a, M => by
    obtain rfl : n = 144 := by omega
    refine v185_86 (IE_w a.1 hw) hz1 ⟨fun _ => ?_, fun q => absurd (nI_le (Nat.le_refl 144) (by decide)) q⟩
    rw [nI_1]
    exact K h E fl _ a M
  | m + 1, n, h, E, fl, hn, a, M => by
    have hn4 : n < 144 := by omega
    obtain ⟨e1, e2⟩ := a.2.2 n hn4
    obtain ⟨m1, m2, m3, m4⟩ := M
    refine v185_86 (IE_w a.1 hw) hz1 ⟨fun q => absurd q (nI_ge hn4 (by decide)), fun _ => ⟨n, rfl, hn4, fun u => ?_, fun u => ?_⟩⟩
    · rw [e1] at u
      have er := (enc_r e2 (by omega) h1).mp u
      have ern : Er n = r := by
        apply Decidable.byContradiction
        intro y
        by_cases q : Er n = 0
        · have := (m2 n hn4 (by omega) q).1; omega
        · have := m1 n q; omega
      have mx : ∀ k, k < 144 → ¬ E k = 0 → E k ≤ r + 1 := fun k hk hz => by
        by_cases q : Er k = 0
        · rw [(m2 k hk hz q).1]; exact Nat.le_refl _
        · rw [m1 k q]; have := (I.1 k hk q).1; omega
      obtain ⟨b, E', h', s1, a', w, cl⟩ := c186 (L := L) (xs := xs) (d := r + 1) hw kd hn4 (by omega) (by omega) mx a
      refine ⟨b, h', by rw [nI_1]; exact s1, ?_⟩
      rw [nI_1]
      refine c185r hw kd h1 hr I hz1 K m (n + 1) h' E' _ (by omega) a' ⟨fun k hk => ?_, fun k hk hz q => ?_, fun c hc ec k hx t => ?_, ?_⟩
      · have := m1 k hk
        rw [w.1 k (by rw [this]; exact hk)]; exact this
      · by_cases y : E k = 0
        · obtain ⟨e, x, t⟩ := w.2.1 k hk hz y
          rw [e]
          exact ⟨rfl, hk, t, Or.inr ⟨n, by have := (I.1 n hn4 (by omega)).2; rw [ern] at this; exact this, x⟩⟩
        · rw [w.1 k y]; exact m2 k hk y q
      · by_cases y : c = n
        · rw [y] at hx
          exact cl k hx t
        · have := m3 c (by omega) ec k hx t
          rw [w.1 k this.1]; exact this
      · rcases w.2.2 with ⟨q, eq⟩ | ⟨q, lt⟩
        · rw [q, if_pos rfl, eq]
          rcases m4 with ⟨f, ef⟩ | ⟨f, lf⟩
          · left; rw [f]; exact ⟨by decide, ef⟩
          · right; rw [f]; exact ⟨by decide, lf⟩
        · right
          rw [q]
          refine ⟨by rw [if_neg (show ¬ (1 : Int32) = 0 by decide)]; rfl, ?_⟩
          rcases m4 with ⟨-, ef⟩ | ⟨-, lf⟩
          · rw [← ef]; exact lt
          · omega
    · rw [e1] at u
      rw [nI_1]
      refine c185r hw kd h1 hr I hz1 K m (n + 1) h E fl (by omega) a ⟨m1, m2, fun c hc ec k hx t => ?_, m4⟩
      by_cases y : c = n
      · exfalso
        rw [y] at ec
        have e3 := m1 n (by omega)
        exact u ((enc_r e2 (by omega) h1).mpr (by omega))
      · exact m3 c (by omega) ec k hx t
/-- what the rounds leave -/
def FAM (T : Nat → Row) (h0 h : Hp) (z : Nat) : Prop := IE h0 h ∧ SX h0 h (fun a => a = 443) ∧ ∃ D : Nat → Nat, ∀ k, k < 144 → gI h 443 k = enc (D k) ∧ D k < 200 ∧ ((D k = 0 ∧ ∀ m, ¬ rch T z m k) ∨ (¬ D k = 0 ∧ DS T z k (D k)))
theorem c185m (hw : HW h0) (kd : KD T h0) {z1 : Option Value} (hz1 : x_wide (some z1) = false) : ∀ (m r : Nat) (h : Hp) (E : Nat → Nat) (fl : Int32) (z4 : Option Value), r + m = 146 → 1 ≤ r → r ≤ mkd E 144 + 1 → AE h0 h E → RI T z r E → (fl = 0 → ∀ k, k < 144 → ¬ E k = 0 → E k < r) → (fl = 0 ∨ fl = 1) → WP L xs 185 77 [some (.ref 397), z1, some (.int fl), some (.int (nI r)), z4] [] h (fun r h' => r = none ∧ FAM T h0 h' z)
  | 0, r, h, E, fl, z4, hr, h1, hm, a, I, f0, fv => by
    have := mkd_le E 144
    omega
  | m + 1, r, h, E, fl, z4, hr, h1, hm, a, I, f0, fv => by
    refine v185_77 (IE_w a.1 hw) hz1 ⟨fun q => ⟨rfl, a.1, a.2.1, E, fun k hk => ⟨(a.2.2 k hk).1, (a.2.2 k hk).2, ?_⟩⟩, fun q => ?_⟩
    · exact DS_of (fun k hk hz => (I.1 k hk hz).2) I.2.1 (fun j k hj hk hz hx t => I.2.2 j k hj hk hz (f0 q j hj hz) hx t) hk
    · refine c185r hw kd h1 (by omega) I hz1 (fun h' E' fl' z4' a' M => ?_) 144 0 h E 0 (by omega) a ⟨fun _ _ => rfl, fun k _ hz y => absurd y hz, fun c hc => absurd hc (Nat.not_lt_zero c), Or.inl ⟨rfl, rfl⟩⟩
      have I' := RM_RI I M
      rcases M.2.2.2 with ⟨f, ef⟩ | ⟨f, lf⟩
      · -- nothing new: the next test ends it
        refine v185_77 (IE_w a'.1 hw) hz1 ⟨fun _ => ⟨rfl, a'.1, a'.2.1, E', fun k hk => ⟨(a'.2.2 k hk).1, (a'.2.2 k hk).2, ?_⟩⟩, fun w => absurd f w⟩
        exact DS_of (fun k hk hz => (I'.1 k hk hz).2) I'.2.1 (fun j k hj hk hz hx t => I'.2.2 j k hj hk hz (by rw [ef] at hz ⊢; have := (I.1 j hj hz).1; omega) hx t) hk
      · exact c185m hw kd hz1 m (r + 1) h' E' fl' z4' (by omega) (by omega) (by omega) a' I' (fun w => absurd (f.symm.trans w) (by decide)) (Or.inr f)
end RG2
