/-! The class's search for ways. -/
section RT
variable {L : Nat} {xs : Nat → Int32} {h h0 : Hp} {z k j n i d : Nat} {D q : Nat → Nat}
def flT (h0 : Hp) : Nat → Row := fun c => gI h0 (10 + c)
def rob (a : Nat) : Prop := a = 390 ∨ a = 391 ∨ a = 392
def AB (h0 h : Hp) (D q : Nat → Nat) (n : Nat) : Prop := IE h0 h ∧ SX h0 h rob ∧ (∀ k, k < 144 → gI h 391 k = nI (D k)) ∧ (∀ p, p < n → gI h 392 p = nI (q p)) ∧ gI h 390 2 = nI n
/-- all that is marked is at most d -/
def mxD (D q : Nat → Nat) (n d : Nat) : Prop := ∀ p, p < n → D (q p) ≤ d
theorem AB_fl (a : AB h0 h D q n) {c : Nat} (hc : c < 144) : gI h (10 + c) = flT h0 c := a.2.1 _ (by unfold rob; omega)
theorem QI_n (I : QI (flT h0) z D q n i) : n ≤ 144 := by
  have := mkd_le D 144
  have := I.2.2.2.2.2.1
  omega
theorem QI_d (I : QI (flT h0) z D q n i) {k : Nat} (hk : k < 144) (hz : ¬ D k = 0) : D k ≤ n ∧ ∀ d, mxD D q n d → D k ≤ d := by
  obtain ⟨-, p, hp, e⟩ := I.2.1 k hk hz
  have := I.1 p hp
  rw [e] at this
  refine ⟨by omega, fun d m => ?_⟩
  have := m p hp
  rw [e] at this
  exact this
/-- one cell looked at -/
theorem c71 (hw : HW h0) (a : AB h0 h D q n) (I : QI (flT h0) z D q n i) (hk : k < 144) (hd : ¬ d = 0) (hn : d ≤ n + 1) (hr : flT h0 k 0 = 0 → rch (flT h0) z d k) (hm : mxD D q n d) (hh : i < n → d ≤ D (q i) + 1) : ∃ h' D' q' n', Sp L xs 71 [.ref 390, .ref 4, .int (nI k), .int (nI d)] h none h' ∧ AB h0 h' D' q' n' ∧ QI (flT h0) z D' q' n' i ∧ mxD D' q' n' d ∧ (∀ j, ¬ D j = 0 → D' j = D j) ∧ n ≤ n' ∧ (∀ p, p < n → q' p = q p) ∧ (flT h0 k 0 = 0 → ¬ D' k = 0 ∧ D' k ≤ d) := by
  have hw1 := IE_w a.1 hw
  have n144 := QI_n I
  have dk := a.2.2.1 k hk
  have fk : gI h (10 + k) 0 = flT h0 k 0 := by rw [AB_fl a hk]
  by_cases z0 : D k = 0
  · by_cases t0 : flT h0 k 0 = 0
    · have nl : n < 144 := by
        have := mkd_lt z0 144 hk
        have := I.2.2.2.2.2.1
        omega
      have cl : gI h 390 2 < 144 := by
        rw [a.2.2.2.2]
        exact (nI_ltI (by omega) (by decide)).mpr nl
      refine ⟨_, upD D k d, upD q n k, n + 1, sp_eq (v71 hw1 ⟨fun w => absurd w (nI_m1 (by omega)), fun _ => ⟨k, rfl, hk, fun _ => ⟨fun _ => ⟨fun _ => ⟨n, a.2.2.2.2, nl, rfl, rfl⟩, fun w => absurd cl w⟩, fun w => absurd (fk.trans t0) w⟩, fun w => absurd (by rw [dk, z0]; rfl) w⟩⟩), ⟨IE_s (IE_s (IE_s a.1)), fun b hb => ?_, fun b hb => ?_, fun p hp => ?_, ?_⟩, QI_push I hk z0 hd hn (hr t0) hm hh, fun p hp => ?_, fun b hb => if_neg (fun e => hb (by rw [e]; exact z0)), Nat.le_succ n, fun p hp => if_neg (by omega), fun _ => ?_⟩
      · unfold rob at hb
        rw [gIo (by omega), gIo (by omega), gIo (by omega)]
        exact a.2.1 b (by unfold rob; omega)
      · rw [gIo (by decide), gIo (by decide), gIs, up_a]
        unfold upD
        by_cases e : b = k
        · rw [if_pos e, if_pos e]
        · rw [if_neg e, if_neg e]; exact a.2.2.1 b hb
      · rw [gIo (by decide), gIs, up_a]
        unfold upD
        by_cases e : p = n
        · rw [if_pos e, if_pos e]
        · rw [if_neg e, if_neg e, gIo (by decide)]; exact a.2.2.2.1 p (by omega)
      · rw [gIs, up_s, a.2.2.2.2, nI_1]
      · unfold upD
        by_cases e : p = n
        · rw [if_pos e, if_pos rfl]; exact Nat.le_refl d
        · rw [if_neg e, if_neg (fun w => (I.1 p (by omega)).2.1 (by rw [w]; exact z0))]
          exact hm p (by omega)
      · have : upD D k d k = d := if_pos rfl
        rw [this]
        exact ⟨hd, Nat.le_refl d⟩
    · refine ⟨h, D, q, n, sp_eq (v71 hw1 ⟨fun w => absurd w (nI_m1 (by omega)), fun _ => ⟨k, rfl, hk, fun _ => ⟨fun w => absurd (fk.symm.trans w) t0, fun _ => ⟨rfl, rfl⟩⟩, fun _ => ⟨rfl, rfl⟩⟩⟩), a, I, hm, fun _ _ => rfl, Nat.le_refl n, fun _ _ => rfl, fun w => absurd w t0⟩
  · have dz : ¬ gI h 391 k = 0 := by
      rw [dk]
      have := (QI_d I hk z0).1
      exact nI_ne0 (by omega) (by omega)
    exact ⟨h, D, q, n, sp_eq (v71 hw1 ⟨fun w => absurd w (nI_m1 (by omega)), fun _ => ⟨k, rfl, hk, fun w => absurd w dz, fun _ => ⟨rfl, rfl⟩⟩⟩), a, I, hm, fun _ _ => rfl, Nat.le_refl n, fun _ _ => rfl, fun _ => ⟨z0, (QI_d I hk z0).2 d hm⟩⟩
theorem c71n (hw : HW h) {y : Int32} : Sp L xs 71 [.ref 390, .ref 4, .int (-1), .int y] h none h := sp_eq (v71 hw ⟨fun _ => ⟨rfl, rfl⟩, fun w => absurd rfl w⟩)
theorem nb_144 : ∀ c, c < 144 → ∀ s, s < 4 → ∀ k, nb c s = some k → k < 144 := by
  have : ∀ c, c < 144 → ∀ s, s < 4 → (match nb c s with | none => true | some k => decide (k < 144)) = true := by decide +kernel
  intro c hc s hs k e
  have := this c hc s hs
  rw [e] at this
  exact of_decide_eq_true this
/-- one cell done: its four sides -/
theorem c70r (hw : HW h0) {z2 : Option Value} (hz2 : x_wide (some z2) = false) {Q : Option Value → Hp → Prop} {E : (Nat → Nat) → Prop} (hE : ∀ D D' : Nat → Nat, (∀ j, ¬ D j = 0 → D' j = D j) → E D → E D') (hj : j < 144) (K : ∀ (h : Hp) (D q : Nat → Nat) (n : Nat), AB h0 h D q n → QI (flT h0) z D q n (i + 1) → E D → WP L xs 70 52 [some (.ref 390), some (.ref 4), z2, some (.int (nI (i + 1))), some (.int (nI j)), some (.int (nI 4))] [] h Q) : ∀ (m s : Nat) (h : Hp) (D q : Nat → Nat) (n : Nat), s + m = 4 → AB h0 h D q n → QI (flT h0) z D q n i → i < n → q i = j → (∀ s', s' < s → ∀ k, nb j s' = some k → flT h0 k 0 = 0 → ¬ D k = 0 ∧ D k ≤ D j + 1) → mxD D q n (D j + 1) → E D → WP L xs 70 71 [some (.ref 390), some (.ref 4), z2, some (.int (nI i)), some (.int (nI j)), some (.int (nI s))] [] h Q
  | 0, s, h, D, q, n, hs, a, I, hi, e, cl, mx, ee => by
    obtain rfl : s = 4 := by omega
    have n144 := QI_n I
    refine v70_71 (IE_w a.1 hw) hz2 ⟨fun _ => ?_, fun w => absurd (nI_le (Nat.le_refl 4) (by decide)) w⟩
    rw [nI_1]
    refine K h D q n a ?_ ee
    obtain ⟨i1, i2, i3, i4, i5, i6, i7⟩ := I
    refine ⟨i1, i2, i3, fun p h1 h2 => ?_, fun p hp k hx hk hT => ?_, i6, hi⟩
    · have b1 := i4 p (by omega) h2
      have b2 := i3 i (i + 1) (by omega) (by omega)
      omega
    · by_cases w : p = i
      · rw [w, e] at hx ⊢
        obtain ⟨s', hs', hn⟩ := hx
        exact cl s' hs' k hn hT
      · exact i5 p (by omega) k hx hk hT
  | m + 1, s, h, D, q, n, hs, a, I, hi, e, cl, mx, ee => by
    have n144 := QI_n I
    have hs4 : s < 4 := by omega
    have dj := I.1 i hi
    rw [e] at dj
    have nn := (nbr_all j hj s hs4).1
    refine v70_71 (IE_w a.1 hw) hz2 ⟨fun w => absurd w (nI_ge hs4 (by decide)), fun _ => ⟨j, rfl, hj, ?_⟩⟩
    rw [a.2.2.1 j hj, nI_1, nI_1]
    cases hb : nb j s with
    | none =>
      rw [hb] at nn
      rw [nn]
      refine ⟨h, c71n (IE_w a.1 hw), c70r hw hz2 hE hj K m (s + 1) h D q n (by omega) a I hi e (fun s' hs' k hn hT => ?_) mx ee⟩
      by_cases w : s' = s
      · rw [w, hb] at hn; cases hn
      · exact cl s' (by omega) k hn hT
    | some k =>
      rw [hb] at nn
      rw [nn]
      have hk := nb_144 j hj s hs4 k hb
      obtain ⟨h', D', q', n', s1, a', I', mx', o1, o2, o3, o4⟩ := c71 (L := L) (xs := xs) (d := D j + 1) hw a I hk (by omega) (by omega) (fun t0 => ⟨hk, t0, Or.inr ⟨j, (I.2.1 j hj dj.2.1).1, s, hs4, hb⟩⟩) mx (fun _ => by rw [e]; exact Nat.le_refl _)
      have ej : D' j = D j := o1 j dj.2.1
      refine ⟨h', s1, c70r hw hz2 hE hj K m (s + 1) h' D' q' n' (by omega) a' I' (by omega) ((o3 i hi).trans e) (fun s' hs' k' hn hT => ?_) (by rw [ej]; exact mx') (hE D D' o1 ee)⟩
      rw [ej]
      by_cases w : s' = s
      · rw [w, hb] at hn
        injection hn with hn
        rw [← hn] at hT ⊢
        exact o4 hT
      · have := cl s' (by omega) k' hn hT
        rw [o1 k' this.1]
        exact this
/-- the target's own cells are marked -/
def clT (h0 : Hp) (z : Nat) (D : Nat → Nat) : Prop := ∀ k, k < 144 → atT (flT h0) z k → flT h0 k 0 = 0 → ¬ D k = 0 ∧ D k ≤ 1
theorem clT_m {D D' : Nat → Nat} (o : ∀ j, ¬ D j = 0 → D' j = D j) (e : clT h0 z D) : clT h0 z D' := fun k hk a t => by
  have := e k hk a t
  rw [o k this.1]
  exact this
/-- what the search leaves -/
def FAR (h0 h : Hp) (z : Nat) : Prop := IE h0 h ∧ SX h0 h rob ∧ ∃ D : Nat → Nat, ∀ k, k < 144 → gI h 391 k = nI (D k) ∧ D k ≤ 144 ∧ ((D k = 0 ∧ ∀ m, ¬ rch (flT h0) z m k) ∨ (¬ D k = 0 ∧ DS (flT h0) z k (D k)))
theorem FAR_of (a : AB h0 h D q n) (I : QI (flT h0) z D q n n) (e : clT h0 z D) : FAR h0 h z := by
  have n144 := QI_n I
  refine ⟨a.1, a.2.1, D, fun k hk => ⟨a.2.2.1 k hk, ?_, DS_of (fun k hk hz => (I.2.1 k hk hz).1) (fun k hk t ha => e k hk ha t) (fun j k hj hk hz hx ht => ?_) hk⟩⟩
  · by_cases z0 : D k = 0
    · omega
    · have := (QI_d I hk z0).1; omega
  · obtain ⟨-, p, hp, ep⟩ := I.2.1 j hj hz
    have := I.2.2.2.2.1 p hp k (by rw [ep]; exact hx) hk ht
    rw [ep] at this
    exact this
theorem c70m (hw : HW h0) {z2 : Option Value} (hz2 : x_wide (some z2) = false) : ∀ (m i : Nat) (h : Hp) (D q : Nat → Nat) (n : Nat) (z4 z5 : Option Value), i + m = 144 → AB h0 h D q n → QI (flT h0) z D q n i → clT h0 z D → WP L xs 70 52 [some (.ref 390), some (.ref 4), z2, some (.int (nI i)), z4, z5] [] h (fun r h' => r = none ∧ FAR h0 h' z)
  | 0, i, h, D, q, n, z4, z5, hi, a, I, e => by
    have n144 := QI_n I
    have i7 := I.2.2.2.2.2.2
    obtain rfl : i = n := by omega
    refine v70_52 (IE_w a.1 hw) ?_
    rw [a.2.2.2.2]
    exact ⟨fun _ => ⟨rfl, FAR_of a I e⟩, fun w => absurd (nI_le (Nat.le_refl _) (by omega)) w⟩
  | m + 1, i, h, D, q, n, z4, z5, hi, a, I, e => by
    have n144 := QI_n I
    have i7 := I.2.2.2.2.2.2
    refine v70_52 (IE_w a.1 hw) ?_
    rw [a.2.2.2.2]
    refine ⟨fun w => ?_, fun w => ?_⟩
    · have : n ≤ i := (nI_leI (by omega) (by omega)).mp w
      obtain rfl : i = n := by omega
      exact ⟨rfl, FAR_of a I e⟩
    · have hn : i < n := by
        apply Decidable.byContradiction
        intro y
        exact w (nI_le (by omega) (by omega))
      have iq := I.1 i hn
      refine ⟨i, rfl, by omega, ?_⟩
      rw [a.2.2.2.1 i hn]
      refine c70r (E := clT h0 z) hw hz2 (fun D D' o e => clT_m o e) iq.1 (fun h D q n a' I' e' => c70m hw hz2 m (i + 1) h D q n _ _ (by omega) a' I' e') 4 0 h D q n (by omega) a I hn rfl (fun s' hs' => absurd hs' (Nat.not_lt_zero s')) (fun p hp => ?_) e
      by_cases y : p < i
      · have := I.2.2.1 p i (by omega) hn; omega
      · exact I.2.2.2.1 p (by omega) hp
theorem c70l (hw : HW h0) (hz : z < 144) {z4 z5 : Option Value} : ∀ (m s : Nat) (h : Hp) (D q : Nat → Nat) (n : Nat), s + m = 4 → AB h0 h D q n → QI (flT h0) z D q n 0 → mxD D q n 1 → (∀ s', s' < s → ∀ k, nb z s' = some k → ldT (flT h0 z) (nI s') = false → flT h0 k 0 = 0 → ¬ D k = 0 ∧ D k ≤ 1) → WP L xs 70 15 [some (.ref 390), some (.ref 4), some (.int (nI z)), some (.int (nI s)), z4, z5] [] h (fun r h' => r = none ∧ FAR h0 h' z)
  | 0, s, h, D, q, n, hs, a, I, mx, cl => by
    obtain rfl : s = 4 := by omega
    refine v70_15 (IE_w a.1 hw) ⟨fun _ => ?_, fun w => absurd (nI_le (Nat.le_refl 4) (by decide)) w⟩
    refine c70m hw rfl 144 0 h D q n _ _ (by omega) a I (fun k hk ha ht => ?_)
    obtain ⟨s', hs', hn, hl⟩ := ha
    exact cl s' hs' k hn hl ht
  | m + 1, s, h, D, q, n, hs, a, I, mx, cl => by
    have hs4 : s < 4 := by omega
    have nn := (nbr_all z hz s hs4).1
    have s29 := c29 (L := L) (xs := xs) (s := nI s) (IE_w a.1 hw) (PT_4 hz)
    rw [AB_fl a hz] at s29
    refine v70_15 (IE_w a.1 hw) ⟨fun w => absurd w (nI_ge hs4 (by decide)), fun _ => ⟨z, rfl, hz, _, s29, fun l0 => ?_, fun l0 => ?_⟩⟩
    · have hl := b2i_0.mp l0
      rw [nI_1]
      cases hb : nb z s with
      | none =>
        rw [hb] at nn
        rw [nn]
        refine ⟨h, c71n (IE_w a.1 hw), c70l hw hz m (s + 1) h D q n (by omega) a I mx (fun s' hs' k hn hL hT => ?_)⟩
        by_cases w : s' = s
        · rw [w, hb] at hn; cases hn
        · exact cl s' (by omega) k hn hL hT
      | some k =>
        rw [hb] at nn
        rw [nn]
        have hk := nb_144 z hz s hs4 k hb
        obtain ⟨h', D', q', n', s1, a', I', mx', o1, o2, o3, o4⟩ := c71 (L := L) (xs := xs) (d := 1) hw a I hk (by decide) (by omega) (fun t0 => ⟨hk, t0, Or.inl ⟨s, hs4, hb, hl⟩⟩) mx (fun _ => by omega)
        refine ⟨h', s1, c70l hw hz m (s + 1) h' D' q' n' (by omega) a' I' mx' (fun s' hs' k' hn hL hT => ?_)⟩
        by_cases w : s' = s
        · rw [w, hb] at hn
          injection hn with hn
          rw [← hn] at hT ⊢
          exact o4 hT
        · have := cl s' (by omega) k' hn hL hT
          rw [o1 k' this.1]
          exact this
    · have hl : ldT (flT h0 z) (nI s) = true := b2i_n.mp l0
      rw [nI_1]
      refine c70l hw hz m (s + 1) h D q n (by omega) a I mx (fun s' hs' k hn hL hT => ?_)
      by_cases w : s' = s
      · rw [w, hl] at hL; cases hL
      · exact cl s' (by omega) k hn hL hT
theorem c199l {a n : Nat} {v : Int32} (h0 : Hp) (hw0 : HW h0) (ha : a < 444) (hsa : SH a = (20, n)) (hna : n < 100000) : ∀ (m i : Nat) (h : Hp), i + m = n → IE h0 h → SX h0 h (fun q => q = a) → (∀ j, j < i → gI h a j = v) → WP L xs 199 5 [some (.ref a), some (.int v), some (.int (nI i)), some (.int (nI n))] [] h (fun r h' => r = none ∧ IE h0 h' ∧ SX h0 h' (fun q => q = a) ∧ ∀ j, j < n → gI h' a j = v)
  | 0, i, h, hi, e, s, z => by
    obtain rfl : i = n := by omega
    exact v199_5 (IE_w e hw0) ha hsa hna ⟨fun _ => ⟨rfl, e, s, z⟩, fun q => absurd (nI_le (Nat.le_refl _) (by omega)) q⟩
  | m + 1, i, h, hi, e, s, z => by
    refine v199_5 (IE_w e hw0) ha hsa hna ⟨fun q => absurd q (nI_ge (show i < n by omega) (by omega)), fun _ => ⟨i, rfl, by omega, ?_⟩⟩
    rw [nI_1]
    refine c199l h0 hw0 ha hsa hna m (i + 1) _ (by omega) (IE_s e) (fun q hq => (gIo hq).trans (s q hq)) (fun j hj => ?_)
    rw [gIs, up_a]
    by_cases q : j = i
    · rw [if_pos q]
    · rw [if_neg q]; exact z j (by omega)
theorem c199 {a n : Nat} {v : Int32} (hw : HW h) (ha : a < 444) (hsa : SH a = (20, n)) (hna : n < 100000) : ∃ h', Sp L xs 199 [.ref a, .int v] h none h' ∧ IE h h' ∧ SX h h' (fun q => q = a) ∧ ∀ j, j < n → gI h' a j = v := by
  obtain ⟨r, h', s, rfl, e⟩ := v199 (L := L) (xs := xs) hw ha hsa hna (c199l (L := L) (xs := xs) (v := v) h hw ha hsa hna n 0 h (by omega) (IE_r h) (fun _ _ => rfl) (fun j hj => absurd hj (Nat.not_lt_zero j)))
  exact ⟨h', s, e⟩
theorem mkd_0 : ∀ n, mkd (fun _ => 0) n = 0
  | 0 => rfl
  | n + 1 => by rw [mkd_s, if_pos rfl]; exact mkd_0 n
theorem c70 (hw : HW h0) (hz : z < 144) : ∃ h', Sp L xs 70 [.ref 390, .ref 4, .int (nI z)] h0 none h' ∧ FAR h0 h' z := by
  obtain ⟨h1, s1, i1, x1, z1⟩ := c199 (L := L) (xs := xs) (h := h0) (a := 391) (n := 144) (v := 0) hw (by decide) (by decide) (by decide)
  have key := c70l (L := L) (xs := xs) hw hz (z4 := none) (z5 := none) 4 0 (sI h1 390 2 0) (fun _ => 0) (fun _ => 0) 0 (by omega) ⟨IE_s i1, fun b hb => by unfold rob at hb; rw [gIo (by omega)]; exact x1 b (by omega), fun k hk => by rw [gIo (by decide)]; exact z1 k hk, fun p hp => absurd hp (Nat.not_lt_zero p), by rw [gIs, up_s]; rfl⟩ ⟨fun p hp => absurd hp (Nat.not_lt_zero p), fun k hk hz => absurd rfl hz, fun p p' _ hp => absurd hp (Nat.not_lt_zero p'), fun p _ hp => absurd hp (Nat.not_lt_zero p), fun p hp => absurd hp (Nat.not_lt_zero p), (mkd_0 144).symm, Nat.le_refl 0⟩ (fun p hp => absurd hp (Nat.not_lt_zero p)) (fun s' hs' => absurd hs' (Nat.not_lt_zero s'))
  obtain ⟨r, h', s, rfl, e⟩ := v70 (L := L) (xs := xs) (y := nI z) hw ⟨h1, s1, key⟩
  exact ⟨h', s, e⟩
end RT
