/-! The reference lays the way; the call lay. -/
section LY
variable {L : Nat} {xs : Nat → Int32} {h h0 h1 : Hp} {z a s n k c m t : Nat} {T : Nat → Row} {D : Nat → Nat} {Q : Option Value → Hp → Prop} {y : Int32}
theorem enc_eq {d : Nat} (hd : d < 200) (hn : n < 200) (n0 : ¬ n = 0) : enc d = nI n ↔ d = n := enc_r hd hn (by omega)
/-- one side looked at: the first step -/
theorem c191a (hw : HW h) (kd : KD T h) (dr : DRef T z h) (ha : a < 144) (n0 : ¬ n = 0) (hn : n < 200) (F : FSP T (DF T z) a n s k) (ht : t ≤ s) (next : ¬ t = s → ∀ z6 z7, WP L xs 191 3 [some (.ref 397), some (.int (nI a)), some (.int y), some (.int (nI n)), some (.int (b2i true)), some (.int (nI (t + 1))), z6, z7] [] h Q) (done : Q (some (.int (nI s))) h) : ∀ z6 z7, WP L xs 191 3 [some (.ref 397), some (.int (nI a)), some (.int y), some (.int (nI n)), some (.int (b2i true)), some (.int (nI t)), z6, z7] [] h Q := by
  intro z6 z7
  obtain ⟨ls, g, d⟩ := F
  have t4 : t < 4 := by have := ls.1; omega
  have s128 := c128k (L := L) (xs := xs) (i := nI t) hw kd ha
  have nn := (nbr_all a ha t t4).2
  have skip : (∀ j, goS T a t = some j → ¬ DF T z j = n) → ∀ z6 z7, WP L xs 191 3 [some (.ref 397), some (.int (nI a)), some (.int y), some (.int (nI n)), some (.int (b2i true)), some (.int (nI (t + 1))), z6, z7] [] h Q := fun w => next (fun e => by rw [← e] at g; exact w k g d)
  refine v191_3 hw ⟨fun q => absurd q (nI_ge t4 (by decide)), fun _ => ?_⟩
  rw [nI_1]
  cases hb : nb a t with
  | none =>
    rw [hb] at nn
    rw [nn]
    refine ⟨fun _ => skip (fun j e => ?_) _ _, fun q => absurd rfl q⟩
    rw [(goS_nb e).2] at hb; cases hb
  | some j =>
    rw [hb] at nn
    rw [nn]
    have hj := nb_144 a ha t t4 j hb
    obtain ⟨d1, d2, d3⟩ := dr j hj
    refine ⟨fun q => absurd q (nI_m1 (by omega)), fun _ => ⟨fun _ => ⟨_, s128, fun l => ⟨fun q => absurd q (nI_ne0 (by omega) (by omega)), fun _ => ⟨j, rfl, hj, fun _ => ⟨fun e => ?_, fun e => skip (fun j' g' => ?_) _ _⟩, fun t0 => skip (fun j' g' e => ?_) _ _⟩⟩, fun l => skip (fun j' g' => ?_) _ _⟩, fun q => absurd rfl q⟩⟩
    · rw [d1] at e
      have e2 := (enc_eq d2 hn n0).mp e
      rw [b2i_nz'] at l
      have : t = s := LSt_at ls ht ⟨j, by rw [goS_t l]; exact hb, e2⟩
      rw [this]
      exact done
    · have : j' = j := by
        have := (goS_nb g').2
        rw [hb] at this
        injection this with this
        exact this.symm
      rw [this]
      exact fun w => e (by rw [d1]; exact (enc_eq d2 hn n0).mpr w)
    · have : j' = j := by
        have := (goS_nb g').2
        rw [hb] at this
        injection this with this
        exact this.symm
      rw [this] at e
      exact t0 ((kd j hj).1.trans (DF_bare d3 (by rw [e]; exact n0)))
    · rw [b2i_nz'] at l
      rw [(goS_nb g').1] at l
      exact absurd rfl l
theorem c191al (hw : HW h) (kd : KD T h) (dr : DRef T z h) (ha : a < 144) (n0 : ¬ n = 0) (hn : n < 200) (F : FSP T (DF T z) a n s k) (done : Q (some (.int (nI s))) h) : ∀ m t, t + m = s → ∀ z6 z7, WP L xs 191 3 [some (.ref 397), some (.int (nI a)), some (.int y), some (.int (nI n)), some (.int (b2i true)), some (.int (nI t)), z6, z7] [] h Q
  | 0, t, ht => c191a hw kd dr ha n0 hn F (by omega) (fun q => absurd (by omega) q) done
  | m + 1, t, ht => c191a hw kd dr ha n0 hn F (by omega) (fun _ => c191al hw kd dr ha n0 hn F done m (t + 1) (by omega)) done
theorem c191f (hw : HW h) (kd : KD T h) (dr : DRef T z h) (ha : a < 144) (n0 : ¬ n = 0) (hn : n < 200) (F : FSP T (DF T z) a n s k) : Sp L xs 191 [.ref 397, .int (nI a), .int y, .int (nI n), .int 1] h (some (.int (nI s))) h :=
  sp_eq (v191 (u := true) hw (c191al hw kd dr ha n0 hn F ⟨rfl, rfl⟩ s 0 (by omega) none none))
/-- on the way -/
theorem c191b (hw : HW h) (dr : ∀ j, j < 144 → gI h 443 j = enc (DF T z j) ∧ DF T z j < 200) (k405 : ∀ j, j < 144 → DF T z j = n → gI h 405 j = 0) (hc : c < 144) (n0 : ¬ n = 0) (hn : n < 200) (ls : LSt (fun s => ∃ k, nb c s = some k ∧ DF T z k = n) s) (ht : t ≤ s) (next : ¬ t = s → ∀ z6 z7, WP L xs 191 3 [some (.ref 397), some (.int (nI c)), some (.int y), some (.int (nI n)), some (.int (b2i false)), some (.int (nI (t + 1))), z6, z7] [] h Q) (done : Q (some (.int (nI s))) h) : ∀ z6 z7, WP L xs 191 3 [some (.ref 397), some (.int (nI c)), some (.int y), some (.int (nI n)), some (.int (b2i false)), some (.int (nI t)), z6, z7] [] h Q := by
  intro z6 z7
  have t4 : t < 4 := by have := ls.1; omega
  have nn := (nbr_all c hc t t4).2
  have skip : (∀ j, nb c t = some j → ¬ DF T z j = n) → ∀ z6 z7, WP L xs 191 3 [some (.ref 397), some (.int (nI c)), some (.int y), some (.int (nI n)), some (.int (b2i false)), some (.int (nI (t + 1))), z6, z7] [] h Q := fun w => next (fun e => by
    obtain ⟨k, g, d⟩ := ls.2.1
    rw [← e] at g; exact w k g d)
  refine v191_3 hw ⟨fun q => absurd q (nI_ge t4 (by decide)), fun _ => ?_⟩
  rw [nI_1]
  cases hb : nb c t with
  | none =>
    rw [hb] at nn
    rw [nn]
    refine ⟨fun _ => skip (fun j e => ?_) _ _, fun q => absurd rfl q⟩
    rw [e] at hb; cases hb
  | some j =>
    rw [hb] at nn
    rw [nn]
    have hj := nb_144 c hc t t4 j hb
    obtain ⟨d1, d2⟩ := dr j hj
    refine ⟨fun q => absurd q (nI_m1 (by omega)), fun _ => ⟨fun q => absurd q (by decide), fun _ => ⟨fun q => absurd q (nI_ne0 (by omega) (by omega)), fun _ => ⟨j, rfl, hj, fun _ => ⟨fun e => ?_, fun e => skip (fun j' g' => ?_) _ _⟩, fun t0 => skip (fun j' g' e => ?_) _ _⟩⟩⟩⟩
    · rw [d1] at e
      have e2 := (enc_eq d2 hn n0).mp e
      have : t = s := LSt_at ls ht ⟨j, hb, e2⟩
      rw [this]
      exact done
    · rw [hb] at g'
      injection g' with g'
      rw [← g']
      exact fun w => e (by rw [d1]; exact (enc_eq d2 hn n0).mpr w)
    · rw [hb] at g'
      injection g' with g'
      rw [← g'] at e
      exact t0 (k405 j hj e)
theorem c191bl (hw : HW h) (dr : ∀ j, j < 144 → gI h 443 j = enc (DF T z j) ∧ DF T z j < 200) (k405 : ∀ j, j < 144 → DF T z j = n → gI h 405 j = 0) (hc : c < 144) (n0 : ¬ n = 0) (hn : n < 200) (ls : LSt (fun s => ∃ k, nb c s = some k ∧ DF T z k = n) s) (done : Q (some (.int (nI s))) h) : ∀ m t, t + m = s → ∀ z6 z7, WP L xs 191 3 [some (.ref 397), some (.int (nI c)), some (.int y), some (.int (nI n)), some (.int (b2i false)), some (.int (nI t)), z6, z7] [] h Q
  | 0, t, ht => c191b hw dr k405 hc n0 hn ls (by omega) (fun q => absurd (by omega) q) done
  | m + 1, t, ht => c191b hw dr k405 hc n0 hn ls (by omega) (fun _ => c191bl hw dr k405 hc n0 hn ls done m (t + 1) (by omega)) done
theorem c191n (hw : HW h) (dr : ∀ j, j < 144 → gI h 443 j = enc (DF T z j) ∧ DF T z j < 200) (k405 : ∀ j, j < 144 → DF T z j = n → gI h 405 j = 0) (hc : c < 144) (n0 : ¬ n = 0) (hn : n < 200) (ls : LSt (fun s => ∃ k, nb c s = some k ∧ DF T z k = n) s) : Sp L xs 191 [.ref 397, .int (nI c), .int y, .int (nI n), .int 0] h (some (.int (nI s))) h :=
  sp_eq (v191 (u := false) hw (c191bl hw dr k405 hc n0 hn ls ⟨rfl, rfl⟩ s 0 (by omega) none none))
/-- the last step -/
theorem c191c (hw : HW h) (k0 : gI h 405 z = T z 0) (k1 : ¬ T z 0 = 0 → gI h 406 z = T z 1) (hz : z < 144) (hc : c < 144) (ls : LSt (fun s => nb c s = some z) s) (lf : ldT (T z) (nI ((s + 2) % 4)) = false) (ht : t ≤ s) (next : ¬ t = s → ∀ z6 z7, WP L xs 191 3 [some (.ref 397), some (.int (nI c)), some (.int (nI z)), some (.int 0), some (.int (b2i false)), some (.int (nI (t + 1))), z6, z7] [] h Q) (done : Q (some (.int (nI s))) h) : ∀ z6 z7, WP L xs 191 3 [some (.ref 397), some (.int (nI c)), some (.int (nI z)), some (.int 0), some (.int (b2i false)), some (.int (nI t)), z6, z7] [] h Q := by
  intro z6 z7
  have t4 : t < 4 := by have := ls.1; omega
  have nn := (nbr_all c hc t t4).2
  have s128 := c128p (L := L) (xs := xs) (i := (nI t + 2) - (nI t + 2) / 4 * 4) (x := T z) hw hz k0 k1
  refine v191_3 hw ⟨fun q => absurd q (nI_ge t4 (by decide)), fun _ => ?_⟩
  rw [nI_1]
  have skip : ¬ nb c t = some z → ∀ z6 z7, WP L xs 191 3 [some (.ref 397), some (.int (nI c)), some (.int (nI z)), some (.int 0), some (.int (b2i false)), some (.int (nI (t + 1))), z6, z7] [] h Q := fun w => next (fun e => w (by rw [e]; exact ls.2.1))
  cases hb : nb c t with
  | none =>
    rw [hb] at nn
    rw [nn]
    exact ⟨fun _ => skip (by rw [hb]; intro w; cases w) _ _, fun q => absurd rfl q⟩
  | some j =>
    rw [hb] at nn
    rw [nn]
    have hj := nb_144 c hc t t4 j hb
    refine ⟨fun q => absurd q (nI_m1 (by omega)), fun _ => ⟨fun q => absurd q (by decide), fun _ => ⟨fun _ => ⟨fun e => ⟨_, s128, fun r0 => ?_, fun r0 => ?_⟩, fun e => skip (fun w => ?_) _ _⟩, fun q => absurd rfl q⟩⟩⟩
    · have ej : j = z := nI_inj (by omega) (by omega) e
      have : t = s := LSt_at ls ht (by rw [← ej]; exact hb)
      rw [this]
      exact done
    · have ej : j = z := nI_inj (by omega) (by omega) e
      have : t = s := LSt_at ls ht (by rw [← ej]; exact hb)
      have l := b2i_n.mp r0
      rw [(opp4 t t4).2, this, lf] at l
      cases l
    · rw [hb] at w
      injection w with w
      exact e (by rw [w])
theorem c191cl (hw : HW h) (k0 : gI h 405 z = T z 0) (k1 : ¬ T z 0 = 0 → gI h 406 z = T z 1) (hz : z < 144) (hc : c < 144) (ls : LSt (fun s => nb c s = some z) s) (lf : ldT (T z) (nI ((s + 2) % 4)) = false) (done : Q (some (.int (nI s))) h) : ∀ m t, t + m = s → ∀ z6 z7, WP L xs 191 3 [some (.ref 397), some (.int (nI c)), some (.int (nI z)), some (.int 0), some (.int (b2i false)), some (.int (nI t)), z6, z7] [] h Q
  | 0, t, ht => c191c hw k0 k1 hz hc ls lf (by omega) (fun q => absurd (by omega) q) done
  | m + 1, t, ht => c191c hw k0 k1 hz hc ls lf (by omega) (fun _ => c191cl hw k0 k1 hz hc ls lf done m (t + 1) (by omega)) done
theorem c191z (hw : HW h) (k0 : gI h 405 z = T z 0) (k1 : ¬ T z 0 = 0 → gI h 406 z = T z 1) (hz : z < 144) (hc : c < 144) (ls : LSt (fun s => nb c s = some z) s) (lf : ldT (T z) (nI ((s + 2) % 4)) = false) : Sp L xs 191 [.ref 397, .int (nI c), .int (nI z), .int 0, .int 0] h (some (.int (nI s))) h :=
  sp_eq (v191 (u := false) hw (c191cl hw k0 k1 hz hc ls lf ⟨rfl, rfl⟩ s 0 (by omega) none none))
/-- the reference lays it -/
theorem c192l {z1 : Option Value} {v : Int32} (hw : HW h1) (kd : KD T h1) (dr : DRef T z h1) (hz : z < 144) (tz : ¬ T z 0 = 0) : ∀ (n c : Nat) (h2 : Hp) (P P' : Nat → Option Q4) (l4 : Int32) (z6 : Option Value), (¬ n = 0 → c < 144 ∧ l4 = nI c ∧ DF T z c = n) → n < 200 → WAY T z n c P P' → (∀ j, ¬ P j = none → n < DF T z j) → RPL h1 h2 P → WP L xs 192 66 [some (.ref 397), z1, some (.int (nI z)), some (.int v), some (.int l4), some (.int (nI n - 1)), z6] [] h2 (fun r h' => r = some (.int v) ∧ RPL h1 h' P')
  | 0, c, h2, P, P', l4, z6, hc, hn, w, pl, m => by
    have w : P' = P := w
    rw [w]
    exact v192_66 (IE_w m.1 hw) ⟨fun _ => ⟨rfl, m⟩, fun q => absurd (by decide) q⟩
  | n + 1, c, h2, P, P', l4, z6, hc0, hn, w, pl, m => by
    obtain ⟨hc, rfl, dc⟩ := hc0 (by omega)
    obtain ⟨s, j, ⟨ls, e, w0, w1⟩, w2⟩ := w
    have hw2 := IE_w m.1 hw
    have hs := ls.1
    have hj := nb_144 c hc s hs j e
    have nn := (nbr_all c hc s hs).2
    rw [e] at nn
    have o443 : gI h2 443 = gI h1 443 := m.2.1 443 (by unfold ryt; omega)
    have kind : ∀ j, j < 144 → P j = none → gI h2 405 j = T j 0 ∧ (¬ T j 0 = 0 → gI h2 406 j = T j 1) := fun j hj pj => by
      obtain ⟨q0, q1⟩ := (m.2.2 j hj).2.1 pj
      obtain ⟨kd0, kd1⟩ := kd j hj
      rw [MV0, MV0] at q0
      have q0 : gI h2 405 j = gI h1 405 j := q0
      rw [MV0] at q1
      refine ⟨q0.trans kd0, fun t => ?_⟩
      have := (q1 (by show ¬ gI h1 405 j = 0; rw [kd0]; exact t)).1 1 (by decide) (by decide)
      rw [MV0, MV0] at this
      exact (show gI h2 406 j = gI h1 406 j from this).trans (kd1 t)
    have pnone : ∀ j, DF T z j ≤ n + 1 → P j = none := fun j hd => by
      cases q : P j with
      | none => rfl
      | some v => have := pl j (by rw [q]; intro w; cases w); omega
    obtain ⟨h3, s133, m3⟩ := RPL_133 (L := L) (xs := xs) (q := (1, nI s, 0, 0)) hw m hc (show ¬ (1 : Int32) = 0 by decide)
    have rek := fun z6 => c192l (z1 := z1) (v := v) hw kd dr hz tz n j h3 _ P' (nI j) z6 (fun q => ⟨hj, rfl, w1 q⟩) (by omega) w2 (fun i hi => by
      by_cases y : i = c
      · rw [y, dc]; exact Nat.lt_succ_self n
      · have : upP P c (some (1, nI s, 0, 0)) i = P i := if_neg y
        rw [this] at hi
        have := pl i hi
        omega) m3
    have s191 : Sp L xs 191 [.ref 397, .int (nI c), .int (nI z), .int (nI n), .int 0] h2 (some (.int (nI s))) h2 := by
      by_cases n0 : n = 0
      · have ls' : LSt (fun s => nb c s = some z) s := ⟨hs, ls.2.1.1 n0, fun t ht p => ls.2.2 t ht ⟨fun _ => p, fun q => absurd n0 q⟩⟩
        have dz : DF T z z ≤ n + 1 := by
          obtain ⟨-, -, d3⟩ := dr z hz
          have : DF T z z = 0 := by
            apply Decidable.byContradiction
            intro y
            exact tz (DF_bare d3 y)
          omega
        obtain ⟨kz0, kz1⟩ := kind z hz (pnone z dz)
        rw [n0]
        exact c191z hw2 kz0 kz1 hz hc ls' (w0 n0).2
      · have ls' : LSt (fun s => ∃ k, nb c s = some k ∧ DF T z k = n) s := ⟨hs, ls.2.1.2 n0, fun t ht p => ls.2.2 t ht ⟨fun q => absurd q n0, fun _ => p⟩⟩
        refine c191n hw2 (fun j hj => by rw [o443]; exact ⟨(dr j hj).1, (dr j hj).2.1⟩) (fun j hj dj => ?_) hc n0 (by omega) ls'
        rw [(kind j hj (pnone j (by omega))).1]
        exact DF_bare (dr j hj).2.2 (by rw [dj]; exact n0)
    rw [nI_pred]
    refine v192_66 hw2 ⟨fun q => absurd q (nI_pos (by omega)), fun _ => ⟨_, s191, h3, s133, ?_⟩⟩
    rw [nn, ← Int32.sub_eq_add_neg]
    exact rek _
end LY
theorem op_lay {L : Nat} {xs : Nat → Int32} {x y : Int32} : OPI L xs 107 192 [.ref 0, .int x, .int y] [.ref 397, .int x, .int y] := by
  intro h k r
  have hw := r.1.1
  by_cases hx : x_isCell x = true
  · by_cases hy : x_isCell y = true
    · have hx' := hx
      have hy' := hy
      obtain ⟨a, ha, rfl⟩ := isCell_n hx
      obtain ⟨z, hz, rfl⟩ := isCell_n hy
      obtain ⟨h1, s65, i1, x1, good⟩ := c65 (L := L) (xs := xs) hw ha hz
      have w1 := IE_w i1 hw
      by_cases p1 : pth (flT h) a z = -1
      · -- refused
        have rc := rfC (L := L) (xs := xs) w1 rv6
        have kd : KD (flT h) (hC h1 6) := KD_of r ((hC_o (by decide)).trans (x1 405 (by unfold rob; omega))) ((hC_o (by decide)).trans (x1 406 (by unfold rob; omega)))
        obtain ⟨h2, s189, i2, x2, -⟩ := c189 (L := L) (xs := xs) (HW_sI w1 : HW (hC h1 6)) kd ha hz
        have w2 := IE_w i2 (HW_sI w1 : HW (hC h1 6))
        have rm := rfM (L := L) (xs := xs) w2 rv6
        refine ⟨-6, hC h1 6, hM h2 6, k, sp_eq (v107 hw ⟨fun _ => ⟨fun _ => ⟨_, _, s65, fun _ => ⟨_, _, rc, rfl, rfl⟩, fun q => absurd p1 q⟩, fun q => absurd hy' q⟩, fun q => absurd hx' q⟩), HW_sI w1, sp_eq (v192 (HW_sI w1 : HW (hC h1 6)) ⟨fun _ => ⟨fun _ => ⟨_, _, s189, fun _ => ⟨_, _, rm, rfl, rfl⟩, fun q => absurd p1 q⟩, fun q => absurd hy' q⟩, fun q => absurd hx' q⟩), ?_⟩
        have ie : IE h (hM h2 6) := IE_s (IE_t (IE_s i1 : IE h (hC h1 6)) i2)
        refine Rel_o r ie (fun b q1 q2 q3 => ?_) (fun j hj => ?_)
        · rw [hM_o q2, x2 b (by unfold scw at q3; omega), gIo q1, x1 b (by unfold scw at q3; unfold rob; omega)]
        · have e1 : gI (hM h2 6) 1 = up (gI h 1) 6 (gI h 1 6 + 1) := by
            rw [hM_o (by decide), x2 1 (by decide)]
            show gI (sI h1 1 6 (gI h1 1 6 + 1)) 1 = _
            rw [gIs, x1 1 (by unfold rob; omega)]
          have e2 : gI (hM h2 6) 398 = up (gI h 398) 6 (gI h 398 6 + 1) := by
            show gI (sI h2 398 6 (gI h2 398 6 + 1)) 398 = _
            rw [gIs, x2 398 (by decide), gIo (show ¬ (398 : Nat) = 1 by decide), x1 398 (by unfold rob; omega)]
          rw [e1, e2, up_a, up_a, r.2.2.1 j hj, r.2.2.1 6 (by decide)]
      · by_cases p0 : pth (flT h) a z = 0
        · -- nothing is laid
          obtain ⟨r73, h73, s73, rfl, v73', rfl⟩ := v73 (L := L) (xs := xs) (y := nI a) (z := 0) w1 (c73x (L := L) (xs := xs) w1 ha (y := 0) 4 0 (by omega))
          have s72 : Sp L xs 72 [.ref 390, .ref 4, .int (nI a), .int (nI z), .int 0] h73 none h73 := sp_eq (v72 w1 ⟨_, s73, v72_14 w1 rfl ⟨fun _ => ⟨rfl, rfl⟩, fun q => absurd (by decide) q⟩⟩)
          have kd : KD (flT h) h73 := KD_of r (x1 405 (by unfold rob; omega)) (x1 406 (by unfold rob; omega))
          obtain ⟨h2, s189, i2, x2, -⟩ := c189 (L := L) (xs := xs) w1 kd ha hz
          have w2 := IE_w i2 w1
          rw [p0] at s65 s189
          have o : ∀ b, ¬ scw b → gI h2 b = gI h b := fun b q => (x2 b (by unfold scw at q; omega)).trans (x1 b (by unfold scw at q; unfold rob; omega))
          exact ⟨0, h73, h2, k, sp_eq (v107 hw ⟨fun _ => ⟨fun _ => ⟨_, _, s65, fun q => absurd q (by decide), fun _ => ⟨_, s72, rfl, rfl⟩⟩, fun q => absurd hy' q⟩, fun q => absurd hx' q⟩), w1, sp_eq (v192 w1 ⟨fun _ => ⟨fun _ => ⟨_, _, s189, fun q => absurd q (by decide), fun _ => ⟨fun _ => v192_66 w2 ⟨fun _ => ⟨rfl, rfl⟩, fun q => absurd (by decide) q⟩, fun q => absurd rfl q⟩⟩, fun q => absurd hy' q⟩, fun q => absurd hx' q⟩), Rel_o r (IE_t i1 i2) (fun b _ _ q => o b q) (RLr_of (h := h) (fun b q => o b (by unfold scw; omega)) r.2.2.1)⟩
        · obtain ⟨ep, da, hD⟩ := good p1 p0
          have ok : ∀ k, k < 144 → DOk (flT h) z k (DF (flT h) z k) := fun k hk => (da k hk).1
          have le : ∀ k, k < 144 → DF (flT h) z k ≤ 144 := fun k hk => (da k hk).2
          have b0 : ¬ bsT (flT h) (DF (flT h) z) a 4 = 0 := fun q => p1 (by rw [ep, q]; rfl)
          have bl := bsT_le (T := flT h) le ha 4 (Nat.le_refl 4)
          obtain ⟨s, j, F⟩ := FSP_ex b0
          have en : pth (flT h) a z = nI (bsT (flT h) (DF (flT h) z) a 4) := by rw [ep]; exact if_neg b0
          have tz : ¬ flT h z 0 = 0 := fun q => p1 (by
            unfold pth
            rw [if_pos (Or.inr (Or.inr (by rw [q]; decide)))])
          generalize bsT (flT h) (DF (flT h) z) a 4 = n at *
          have hj := nb_144 a ha s F.1.1 j (goS_nb F.2.1).2
          obtain ⟨P', w⟩ := WAY_ex ok hz n j (fun _ => none) (fun _ => ⟨hj, F.2.2⟩)
          have ft : flE (flT h) h1 := fun c hc => x1 (10 + c) (by unfold rob; omega)
          have r1 : Rel h1 k := Rel_o r i1 (fun b _ _ q => x1 b (by unfold scw at q; unfold rob; omega)) (RLr_of (h := h) (fun b q => x1 b (by unfold rob; omega)) r.2.2.1)
          have s73 := c73 (L := L) (xs := xs) w1 ft hD le ha b0 (by omega) F
          obtain ⟨r72, h3, s72, rfl, cc⟩ := v72 (L := L) (xs := xs) (y := nI a) (z := nI z) (u := nI n) w1 ⟨_, s73, c72l (L := L) (xs := xs) (z2 := some (.int (nI a))) r1.1 hD le hz rfl n j h1 _ P' (nI j) none (fun _ => ⟨hj, rfl⟩) (by omega) w (CPL_r w1)⟩
          have w3 := cc.2.1
          have oc : ∀ b, ¬ (10 ≤ b ∧ b < 154) → gI h3 b = gI h1 b := fun b hb => (cc.2.2.2.1 b hb).1
          have kd3 : KD (flT h) h3 := KD_of r ((oc 405 (by decide)).trans (x1 405 (by unfold rob; omega))) ((oc 406 (by decide)).trans (x1 406 (by unfold rob; omega)))
          obtain ⟨h4, s189, i4, x4, dr⟩ := c189 (L := L) (xs := xs) w3 kd3 ha hz
          have dr := dr p1
          have w4 := IE_w i4 w3
          have kd4 : KD (flT h) h4 := fun c hc => by rw [x4 405 (by decide), x4 406 (by decide)]; exact kd3 c hc
          have s191 := c191f (L := L) (xs := xs) (y := nI z) w4 kd4 dr ha b0 (by omega) F
          have nn := (nbr_all a ha s F.1.1).2
          rw [(goS_nb F.2.1).2] at nn
          have mv : MV h4 = MV h := by
            funext b c j
            unfold MV
            have := AD_no b c j
            rw [x4 _ (by omega), oc _ (by omega), x1 _ (by unfold rob; omega)]
          have m4 : RPL h4 h4 (fun _ => none) := RPL_r (fun c hc => by rw [mv]; exact (r.2.1.1 c hc).2.2.2.2)
          have k192 := c192l (L := L) (xs := xs) (z1 := some (.int (nI a))) (v := nI n) w4 kd4 dr hz tz n j h4 _ P' (nI j) none (fun _ => ⟨hj, rfl, F.2.2⟩) (by omega) w (fun i hi => absurd rfl hi) m4
          rw [en] at s65 s189
          have n1 : ¬ nI n = -1 := nI_m1 (by omega)
          have n0 : ¬ nI n = 0 := nI_ne0 (by omega) (by omega)
          obtain ⟨rr, h5, s192, rfl, m5⟩ := v192 (L := L) (xs := xs) (x := nI a) (y := nI z) w3 ⟨fun _ => ⟨fun _ => ⟨_, _, s189, fun q => absurd q n1, fun _ => ⟨fun q => absurd q n0, fun _ => ⟨_, s191, by rw [nn]; exact k192⟩⟩⟩, fun q => absurd hy' q⟩, fun q => absurd hx' q⟩
          refine ⟨nI n, h3, h5, k, sp_eq (v107 hw ⟨fun _ => ⟨fun _ => ⟨_, _, s65, fun q => absurd q n1, fun _ => ⟨_, s72, rfl, rfl⟩⟩, fun q => absurd hy' q⟩, fun q => absurd hx' q⟩), w3, s192, ?_⟩
          -- the heap with the reference's distances in it from the beginning
          have rS : Rel (wO h1 443 (gI h4 443)) k := by
            refine Rel_o r1 (IE_wO (IE_r h1)) (fun b _ _ q => gI_wOo (fun e => q (by rw [e]; unfold scw; omega))) (RLr_of (h := h1) (fun b q => gI_wOo (by omega)) r1.2.2.1)
          have cS : CPL (wO h1 443 (gI h4 443)) h4 P' := by
            obtain ⟨c1, c2, c3, c4, c5⟩ := cc
            refine ⟨i4.1.trans c1, w4, i4.2.1.trans c3, fun b hb => ⟨?_, fun j => ?_⟩, fun c hc => ?_⟩
            · by_cases e : b = 443
              · rw [e, gI_wO]
              · rw [gI_wOo e, x4 b e]; exact (c4 b hb).1
            · rw [gR_wO, i4.2.2]; exact (c4 b hb).2 j
            · rw [gI_wOo (by omega), x4 _ (by omega), gR_wO, i4.2.2]
              exact c5 c hc
          refine Rel_places rS cS m5 (fun c q hc e => Or.inr ?_)
          exact WAY_some (G := fun q => GP k q.1 q.2.1 q.2.2.1 q.2.2.2) (fun s hs => GP_belt hs) n j _ P' w (fun _ _ e => by cases e) c q e
    · obtain ⟨h1, h2, s1, w1, s2, rr, -⟩ := op_ref (L := L) (xs := xs) r rv1
      exact ⟨_, h1, h2, k, sp_eq (v107 hw ⟨fun _ => ⟨fun q => absurd q hy, fun _ => ⟨_, _, s1, rfl, rfl⟩⟩, fun q => absurd hx q⟩), w1, sp_eq (v192 w1 ⟨fun _ => ⟨fun q => absurd q hy, fun _ => ⟨_, _, s2, rfl, rfl⟩⟩, fun q => absurd hx q⟩), rr⟩
  · obtain ⟨h1, h2, s1, w1, s2, rr, -⟩ := op_ref (L := L) (xs := xs) r rv1
    exact ⟨_, h1, h2, k, sp_eq (v107 hw ⟨fun q => absurd q hx, fun _ => ⟨_, _, s1, rfl, rfl⟩⟩), w1, sp_eq (v192 w1 ⟨fun q => absurd q hx, fun _ => ⟨_, _, s2, rfl, rfl⟩⟩), rr⟩
