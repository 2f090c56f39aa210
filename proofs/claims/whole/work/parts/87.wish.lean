/-! The call wish. -/
section WI
variable {L : Nat} {xs : Nat → Int32} {h h0 h1 : Hp} {k c s v r o i M B n p q it : Nat} {x l : Int32} {R : Nat → Row} {S dn : Nat → Bool} {tp mc : Nat → Nat}
/-- all rates are 0, the first one is wanted -/
theorem c182y {m l5 : Int32} (f : RF h0 k R) (hit : it < 21) (hp : p ≤ 60) (hq1 : 1 ≤ q) (hq2 : q ≤ 60) {P : Nat} (hP1 : 0 < P) (hP : P ≤ 65536) {Q : Option Value → Hp → Prop} (K : ∀ (h' : Hp) (z8 z9 z10 z11 z12 : Option Value), VW h0 h' → LV h' (tp0 it (P * p)) (q * P) → (∀ t, t < k → gI h' 442 t = nI 0) → WP L xs 182 143 [some (.ref 397), some (.int (nI it)), some (.int (nI p)), some (.int (nI q)), some (.int m), some (.int l5), some (.int 0), some (.int 0), z8, z9, z10, z11, z12] [] h' Q) {z8 z9 z10 z11 z12 : Option Value} : ∀ (j i : Nat) (h : Hp) (z7 : Option Value), i + j = 21 → VW h0 h → (∀ j, j < i → gL h 439 j = 0 ∧ gL h 440 j = 1) → (∀ t, t < k → gI h 442 t = nI 0) → WP L xs 182 99 [some (.ref 397), some (.int (nI it)), some (.int (nI p)), some (.int (nI q)), some (.int m), some (.int l5), some (.int (nI i)), z7, z8, z9, z10, z11, z12] [] h Q
  | 0, i, h, z7, hi, vw, e3, e4 => by
    obtain rfl : i = 21 := by omega
    have f' := VW_RF f vw
    have qB : q * P ≤ 60 * 65536 := Nat.mul_le_mul hq2 hP
    have Bp : 0 < q * P := Nat.mul_pos hq1 hP1
    have lv : LV h (fun _ => 0) (q * P) := fun j hj => by
      obtain ⟨a, b⟩ := e3 j hj
      have e1 : loN 0 (q * P) = 0 := Nat.zero_div _
      have e2 : loD 0 (q * P) = 1 := by
        unfold loD
        rw [Nat.gcd_zero_left, Nat.div_self Bp]
      rw [a, b, e1, e2]
      exact ⟨rfl, rfl⟩
    obtain ⟨h', s179, lw, lv'⟩ := c179 (L := L) (xs := xs) (tp := fun _ => 0) (x := P * p) (a := p) (b := q) f'.1 hit lv Bp (by omega) (by decide) (by ac_rfl) hq1 (by omega) (by omega)
    have eT : upN (fun _ => 0) it (0 + P * p) = tp0 it (P * p) := by
      funext j
      unfold upN tp0
      rw [Nat.zero_add]
    rw [eT] at lv'
    have ep : (nI p).toInt64 = lN p := nI_l (by omega)
    have eq : (nI q).toInt64 = lN q := nI_l (by omega)
    refine v182_99 f'.1 ⟨fun _ => ⟨h', by rw [ep, eq]; exact s179, K h' _ _ _ _ _ (VW_LW vw lw) lv' (fun t ht => by rw [lw.2.1]; exact e4 t ht)⟩, fun z => absurd (show (20 : Int32) < nI 21 by decide) z⟩
  | j + 1, i, h, z7, hi, vw, e3, e4 => by
    have i21 : i < 21 := by omega
    refine v182_99 (VW_RF f vw).1 ⟨fun z => absurd z (show ¬ nI 20 < nI i from nI_nlt (by omega) (by decide)), fun _ => ⟨i, rfl, i21, ?_⟩⟩
    rw [nI_1]
    refine c182y f hit hp hq1 hq2 hP1 hP K j (i + 1) _ z7 (by omega) (VW_sL (Or.inr rfl) (VW_sL (Or.inl rfl) vw)) (fun t ht => ?_) e4
    rw [gLp (by decide), gLq, gLq, gLp (by decide)]
    by_cases y : t = i
    · rw [if_pos y, if_pos y]; exact ⟨rfl, rfl⟩
    · rw [if_neg y, if_neg y]; exact e3 t (by omega)
/-- how many are wanted -/
theorem c182x {m l1 l2 l3 : Int32} (f : RF h0 k R) (im : IM R k m S) {z7 z8 z9 z10 z11 z12 : Option Value} {Q : Option Value → Hp → Prop} (K : ∀ (h' : Hp), VW h0 h' → (∀ t, t < k → gI h' 442 t = nI 0) → WP L xs 182 99 [some (.ref 397), some (.int l1), some (.int l2), some (.int l3), some (.int m), some (.int (nI (cB S k))), some (.int 0), z7, z8, z9, z10, z11, z12] [] h' Q) : ∀ (j i : Nat) (h : Hp), i + j = k → VW h0 h → (∀ t, t < i → gI h 442 t = nI 0) → WP L xs 182 56 [some (.ref 397), some (.int l1), some (.int l2), some (.int l3), some (.int m), some (.int (nI (cB S i))), some (.int (nI i)), z7, z8, z9, z10, z11, z12] [] h Q
  | 0, i, h, hi, vw, e => by
    obtain rfl : i = k := by omega
    have f' := VW_RF f vw
    have hk := f.2.2.1
    refine v182_56 f'.1 ?_
    rw [f'.2.1]
    exact ⟨fun _ => K h vw e, fun z => absurd (nI_le (Nat.le_refl _) (by omega)) z⟩
  | j + 1, i, h, hi, vw, e => by
    have hik : i < k := by omega
    have f' := VW_RF f vw
    have hk := f.2.2.1
    obtain ⟨g0, -⟩ := f'.2.2.2.2.2 i hik
    have ri := RF_it f hik
    refine v182_56 f'.1 ?_
    rw [f'.2.1, nI_1]
    refine ⟨fun z => absurd z (nI_ge hik (by omega)), fun _ => ⟨i, rfl, by omega, ?_⟩⟩
    rw [g0, b_at (by omega), im i hik]
    have ec : nI (cB S i) + b2i (S i) = nI (cB S (i + 1)) := by
      rw [cB_s]
      cases S i with
      | true => rw [if_pos rfl]; exact nI_1 _
      | false => rw [if_neg (by decide)]; exact Int32.add_zero _
    rw [ec]
    refine c182x f im K j (i + 1) _ (by omega) (VW_sI vw) (fun t ht => ?_)
    rw [gIs, up_a]
    by_cases y : t = i
    · rw [if_pos y]; rfl
    · rw [if_neg y]; exact e t (by omega)
theorem RF_Rel (r : Rel h k) : RF h k (RC h) := by
  obtain ⟨b1, b2, b3, b4, b5, b6, b7, b8, b9⟩ := r.1
  refine ⟨b1, b5, by omega, b8, b9, fun r hr => ?_⟩
  have e : ∀ j, j < 8 → MRc h r j = nI (rn (RC h r) j) := fun j hj => by
    rw [← b7 r hr j hj]
    exact (b8 r hr).1 j hj
  exact ⟨e 0 (by decide), e 1 (by decide), e 2 (by decide), e 4 (by decide), e 5 (by decide), e 6 (by decide), e 7 (by decide)⟩
theorem RF_fnd (f : RF h k R) (hMk : M < k) : fndI R (nI (rn (R M) 0)) k 0 = nI M := by
  have hk := f.2.2.1
  obtain ⟨all, -⟩ := f.2.2.2.1 M hMk
  by_cases z : fndI R (nI (rn (R M) 0)) k 0 = -1
  · exact absurd (all 0 (by decide)) (fndI_n k 0 z (by omega) M (Nat.zero_le M) (by omega))
  · obtain ⟨r, -, hr, e, e2⟩ := fndI_s k 0 z
    rw [e]
    congr 1
    apply Decidable.byContradiction
    intro y
    exact f.2.2.2.2.1 r M (by omega) hMk y (e2.trans (all 0 (by decide)).symm)
theorem c129R (f : RF h k R) : Sp L xs 129 [.ref 397, .int x] h (some (.int (fndI R x k 0))) h := c129 f.1 (by have := f.2.2.1; omega) f.2.1 (fun r hr => by rw [(f.2.2.2.2.2 r hr).1]; exact ((f.2.2.2.1 r hr).1 0 (by decide)).symm)
theorem isIt (hi1 : 1 ≤ it) (hi : it < 21) : x_isItem (nI it) = true := (in3_t (a := 1) (b := 20) (by omega) (by decide) (by decide)).mpr ⟨hi1, by omega⟩
theorem is60 (h1 : 1 ≤ p) (h2 : p ≤ 60) : x_in3 (nI p) 1 60 = true := (in3_t (a := 1) (b := 60) (by omega) (by decide) (by decide)).mpr ⟨h1, h2⟩
theorem lft_0 (S : Nat → Bool) : lft S (fun _ => false) = S := by
  funext r
  unfold lft
  rw [Bool.not_false, Bool.and_true]
/-- the reference's wish -/
theorem c182 (f : RF h k R) (hMk : M < k) (hp1 : 1 ≤ p) (hp : p ≤ 60) (hq1 : 1 ≤ q) (hq2 : q ≤ 60) : (∀ t0, SM R k M t0 = true → Wv R k k t0 t0 → ∃ h', Sp L xs 182 [.ref 397, .int (nI (rn (R M) 0)), .int (nI p), .int (nI q)] h (some (.int (-6))) h' ∧ ∃ h2, VW h h2 ∧ h' = hM h2 6) ∧ (∀ tp' mc' s', WR R k (SM R k M) (q * pr (mkF R) k) (cB (lft (SM R k M) (fun _ => false)) k) (fun _ => false) (tp0 (rn (R M) 0) (pr (mkF R) k * p)) (fun _ => 0) 0 tp' mc' s' → ∃ h', Sp L xs 182 [.ref 397, .int (nI (rn (R M) 0)), .int (nI p), .int (nI q)] h (some (.int (nI s'))) h' ∧ FIN h h' k tp' mc' (q * pr (mkF R) k)) := by
  have hk := f.2.2.1
  obtain ⟨mp, ml⟩ := mkF_b f.2.2.2.1 hk k (Nat.le_refl k)
  have i1 : 1 ≤ rn (R M) 0 := (f.2.2.2.1 M hMk).2.1
  have i21 := RF_it f hMk
  have so := SM_ok (R := R) hMk
  obtain ⟨m, s180, im⟩ := c180 (L := L) (xs := xs) f hMk
  have qB : q * pr (mkF R) k ≤ 60 * 65536 := Nat.mul_le_mul hq2 ml
  have Bp : 0 < q * pr (mkF R) k := Nat.mul_pos hq1 mp
  have s129 := c129R (L := L) (xs := xs) (x := nI (rn (R M) 0)) f
  rw [RF_fnd f hMk] at s129
  have go : ∀ {Q : Option Value → Hp → Prop}, (∀ (h' : Hp) (z8 z9 z10 z11 z12 : Option Value), VW h h' → LV h' (tp0 (rn (R M) 0) (pr (mkF R) k * p)) (q * pr (mkF R) k) → (∀ t, t < k → gI h' 442 t = nI 0) → WP L xs 182 143 [some (.ref 397), some (.int (nI (rn (R M) 0))), some (.int (nI p)), some (.int (nI q)), some (.int m), some (.int (nI (cB (SM R k M) k))), some (.int 0), some (.int 0), z8, z9, z10, z11, z12] [] h' Q) → ∃ r h', Sp L xs 182 [.ref 397, .int (nI (rn (R M) 0)), .int (nI p), .int (nI q)] h r h' ∧ Q r h' := fun {Q} K => by
    refine v182 f.1 ⟨fun _ => ⟨_, s129, fun z => absurd z (nI_m1 (by omega)), fun _ => ⟨fun _ => ⟨fun _ => ⟨_, s180, ?_⟩, fun z => absurd (is60 hq1 hq2) z⟩, fun z => absurd (is60 hp1 hp) z⟩⟩, fun z => absurd (isIt i1 i21) z⟩
    exact c182x (L := L) (xs := xs) f im (fun h' vw e => c182y (L := L) (xs := xs) f i21 hp hq1 hq2 mp ml K 21 0 h' none (by omega) vw (fun j hj => absurd hj (Nat.not_lt_zero j)) e) k 0 h (by omega) (VW_r h) (fun t ht => absurd ht (Nat.not_lt_zero t))
  have c8 : cB (SM R k M) k ≤ 8 := by have := cB_le (SM R k M) k; omega
  constructor
  · intro t0 st wt
    obtain ⟨r, h', s, rfl, e⟩ := go (Q := fun r h' => r = some (.int (-6)) ∧ ∃ h2, VW h h2 ∧ h' = hM h2 6) (fun h' z8 z9 z10 z11 z12 vw lv e => c182c f im so Bp (by omega) st wt _ h' 0 (fun _ => false) _ 0 0 z8 z9 z10 z11 z12 c8 (by rw [lft_0]) (fun _ _ _ => rfl) (INV_0 hp hq1) (fun t ht => by rw [b_0]) vw lv)
    exact ⟨h', s, e⟩
  · intro tp' mc' s' w
    rw [lft_0] at w
    obtain ⟨r, h', s, rfl, e⟩ := go (Q := fun r h' => r = some (.int (nI s')) ∧ FIN h h' k tp' mc' (q * pr (mkF R) k)) (fun h' z8 z9 z10 z11 z12 vw lv e => c182w f im so Bp (by omega) _ h' 0 (fun _ => false) _ (fun _ => 0) 0 0 tp' mc' s' z8 z9 z10 z11 z12 c8 w (INV_0 hp hq1) (fun t ht => by rw [b_0]) vw lv e)
    exact ⟨h', s, e⟩
def wsh (a : Nat) : Prop := a = 1 ∨ a = 398 ∨ a = 394 ∨ a = 396 ∨ a = 441 ∨ a = 442
def wsl (a : Nat) : Prop := a = 393 ∨ a = 395 ∨ (437 ≤ a ∧ a ≤ 440)
theorem Rel_w {H : Hp} (r : Rel h k) (n : H.1 = h.1) (g : gR H = gR h) (oI : ∀ a, ¬ wsh a → gI H a = gI h a) (oL : ∀ a, ¬ wsl a → gL H a = gL h a) (rr : RLr H) (rp : RLp H k) : Rel H k := by
  obtain ⟨r1, r2, r3, r4, r5, r6⟩ := r
  have o2 : ∀ a, (¬ a = 1 ∧ ¬ a = 398 ∧ ¬ a = 394 ∧ ¬ a = 396 ∧ ¬ a = 441 ∧ ¬ a = 442) → gI H a = gI h a := fun a q => oI a (by unfold wsh; omega)
  refine ⟨RLb_of (h := h) (HW_of r1.1 n g) n (fun a ha => o2 a (by omega)) (by rw [o2 397 (by decide)]) (fun _ => by rw [g]) r1, RLf_of (h := h) n ?_ (fun a ha => o2 a (by unfold inF at ha; omega)) (by rw [o2 397 (by decide)]) (fun _ _ => by rw [g]) r2, rr, RLs_of (h := h) (fun a ha => o2 a (by unfold inS at ha; omega)) (fun a ha => oL a (by unfold inS at ha; unfold wsl; omega)) r4, RLt_of (h := h) (fun a ha => o2 a (by omega)) (by rw [o2 397 (by decide)]) r5, rp⟩
  funext j
  exact o2 (444 + j) (by omega)
end WI
theorem op_wish {L : Nat} {xs : Nat → Int32} {x y z : Int32} : OPI L xs 103 182 [.ref 0, .int x, .int y, .int z] [.ref 397, .int x, .int y, .int z] := by
  intro h k r
  have hw := r.1.1
  have f := RF_Rel r
  have hk := f.2.2.1
  have s3 := c3 (L := L) (xs := xs) (x := x) r.1
  obtain ⟨g1, g2, s1, w1, s2, rr, ge1, ge2⟩ := op_ref (L := L) (xs := xs) r rv6
  have f1 : RF g1 k (RC h) := RF_of f w1 (by rw [ge1]; exact hC_o (by decide)) (fun a h1 h2 => by rw [ge1]; exact hC_o (by omega))
  have t129 := c129R (L := L) (xs := xs) (x := x) f1
  by_cases hx : x_isItem x = true
  · by_cases hm : fndI (RC h) x k 0 = -1
    · exact ⟨_, g1, g2, k, sp_eq (v103 hw ⟨fun _ => ⟨_, s3, fun _ => ⟨_, _, s1, rfl, rfl⟩, fun q => absurd hm q⟩, fun q => absurd hx q⟩), w1, sp_eq (v182 w1 ⟨fun _ => ⟨_, t129, fun _ => ⟨_, _, s2, rfl, rfl⟩, fun q => absurd hm q⟩, fun q => absurd hx q⟩), rr⟩
    · by_cases hy : x_in3 y 1 60 = true
      · by_cases hz : x_in3 z 1 60 = true
        · obtain ⟨M, -, hMk, em, e0⟩ := fndI_s k 0 hm
          have hMk : M < k := by omega
          have gM := f.2.2.2.1 M hMk
          have ex : x = nI (rn (RC h M) 0) := e0.symm.trans (gM.1 0 (by decide))
          subst ex
          obtain ⟨p, p1, p2, rfl⟩ := in3_n (a := 1) (b := 60) (by decide) (by decide) hy
          obtain ⟨q, q1, q2, rfl⟩ := in3_n (a := 1) (b := 60) (by decide) (by decide) hz
          rcases c52 (L := L) (xs := xs) r.1 hMk (gM.1 0 (by decide)).symm gM.2.2.1 p1 p2 q1 q2 with ⟨⟨t0, st, wt⟩, h', s52, i1, x1⟩ | ⟨tp', mc', s', w, h', s52, cw, eB, et, em'⟩
          · have w' := IE_w i1 hw
            have f2 : RF (hC h' 6) k (RC h) := RF_of f (HW_sI w') (by rw [hC_o (by decide)]; exact x1 397 (by unfold onN; decide)) (fun a h1 h2 => by rw [hC_o (by omega)]; exact x1 a (by unfold onN; omega))
            obtain ⟨H, s182, h2, vw, rfl⟩ := (c182 (L := L) (xs := xs) f2 hMk p1 p2 q1 q2).1 t0 st wt
            refine ⟨-6, hC h' 6, hM h2 6, k, sp_eq (v103 hw ⟨fun _ => ⟨_, s3, fun q => absurd q hm, fun _ => ⟨fun _ => ⟨fun _ => ⟨_, _, s52, fun _ => ⟨_, _, rfC w' rv6, rfl, rfl⟩, fun q => absurd rfl q⟩, fun q => absurd hz q⟩, fun q => absurd hy q⟩⟩, fun q => absurd hx q⟩), HW_sI w', s182, ?_⟩
            obtain ⟨v1, v2, v3, v4⟩ := vw
            have oI : ∀ a, ¬ a = 1 → ¬ a = 398 → ¬ a = 396 → ¬ a = 442 → gI (hM h2 6) a = gI h a := fun a q1 q2 q3 q4 => by
              rw [hM_o q2, v3 a q4, hC_o q1]
              exact x1 a q3
            have oL : ∀ a, ¬ a = 439 → ¬ a = 440 → gL (hM h2 6) a = gL h a := fun a q1 q2 => (v4 a q1 q2).trans (by show gL h' a = gL h a; rw [i1.2.1])
            refine Rel_w r (v1.trans i1.1) (v2.trans i1.2.2) (fun a q => oI a (by unfold wsh at q; omega) (by unfold wsh at q; omega) (by unfold wsh at q; omega) (by unfold wsh at q; omega)) (fun a q => oL a (by unfold wsl at q; omega) (by unfold wsl at q; omega)) (fun j hj => ?_) (RLp_of (h := h) (oI 394 (by decide) (by decide) (by decide) (by decide)) (oI 441 (by decide) (by decide) (by decide) (by decide)) (fun a q => oL a (by omega) (by omega)) r.2.2.2.2.2)
            have e1 : gI (hM h2 6) 1 = up (gI h 1) 6 (gI h 1 6 + 1) := by
              rw [hM_o (by decide), v3 1 (by decide)]
              show gI (sI h' 1 6 (gI h' 1 6 + 1)) 1 = _
              rw [gIs, x1 1 (by unfold onN; decide)]
            have e2 : gI (hM h2 6) 398 = up (gI h 398) 6 (gI h 398 6 + 1) := by
              show gI (sI h2 398 6 (gI h2 398 6 + 1)) 398 = _
              rw [gIs, v3 398 (by decide), hC_o (show ¬ (398 : Nat) = 1 by decide), x1 398 (by unfold onN; decide)]
            rw [e1, e2, up_a, up_a, r.2.2.1 j hj, r.2.2.1 6 (by decide)]
          · have w' := HW_of hw cw.1 cw.2.1
            have f2 : RF h' k (RC h) := RF_of f w' (cw.2.2.1 397 (by decide) (by decide)) (fun a h1 h2 => cw.2.2.1 a (by omega) (by omega))
            obtain ⟨h2, s182, ⟨v1, v2, v3, v4⟩, e7, e8⟩ := (c182 (L := L) (xs := xs) f2 hMk p1 p2 q1 q2).2 tp' mc' s' w
            obtain ⟨mp, ml⟩ := mkF_b f.2.2.2.1 hk k (Nat.le_refl k)
            have qB : q * pr (mkF (RC h)) k ≤ 60 * 65536 := Nat.mul_le_mul q2 ml
            have Bp : 0 < q * pr (mkF (RC h)) k := Nat.mul_pos q1 mp
            have cb := cB_le (lft (SM (RC h) k M) (fun _ => false)) k
            obtain ⟨⟨dn', n', inv⟩, sl, mz⟩ := WR_fin f.2.2.2.1 Bp _ _ _ _ 0 0 tp' mc' s' w (INV_0 p2 q1) (Nat.zero_le _) (by omega) (fun _ _ => rfl)
            have sn : ¬ nI s' = -1 := nI_m1 (by
              have : 3601 * 5 ^ 8 < 2147483648 := by decide
              omega)
            refine ⟨nI s', h', h2, k, sp_eq (v103 hw ⟨fun _ => ⟨_, s3, fun q => absurd q hm, fun _ => ⟨fun _ => ⟨fun _ => ⟨_, _, s52, fun q => absurd q sn, fun _ => ⟨rfl, rfl⟩⟩, fun q => absurd hz q⟩, fun q => absurd hy q⟩⟩, fun q => absurd hx q⟩), w', s182, ?_⟩
            have oI : ∀ a, ¬ a = 394 → ¬ a = 396 → ¬ a = 441 → ¬ a = 442 → gI h2 a = gI h a := fun a q1 q2 q3 q4 => (v3 a q3 q4).trans (cw.2.2.1 a q1 q2)
            refine Rel_w r (v1.trans cw.1) (v2.trans cw.2.1) (fun a q => oI a (by unfold wsh at q; omega) (by unfold wsh at q; omega) (by unfold wsh at q; omega) (by unfold wsh at q; omega)) (fun a q => (v4 a (by unfold wsl at q; omega)).trans (cw.2.2.2 a (by unfold wsl at q; omega) (by unfold wsl at q; omega))) (RLr_of (h := h) (fun a q => oI a (by omega) (by omega) (by omega) (by omega)) r.2.2.1) ⟨fun t ht => ⟨?_, fun kt => ?_⟩, q * pr (mkF (RC h)) k, Bp, by omega, ?_, fun i hi => ⟨tp' i, ?_, ?_, (e7 i hi).1, (e7 i hi).2⟩⟩
            · rw [e8 t ht, v3 394 (by decide) (by decide), em' t ht]
              by_cases y : t < k
              · rw [if_pos y]
              · rw [if_neg y, mz t (by omega)]; rfl
            · rw [e8 t ht, if_neg (by omega)]
            · rw [v4 393 (by decide)]; exact eB
            · have := INV_lt f.2.2.2.1 hk inv i
              omega
            · rw [v4 395 (by decide)]; exact et i hi
        · exact ⟨_, g1, g2, k, sp_eq (v103 hw ⟨fun _ => ⟨_, s3, fun q => absurd q hm, fun _ => ⟨fun _ => ⟨fun q => absurd q hz, fun _ => ⟨_, _, s1, rfl, rfl⟩⟩, fun q => absurd hy q⟩⟩, fun q => absurd hx q⟩), w1, sp_eq (v182 w1 ⟨fun _ => ⟨_, t129, fun q => absurd q hm, fun _ => ⟨fun _ => ⟨fun q => absurd q hz, fun _ => ⟨_, _, s2, rfl, rfl⟩⟩, fun q => absurd hy q⟩⟩, fun q => absurd hx q⟩), rr⟩
      · exact ⟨_, g1, g2, k, sp_eq (v103 hw ⟨fun _ => ⟨_, s3, fun q => absurd q hm, fun _ => ⟨fun q => absurd q hy, fun _ => ⟨_, _, s1, rfl, rfl⟩⟩⟩, fun q => absurd hx q⟩), w1, sp_eq (v182 w1 ⟨fun _ => ⟨_, t129, fun q => absurd q hm, fun _ => ⟨fun q => absurd q hy, fun _ => ⟨_, _, s2, rfl, rfl⟩⟩⟩, fun q => absurd hx q⟩), rr⟩
  · exact ⟨_, g1, g2, k, sp_eq (v103 hw ⟨fun q => absurd q hx, fun _ => ⟨_, _, s1, rfl, rfl⟩⟩), w1, sp_eq (v182 w1 ⟨fun q => absurd q hx, fun _ => ⟨_, _, s2, rfl, rfl⟩⟩), rr⟩
