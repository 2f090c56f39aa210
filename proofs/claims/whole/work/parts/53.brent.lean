/-! findLength and findFirst. -/
section BR
variable {L : Nat} {xs : Nat → Int32} {h : Hp} {k : Nat} {R T : Nat → Row}
theorem FM_M {h h' : Hp} (f : FM h h') : MRc h' = MRc h := mtc_R f.2.1
theorem itT_k (R T : Nat → Row) (m n c : Nat) : itT R T m c 0 = itT R T n c 0 := (itT_st R T m c).1.trans (itT_st R T n c).1.symm
theorem c169l {lim : Nat} (hl : lim < 401) (h0 : Hp) (hw0 : HW h0) (hr : RR k R (MRc h0)) (hB : GB k R) (hk : k < 9) (hG : ∀ c, c < 144 → GR k R (T c)) : ∀ (m a len : Nat) (h : Hp), a + len + m = 4 * lim → FM h0 h → PJ k R (itT R T (a + len)) h 1 → PJ k R (itT R T a) h 2 → len ≤ a + 1 → (∀ i, 1 ≤ i → i ≤ len → ¬ EQS (itT R T a) (itT R T (a + i))) → (a = 0 ∨ ∃ p, a = 2 * p + 1 ∧ ∀ i, 1 ≤ i → i ≤ p + 1 → ¬ EQS (itT R T p) (itT R T (p + i))) → WP L xs 169 19 [some (.ref 397), some (.int (nI (4 * lim))), some (.int (nI len)), some (.int (nI (a + 1))), some (.int (nI (a + len)))] [] h (fun r h' => FM h0 h' ∧ ((r = some (.int 0) ∧ ∀ mu la, Cyc (fun i j => EQS (itT R T i) (itT R T j)) mu la → lim < mu + la) ∨ ∃ i, 1 ≤ i ∧ i < 2000 ∧ r = some (.int (nI i)) ∧ ∃ mu, Cyc (fun i j => EQS (itT R T i) (itT R T j)) mu i))
  | 0, a, len, h, hm, f, p1, p2, hlen, no, pr => by
    have hw := IE_w f.1 hw0
    refine v169_19 hw ⟨fun _ => ⟨f, Or.inl ⟨rfl, ?_⟩⟩, fun q => absurd (nI_le (by omega) (by omega)) q⟩
    rcases pr with rfl | ⟨p, e, hp⟩
    · intro mu la c
      have := c.1
      omega
    · exact Brent_n (EQS_ShE hB hk hG) (by omega) hlen e hp
  | m + 1, a, len, h, hm, f, p1, p2, hlen, no, pr => by
    have hw := IE_w f.1 hw0
    have er : RR k R (MRc h) := by rw [FM_M f]; exact hr
    refine v169_19 hw ⟨fun q => absurd q (nI_ge (by omega) (by omega)), fun _ => ⟨fun q => ?_, fun q => ?_⟩⟩
    · have hq : len = a + 1 := nI_inj (by omega) (by omega) q
      subst hq
      obtain ⟨h15, s1, i1, x1, pj1, o1⟩ := c167 (L := L) (xs := xs) (to := 2) (as := 1) (by decide) (by decide) (by decide) hw p1
      have f1 : FM h h15 := FM_cp (by decide) i1 x1 o1
      have p15 : PJ k R (itT R T (a + (a + 1))) h15 1 := PJ_e (fun c j hc hj => o1 1 c j (by decide) hc hj) p1
      obtain ⟨h18, s2, p18, f2, o2⟩ := c162j (L := L) (xs := xs) (b := 1) (by decide) (by decide) (IE_w f1.1 hw) (by rw [FM_M f1]; exact er) hB hk p15
      have q18 : PJ k R (itT R T (a + (a + 1))) h18 2 := PJ_e (fun c j hc hj => o2 2 c j (by decide) hc hj) pj1
      have f18 := FM_t f (FM_t f1 f2)
      have p18 : PJ k R (itT R T (a + (a + 1) + 1)) h18 1 := p18
      obtain ⟨b, s3, eb⟩ := c168 (L := L) (xs := xs) (p := 1) (q := 2) (by decide) (by decide) (IE_w f18.1 hw0) p18 q18 (fun c _ => itT_k R T _ _ c)
      refine ⟨h15, s1, h18, s2, _, s3, fun z => ?_, fun z => ?_⟩
      · rw [b2i_0] at z
        have := c169l hl h0 hw0 hr hB hk hG m (a + (a + 1)) 1 h18 (by omega) f18 p18 q18 (by omega) (fun i h1 h2 e => by
          obtain rfl : i = 1 := by omega
          rw [eb.mpr (fun c hc j h5 hj => (e c hc j h5 hj).symm)] at z
          cases z) (Or.inr ⟨a, by omega, no⟩)
        have e1 : nI (a + 1) * 2 = nI (a + (a + 1) + 1) := by
          show nI (a + 1) * nI 2 = _
          rw [pk_mul]
          exact congrArg nI (by omega)
        rw [e1, nI_1]
        exact this
      · rw [b2i_n] at z
        have e := eb.mp z
        obtain ⟨mu, c⟩ := Brent_f (E := fun i j => EQS (itT R T i) (itT R T j)) (a := a + (a + 1)) (i := 1) (EQS_ShE hB hk hG) (Nat.le_refl _) (fun c hc j h5 hj => (e c hc j h5 hj).symm) (fun i' h1 h2 => by omega)
        exact ⟨f18, Or.inr ⟨1, Nat.le_refl _, by omega, rfl, mu, c⟩⟩
    · have hq : ¬ len = a + 1 := fun e => q (by rw [e])
      obtain ⟨h6, s2, p6, f2, o2⟩ := c162j (L := L) (xs := xs) (b := 1) (by decide) (by decide) hw er hB hk p1
      have q6 : PJ k R (itT R T a) h6 2 := PJ_e (fun c j hc hj => o2 2 c j (by decide) hc hj) p2
      have f6 := FM_t f f2
      have p6 : PJ k R (itT R T (a + (len + 1))) h6 1 := p6
      obtain ⟨b, s3, eb⟩ := c168 (L := L) (xs := xs) (p := 1) (q := 2) (by decide) (by decide) (IE_w f6.1 hw0) p6 q6 (fun c _ => itT_k R T _ _ c)
      refine ⟨h6, s2, _, s3, fun z => ?_, fun z => ?_⟩
      · rw [b2i_0] at z
        rw [nI_1, nI_1]
        refine c169l hl h0 hw0 hr hB hk hG m a (len + 1) h6 (by omega) f6 p6 q6 (by omega) (fun i h1 h2 e => ?_) pr
        by_cases hi : i = len + 1
        · subst hi
          rw [eb.mpr (fun c hc j h5 hj => (e c hc j h5 hj).symm)] at z
          cases z
        · exact no i h1 (by omega) e
      · rw [b2i_n] at z
        have e := eb.mp z
        obtain ⟨mu, c⟩ := Brent_f (E := fun i j => EQS (itT R T i) (itT R T j)) (a := a) (i := len + 1) (EQS_ShE hB hk hG) (by omega) (fun c hc j h5 hj => (e c hc j h5 hj).symm) (fun i' h1 h2 => no i' h1 (by omega))
        rw [nI_1]
        exact ⟨f6, Or.inr ⟨len + 1, by omega, by omega, rfl, mu, c⟩⟩
theorem c169 {lim : Nat} (hl : lim < 401) (hw : HW h) (hr : RR k R (MRc h)) (hB : GB k R) (hk : k < 9) (p : PJ k R T h 0) : ∃ (r : Int32) (h' : Hp), Sp L xs 169 [.ref 397, .int (nI (4 * lim))] h (some (.int r)) h' ∧ FM h h' ∧ ((r = 0 ∧ ∀ mu la, Cyc (fun i j => EQS (itT R T i) (itT R T j)) mu la → lim < mu + la) ∨ ∃ i, 1 ≤ i ∧ i < 2000 ∧ r = nI i ∧ ∃ mu, Cyc (fun i j => EQS (itT R T i) (itT R T j)) mu i) := by
  obtain ⟨h1, s1, i1, x1, pj1, o1⟩ := c167 (L := L) (xs := xs) (to := 1) (as := 0) (by decide) (by decide) (by decide) hw p
  have f1 : FM h h1 := FM_cp (by decide) i1 x1 o1
  obtain ⟨h4, s4, i4, x4, pj4, o4⟩ := c167 (L := L) (xs := xs) (to := 2) (as := 0) (by decide) (by decide) (by decide) (IE_w f1.1 hw) (PJ_e (fun c j hc hj => o1 0 c j (by decide) hc hj) p)
  have f4 : FM h h4 := FM_t f1 (FM_cp (by decide) i4 x4 o4)
  have p1 : PJ k R T h4 1 := PJ_e (fun c j hc hj => o4 1 c j (by decide) hc hj) pj1
  obtain ⟨r, h', t1, t2, t3⟩ := v169 (L := L) (xs := xs) (x := nI (4 * lim)) hw ⟨h1, s1, h4, s4, c169l (L := L) (xs := xs) (k := k) (R := R) (T := T) hl h hw hr hB hk (fun c hc => (p c hc).1) (4 * lim) 0 0 h4 (by omega) f4 p1 pj4 (by omega) (fun i h1 h2 => by omega) (Or.inl rfl)⟩
  rcases t3 with ⟨rfl, t3⟩ | ⟨i, a1, a2, rfl, a3⟩
  · exact ⟨_, h', t1, t2, Or.inl ⟨rfl, t3⟩⟩
  · exact ⟨_, h', t1, t2, Or.inr ⟨i, a1, a2, rfl, a3⟩⟩
theorem c170a {la lim : Nat} (hla : la < 2000) (h0 : Hp) (hw0 : HW h0) (hr : RR k R (MRc h0)) (hB : GB k R) (hk : k < 9) {Q : Option Value → Hp → Prop} (K : ∀ h, FM h0 h → PJ k R T h 1 → PJ k R (itT R T la) h 2 → WP L xs 170 32 [some (.ref 397), some (.int (nI la)), some (.int (nI lim)), some (.int 0)] [] h Q) : ∀ (m n : Nat) (h : Hp), n + m = la → FM h0 h → PJ k R T h 1 → PJ k R (itT R T n) h 2 → WP L xs 170 14 [some (.ref 397), some (.int (nI la)), some (.int (nI lim)), some (.int (nI n))] [] h Q
  | 0, n, h, hn, f, p1, p2 => by
    obtain rfl : n = la := by omega
    exact v170_14 (IE_w f.1 hw0) ⟨fun _ => K h f p1 p2, fun q => absurd (nI_le (Nat.le_refl _) (by omega)) q⟩
  | m + 1, n, h, hn, f, p1, p2 => by
    obtain ⟨h4, s2, p4, f2, o2⟩ := c162j (L := L) (xs := xs) (b := 2) (by decide) (by decide) (IE_w f.1 hw0) (by rw [FM_M f]; exact hr) hB hk p2
    refine v170_14 (IE_w f.1 hw0) ⟨fun q => absurd q (nI_ge (by omega) (by omega)), fun _ => ⟨h4, s2, ?_⟩⟩
    rw [nI_1]
    exact c170a hla h0 hw0 hr hB hk K m (n + 1) h4 (by omega) (FM_t f f2) (PJ_e (fun c j hc hj => o2 1 c j (by decide) hc hj) p1) p4
theorem c170b {la lim : Nat} (hla : la < 2000) (hlim : lim < 401) (h0 : Hp) (hw0 : HW h0) (hr : RR k R (MRc h0)) (hB : GB k R) (hk : k < 9) : ∀ (m f : Nat) (h : Hp) (z : Option Value), f + m = lim + 1 → FM h0 h → PJ k R (itT R T f) h 1 → PJ k R (itT R T (f + la)) h 2 → (∀ f', f' < f → ¬ EQS (itT R T f') (itT R T (f' + la))) → WP L xs 170 32 [some (.ref 397), z, some (.int (nI lim)), some (.int (nI f))] [] h (fun r h' => FM h0 h' ∧ ∃ f, f ≤ lim + 1 ∧ r = some (.int (nI f)) ∧ (∀ f', f' < f → ¬ EQS (itT R T f') (itT R T (f' + la))) ∧ ((EQS (itT R T f) (itT R T (f + la)) ∧ PJ k R (itT R T f) h' 1) ∨ f = lim + 1))
  | 0, f, h, z, hn, fm, p1, p2, no => by
    obtain rfl : f = lim + 1 := by omega
    obtain ⟨b, s3, eb⟩ := c168 (L := L) (xs := xs) (p := 1) (q := 2) (by decide) (by decide) (IE_w fm.1 hw0) p1 p2 (fun c _ => itT_k R T _ _ c)
    exact v170_32 (IE_w fm.1 hw0) ⟨_, s3, fun _ => ⟨fun _ => ⟨fm, lim + 1, Nat.le_refl _, rfl, no, Or.inr rfl⟩, fun q => absurd (nI_lt (by omega) (by omega)) q⟩, fun _ => ⟨fm, lim + 1, Nat.le_refl _, rfl, no, Or.inr rfl⟩⟩
  | m + 1, f, h, z, hn, fm, p1, p2, no => by
    have hw := IE_w fm.1 hw0
    obtain ⟨b, s3, eb⟩ := c168 (L := L) (xs := xs) (p := 1) (q := 2) (by decide) (by decide) hw p1 p2 (fun c _ => itT_k R T _ _ c)
    have er : RR k R (MRc h) := by rw [FM_M fm]; exact hr
    obtain ⟨h9, s9, p9, f9, o9⟩ := c162j (L := L) (xs := xs) (b := 1) (by decide) (by decide) hw er hB hk p1
    have q9 : PJ k R (itT R T (f + la)) h9 2 := PJ_e (fun c j hc hj => o9 2 c j (by decide) hc hj) p2
    obtain ⟨h12, s12, p12, f12, o12⟩ := c162j (L := L) (xs := xs) (b := 2) (by decide) (by decide) (IE_w f9.1 hw) (by rw [FM_M f9]; exact er) hB hk q9
    have r12 : PJ k R (itT R T (f + 1)) h12 1 := PJ_e (h := h9) (fun c j hc hj => o12 1 c j (by decide) hc hj) p9
    have t12 : PJ k R (itT R T (f + 1 + la)) h12 2 := by
      rw [show f + 1 + la = f + la + 1 by omega]
      exact p12
    refine v170_32 hw ⟨_, s3, fun y => ⟨fun q => absurd q (nI_nlt (by omega) (by omega)), fun _ => ⟨h9, s9, h12, s12, ?_⟩⟩, fun y => ⟨fm, f, by omega, rfl, no, Or.inl ⟨?_, p1⟩⟩⟩
    · rw [nI_1]
      rw [b2i_0] at y
      refine c170b hla hlim h0 hw0 hr hB hk m (f + 1) h12 z (by omega) (FM_t fm (FM_t f9 f12)) r12 t12 (fun f' hf' e => ?_)
      by_cases q : f' = f
      · subst q
        rw [eb.mpr e] at y
        cases y
      · exact no f' (by omega) e
    · rw [b2i_n] at y
      exact eb.mp y
theorem c170 {la lim : Nat} (hla : la < 2000) (hlim : lim < 401) (hw : HW h) (hr : RR k R (MRc h)) (hB : GB k R) (hk : k < 9) (p : PJ k R T h 0) : ∃ (f : Nat) (h' : Hp), Sp L xs 170 [.ref 397, .int (nI la), .int (nI lim)] h (some (.int (nI f))) h' ∧ FM h h' ∧ f ≤ lim + 1 ∧ (∀ f', f' < f → ¬ EQS (itT R T f') (itT R T (f' + la))) ∧ ((EQS (itT R T f) (itT R T (f + la)) ∧ PJ k R (itT R T f) h' 1) ∨ f = lim + 1) := by
  obtain ⟨h1, s1, i1, x1, pj1, o1⟩ := c167 (L := L) (xs := xs) (to := 1) (as := 0) (by decide) (by decide) (by decide) hw p
  have f1 : FM h h1 := FM_cp (by decide) i1 x1 o1
  obtain ⟨h4, s4, i4, x4, pj4, o4⟩ := c167 (L := L) (xs := xs) (to := 2) (as := 0) (by decide) (by decide) (by decide) (IE_w f1.1 hw) (PJ_e (fun c j hc hj => o1 0 c j (by decide) hc hj) p)
  have f4 : FM h h4 := FM_t f1 (FM_cp (by decide) i4 x4 o4)
  have p1 : PJ k R T h4 1 := PJ_e (fun c j hc hj => o4 1 c j (by decide) hc hj) pj1
  have key := c170a (L := L) (xs := xs) (k := k) (R := R) (T := T) (la := la) (lim := lim) hla h hw hr hB hk (fun h5 f5 q1 q2 => c170b (L := L) (xs := xs) (k := k) (R := R) (T := T) hla hlim h hw hr hB hk (lim + 1) 0 h5 (some (.int (nI la))) (by omega) f5 q1 (by rw [Nat.zero_add]; exact q2) (fun f' hf' => absurd hf' (Nat.not_lt_zero _))) la 0 h4 (by omega) f4 p1 pj4
  obtain ⟨r, h', t1, t2, f, t3, rfl, t4⟩ := v170 (L := L) (xs := xs) (x := nI la) (y := nI lim) hw ⟨h1, s1, h4, s4, key⟩
  exact ⟨f, h', t1, t2, t3, t4⟩
end BR
