/-! seek: found, or nothing comes again in time. -/
/-- what the class's search may change -/
def FT (h h' : Hp) : Prop := h'.1 = h.1 ∧ HW h' ∧ (∀ a, ¬ (235 ≤ a ∧ a < 390) → gI h' a = gI h a ∧ ∀ j, gR h' a j = gR h a j) ∧ (∀ a, ¬ a = 236 → ¬ a = 237 → gL h' a = gL h a)
theorem FT_r {h : Hp} (w : HW h) : FT h h := ⟨rfl, w, fun _ _ => ⟨rfl, fun _ => rfl⟩, fun _ _ _ => rfl⟩
theorem FT_t {a b c : Hp} (h1 : FT a b) (h2 : FT b c) : FT a c := ⟨h2.1.trans h1.1, h2.2.1, fun x hx => ⟨(h2.2.2.1 x hx).1.trans (h1.2.2.1 x hx).1, fun j => ((h2.2.2.1 x hx).2 j).trans ((h1.2.2.1 x hx).2 j)⟩, fun x h6 h7 => (h2.2.2.2 x h6 h7).trans (h1.2.2.2 x h6 h7)⟩
theorem FT_s {h h' : Hp} {a k : Nat} {v : Int32} (f : FT h h') (ha : 235 ≤ a ∧ a < 390) : FT h (sI h' a k v) := by
  refine FT_t f ⟨rfl, HW_sI f.2.1, fun x hx => ⟨gIo (by omega), fun _ => rfl⟩, fun _ _ _ => rfl⟩
theorem FT_i {h h' : Hp} {P : Nat → Prop} (w : HW h) (e : IE h h') (s : SX h h' P) (hP : ∀ a, P a → 235 ≤ a ∧ a < 390) : FT h h' := ⟨e.1, IE_w e w, fun a ha => ⟨s a (fun q => ha (hP a q)), fun j => by rw [e.2.2]⟩, fun a _ _ => by rw [e.2.1]⟩
theorem FT_R {h h' : Hp} (f : FT h h') : RC h' = RC h := by
  funext r
  exact (f.2.2.1 (444 + r) (by omega)).1
/-- the ghost's rows are A -/
def GH (h : Hp) (k : Nat) (R A : Nat → Row) : Prop := ∀ c, c < 144 → gI h (246 + c) = A c ∧ LR h (246 + c) ∧ GR k R (A c)
section S2
variable {L : Nat} {xs : Nat → Int32} {h : Hp} {k : Nat} {R T : Nat → Row}
theorem LR_g {h h' : Hp} {p : Nat} (n : h'.1 = h.1) (hg : gI h' p = gI h p) (hr : gR h' p 4 = gR h p 4) (l : LR h p) : LR h' p := by
  unfold LR
  rw [n, hg, hr]
  exact l
theorem c5l {lim : Nat} (hl : lim < 401) (h0 : Hp) (hR : RC h0 = R) (hB : GB k R) (hk : k < 9) (hG : ∀ c, c < 144 → GR k R (T c)) : ∀ (m t : Nat) (h : Hp) (z1 z4 : Option Value), t + m = lim + 1 → 1 ≤ t → FT h0 h → GH h k R (itT R T (t - 1)) → STM h (itT R T) (t - 1) → (∀ i j, i < j → j < t → ¬ EQS (itT R T i) (itT R T j)) → gI h 235 5 = 0 → WP L xs 5 20 [some (.ref 235), z1, some (.int (nI lim)), some (.int (nI t)), z4] [] h (fun r h' => FT h0 h' ∧ ((r = some (.int 1) ∧ ∃ mu la, Cyc (fun i j => EQS (itT R T i) (itT R T j)) mu la ∧ mu + la ≤ lim ∧ gI h' 235 5 = 1 ∧ gI h' 235 6 = nI mu ∧ gI h' 235 7 = nI la ∧ GH h' k R (itT R T (mu + la))) ∨ (r = some (.int 0) ∧ gI h' 235 5 = 0 ∧ ∀ i j, i < j → j ≤ lim → ¬ EQS (itT R T i) (itT R T j))))
  | 0, t, h, z1, z4, ht, h1, f, g, s, no, hf => by
    obtain rfl : t = lim + 1 := by omega
    refine v5_20 f.2.1 ⟨fun _ => ⟨by rw [hf]; rfl, f, Or.inr ⟨by rw [hf], hf, fun i j hij hj => no i j hij (by omega)⟩⟩, fun q => absurd (nI_lt (by omega) (by omega)) q⟩
  | m + 1, t, h, z1, z4, ht, h1, f, g, s, no, hf => by
    have htl : t ≤ lim := by omega
    have n1 : ¬ nI lim < nI t := nI_nlt htl (by omega)
    have eR : RC h = R := (FT_R f).trans hR
    obtain ⟨h9, p1, p2, p3, p4, p5, p6⟩ := c16x (L := L) (xs := xs) FL_240 f.2.1 eR hB hk g
    have f9 : FT h h9 := FT_i f.2.1 p2 p3 (fun a q => by unfold tch at q; omega)
    have e9 : itT R T t = stp R (itT R T (t - 1)) := by
      have : t = (t - 1) + 1 := by omega
      rw [this]
      rfl
    obtain ⟨h13, q1, q2, q3, q4, q5, q6, q7⟩ := c6 (L := L) (xs := xs) (A := itT R T t) (t := t) (by omega) f9.2.1 (fun c hc => ⟨by rw [e9]; exact (p4 c hc).1, GR_SM hB (itT_G hB hk hG t c hc)⟩)
    have w13 : HW h13 := HW_of f9.2.1 q2 q4
    have f13 : FT h9 h13 := ⟨q2, w13, fun a _ => ⟨by rw [q3], fun j => by rw [q4]⟩, q5⟩
    have g13 : GH h13 k R (itT R T t) := by
      intro c hc
      have := p4 c hc
      rw [e9]
      exact ⟨by rw [q3]; exact this.1, LR_g q2 (by rw [q3]) (by rw [q4]) this.2.1, this.2.2⟩
    have s13 : STM h13 (itT R T) t := by
      intro u hu
      by_cases e : u = t
      · subst e
        refine ⟨fun c hc => ⟨?_, GR_SM hB (itT_G hB hk hG u c hc)⟩, ?_⟩
        · rw [q6, if_pos (by omega), Nat.add_sub_cancel_left]
        · rw [q7, if_pos rfl]
      · obtain ⟨s1, s2⟩ := s u (by omega)
        have l9 : gL h9 = gL h := p2.2.1
        refine ⟨fun c hc => ⟨?_, (s1 c hc).2⟩, ?_⟩
        · rw [q6, if_neg (by omega), l9]
          exact (s1 c hc).1
        · rw [q7, if_neg e, l9]
          exact s2
    obtain ⟨r17, u1, u2⟩ := c7 (L := L) (xs := xs) (A := itT R T) (t := t) (by omega) w13 s13
    have hf13 : gI h13 235 5 = 0 := by
      rw [q3, p3 235 (by unfold tch; omega)]
      exact hf
    refine v5_20 f.2.1 ⟨fun q => absurd q n1, fun _ => ⟨fun _ => ⟨_, h9, p1, h13, q1, r17, u1, fun q => ?_, fun q => ?_⟩, fun q => absurd hf q⟩⟩
    · rw [nI_1]
      refine c5l hl h0 hR hB hk hG m (t + 1) h13 z1 _ (by omega) (by omega) (FT_t f (FT_t f9 f13)) g13 s13 (fun i j hij hj => ?_) hf13
      by_cases e : j = t
      · subst e
        rcases u2 with ⟨-, u2⟩ | ⟨u, hu, e2, -⟩
        · exact u2 i hij
        · exact absurd (e2.symm.trans q) (nI_m1 (by omega))
      · exact no i j hij (by omega)
    · rcases u2 with ⟨e2, -⟩ | ⟨u, hu, e2, e3⟩
      · exact absurd e2 q
      · subst e2
        have hcyc := Cyc_of (E := fun i j => EQS (itT R T i) (itT R T j)) hu e3 (fun i j hij hj => no i j hij hj)
        have hfin : FT h0 (sI (sI (sI h13 235 5 1) 235 6 (nI u)) 235 7 (nI t - nI u)) := FT_s (FT_s (FT_s (FT_t f (FT_t f9 f13)) (by omega)) (by omega)) (by omega)
        have hQ : ∀ r, r = some (Value.int (gI (sI (sI (sI h13 235 5 1) 235 6 (nI u)) 235 7 (nI t - nI u)) 235 5)) → (FT h0 (sI (sI (sI h13 235 5 1) 235 6 (nI u)) 235 7 (nI t - nI u)) ∧ ((r = some (.int 1) ∧ ∃ mu la, Cyc (fun i j => EQS (itT R T i) (itT R T j)) mu la ∧ mu + la ≤ lim ∧ gI (sI (sI (sI h13 235 5 1) 235 6 (nI u)) 235 7 (nI t - nI u)) 235 5 = 1 ∧ gI (sI (sI (sI h13 235 5 1) 235 6 (nI u)) 235 7 (nI t - nI u)) 235 6 = nI mu ∧ gI (sI (sI (sI h13 235 5 1) 235 6 (nI u)) 235 7 (nI t - nI u)) 235 7 = nI la ∧ GH (sI (sI (sI h13 235 5 1) 235 6 (nI u)) 235 7 (nI t - nI u)) k R (itT R T (mu + la))) ∨ (r = some (.int 0) ∧ gI (sI (sI (sI h13 235 5 1) 235 6 (nI u)) 235 7 (nI t - nI u)) 235 5 = 0 ∧ ∀ i j, i < j → j ≤ lim → ¬ EQS (itT R T i) (itT R T j)))) := by
          have e5 : gI (sI (sI (sI h13 235 5 1) 235 6 (nI u)) 235 7 (nI t - nI u)) 235 5 = 1 := by
            rw [gIs, up_o (by decide), gIs, up_o (by decide), gIs, up_s]
          intro r er
          rw [e5] at er
          refine ⟨hfin, Or.inl ⟨er, u, t - u, hcyc, by omega, e5, ?_, ?_, fun c hc => ?_⟩⟩
          · rw [gIs, up_o (by decide), gIs, up_s]
          · rw [gIs, up_s, pk_sub (by omega)]
          · rw [show u + (t - u) = t by omega]
            have := g13 c hc
            have e : gI (sI (sI (sI h13 235 5 1) 235 6 (nI u)) 235 7 (nI t - nI u)) (246 + c) = gI h13 (246 + c) := by rw [gIo (by omega), gIo (by omega), gIo (by omega)]
            exact ⟨e.trans this.1, LR_g (h := h13) rfl e rfl this.2.1, this.2.2⟩
        have e5 : gI (sI (sI (sI h13 235 5 1) 235 6 (nI u)) 235 7 (nI t - nI u)) 235 5 = 1 := by
          rw [gIs, up_o (by decide), gIs, up_o (by decide), gIs, up_s]
        exact v5_20 hfin.2.1 ⟨fun _ => ⟨by rw [e5]; rfl, hQ _ rfl⟩, fun _ => ⟨fun q => absurd (e5.symm.trans q) (by decide), fun _ => ⟨by rw [e5]; rfl, hQ _ rfl⟩⟩⟩
/-- the table that the search begins with -/
def tbG (h : Hp) : Nat → Row := fun c => cpR (gI h (10 + c)) (gI h (246 + c))
theorem c5 {lim : Nat} (hl : lim < 401) (hw : HW h) (hR : RC h = R) (hB : GB k R) (hk : k < 9) (hG : ∀ c, c < 144 → LR h (10 + c) ∧ GR k R (gI h (10 + c))) : ∃ (r : Int32) (h' : Hp), Sp L xs 5 [.ref 235, .ref 4, .int (nI lim)] h (some (.int r)) h' ∧ FT h h' ∧ ((r = 1 ∧ ∃ mu la, Cyc (fun i j => EQS (itT R (tbG h) i) (itT R (tbG h) j)) mu la ∧ mu + la ≤ lim ∧ gI h' 235 5 = 1 ∧ gI h' 235 6 = nI mu ∧ gI h' 235 7 = nI la ∧ GH h' k R (itT R (tbG h) (mu + la))) ∨ (r = 0 ∧ gI h' 235 5 = 0 ∧ ∀ i j, i < j → j ≤ lim → ¬ EQS (itT R (tbG h) i) (itT R (tbG h) j))) := by
  have hGT : ∀ c, c < 144 → GR k R (tbG h c) := fun c hc => GR_c (fun j hj h4 => by unfold tbG cpR; rw [if_pos ⟨by omega, h4⟩]) (hG c hc).2
  obtain ⟨h1, s1, w1, n1, l1, o1, c1⟩ := c15 (L := L) (xs := xs) hw (fun c hc => (hG c hc).2)
  have f1 : FT h h1 := ⟨n1, w1, fun a ha => o1 a (by omega), fun a _ _ => by rw [l1]⟩
  have g1 : GH h1 k R (tbG h) := by
    intro c hc
    refine ⟨(c1 c hc).1, ?_, hGT c hc⟩
    have e0 : tbG h c 0 = gI h (10 + c) 0 := rfl
    have e2 : tbG h c 2 = gI h (10 + c) 2 := rfl
    have l := (hG c hc).1
    unfold LR at l ⊢
    rw [(c1 c hc).1, (c1 c hc).2, n1]
    show (tbG h c 0 = 6 → _ = some (444 + (tbG h c 2).toNatClampNeg) ∧ 444 + (tbG h c 2).toNatClampNeg < _) ∧ (¬ tbG h c 0 = 6 → _)
    rw [e0, e2]
    exact l
  have f2 : FT h (sI h1 235 5 0) := FT_s f1 (by omega)
  have g2 : ∀ c, c < 144 → gI (sI h1 235 5 0) (246 + c) = tbG h c ∧ SMx (tbG h c) := fun c hc => ⟨by rw [gIo (by omega)]; exact (g1 c hc).1, GR_SM hB (hGT c hc)⟩
  obtain ⟨h5, q1, q2, q3, q4, q5, q6, q7⟩ := c6 (L := L) (xs := xs) (A := tbG h) (t := 0) (by decide) f2.2.1 g2
  have f5 : FT (sI h1 235 5 0) h5 := ⟨q2, HW_of f2.2.1 q2 q4, fun a _ => ⟨by rw [q3], fun j => by rw [q4]⟩, q5⟩
  have key := c5l (L := L) (xs := xs) (k := k) (T := tbG h) hl h hR hB hk hGT lim 1 h5 (some (.ref 4)) none (by omega) (Nat.le_refl _) (FT_t f2 f5) (fun c hc => ⟨by rw [q3]; exact (g2 c hc).1, LR_g (h := h1) q2 (by rw [q3, gIo (by omega)]) (by rw [q4]; rfl) (g1 c hc).2.1, hGT c hc⟩) (fun m hm => by
    obtain rfl : m = 0 := by omega
    refine ⟨fun c hc => ⟨?_, (g2 c hc).2⟩, ?_⟩
    · rw [q6, if_pos (by omega), Nat.add_sub_cancel_left]
      rfl
    · rw [q7, if_pos rfl]
      rfl) (fun i j hij hj => by omega) (by rw [q3, gIs, up_s])
  obtain ⟨r, h', t1, t2, t3⟩ := v5 (L := L) (xs := xs) hw ⟨h1, s1, h5, q1, key⟩
  rcases t3 with ⟨rfl, t3⟩ | ⟨rfl, t3⟩
  · exact ⟨1, h', t1, t2, Or.inl ⟨rfl, t3⟩⟩
  · exact ⟨0, h', t1, t2, Or.inr ⟨rfl, t3⟩⟩
end S2
