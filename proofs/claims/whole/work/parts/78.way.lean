/-! The way that is laid. -/
def LSt (P : Nat → Prop) (s : Nat) : Prop := s < 4 ∧ P s ∧ ∀ t, t < s → ¬ P t
theorem LSt_ex {P : Nat → Prop} (h : ∃ s, s < 4 ∧ P s) : ∃ s, LSt P s := by
  by_cases p0 : P 0
  · exact ⟨0, by decide, p0, fun t ht => absurd ht (Nat.not_lt_zero t)⟩
  by_cases p1 : P 1
  · refine ⟨1, by decide, p1, fun t ht => ?_⟩
    obtain rfl : t = 0 := by omega
    exact p0
  by_cases p2 : P 2
  · refine ⟨2, by decide, p2, fun t ht => ?_⟩
    rcases (show t = 0 ∨ t = 1 by omega) with rfl | rfl
    · exact p0
    · exact p1
  obtain ⟨s, hs, ps⟩ := h
  rcases (show s = 0 ∨ s = 1 ∨ s = 2 ∨ s = 3 by omega) with rfl | rfl | rfl | rfl
  · exact absurd ps p0
  · exact absurd ps p1
  · exact absurd ps p2
  · refine ⟨3, by decide, ps, fun t ht => ?_⟩
    rcases (show t = 0 ∨ t = 1 ∨ t = 2 by omega) with rfl | rfl | rfl
    · exact p0
    · exact p1
    · exact p2
theorem LSt_at {P : Nat → Prop} {s t : Nat} (l : LSt P s) (ht : t ≤ s) (p : P t) : t = s := by
  apply Decidable.byContradiction
  intro y
  exact l.2.2 t (by omega) p
theorem nb_sym : ∀ c, c < 144 → ∀ s, s < 4 → ∀ k, nb c s = some k → nb k ((s + 2) % 4) = some c := by
  have : ∀ c, c < 144 → ∀ s, s < 4 → (match nb c s with | none => true | some k => decide (nb k ((s + 2) % 4) = some c)) = true := by decide +kernel
  intro c hc s hs k e
  have := this c hc s hs
  rw [e] at this
  exact of_decide_eq_true this
theorem op2 : ∀ s, s < 4 → ((s + 2) % 4 + 2) % 4 = s ∧ (s + 2) % 4 < 4 := by decide
/-- the side by which a shortest way goes on from c, m belts being wanted behind it; k lies there -/
def SDP (T : Nat → Row) (z c m s k : Nat) : Prop := LSt (fun s => (m = 0 → nb c s = some z) ∧ (¬ m = 0 → ∃ k, nb c s = some k ∧ DF T z k = m)) s ∧ nb c s = some k ∧ (m = 0 → k = z ∧ ldT (T z) (nI ((s + 2) % 4)) = false) ∧ (¬ m = 0 → DF T z k = m)
def WAY (T : Nat → Row) (z : Nat) : Nat → Nat → (Nat → Option Q4) → (Nat → Option Q4) → Prop
  | 0, _, P, P' => P' = P
  | m + 1, c, P, P' => ∃ s k, SDP T z c m s k ∧ WAY T z m k (upP P c (some (1, nI s, 0, 0))) P'
section WY
variable {L : Nat} {xs : Nat → Int32} {h h0 : Hp} {z a s n k c m t : Nat} {T : Nat → Row} {D : Nat → Nat}
theorem SDP_ex (ok : ∀ k, k < 144 → DOk T z k (DF T z k)) (hc : c < 144) (hz : z < 144) (e : DF T z c = m + 1) : ∃ s k, SDP T z c m s k := by
  have ds : DS T z c (m + 1) := by
    rcases ok c hc with ⟨q, -⟩ | ⟨-, q⟩
    · omega
    · rw [e] at q; exact q
  obtain ⟨⟨-, bare, way⟩, least⟩ := ds
  by_cases m0 : m = 0
  · subst m0
    have at1 : atT T z c := by
      rcases way with w | ⟨j, w, -⟩
      · exact w
      · exact absurd w (fun q => q)
    obtain ⟨s', hs', hn, hl⟩ := at1
    have hn2 := nb_sym z hz s' hs' c hn
    obtain ⟨s, ls⟩ := LSt_ex (P := fun s => ((0 : Nat) = 0 → nb c s = some z) ∧ (¬ (0 : Nat) = 0 → ∃ k, nb c s = some k ∧ DF T z k = 0)) ⟨(s' + 2) % 4, (op2 s' hs').2, fun _ => hn2, fun q => absurd rfl q⟩
    have hs := ls.2.1.1 rfl
    have es : s = (s' + 2) % 4 := nb_inj c hc s ls.1 _ (op2 s' hs').2 z hs hn2
    refine ⟨s, z, ls, hs, fun _ => ⟨rfl, ?_⟩, fun q => absurd rfl q⟩
    rw [es, (op2 s' hs').1]
    exact hl
  · have : ∃ j, rch T z m j ∧ nxC j c := by
      rcases way with w | w
      · exact absurd ⟨hc, bare, Or.inl w⟩ (least 1 (by omega))
      · exact w
    obtain ⟨j, hj, s', hs', hn⟩ := this
    have j144 := (rch_b hj).1
    have dj : DF T z j = m := by
      refine (DF_v (Or.inr ⟨m0, hj, fun i hi w => ?_⟩)).symm
      exact least (i + 1) (by omega) ⟨hc, bare, Or.inr ⟨j, w, s', hs', hn⟩⟩
    have hn2 := nb_sym j j144 s' hs' c hn
    obtain ⟨s, ls⟩ := LSt_ex (P := fun s => (m = 0 → nb c s = some z) ∧ (¬ m = 0 → ∃ k, nb c s = some k ∧ DF T z k = m)) ⟨(s' + 2) % 4, (op2 s' hs').2, fun q => absurd q m0, fun _ => ⟨j, hn2, dj⟩⟩
    obtain ⟨k, hk, dk⟩ := ls.2.1.2 m0
    exact ⟨s, k, ls, hk, fun q => absurd q m0, fun _ => dk⟩
theorem WAY_ex (ok : ∀ k, k < 144 → DOk T z k (DF T z k)) (hz : z < 144) : ∀ (n c : Nat) (P : Nat → Option Q4), (¬ n = 0 → c < 144 ∧ DF T z c = n) → ∃ P', WAY T z n c P P'
  | 0, _, P, _ => ⟨P, rfl⟩
  | m + 1, c, P, hc => by
    obtain ⟨hc, e⟩ := hc (by omega)
    obtain ⟨s, k, w⟩ := SDP_ex ok hc hz e
    obtain ⟨P', w'⟩ := WAY_ex ok hz m k (upP P c (some (1, nI s, 0, 0))) (fun q => ⟨nb_144 c hc s w.1.1 k w.2.1, w.2.2.2 q⟩)
    exact ⟨P', s, k, w, w'⟩
theorem WAY_some {G : Q4 → Prop} (g : ∀ s, s < 4 → G (1, nI s, 0, 0)) : ∀ (n c : Nat) (P P' : Nat → Option Q4), WAY T z n c P P' → (∀ j q, P j = some q → G q) → ∀ j q, P' j = some q → G q
  | 0, _, P, P', w, gp, j, q, e => by
    have w : P' = P := w
    rw [w] at e
    exact gp j q e
  | m + 1, c, P, P', w, gp, j, q, e => by
    obtain ⟨s, k, w1, w2⟩ := w
    refine WAY_some g m k _ P' w2 (fun j q e => ?_) j q e
    unfold upP at e
    by_cases y : j = c
    · rw [if_pos y] at e
      injection e with e
      rw [← e]
      exact g s w1.1.1
    · rw [if_neg y] at e
      exact gp j q e
theorem bsT_ex {D : Nat → Nat} : ∀ m, ¬ bsT T D a m = 0 → ∃ s, s < m ∧ gdN D (goS T a s) = bsT T D a m
  | 0, h => absurd rfl h
  | m + 1, h => by
    rw [bsT_s] at h ⊢
    have ih := bsT_ex (D := D) m
    generalize bsT T D a m = b at *
    unfold bsn at h ⊢
    by_cases g0 : gdN D (goS T a m) = 0
    · rw [if_pos g0] at h ⊢
      obtain ⟨s, hs, e⟩ := ih h
      exact ⟨s, by omega, e⟩
    · rw [if_neg g0] at h ⊢
      by_cases b0 : b = 0
      · rw [if_pos b0]
        exact ⟨m, by omega, rfl⟩
      · rw [if_neg b0] at h ⊢
        by_cases l : gdN D (goS T a m) < b
        · rw [if_pos l]
          exact ⟨m, by omega, rfl⟩
        · rw [if_neg l]
          obtain ⟨s, hs, e⟩ := ih b0
          exact ⟨s, by omega, e⟩
/-- the first side by which a shortest way leaves -/
def FSP (T : Nat → Row) (D : Nat → Nat) (a n s k : Nat) : Prop := LSt (fun s => ∃ k, goS T a s = some k ∧ D k = n) s ∧ goS T a s = some k ∧ D k = n
theorem FSP_ex {D : Nat → Nat} (h : ¬ bsT T D a 4 = 0) : ∃ s k, FSP T D a (bsT T D a 4) s k := by
  obtain ⟨s, hs, e⟩ := bsT_ex 4 h
  have : ∃ k, goS T a s = some k ∧ D k = bsT T D a 4 := by
    cases g : goS T a s with
    | none => rw [g] at e; exact absurd e.symm h
    | some k => rw [g] at e; exact ⟨k, rfl, e⟩
  obtain ⟨s', ls⟩ := LSt_ex (P := fun s => ∃ k, goS T a s = some k ∧ D k = bsT T D a 4) ⟨s, hs, this⟩
  obtain ⟨k, e1, e2⟩ := ls.2.1
  exact ⟨s', k, ls, e1, e2⟩
/-- the class: the first cell of the way -/
theorem c73l (hw : HW h) (ft : flE T h) (hD : ∀ k, k < 144 → gI h 391 k = nI (D k)) (hD2 : ∀ k, k < 144 → D k ≤ 144) (ha : a < 144) (n1 : ¬ n = 0) (n2 : n ≤ 144) (F : FSP T D a n s k) : ∀ (m t : Nat), t + m = s → WP L xs 73 3 [some (.ref 390), some (.ref 4), some (.int (nI a)), some (.int (nI n)), some (.int (nI t))] [] h (fun r h' => r = some (.int (nI k)) ∧ h' = h)
  | 0, t, ht => by
    obtain rfl : t = s := by omega
    obtain ⟨ls, g, e⟩ := F
    have s69 := c69 (L := L) (xs := xs) hw ft hD ha ls.1
    rw [g] at s69
    have e2 : gdN D (some k) = n := e
    rw [e2] at s69
    have nn := (nbr_all a ha t ls.1).1
    rw [(goS_nb g).2] at nn
    exact v73_3 hw ⟨fun q => absurd q (nI_ge ls.1 (by decide)), fun _ => ⟨_, s69, fun _ => ⟨by rw [nn], rfl⟩, fun q => absurd rfl q⟩⟩
  | m + 1, t, ht => by
    have ls := F.1
    have t4 : t < 4 := by have := ls.1; omega
    have s69 := c69 (L := L) (xs := xs) hw ft hD ha t4
    have g4 := gdN_le (T := T) hD2 ha t4
    refine v73_3 hw ⟨fun q => absurd q (nI_ge t4 (by decide)), fun _ => ⟨_, s69, fun q => ?_, fun _ => ?_⟩⟩
    · exfalso
      have e := nI_inj (by omega) (by omega) q
      refine ls.2.2 t (by omega) ?_
      cases g : goS T a t with
      | none => rw [g] at e; exact absurd e.symm n1
      | some k' => rw [g] at e; exact ⟨k', g, e⟩
    · rw [nI_1]
      exact c73l hw ft hD hD2 ha n1 n2 F m (t + 1) (by omega)
theorem c73 (hw : HW h) (ft : flE T h) (hD : ∀ k, k < 144 → gI h 391 k = nI (D k)) (hD2 : ∀ k, k < 144 → D k ≤ 144) (ha : a < 144) (n1 : ¬ n = 0) (n2 : n ≤ 144) (F : FSP T D a n s k) : Sp L xs 73 [.ref 390, .ref 4, .int (nI a), .int (nI n)] h (some (.int (nI k))) h :=
  sp_eq (v73 hw (c73l hw ft hD hD2 ha n1 n2 F s 0 (by omega)))
theorem c73x (hw : HW h) (ha : a < 144) {y : Int32} : ∀ (m t : Nat), t + m = 4 → WP L xs 73 3 [some (.ref 390), some (.ref 4), some (.int (nI a)), some (.int y), some (.int (nI t))] [] h (fun r h' => h' = h ∧ ∃ v, r = some (.int v))
  | 0, t, ht => by
    obtain rfl : t = 4 := by omega
    exact v73_3 hw ⟨fun _ => ⟨rfl, _, rfl⟩, fun q => absurd (nI_le (Nat.le_refl 4) (by decide)) q⟩
  | m + 1, t, ht => by
    have t4 : t < 4 := by omega
    have nn := (nbr_all a ha t t4).1
    have : ∃ v, Sp L xs 69 [.ref 390, .ref 4, .int (nI a), .int (nI t)] h (some (.int v)) h := by
      obtain ⟨r, h', s1, rfl, v, rfl⟩ := v69 (L := L) (xs := xs) (Q := fun r h' => h' = h ∧ ∃ v, r = some (.int v)) (y := nI a) (z := nI t) hw ⟨a, rfl, ha, _, c29 hw (PT_4 ha), fun _ => ⟨rfl, _, rfl⟩, fun _ => ⟨fun _ => ⟨rfl, _, rfl⟩, fun q => by
        cases hb : nb a t with
        | none => rw [hb] at nn; exact absurd nn q
        | some k => rw [hb] at nn; exact ⟨k, nn, nb_144 a ha t t4 k hb, rfl, _, rfl⟩⟩⟩
      exact ⟨v, s1⟩
    obtain ⟨v, s69⟩ := this
    refine v73_3 hw ⟨fun q => absurd q (nI_ge t4 (by decide)), fun _ => ⟨_, s69, fun _ => ⟨rfl, _, rfl⟩, fun _ => ?_⟩⟩
    rw [nI_1]
    exact c73x hw ha m (t + 1) (by omega)
theorem c74l (hw : HW h) (hc : c < 144) (hz : z < 144) (ls : LSt (fun s => nb c s = some z) s) {z0 : Option Value} : ∀ (m t : Nat), t + m = s → WP L xs 74 2 [z0, some (.int (nI c)), some (.int (nI z)), some (.int (nI t))] [] h (fun r h' => r = some (.int (nI s)) ∧ h' = h)
  | 0, t, ht => by
    obtain rfl : t = s := by omega
    have nn := (nbr_all c hc t ls.1).1
    have e : nb c t = some z := ls.2.1
    rw [e] at nn
    refine v74_2 hw ⟨fun q => ?_, fun _ => ⟨fun _ => ⟨rfl, rfl⟩, fun q => absurd nn q⟩⟩
    have := (nI_leI (a := 3) (by decide) (by have := ls.1; omega)).mp q
    obtain rfl : t = 3 := by have := ls.1; omega
    exact ⟨rfl, rfl⟩
  | m + 1, t, ht => by
    have t3 : t < 3 := by have := ls.1; omega
    have nn := (nbr_all c hc t (by omega)).1
    refine v74_2 hw ⟨fun q => absurd q (nI_ge t3 (by decide)), fun _ => ⟨fun q => ?_, fun _ => ?_⟩⟩
    · exfalso
      refine ls.2.2 t (by omega) ?_
      cases hb : nb c t with
      | none => rw [hb] at nn; exact absurd (q.symm.trans nn) (nI_m1 (by omega))
      | some k =>
        rw [hb] at nn
        have := nb_144 c hc t (by omega) k hb
        exact hb.trans (congrArg some (nI_inj (by omega) (by omega) (nn.symm.trans q)))
    · rw [nI_1]
      exact c74l hw hc hz ls m (t + 1) (by omega)
theorem c74 (hw : HW h) (hc : c < 144) (hz : z < 144) (ls : LSt (fun s => nb c s = some z) s) : Sp L xs 74 [.ref 390, .int (nI c), .int (nI z)] h (some (.int (nI s))) h :=
  sp_eq (v74 hw (c74l hw hc hz ls s 0 (by omega)))
theorem c75l (hw : HW h) (hD : ∀ k, k < 144 → gI h 391 k = nI (D k)) (hD2 : ∀ k, k < 144 → D k ≤ 144) (hc : c < 144) (hn : n ≤ 144) (ls : LSt (fun s => ∃ k, nb c s = some k ∧ D k = n) s) : ∀ (m t : Nat) (z4 : Option Value), t + m = s → WP L xs 75 2 [some (.ref 390), some (.int (nI c)), some (.int (nI n)), some (.int (nI t)), z4] [] h (fun r h' => r = some (.int (nI s)) ∧ h' = h)
  | 0, t, z4, ht => by
    obtain rfl : t = s := by omega
    have nn := (nbr_all c hc t ls.1).1
    obtain ⟨k, e, d⟩ := ls.2.1
    rw [e] at nn
    have hk := nb_144 c hc t ls.1 k e
    refine v75_2 hw ⟨fun q => ?_, fun _ => ⟨fun q => absurd (nn.symm.trans q) (nI_m1 (by omega)), fun _ => ⟨k, nn, hk, fun _ => ⟨rfl, rfl⟩, fun q => absurd (by rw [hD k hk, d]) q⟩⟩⟩
    have := (nI_leI (a := 3) (by decide) (by have := ls.1; omega)).mp q
    obtain rfl : t = 3 := by have := ls.1; omega
    exact ⟨rfl, rfl⟩
  | m + 1, t, z4, ht => by
    have t3 : t < 3 := by have := ls.1; omega
    have nn := (nbr_all c hc t (by omega)).1
    refine v75_2 hw ⟨fun q => absurd q (nI_ge t3 (by decide)), fun _ => ?_⟩
    rw [nI_1]
    refine ⟨fun _ => c75l hw hD hD2 hc hn ls m (t + 1) _ (by omega), fun q => ?_⟩
    cases hb : nb c t with
    | none => rw [hb] at nn; exact absurd nn q
    | some k =>
      rw [hb] at nn
      have hk := nb_144 c hc t (by omega) k hb
      refine ⟨k, nn, hk, fun e => ?_, fun _ => c75l hw hD hD2 hc hn ls m (t + 1) _ (by omega)⟩
      exfalso
      rw [hD k hk] at e
      have := hD2 k hk
      exact ls.2.2 t (by omega) ⟨k, hb, nI_inj (by omega) (by omega) e⟩
theorem c75 (hw : HW h) (hD : ∀ k, k < 144 → gI h 391 k = nI (D k)) (hD2 : ∀ k, k < 144 → D k ≤ 144) (hc : c < 144) (hn : n ≤ 144) (ls : LSt (fun s => ∃ k, nb c s = some k ∧ D k = n) s) : Sp L xs 75 [.ref 390, .int (nI c), .int (nI n)] h (some (.int (nI s))) h :=
  sp_eq (v75 hw (c75l hw hD hD2 hc hn ls s 0 none (by omega)))
theorem GP_belt (hs : s < 4) : GP k 1 (nI s) 0 0 := ⟨⟨1, by decide, by decide, rfl⟩, fun _ _ => ⟨s, hs, rfl⟩, fun q => absurd q (by decide), fun q => absurd q (by decide)⟩
/-- the class lays it -/
theorem c72l {z2 z4 : Option Value} (b0 : RLb h0 k) (hD : ∀ k, k < 144 → gI h0 391 k = nI (DF T z k)) (hD2 : ∀ k, k < 144 → DF T z k ≤ 144) (hz : z < 144) (hz4 : x_wide (some z4) = false) : ∀ (n c : Nat) (h1 : Hp) (P P' : Nat → Option Q4) (l5 : Int32) (z7 : Option Value), (¬ n = 0 → c < 144 ∧ l5 = nI c) → n ≤ 144 → WAY T z n c P P' → CPL h0 h1 P → WP L xs 72 14 [some (.ref 390), some (.ref 4), z2, some (.int (nI z)), z4, some (.int l5), some (.int (nI n)), z7] [] h1 (fun r h' => r = none ∧ CPL h0 h' P')
  | 0, c, h1, P, P', l5, z7, hc, hn, w, cc => by
    have w : P' = P := w
    rw [w]
    exact v72_14 cc.2.1 hz4 ⟨fun _ => ⟨rfl, cc⟩, fun q => absurd (by decide) q⟩
  | m + 1, c, h1, P, P', l5, z7, hc0, hn, w, cc => by
    obtain ⟨hc, rfl⟩ := hc0 (by omega)
    obtain ⟨s, j, ⟨ls, e, w0, w1⟩, w2⟩ := w
    have hw1 := cc.2.1
    have hs := ls.1
    have hj := nb_144 c hc s hs j e
    have nn := (nbr_all c hc s hs).1
    rw [e] at nn
    obtain ⟨h2, s14, c2⟩ := CPL_14 (L := L) (xs := xs) (q := (1, nI s, 0, 0)) b0 cc hc (GP_belt hs)
    have rek := fun z7 => c72l (z2 := z2) b0 hD hD2 hz hz4 m j h2 _ P' (nI j) z7 (fun _ => ⟨hj, rfl⟩) (by omega) w2 c2
    refine v72_14 hw1 hz4 ⟨fun q => absurd q (nI_nle (by omega) (by omega)), fun _ => ⟨fun q => absurd q (nI_m1 (by omega)), fun _ => ⟨fun q => ?_, fun q => ?_⟩⟩⟩
    · have m0 : m = 0 := by
        have := nI_inj (a := m + 1) (b := 1) (by omega) (by decide) q
        omega
      have ls' : LSt (fun s => nb c s = some z) s := ⟨hs, ls.2.1.1 m0, fun t ht p => ls.2.2 t ht ⟨fun _ => p, fun q => absurd m0 q⟩⟩
      refine ⟨_, c74 hw1 hc hz ls', h2, s14, ?_⟩
      rw [nn, pk_m1]
      exact rek _
    · have m0 : ¬ m = 0 := fun w => q (by rw [w]; rfl)
      have ls' : LSt (fun s => ∃ k, nb c s = some k ∧ DF T z k = m) s := ⟨hs, ls.2.1.2 m0, fun t ht p => ls.2.2 t ht ⟨fun q => absurd q m0, fun _ => p⟩⟩
      have o : gI h1 391 = gI h0 391 := (cc.2.2.2.1 391 (by decide)).1
      refine ⟨_, by rw [nI_pred]; exact c75 hw1 (fun k hk => by rw [o]; exact hD k hk) hD2 hc (by omega) ls', h2, s14, ?_⟩
      rw [nn, pk_m1]
      exact rek _
end WY
