/-! One step of both, over one table. -/
theorem RE_r (x : Row) : RE (fun _ => 0) x x := ⟨rfl, fun _ => ⟨fun _ _ _ => rfl, fun _ _ _ => (Int32.add_zero _).symm⟩⟩
theorem RR_r (k : Nat) (R : Nat → Row) : RR k R R := fun _ _ _ _ => rfl
theorem GR_AK {k : Nat} {R : Nat → Row} {x : Row} (h : GR k R x) : AK k x := fun q => by
  obtain ⟨a, h1, h2, -⟩ := h.2.2.2.2.2.2.2.2.2.2 q
  exact ⟨a, h1, h2⟩
theorem GR_01 {k : Nat} {R : Nat → Row} {x : Row} (g : GR k R x) : x_ok01 (x 11) = true := by
  by_cases q : x 0 = 6
  · obtain ⟨a, -, -, s1, s2, m, w, -, -, -, -, -, -, -, -, hw⟩ := g.2.2.2.2.2.2.2.2.2.2 q
    rcases hw with e | ⟨e, -⟩ <;> (rw [e]; rfl)
  · rw [(g.2.2.2.2.2.2.2.2.2.1 q).2.2.2.2]
    rfl
section PR
variable {L : Nat} {xs : Nat → Int32} {h : Hp} {f b k : Nat} {R R' T T' : Nat → Row} {o : Nat → Row}
theorem TE_x (hG : ∀ c, c < 144 → GR k R (T c)) (he : ∀ c, c < 144 → T' c = T c) : TE k (fun _ _ => 0) T T' := fun c hc => ⟨by rw [he c hc]; exact RE_r _, GR_AK (hG c hc)⟩
/-- tables that are one on the floor step as one -/
theorem stp_x (hB : GB k R) (hk : k < 9) (hG : ∀ c, c < 144 → GR k R (T c)) (he : ∀ c, c < 144 → T' c = T c) : ∀ c, c < 144 → stp R T' c = stp R T c := by
  have t1 := prT_e (RR_r k R) hk (TE_x hG he)
  have hw := win_e (RR_r k R) hk t1 144 (Nat.le_refl _)
  have e1 : ∀ c, c < 144 → prT R T' c = prT R T c := fun c hc => by unfold prT; rw [he c hc]
  have hG1 : ∀ c, c < 144 → GR k R (prT R T c) := fun c hc => GR_prp hB hk (hG c hc)
  have eg : ∀ c, c < 144 → mvG R (prT R T') 144 c = mvG R (prT R T) 144 c := by
    intro c hc
    unfold mvG
    rw [← bd_e (RR_r k R) hk t1 hc, ← hw, e1 c hc]
  intro c hc
  show mv R (prT R T') 144 144 c = mv R (prT R T) 144 144 c
  unfold mv
  rw [eg c hc, ← hw, if_pos hc, if_pos hc]
  cases hv : win R (prT R T) 144 c with
  | none => rfl
  | some v =>
    obtain ⟨v1, -⟩ := win_s _ _ _ hv
    show rcv R _ (ofd R (prT R T' v.1)) _ = rcv R _ (ofd R (prT R T v.1)) _
    rw [e1 _ v1]
theorem c16x (hf : FL f) (hw : HW h) (hR : RC h = R) (hB : GB k R) (hk : k < 9) (hT : ∀ c, c < 144 → gI h (f + 6 + c) = T c ∧ LR h (f + 6 + c) ∧ GR k R (T c)) : ∃ h', Sp L xs 16 [.ref f] h (some (.int (cam R (prT R T) 144))) h' ∧ IE h h' ∧ SX h h' (tch f) ∧ (∀ c, c < 144 → gI h' (f + 6 + c) = stp R T c ∧ LR h' (f + 6 + c) ∧ GR k R (stp R T c)) ∧ (∀ i, i < 21 → gI h' (f + 2) i = gI h (f + 2) i + snk R (prT R T) 144 i) ∧ gI h' f = up (gI h f) 3 (gI h f 3 + 1) := by
  subst hR
  have hG : ∀ c, c < 144 → GR k (RC h) (T c) := fun c hc => (hT c hc).2.2
  have he : ∀ c, c < 144 → (fun c => gI h (f + 6 + c)) c = T c := fun c hc => (hT c hc).1
  have t1 := prT_e (RR_r k (RC h)) hk (TE_x hG he)
  have hP1 : ∀ c, c < 144 → PG (RC h) (prT (RC h) T c) := fun c hc => GR_PG hB hk (GR_prp hB hk (hG c hc))
  obtain ⟨h', s1, s2, s3, s4, s5, s6⟩ := c16 (L := L) (xs := xs) hf hw (fun c hc => ⟨(hT c hc).2.1, by rw [(hT c hc).1]; exact hP1 c hc⟩)
  rw [← cam_e (RR_r k (RC h)) hk t1 144 (Nat.le_refl _)] at s1
  have hrow : ∀ c, c < 144 → gI h' (f + 6 + c) = stp (RC h) T c := fun c hc => (s4 c hc).trans (stp_x hB hk hG he c hc)
  refine ⟨h', s1, s2, s3, fun c hc => ⟨hrow c hc, ?_, GR_stp hB hk hG hc⟩, fun i hi => ?_, s6⟩
  · have e0 : stp (RC h) T c 0 = T c 0 := by
      show mv _ _ _ _ _ 0 = _
      rw [(mv_0 _ _ _).1]
      exact (prp_0 _ _).1
    have e2 : stp (RC h) T c 2 = T c 2 := by
      show mv _ _ _ _ _ 2 = _
      rw [(mv_0 _ _ _).2.1]
      exact (prp_0 _ _).2
    exact LR_oth s2 (by rw [hrow c hc, (hT c hc).1, e0]) (by rw [hrow c hc, (hT c hc).1, e2]) (hT c hc).2.1
  · rw [s5 i hi, ← snk_e (RR_r k (RC h)) hk t1 hP1 i 144 (Nat.le_refl _)]
/-- the reference's bank against a table -/
def PI (k : Nat) (R : Nat → Row) (o T : Nat → Row) (h : Hp) (b : Nat) : Prop := ∀ c, c < 144 → GR k R (T c) ∧ RE (o c) (T c) (MV h b c) ∧ SR (MV h b c)
theorem PI_TE {o : Nat → Row} (p : PI k R o T h b) : TE k o T (fun c => MV h b c) := fun c hc => ⟨(p c hc).2.1, GR_AK (p c hc).1⟩
theorem PWG (hB : GB k R) (hk : k < 9) (hr : RR k R R') {o x y : Row} (g : GR k R x) (e : RE o x y) (s : SR y) : PW R' y ∧ PG R' (prp R' y) := by
  by_cases z : x 0 = 0
  · have z' : y 0 = 0 := e.1 ▸ z
    have ep : prp R' y = y := by rw [prp, if_neg (by rw [z']; decide), if_neg (by rw [z']; decide)]
    rw [ep]
    refine ⟨⟨fun q => absurd (z'.symm.trans q) (by decide), fun q => absurd (z'.symm.trans q) (by decide)⟩, fun _ => s.1 z', fun q => absurd (z'.symm.trans q) (by decide), fun q => absurd z' q, s.2.1, s.2.2.1, 0, by decide, ?_⟩
    rw [ofd_n (by rw [z']; decide)]
    exact s.1 z'
  · have f := RE_f e z
    have pw := GR_PW hB hk g
    have pg := GR_PG hB hk (GR_prp hB hk g)
    have ep := prp_e hr hk e (GR_AK g)
    have z2 : ¬ prp R x 0 = 0 := by rw [(prp_0 R x).1]; exact z
    have f2 := RE_f ep z2
    have ak2 : AK k (prp R x) := by
      intro q
      rw [(prp_0 R x).1] at q
      rw [(prp_0 R x).2]
      exact GR_AK g q
    refine ⟨⟨fun q => ?_, fun q q5 => ?_⟩, ?_⟩
    · rw [← e.1] at q
      obtain ⟨q1, q2⟩ := pw.1 q
      rw [← f 2 (by decide) (by decide), ← f 10 (by decide) (by decide), ← f 11 (by decide) (by decide), ← rc_e hr hk e (GR_AK g) q 2 (by decide)]
      exact ⟨q1, q2⟩
    · rw [← e.1] at q
      rw [← f 5 (by decide) (by decide)] at q5
      rw [← f 6 (by decide) (by decide), ← f 3 (by decide) (by decide)]
      exact pw.2 q q5
    · obtain ⟨p1, p2, p3, p4, p5, p6⟩ := pg
      refine ⟨?_, ?_, ?_, ?_, ?_, ?_⟩
      · rw [← ep.1, ← f2 5 (by decide) (by decide)]; exact p1
      · rw [← ep.1, ← f2 5 (by decide) (by decide)]; exact p2
      · rw [← ep.1, ← f2 1 (by decide) (by decide)]; exact p3
      · rw [← f2 12 (by decide) (by decide)]; exact p4
      · rw [← f2 13 (by decide) (by decide)]; exact p5
      · rw [← ofd_e hr hk ep ak2 z2]; exact p6
/-- a bare cell stays as it is -/
theorem stp_z {c : Nat} (hc : c < 144) (hP : ∀ c, c < 144 → PG R (prp R (T c))) (z : T c 0 = 0) : stp R T c = T c := by
  have ep : prp R (T c) = T c := by rw [prp, if_neg (by rw [z]; decide), if_neg (by rw [z]; decide)]
  have eb : bd R (prT R T) c = none := by
    unfold bd
    rw [if_pos (Or.inl ?_)]
    show prp R (T c) 0 = 0
    rw [ep]; exact z
  have ew : win R (prT R T) 144 c = none := by
    cases hv : win R (prT R T) 144 c with
    | none => rfl
    | some v =>
      obtain ⟨v1, v2⟩ := win_s _ _ _ hv
      obtain ⟨-, -, -, -, -, q⟩ := bd_s v1 (hP _ v1) v2
      have zz : prT R T c 0 = 0 := by show prp R (T c) 0 = 0; rw [ep]; exact z
      rcases q with ⟨q, -⟩ | ⟨-, -, s, q⟩
      · have q : prT R T c 0 = 3 := q
        exact absurd (zz.symm.trans q) (by decide)
      · have q : tks R (prT R T c) (ofd R (prT R T v.1)) s = true := q
        unfold tks at q
        rw [if_neg (by rw [zz]; decide), if_neg (by rw [zz]; decide), decide_eq_false (by rw [zz]; decide)] at q
        cases q
  show mv R (prT R T) 144 144 c = T c
  unfold mv
  rw [if_pos hc, ew]
  unfold mvG
  rw [eb]
  exact ep
theorem c162x (hb : b < 3) (hw : HW h) (hr : RR k R (MRc h)) (hB : GB k R) (hk : k < 9) (p : PI k R o T h b) : ∃ h', Sp L xs 162 [.ref 397, .int (nI b)] h none h' ∧ PI k R o (stp R T) h' b ∧ IE h h' ∧ SX h h' mtc ∧ OB h h' b ∧ (∀ i, i < 21 → gI h' 411 i = gI h 411 i + (if b = 0 then snk R (prT R T) 144 i else 0)) ∧ gI h' 397 35 = gI h 397 35 + cam R (prT R T) 144 ∧ gI h' 397 36 = (if anw R (prT R T) 144 = true then 1 else gI h 397 36) ∧ (∀ j, ¬ j = 35 → ¬ j = 36 → gI h' 397 j = gI h 397 j) := by
  have pwg : ∀ c, c < 144 → PW (MRc h) (MV h b c) ∧ PG (MRc h) (prp (MRc h) (MV h b c)) := fun c hc => PWG hB hk hr (p c hc).1 (p c hc).2.1 (p c hc).2.2
  have hG : ∀ c, c < 144 → GR k R (T c) := fun c hc => (p c hc).1
  have hP : ∀ c, c < 144 → PG R (prp R (T c)) := fun c hc => GR_PG hB hk (GR_prp hB hk (hG c hc))
  obtain ⟨h', s1, s2, s3, s4, s5, s6, s7, s8, s9⟩ := c162 (L := L) (xs := xs) hb hw rfl pwg
  have t0 := PI_TE p
  have t1 := prT_e hr hk t0
  have t2 := stp_e hr hk t0 hP
  have hP' : ∀ c, c < 144 → PG (MRc h) (prp (MRc h) ((fun c => MV h b c) c)) := fun c hc => (pwg c hc).2
  refine ⟨h', s1, fun c hc => ?_, s2, s3, s4, fun i hi => ?_, ?_, ?_, s9⟩
  · have er : MV h' b c = stp (MRc h) (fun c => MV h b c) c := s5 c hc
    have g2 := GR_stp hB hk hG hc
    have e2 : RE (o c) (stp R T c) (MV h' b c) := by rw [er]; exact (t2 c hc).1
    refine ⟨g2, e2, ?_⟩
    by_cases z : MV h b c 0 = 0
    · rw [er, stp_z hc hP' z]
      exact (p c hc).2.2
    · have z1 : ¬ stp R T c 0 = 0 := by
        intro q
        apply z
        rw [← (p c hc).2.1.1]
        have : stp R T c 0 = T c 0 := by
          show mv _ _ _ _ _ 0 = _
          rw [(mv_0 _ _ _).1]
          exact (prp_0 _ _).1
        rw [← this]; exact q
      have f := RE_f e2 z1
      unfold SR
      rw [← e2.1, ← f 12 (by decide) (by decide), ← f 13 (by decide) (by decide), ← f 11 (by decide) (by decide)]
      exact ⟨fun q => absurd q z1, g2.2.2.2.2.2.1, g2.2.2.2.2.2.2.1, GR_01 g2⟩
  · rw [s6 i hi, ← snk_e hr hk t1 hP i 144 (Nat.le_refl _)]
  · rw [s7, ← cam_e hr hk t1 144 (Nat.le_refl _)]
  · rw [s8, ← anw_e hr hk t1 144 (Nat.le_refl _)]
end PR
/-- the table after n steps -/
def itT (R T : Nat → Row) : Nat → Nat → Row
  | 0 => T
  | n + 1 => stp R (itT R T n)
