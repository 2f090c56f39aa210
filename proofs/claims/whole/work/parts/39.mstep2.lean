/-! The reference's step: loops 1 to 3, and all. -/
section MT
variable {L : Nat} {xs : Nat → Int32} {h : Hp} {b c t s g n : Nat} {R T : Nat → Row} {i : Int32}
/-- what loops 1 to 3 keep of the start -/
def KS (h0 h : Hp) (b : Nat) : Prop := IE h0 h ∧ SX h0 h mtc ∧ OB h0 h b ∧ gI h 411 = gI h0 411 ∧ gI h 397 = gI h0 397
theorem KS_of {h0 h h' : Hp} {b : Nat} {P : Nat → Prop} (k : KS h0 h b) (e : IE h h') (s : SX h h' P) (hP : ∀ a, P a → 427 ≤ a ∧ a ≤ 430) : KS h0 h' b := by
  obtain ⟨k1, k2, k3, k4, k5⟩ := k
  refine ⟨IE_t k1 e, fun a ha => ?_, OB_t k3 (OB_e (MV_of s fun a q => by have := hP a q; omega)), ?_, ?_⟩
  · rw [s a (fun q => ha (by have := hP a q; unfold mtc; omega))]
    exact k2 a ha
  · rw [s 411 (fun q => by have := hP _ q; omega)]; exact k4
  · rw [s 397 (fun q => by have := hP _ q; omega)]; exact k5
theorem SX_1 {h : Hp} {a k : Nat} {v : Int32} : SX h (sI h a k v) (fun x => x = a) := fun x hx => gIo hx
/-- loop 3 -/
theorem c162c (hb : b < 3) (h0 : Hp) {Q : Option Value → Hp → Prop} (K : ∀ (h : Hp) (z3 z4 z5 z6 : Option Value), MFl h b R T → WM h (win R T 144) → (∀ t, t < 144 → ∀ v, win R T 144 t = some v → gI h 430 t = ofd R (T v.1)) → KS h0 h b → WP L xs 162 327 [some (.ref 397), some (.int (nI b)), some (.int 0), z3, z4, z5, z6] [] h Q) : ∀ (m n : Nat) (h : Hp) (z3 z4 z5 z6 : Option Value), n + m = 144 → MFl h b R T → WM h (win R T 144) → (∀ t, t < n → ∀ v, win R T 144 t = some v → gI h 430 t = ofd R (T v.1)) → KS h0 h b → WP L xs 162 281 [some (.ref 397), some (.int (nI b)), some (.int (nI n)), z3, z4, z5, z6] [] h Q
  | 0, n, h, z3, z4, z5, z6, hn, F, W, M, k => by
    obtain rfl : n = 144 := by omega
    exact v162_281 F.1 ⟨fun _ => K h z3 z4 z5 z6 F W M k, fun q => absurd (nI_le (Nat.le_refl _) (by decide)) q⟩
  | m + 1, n, h, z3, z4, z5, z6, hn, F, W, M, k => by
    have hn4 : n < 144 := by omega
    have hW := W n hn4
    have go : ∀ v : Int32, (∀ w, win R T 144 n = some w → v = ofd R (T w.1)) → WP L xs 162 281 [some (.ref 397), some (.int (nI b)), some (.int (nI n + 1)), z3, z4, z5, z6] [] (sI h 430 n v) Q := by
      intro v hv
      rw [nI_1]
      have sx : SX h (sI h 430 n v) (fun x => x = 430) := SX_1
      refine c162c hb h0 K m (n + 1) (sI h 430 n v) z3 z4 z5 z6 (by omega) ?_ ?_ ?_ (KS_of k (IE_s (IE_r h)) sx (fun a q => by omega))
      · refine ⟨HW_sI F.1, (MRc_sI (by omega)).trans F.2.1, ?_⟩
        rw [MV_sI (by omega)]
        exact F.2.2
      · intro t ht
        have := W t ht
        rw [gIo (show 427 ≠ 430 by decide), gIo (show 428 ≠ 430 by decide), gIo (show 429 ≠ 430 by decide)]
        exact this
      · intro t ht w hw
        rw [gIs, up_a]
        by_cases e : t = n
        · subst e
          rw [if_pos rfl]
          exact hv w hw
        · rw [if_neg e]
          exact M t (by omega) w hw
    refine v162_281 F.1 ⟨fun q => absurd q (nI_ge hn4 (by decide)), fun _ => ⟨n, rfl, hn4, fun q => ?_, fun q => ?_⟩⟩
    · refine go 0 (fun w hw => ?_)
      rw [hw] at hW
      exact absurd (hW.1.symm.trans q) (nI_m1 (by have := hW.2.2.2.1; omega))
    · cases hv : win R T 144 n with
      | none =>
        rw [hv] at hW
        exact absurd hW q
      | some v =>
        rw [hv] at hW
        rw [hW.1]
        refine ⟨_, c156 hb F hW.2.2.2.1, go _ (fun w hw => ?_)⟩
        rw [hv] at hw
        injection hw with hw
        rw [hw]
/-- the splitter's round -/
theorem c162s (hb : b < 3) (hc : c < 144) (hi : ¬ i = 0) (h2 : ¬ T c 0 = 2) {w : Nat → Bd} (ha : Hp) {Q : Option Value → Hp → Prop} (bb : Bd) (K : ∀ (h : Hp) (z3 z4 z5 z6 : Option Value), WM h (addO w c bb) → IE ha h → SX ha h scrm → WP L xs 162 115 [some (.ref 397), some (.int (nI b)), some (.int (nI c + 1)), z3, z4, z5, z6] [] h Q) : ∀ (n k : Nat) (h : Hp) (z : Option Value), n + k = 5 → 1 ≤ k → MFl h b R T → WM h w → IE ha h → SX ha h scrm → bdY R T c i n k = bb → WP L xs 162 186 [some (.ref 397), some (.int (nI b)), some (.int (nI c)), some (.int i), some (.int 0), some (.int (nI k)), z] [] h Q
  | 0, k, h, z, hk, _, F, W, i0, s0, e => by
    refine v162_186 F.1 ⟨fun _ => K h _ _ _ _ (by rw [← e]; exact W) i0 s0, fun q => absurd ?_ q⟩
    show nI 4 < nI k
    exact nI_lt (by omega) (by omega)
  | n + 1, k, h, z, hk, h1, F, W, i0, s0, e => by
    obtain ⟨hT, hP, -⟩ := F.2.2 c hc
    obtain ⟨g, hg, eg⟩ := hP.2.2.2.2.1
    have eg2 : (T c 13).toNatClampNeg = g := by rw [eg, nI_c (by omega)]
    have k13 : gI h 419 (144 * b + c) = nI g := (congrFun hT 13).trans eg
    have es : (gI h 419 (144 * b + c) + nI k) - (gI h 419 (144 * b + c) + nI k) / 4 * 4 = nI ((g + k) % 4) := by rw [k13]; exact (go_all g hg k (by omega)).2
    have hs4 : (g + k) % 4 < 4 := Nat.mod_lt _ (by decide)
    have e1 : bdY R T c i (n + 1) k = if ldT (T c) (nI ((g + k) % 4)) = true then (match bdO R T c ((g + k) % 4) i with
      | some b => some b
      | none => bdY R T c i n (k + 1)) else bdY R T c i n (k + 1) := by
      rw [← eg2]
      rfl
    refine v162_186 F.1 ⟨fun q => absurd (show nI 4 < nI k from q) (nI_nlt (by omega) (by omega)), fun _ => ⟨fun _ => ⟨_, ix1 b c, by omega, ?_⟩, fun q => absurd rfl q⟩⟩
    rw [es]
    refine ⟨_, c128 F hc, fun q => ?_, fun q => ?_⟩
    · rw [b2i_0] at q
      rw [nI_1]
      refine c162s hb hc hi h2 ha bb K n (k + 1) h _ (by omega) (by omega) F W i0 s0 ?_
      rw [← e, e1, if_neg (by rw [q]; decide)]
    · rw [b2i_n] at q
      obtain ⟨h', p1, p2, p3, p4⟩ := c161 (L := L) (xs := xs) hb F W hc hs4 hi h2
      refine ⟨_, h', p1, ?_⟩
      rw [b2i_nz', nI_1]
      cases hx : bdO R T c ((g + k) % 4) i with
      | none =>
        rw [hx] at p4 e1
        refine c162s hb hc hi h2 ha bb K n (k + 1) h' _ (by omega) (by omega) (MFl_of F p2 p3) p4 (IE_t i0 p2) (SX_t s0 p3) ?_
        rw [← e, e1, if_pos q]
      | some bv =>
        rw [hx] at p4 e1
        have e2 : bb = some bv := by rw [← e, e1, if_pos q]
        have fin : ∀ (z3 z4 z5 z6 : Option Value), WP L xs 162 115 [some (.ref 397), some (.int (nI b)), some (.int (nI c + 1)), z3, z4, z5, z6] [] h' Q := fun z3 z4 z5 z6 => K h' z3 z4 z5 z6 (by rw [e2]; exact p4) (IE_t i0 p2) (SX_t s0 p3)
        exact v162_186 (IE_w p2 F.1) ⟨fun _ => fin _ _ _ _, fun _ => ⟨fun q => absurd q (show ¬ b2i true = 0 by decide), fun _ => fin _ _ _ _⟩⟩
/-- loop 2 -/
theorem c162b (hb : b < 3) (h0 : Hp) {Q : Option Value → Hp → Prop} (K : ∀ (h : Hp) (z3 z4 z5 z6 : Option Value), MFl h b R T → WM h (win R T 144) → KS h0 h b → WP L xs 162 281 [some (.ref 397), some (.int (nI b)), some (.int 0), z3, z4, z5, z6] [] h Q) : ∀ (m n : Nat) (h : Hp) (z3 z4 z5 z6 : Option Value), n + m = 144 → MFl h b R T → WM h (win R T n) → KS h0 h b → WP L xs 162 115 [some (.ref 397), some (.int (nI b)), some (.int (nI n)), z3, z4, z5, z6] [] h Q
  | 0, n, h, z3, z4, z5, z6, hn, F, W, k => by
    obtain rfl : n = 144 := by omega
    exact v162_115 F.1 ⟨fun _ => K h z3 z4 z5 z6 F W k, fun q => absurd (nI_le (Nat.le_refl _) (by decide)) q⟩
  | m + 1, n, h, z3, z4, z5, z6, hn, F, W, k => by
    have hn4 : n < 144 := by omega
    obtain ⟨hT, hP, -⟩ := F.2.2 n hn4
    have k0 : gI h 405 n = T n 0 := congrFun hT 0
    have k1 : gI h 406 n = T n 1 := congrFun hT 1
    have go : ∀ (h' : Hp) (z3 z4 z5 z6 : Option Value), WM h' (addO (win R T n) n (bd R T n)) → IE h h' → SX h h' scrm → WP L xs 162 115 [some (.ref 397), some (.int (nI b)), some (.int (nI n + 1)), z3, z4, z5, z6] [] h' Q := by
      intro h' z3 z4 z5 z6 e3 e1 e2
      rw [nI_1]
      exact c162b hb h0 K m (n + 1) h' z3 z4 z5 z6 (by omega) (MFl_of F e1 e2) e3 (KS_of k e1 e2 (fun a q => by unfold scrm at q; omega))
    have non : bd R T n = none → ∀ (z3 z4 z5 z6 : Option Value), WP L xs 162 115 [some (.ref 397), some (.int (nI b)), some (.int (nI n + 1)), z3, z4, z5, z6] [] h Q := by
      intro e z3 z4 z5 z6
      refine go h z3 z4 z5 z6 ?_ (IE_r h) (SX_r h _)
      rw [e]
      exact W
    refine v162_115 F.1 ⟨fun q => absurd q (nI_ge hn4 (by decide)), fun _ => ⟨n, rfl, hn4, fun q => ?_, fun q => ⟨_, c156 hb F hn4, fun q2 => ?_, fun q2 => ⟨fun k2 => ?_, fun k2 => ⟨fun k4 => ?_, fun k4 => ?_⟩⟩⟩⟩⟩
    · rw [k0] at q
      exact non (by unfold bd; rw [if_pos (Or.inl q)]) _ _ _ _
    · exact non (by unfold bd; rw [if_pos (Or.inr q2)]) _ _ _ _
    all_goals
      rw [k0] at q k2
      have nz : ¬ (T n 0 = 0 ∨ ofd R (T n) = 0) := fun z => z.elim q q2
    · obtain ⟨s, hs, es⟩ := hP.2.2.1 q (by rw [k2]; decide)
      obtain ⟨h', p1, p2, p3, p4⟩ := c160 (L := L) (xs := xs) hb F W hn4 hs es k2 q2
      refine ⟨h', p1, go h' _ _ _ _ ?_ p2 p3⟩
      unfold bd
      rw [if_neg nz, if_pos k2, es, nI_c (by omega)]
      exact p4
    · rw [k0] at k4
      refine c162s hb hn4 q2 k2 h (bd R T n) (fun h' z3 z4 z5 z6 e1 e2 e3 => go h' z3 z4 z5 z6 e1 e2 e3) 4 1 h _ rfl (Nat.le_refl _) F W (IE_r h) (SX_r h _) ?_
      unfold bd
      rw [if_neg nz, if_neg k2, if_pos k4]
    · rw [k0] at k4
      obtain ⟨s, hs, es⟩ := hP.2.2.1 q k4
      rw [k1, es]
      obtain ⟨h', p1, p2, p3, p4⟩ := c161 (L := L) (xs := xs) hb F W hn4 hs q2 k2
      refine ⟨_, h', p1, go h' _ _ _ _ ?_ p2 p3⟩
      unfold bd
      rw [if_neg nz, if_neg k2, if_neg k4, es, nI_c (by omega)]
      exact p4
/-- loop 1 -/
theorem c162a (hb : b < 3) (h0 : Hp) (hw0 : HW h0) (hR : MRc h0 = R) (hPW : ∀ c, c < 144 → PW R (MV h0 b c)) {Q : Option Value → Hp → Prop} (K : ∀ (h : Hp) (z3 z4 z5 z6 : Option Value), (∀ c, c < 144 → MV h b c = prp R (MV h0 b c) ∧ gI h 427 c = -1) → KS h0 h b → WP L xs 162 115 [some (.ref 397), some (.int (nI b)), some (.int 0), z3, z4, z5, z6] [] h Q) : ∀ (m n : Nat) (h : Hp) (z3 z4 z5 z6 : Option Value), n + m = 144 → (∀ c, c < 144 → MV h b c = (if c < n then prp R (MV h0 b c) else MV h0 b c) ∧ (c < n → gI h 427 c = -1)) → KS h0 h b → WP L xs 162 2 [some (.ref 397), some (.int (nI b)), some (.int (nI n)), z3, z4, z5, z6] [] h Q
  | 0, n, h, z3, z4, z5, z6, hn, hr, k => by
    obtain rfl : n = 144 := by omega
    refine v162_2 (IE_w k.1 hw0) ⟨fun _ => K h z3 z4 z5 z6 (fun c hc => ?_) k, fun q => absurd (nI_le (Nat.le_refl _) (by decide)) q⟩
    have := hr c hc
    rw [if_pos hc] at this
    exact ⟨this.1, this.2 hc⟩
  | m + 1, n, h, z3, z4, z5, z6, hn, hr, k => by
    have hn4 : n < 144 := by omega
    have hrn := (hr n hn4).1
    rw [if_neg (Nat.lt_irrefl n)] at hrn
    have hw := IE_w k.1 hw0
    have ks1 : KS h0 (sI h 427 n (-1)) b := KS_of k (IE_s (IE_r h)) SX_1 (fun a q => by omega)
    have mv1 : MV (sI h 427 n (-1)) = MV h := MV_sI (by omega)
    have fin : ∀ (h' : Hp) (z3 z4 z5 z6 : Option Value), RS (sI h 427 n (-1)) h' b n (prp R (MV h0 b n)) → WP L xs 162 2 [some (.ref 397), some (.int (nI b)), some (.int (nI n + 1)), z3, z4, z5, z6] [] h' Q := by
      intro h' z3 z4 z5 z6 S
      obtain ⟨q1, q2, q3, q4, q5, q6, q7, q8⟩ := S
      rw [nI_1]
      obtain ⟨j1, j2, j3, j4, j5⟩ := ks1
      refine c162a hb h0 hw0 hR hPW K m (n + 1) h' z3 z4 z5 z6 (by omega) (fun c hc => ⟨?_, fun hl => ?_⟩) ⟨IE_t j1 q1, SX_t j2 q2, OB_t j3 q8, q4.trans j4, q3.trans j5⟩
      · by_cases e : c = n
        · subst e
          rw [if_pos (Nat.lt_succ_self _)]
          exact q6
        · rw [q7 c hc e, mv1, (hr c hc).1]
          by_cases hl : c < n
          · rw [if_pos hl, if_pos (by omega)]
          · rw [if_neg hl, if_neg (by omega)]
      · rw [q5 427 (by decide) (by decide), gIs, up_a]
        by_cases e : c = n
        · rw [if_pos e]
        · rw [if_neg e]
          exact (hr c hc).2 (by omega)
    have rs0 : RS (sI h 427 n (-1)) (sI h 427 n (-1)) b n (MV h0 b n) := by
      have := RS_r (sI h 427 n (-1)) b n
      rw [mv1, hrn] at this
      exact this
    have k0 : gI h 405 n = MV h0 b n 0 := congrFun hrn 0
    have k2 : gI h 407 n = MV h0 b n 2 := congrFun hrn 2
    have k3 : gI h 408 n = MV h0 b n 3 := congrFun hrn 3
    have k5 : gI h 412 (144 * b + n) = MV h0 b n 5 := congrFun hrn 5
    have k6 : gI h 413 (144 * b + n) = MV h0 b n 6 := congrFun hrn 6
    have mach : MV h0 b n 0 = 6 → ∃ (h25 : Hp), Sp L xs 155 [.ref 397, .int (nI b), .int (nI n)] (sI h 427 n (-1)) none h25 ∧ ∀ (z3 z4 z5 z6 : Option Value), WP L xs 162 2 [some (.ref 397), some (.int (nI b)), some (.int (nI n + 1)), z3, z4, z5, z6] [] h25 Q := by
      intro e6
      have hR1 : MRc (sI h 427 n (-1)) = R := (MRc_sI (by omega)).trans ((mtc_R k.2.1).trans hR)
      obtain ⟨h25, p1, p2⟩ := c155 (L := L) (xs := xs) (HW_sI (i := 427) (k := n) (v := -1) hw) hb hn4 hR1 (by rw [mv1, hrn]; exact e6) (by rw [mv1, hrn]; exact hPW n hn4)
      rw [mv1, hrn] at p2
      refine ⟨h25, p1, fun z3 z4 z5 z6 => fin h25 z3 z4 z5 z6 ?_⟩
      rw [prp, if_neg (by rw [e6]; decide), if_pos e6]
      exact p2
    refine v162_2 hw ⟨fun q => absurd q (nI_ge hn4 (by decide)), fun _ => ⟨n, rfl, hn4, fun q => ⟨_, ix1 b n, by omega, fun q5 => ⟨fun q6 => ?_, fun q6 => ?_⟩, fun q5 => ⟨fun q6 => ?_, fun q6 => ?_⟩⟩, fun q => ⟨fun q6 => ?_, fun q6 => ?_⟩⟩⟩
    · rw [k0] at q
      rw [k5] at q5
      have e : gI (sI (sI h 427 n (-1)) 413 (144 * b + n) (gI h 413 (144 * b + n) + 1)) 413 (144 * b + n) = MV h0 b n 6 + 1 := by rw [gIs, up_s, k6]
      rw [e, k3] at q6
      refine fin _ _ _ _ _ ?_
      have e2 : prp R (MV h0 b n) = up (up (up (MV h0 b n) 6 (MV h0 b n 6 + 1)) 5 (MV h0 b n 2)) 6 0 := by
        rw [prp, if_pos q, if_pos q5, prpS, if_neg (by rw [q6]; exact Int32.lt_irrefl), up_comm (k := 6) (k' := 5) (by decide), up_up]
      rw [e2, k2, k6]
      exact RS_s (RS_s (RS_s rs0 hn4 6 (by decide) (by decide) _) hn4 5 (by decide) (by decide) _) hn4 6 (by decide) (by decide) _
    · rw [k0] at q
      rw [k5] at q5
      have e : gI (sI (sI h 427 n (-1)) 413 (144 * b + n) (gI h 413 (144 * b + n) + 1)) 413 (144 * b + n) = MV h0 b n 6 + 1 := by rw [gIs, up_s, k6]
      rw [e, k3] at q6
      refine fin _ _ _ _ _ ?_
      have hlt := ((hPW n hn4).2 q q5).resolve_right q6
      have e2 : prp R (MV h0 b n) = up (MV h0 b n) 6 (MV h0 b n 6 + 1) := by
        rw [prp, if_pos q, if_pos q5, prpS, if_pos hlt]
      rw [e2, k6]
      exact RS_s rs0 hn4 6 (by decide) (by decide) _
    · rw [k0] at q q6
      exact absurd (q.symm.trans q6) (by decide)
    · rw [k0] at q
      rw [k5] at q5
      refine fin _ _ _ _ _ ?_
      rw [prp, if_pos q, if_neg q5]
      exact rs0
    · rw [k0] at q6
      obtain ⟨h25, p1, p2⟩ := mach q6
      exact ⟨h25, p1, p2 _ _ _ _⟩
    · rw [k0] at q q6
      refine fin _ _ _ _ _ ?_
      rw [prp, if_neg q, if_neg q6]
      exact rs0
theorem prp_0 (R : Nat → Row) (x : Row) : prp R x 0 = x 0 ∧ prp R x 2 = x 2 := by
  unfold prp
  (repeat' split) <;> first | exact prpS_0 x | exact ⟨rfl, rfl⟩ | skip
  unfold prpM
  split
  · exact begW_0 _ _
  · split
    · exact ⟨(begW_0 _ _).1.trans (runW_0 _ _).1, (begW_0 _ _).2.trans (runW_0 _ _).2⟩
    · exact runW_0 _ _
/-- one step of the reference -/
theorem c162 (hb : b < 3) (hw : HW h) (hR : MRc h = R) (hP : ∀ c, c < 144 → PW R (MV h b c) ∧ PG R (prp R (MV h b c))) : ∃ h', Sp L xs 162 [.ref 397, .int (nI b)] h none h' ∧ SMr h h' b R (prT R (fun c => MV h b c)) := by
  have hP1 : ∀ c, c < 144 → PG R (prT R (fun c => MV h b c) c) ∧ (prT R (fun c => MV h b c) c 0 = 6 → ∃ a, a < 8 ∧ prT R (fun c => MV h b c) c 2 = nI a) := by
    intro c hc
    refine ⟨(hP c hc).2, fun q => ?_⟩
    have q : prp R (MV h b c) 0 = 6 := q
    rw [(prp_0 R _).1] at q
    obtain ⟨a, ha, e⟩ := ((hP c hc).1.1 q).1
    exact ⟨a, ha, by show prp R (MV h b c) 2 = _; rw [(prp_0 R _).2, e]⟩
  have key : WP L xs 162 2 [some (.ref 397), some (.int (nI b)), some (.int (nI 0)), none, none, none, none] [] h (fun r h' => r = none ∧ SMr h h' b R (prT R (fun c => MV h b c))) := by
    refine c162a hb h hw hR (fun c hc => (hP c hc).1) (fun h1 z3 z4 z5 z6 r1 k1 => ?_) 144 0 h _ _ _ _ rfl (fun c hc => ⟨by rw [if_neg (Nat.not_lt_zero _)], fun q => absurd q (Nat.not_lt_zero _)⟩) ⟨IE_r h, SX_r h _, OB_e rfl, rfl, rfl⟩
    have F1 : MFl h1 b R (prT R (fun c => MV h b c)) := ⟨IE_w k1.1 hw, (mtc_R k1.2.1).trans hR, fun c hc => ⟨(r1 c hc).1, (hP1 c hc).1, (hP1 c hc).2⟩⟩
    refine c162b hb h (fun h2 z3 z4 z5 z6 F2 W2 k2 => ?_) 144 0 h1 z3 z4 z5 z6 rfl F1 (fun t ht => (r1 t ht).2) k1
    refine c162c hb h (fun h3 z3 z4 z5 z6 F3 W3 M3 k3 => ?_) 144 0 h2 z3 z4 z5 z6 rfl F2 W2 (fun t ht => absurd ht (Nat.not_lt_zero _)) k2
    refine c162d hb h hP1 144 0 h3 z3 z4 z5 z6 rfl F3.1 F3.2.1 W3 M3 k3.1 k3.2.1 k3.2.2.1 (fun c hc => ?_) k3.2.2.2.1 ?_ (fun k _ => by rw [k3.2.2.2.2])
    · rw [(F3.2.2 c hc).1]
      unfold mvG
      split
      · rfl
      · rw [if_neg (fun q => Nat.not_lt_zero _ q.1)]
    · rw [k3.2.2.2.2]
      rfl
  obtain ⟨r, h', s1, rfl, s2⟩ := v162 (L := L) (xs := xs) hw key
  exact ⟨h', s1, s2⟩
end MT
