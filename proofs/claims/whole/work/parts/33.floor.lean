/-! The class's floor: bids. -/
def scr (f a : Nat) : Prop := a = f + 3 ∨ a = f + 4 ∨ a = f + 5
/-- a floor's rows are T, its recipes R -/
def FH (h : Hp) (f : Nat) (R T : Nat → Row) : Prop := HW h ∧ RC h = R ∧ ∀ c, c < 144 → gI h (f + 6 + c) = T c ∧ LR h (f + 6 + c) ∧ PG R (T c)
theorem LR_of {h h' : Hp} {p : Nat} (e : IE h h') (hg : gI h' p = gI h p) (hl : LR h p) : LR h' p := by
  unfold LR
  rw [hg, e.1, e.2.2]
  exact hl
theorem RC_of {h h' : Hp} {P : Nat → Prop} (s : SX h h' P) (hP : ∀ a, P a → a < 444) : RC h' = RC h := by
  funext r
  unfold RC
  exact s _ (fun q => by have := hP _ q; omega)
theorem scr_lt {f a : Nat} (hf : FL f) (h : scr f a) : a < 444 := by
  unfold scr at h
  rcases hf with rfl | rfl <;> omega
theorem FH_of {h h' : Hp} {f : Nat} {R T : Nat → Row} (hf : FL f) (F : FH h f R T) (e : IE h h') (s : SX h h' (scr f)) : FH h' f R T := by
  refine ⟨IE_w e F.1, (RC_of s fun a => scr_lt hf).trans F.2.1, fun c hc => ?_⟩
  have hg : gI h' (f + 6 + c) = gI h (f + 6 + c) := s _ (by unfold scr; omega)
  exact ⟨hg.trans (F.2.2 c hc).1, LR_of e hg (F.2.2 c hc).2.1, (F.2.2 c hc).2.2⟩
theorem SX_t {a b c : Hp} {P : Nat → Prop} (h1 : SX a b P) (h2 : SX b c P) : SX a c P := fun x hx => (h2 x hx).trans (h1 x hx)
def rkC (T : Nat → Row) (t d o : Nat) : Nat := if T t 0 = 3 then 8 * ((d + 7 - (T t 12).toNatClampNeg) % 4) + o else 8 * o + 1
/-- the bids' arrays hold w -/
def WC (h : Hp) (f : Nat) (T : Nat → Row) (w : Nat → Bd) : Prop := ∀ t, t < 144 → match w t with
  | none => gI h (f + 3) t = -1
  | some v => gI h (f + 3) t = nI v.1 ∧ gI h (f + 4) t = nI v.2.1 ∧ gI h (f + 5) t = nI (rkC T t v.2.1 v.2.2) ∧ v.1 < 144 ∧ v.2.1 < 4 ∧ v.2.2 < 6 ∧ (T t 0 = 3 → T t 1 = nI ((v.2.1 + 2) % 4))
section FB
variable {L : Nat} {xs : Nat → Int32} {h : Hp} {f : Nat} {R T : Nat → Row} {w : Nat → Bd} {c t s o far : Nat} {i : Int32}
theorem WC_set (W : WC h f T w) (hc : c < 144) {d : Nat} (hd : d < 4) (ho : o < 6) (h3 : T t 0 = 3 → T t 1 = nI ((d + 2) % 4)) {w' : Nat → Bd} (e1 : w' t = some (c, d, o)) (e2 : ∀ a, ¬ a = t → w' a = w a) : WC (sI (sI (sI h (f + 3) t (nI c)) (f + 4) t (nI d)) (f + 5) t (nI (rkC T t d o))) f T w' := by
  intro a ha
  by_cases hat : a = t
  · subst hat
    rw [e1]
    refine ⟨?_, ?_, ?_, hc, hd, ho, h3⟩ <;> simp [gI_sI]
  · rw [e2 a hat]
    have g3 : gI (sI (sI (sI h (f + 3) t (nI c)) (f + 4) t (nI d)) (f + 5) t (nI (rkC T t d o))) (f + 3) a = gI h (f + 3) a := by simp [gI_sI, hat]
    have g4 : gI (sI (sI (sI h (f + 3) t (nI c)) (f + 4) t (nI d)) (f + 5) t (nI (rkC T t d o))) (f + 4) a = gI h (f + 4) a := by simp [gI_sI, hat]
    have g5 : gI (sI (sI (sI h (f + 3) t (nI c)) (f + 4) t (nI d)) (f + 5) t (nI (rkC T t d o))) (f + 5) a = gI h (f + 5) a := by simp [gI_sI, hat]
    rw [g3, g4, g5]
    exact W a ha
theorem SX_scr3 {v1 v2 v3 : Int32} : SX h (sI (sI (sI h (f + 3) t v1) (f + 4) t v2) (f + 5) t v3) (scr f) := by
  intro a ha
  unfold scr at ha
  rw [gIo (by omega), gIo (by omega), gIo (by omega)]
theorem c20 (hf : FL f) (F : FH h f R T) (W : WC h f T w) (hc : c < 144) (ht : t < 144) (hs : s < 4) (hd : (T t 0 = 3 ∧ T t 1 = nI s ∧ far = o ∧ o < 6) ∨ (¬ T t 0 = 3 ∧ far = 1 ∧ o = ((s + 2) % 4 + 7 - (T t 12).toNatClampNeg) % 4)) : ∃ h', Sp L xs 20 [.ref f, .int (nI c), .int (nI t), .int (nI s), .int (nI far)] h none h' ∧ IE h h' ∧ SX h h' (scr f) ∧ WC h' f T (addB w c (t, (s + 2) % 4, o)) := by
  obtain ⟨tk, htk, etk⟩ := (F.2.2 t ht).2.2.2.2.2.1
  have htk2 : (T t 12).toNatClampNeg = tk := by rw [etk, nI_c (by omega)]
  have hd4 : (s + 2) % 4 < 4 := Nat.mod_lt _ (by decide)
  have hrk : 8 * (((opp (nI s) - gI h (f + 6 + t) 12) - 1) &&& 3) + nI far = nI (rkC T t ((s + 2) % 4) o) := by
    rw [(opp_all s hs).1, (F.2.2 t ht).1, etk, (rk_all _ hd4 tk htk).1]
    show nI 8 * nI _ + nI far = _
    rw [pk_mul, nI_add]
    refine congrArg nI ?_
    unfold rkC
    rw [htk2]
    rcases hd with ⟨h1, -, h2, -⟩ | ⟨h1, h2, h3⟩
    · rw [if_pos h1, h2]
    · rw [if_neg h1, h2, h3, htk2]
  have ho6 : o < 6 := by
    rcases hd with ⟨-, -, -, h2⟩ | ⟨-, -, h3⟩
    · exact h2
    · rw [h3]; exact Nat.lt_of_lt_of_le (Nat.mod_lt _ (by decide)) (by decide)
  have h3 : T t 0 = 3 → T t 1 = nI (((s + 2) % 4 + 2) % 4) := by
    intro h3
    rcases hd with ⟨-, h1, -, -⟩ | ⟨h1, -, -⟩
    · rw [h1, show ((s + 2) % 4 + 2) % 4 = s by omega]
    · exact absurd h3 h1
  have hwt := W t ht
  have hnew : ∀ w', w' t = some (c, (s + 2) % 4, o) → (∀ a, ¬ a = t → w' a = w a) → addB w c (t, (s + 2) % 4, o) = w' → ∃ h', h' = sI (sI (sI h (f + 3) t (nI c)) (f + 4) t (opp (nI s))) (f + 5) t (8 * (((opp (nI s) - gI h (f + 6 + t) 12) - 1) &&& 3) + nI far) ∧ IE h h' ∧ SX h h' (scr f) ∧ WC h' f T (addB w c (t, (s + 2) % 4, o)) := by
    intro w' e1 e2 e3
    refine ⟨_, rfl, IE_r h, SX_scr3, ?_⟩
    rw [hrk, (opp_all s hs).1, e3]
    exact WC_set W hc hd4 ho6 h3 e1 e2
  have hoth : ∀ a, ¬ a = t → addB w c (t, (s + 2) % 4, o) a = w a := by
    intro a ha
    unfold addB
    rw [if_neg (fun q => ha q.symm)]
  have fin : ∀ (P : Prop), (addB w c (t, (s + 2) % 4, o) t = some (c, (s + 2) % 4, o)) → (∃ h', Sp L xs 20 [.ref f, .int (nI c), .int (nI t), .int (nI s), .int (nI far)] h none h' ∧ (h' = sI (sI (sI h (f + 3) t (nI c)) (f + 4) t (opp (nI s))) (f + 5) t (8 * (((opp (nI s) - gI h (f + 6 + t) 12) - 1) &&& 3) + nI far))) → ∃ h', Sp L xs 20 [.ref f, .int (nI c), .int (nI t), .int (nI s), .int (nI far)] h none h' ∧ IE h h' ∧ SX h h' (scr f) ∧ WC h' f T (addB w c (t, (s + 2) % 4, o)) := by
    intro _ e1 ⟨h', s1, s2⟩
    obtain ⟨h2, q1, q2⟩ := hnew _ e1 hoth rfl
    rw [← q1] at s2
    rw [s2] at s1
    exact ⟨h2, s1, q2⟩
  cases hw : w t with
  | none =>
    rw [hw] at hwt
    refine fin True (by unfold addB; rw [if_pos rfl, hw]) ⟨_, sp_eq (v20 F.1 hf ⟨t, rfl, ht, fun _ => ⟨rfl, rfl⟩, fun q => absurd hwt q⟩), rfl⟩
  | some v =>
    rw [hw] at hwt
    obtain ⟨g3, g4, g5, v1, v2, v3, v4⟩ := hwt
    have gn : ¬ gI h (f + 3) t = -1 := by rw [g3]; exact nI_m1 (by omega)
    have cmp : (gI h (f + 5) t ≤ 8 * (((opp (nI s) - gI h (f + 6 + t) 12) - 1) &&& 3) + nI far) ↔ ¬ o < v.2.2 := by
      rw [hrk, g5]
      have b1 : ∀ d o : Nat, o < 6 → rkC T t d o < 2147483648 := by
        intro d o ho
        unfold rkC
        split <;> omega
      rw [nIlt (b1 _ _ ho6) (b1 _ _ v3)]
      unfold rkC
      rcases hd with ⟨h1, h2, -, -⟩ | ⟨h1, -, -⟩
      · rw [if_pos h1, if_pos h1]
        have h5 := v4 h1
        rw [h2] at h5
        have h6 := nI_inj (by omega) (by omega) h5
        have h7 : v.2.1 = (s + 2) % 4 := by omega
        rw [h7]
        omega
      · rw [if_neg h1, if_neg h1]
        omega
    by_cases ho : o < v.2.2
    · refine fin True (by unfold addB; rw [if_pos rfl, hw]; show (if o < v.2.2 then _ else _) = _; rw [if_pos ho]) ⟨_, sp_eq (v20 F.1 hf ⟨t, rfl, ht, fun q => absurd q gn, fun _ => ⟨fun q => absurd ho (cmp.mp q), fun _ => ⟨rfl, rfl⟩⟩⟩), rfl⟩
    · refine ⟨h, sp_eq (v20 F.1 hf ⟨t, rfl, ht, fun q => absurd q gn, fun _ => ⟨fun _ => ⟨rfl, rfl⟩, fun q => absurd (cmp.mpr ho) q⟩⟩), IE_r h, SX_r h _, ?_⟩
      have : addB w c (t, (s + 2) % 4, o) = w := by
        funext a
        by_cases ha : a = t
        · subst ha
          unfold addB
          rw [if_pos rfl, hw]
          show (if o < v.2.2 then _ else _) = _
          rw [if_neg ho]
        · exact hoth a ha
      rw [this]
      exact W
theorem c19 (hf : FL f) (F : FH h f R T) (W : WC h f T w) (hc : c < 144) (hs : s < 4) : ∃ h', Sp L xs 19 [.ref f, .int (nI c), .int (nI s), .int i] h (some (.int (b2i (bdO R T c s i).isSome))) h' ∧ IE h h' ∧ SX h h' (scr f) ∧ WC h' f T (addO w c (bdO R T c s i)) := by
  have hn := (nbr_all c hc s hs).1
  cases hb : nb c s with
  | none =>
    rw [hb] at hn
    have e : bdO R T c s i = none := by unfold bdO; rw [hb]
    rw [e]
    refine ⟨h, sp_eq (v19 F.1 hf ⟨fun _ => ⟨rfl, rfl⟩, fun q => absurd hn q⟩), IE_r h, SX_r h _, W⟩
  | some t =>
    rw [hb] at hn
    have ht := nb_lt hc hb
    have gn : ¬ nbr (nI c) (nI s) = -1 := by rw [hn]; exact nI_m1 (by omega)
    obtain ⟨FT, FR, FP⟩ := F.2.2 t ht
    have c35' : Sp L xs 35 [.ref (f + 6 + t), .int i, .int (opp (nI s))] h (some (.int (b2i (tks R (T t) i (nI ((s + 2) % 4)))))) h := by
      have := c35 (L := L) (xs := xs) (i := i) (s := opp (nI s)) F.1 (PT_f hf ht) FR
      rw [F.2.1, FT, (opp_all s hs).1] at this
      rw [(opp_all s hs).1]
      exact this
    cases hk : tks R (T t) i (nI ((s + 2) % 4)) with
    | false =>
      have e : bdO R T c s i = none := by unfold bdO; rw [hb]; show (if tks R (T t) i (nI ((s + 2) % 4)) = true then _ else _) = none; rw [if_neg (by rw [hk]; decide)]
      rw [e]
      rw [hk] at c35'
      refine ⟨h, sp_eq (v19 F.1 hf ⟨fun q => absurd q gn, fun _ => ⟨t, hn, ht, _, c35', fun _ => ⟨rfl, rfl⟩, fun q => absurd rfl q⟩⟩), IE_r h, SX_r h _, W⟩
    | true =>
      have e : bdO R T c s i = some (t, (s + 2) % 4, ((s + 2) % 4 + 7 - (T t 12).toNatClampNeg) % 4) := by unfold bdO; rw [hb]; show (if tks R (T t) i (nI ((s + 2) % 4)) = true then _ else _) = _; rw [if_pos hk]
      rw [e]
      rw [hk] at c35'
      have n3 : ¬ T t 0 = 3 := by
        intro q
        rw [tks_3 q] at hk
        cases hk
      obtain ⟨h', s1, s2⟩ := c20 (L := L) (xs := xs) hf F W hc ht hs (Or.inr ⟨n3, rfl, rfl⟩)
      refine ⟨h', sp_eq (v19 F.1 hf ⟨fun q => absurd q gn, fun _ => ⟨t, hn, ht, _, c35', fun q => absurd q (by decide), fun _ => ⟨h', ?_, rfl, rfl⟩⟩⟩), s2⟩
      rw [hn]
      exact s1
theorem c17l (hf : FL f) (F : FH h f R T) (W : WC h f T w) (hc : c < 144) (hs : s < 4) : ∀ (n k a : Nat) (v : Int32), n + k = 6 → 1 ≤ k → a < 144 → v = (match nb a s with | none => -1 | some t => nI t) → WP L xs 17 9 [some (.ref f), some (.int (nI c)), some (.int (nI s)), some (.int v), some (.int (nI k))] [] h (fun r h' => r = none ∧ IE h h' ∧ SX h h' (scr f) ∧ WC h' f T (addO w c (bdX T s n k a)))
  | 0, k, a, v, hk, _, ha, hv => by
    refine v17_9 F.1 hf ⟨fun _ => ⟨rfl, IE_r h, SX_r h _, W⟩, fun q => absurd ?_ q⟩
    show nI 5 < nI k
    exact nI_lt (by omega) (by omega)
  | n + 1, k, a, v, hk, h1, ha, hv => by
    refine v17_9 F.1 hf ⟨fun q => absurd (show nI 5 < nI k from q) (nI_nlt (by omega) (by omega)), fun _ => ?_⟩
    cases hb : nb a s with
    | none =>
      rw [hb] at hv
      have e : bdX T s (n + 1) k a = none := by unfold bdX; rw [hb]
      rw [e]
      exact ⟨fun _ => ⟨rfl, IE_r h, SX_r h _, W⟩, fun q => absurd hv q⟩
    | some t =>
      rw [hb] at hv
      have ht := nb_lt ha hb
      obtain ⟨FT, FR, FP⟩ := F.2.2 t ht
      subst hv
      have e : bdX T s (n + 1) k a = if T t 0 = 3 ∧ T t 1 = nI s then (if T t 5 = 0 then some (t, (s + 2) % 4, k) else none) else bdX T s n (k + 1) t := by
        show (match nb a s with
          | none => none
          | some t => if T t 0 = 3 ∧ T t 1 = nI s then (if T t 5 = 0 then some (t, (s + 2) % 4, k) else none) else bdX T s n (k + 1) t) = _
        rw [hb]
      refine ⟨fun q => absurd q (nI_m1 (by omega)), fun _ => ⟨t, rfl, ht, ?_⟩⟩
      rw [FT]
      have rest : ¬ (T t 0 = 3 ∧ T t 1 = nI s) → WP L xs 17 9 [some (.ref f), some (.int (nI c)), some (.int (nI s)), some (.int (nbr (nI t) (nI s))), some (.int (nI k + 1))] [] h (fun r h' => r = none ∧ IE h h' ∧ SX h h' (scr f) ∧ WC h' f T (addO w c (bdX T s (n + 1) k a))) := by
        intro q
        rw [e, if_neg q, nI_1]
        exact c17l hf F W hc hs n (k + 1) t _ (by omega) (by omega) ht (nbr_all t ht s hs).1
      refine ⟨fun q0 => ⟨fun q1 => ⟨fun q5 => ?_, fun q5 => ?_⟩, fun q1 => rest (fun q => q1 q.2)⟩, fun q0 => rest (fun q => q0 q.1)⟩
      · rw [e, if_pos ⟨q0, q1⟩, if_pos q5]
        obtain ⟨h', s1, s2⟩ := c20 (L := L) (xs := xs) (far := k) (o := k) hf F W hc ht hs (Or.inl ⟨q0, q1, rfl, by omega⟩)
        exact ⟨h', s1, rfl, s2⟩
      · rw [e, if_pos ⟨q0, q1⟩, if_neg q5]
        exact ⟨rfl, IE_r h, SX_r h _, W⟩
theorem c17 (hf : FL f) (F : FH h f R T) (W : WC h f T w) (hc : c < 144) (hs : s < 4) : ∃ h', Sp L xs 17 [.ref f, .int (nI c), .int (nI s)] h none h' ∧ IE h h' ∧ SX h h' (scr f) ∧ WC h' f T (addO w c (bdX T s 5 1 c)) := by
  obtain ⟨r, h', s1, rfl, s2⟩ := v17 F.1 hf (c17l (L := L) (xs := xs) hf F W hc hs 5 1 c _ rfl (Nat.le_refl _) hc (nbr_all c hc s hs).1)
  exact ⟨h', s1, s2⟩
theorem c18l (hf : FL f) (hc : c < 144) : ∀ (n k : Nat) (z : Option Value) (h : Hp) (F : FH h f R T) (W : WC h f T w), n + k = 5 → 1 ≤ k → WP L xs 18 2 [some (.ref f), some (.int (nI c)), some (.ref (f + 6 + c)), some (.int (nI k)), z] [] h (fun r h' => r = none ∧ IE h h' ∧ SX h h' (scr f) ∧ WC h' f T (addO w c (bdY R T c (T c 5) n k)))
  | 0, k, z, h, F, W, hk, _ => by
    refine v18_2 F.1 hf (PT_f hf hc) ⟨fun _ => ⟨rfl, IE_r h, SX_r h _, W⟩, fun q => absurd ?_ q⟩
    show nI 4 < nI k
    exact nI_lt (by omega) (by omega)
  | n + 1, k, z, h, F, W, hk, h1 => by
    refine v18_2 F.1 hf (PT_f hf hc) ⟨fun q => absurd (show nI 4 < nI k from q) (nI_nlt (by omega) (by omega)), fun _ => ?_⟩
    obtain ⟨FT, FR, FP⟩ := F.2.2 c hc
    obtain ⟨g, hg, eg⟩ := FP.2.2.2.2.1
    have eg2 : (T c 13).toNatClampNeg = g := by rw [eg, nI_c (by omega)]
    have es : (gI h (f + 6 + c) 13 + nI k) &&& 3 = nI ((g + k) % 4) := by rw [FT, eg]; exact (go_all g hg k (by omega)).1
    rw [es]
    have hs4 : (g + k) % 4 < 4 := Nat.mod_lt _ (by decide)
    have c29' := c29 (L := L) (xs := xs) (s := nI ((g + k) % 4)) F.1 (PT_f hf hc)
    rw [FT] at c29' ⊢
    have e : bdY R T c (T c 5) (n + 1) k = if ldT (T c) (nI ((g + k) % 4)) = true then (match bdO R T c ((g + k) % 4) (T c 5) with
      | some b => some b
      | none => bdY R T c (T c 5) n (k + 1)) else bdY R T c (T c 5) n (k + 1) := by
      rw [← eg2]
      rfl
    refine ⟨_, c29', fun q => ?_, fun q => ?_⟩
    · rw [b2i_0] at q
      rw [e, if_neg (by rw [q]; decide), nI_1]
      exact c18l hf hc n (k + 1) _ h F W (by omega) (by omega)
    · rw [b2i_n] at q
      obtain ⟨h', s1, s2, s3, s4⟩ := c19 (L := L) (xs := xs) (i := T c 5) hf F W hc hs4
      refine ⟨_, h', s1, fun q2 => ?_, fun q2 => ?_⟩
      · rw [b2i_0] at q2
        have e2 : bdO R T c ((g + k) % 4) (T c 5) = none := by
          cases hx : bdO R T c ((g + k) % 4) (T c 5) with
          | none => rfl
          | some b => rw [hx] at q2; cases q2
        rw [e2] at s4 e
        rw [e, if_pos q, nI_1]
        have := c18l hf hc n (k + 1) (some (.int (nI ((g + k) % 4)))) h' (FH_of hf F s2 s3) s4 (by omega) (by omega)
        exact wp_imp this (fun r h2 ⟨p1, p2, p3, p4⟩ => ⟨p1, IE_t s2 p2, SX_t s3 p3, p4⟩)
      · rw [b2i_n] at q2
        cases hx : bdO R T c ((g + k) % 4) (T c 5) with
        | none => rw [hx] at q2; cases q2
        | some b =>
          rw [hx] at s4 e
          rw [e, if_pos q]
          exact ⟨rfl, s2, s3, s4⟩
theorem c18 (hf : FL f) (F : FH h f R T) (W : WC h f T w) (hc : c < 144) : ∃ h', Sp L xs 18 [.ref f, .int (nI c), .ref (f + 6 + c)] h none h' ∧ IE h h' ∧ SX h h' (scr f) ∧ WC h' f T (addO w c (bdY R T c (T c 5) 4 1)) := by
  obtain ⟨r, h', s1, rfl, s2⟩ := v18 F.1 hf (PT_f hf hc) (c18l (L := L) (xs := xs) hf hc 4 1 _ h F W rfl (Nat.le_refl _))
  exact ⟨h', s1, s2⟩
end FB
