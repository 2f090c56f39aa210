/-! The reference's floor: what is offered, who takes, bids. -/
def scrm (a : Nat) : Prop := a = 427 ∨ a = 428 ∨ a = 429
def MFl (h : Hp) (b : Nat) (R T : Nat → Row) : Prop := HW h ∧ MRc h = R ∧ ∀ c, c < 144 → MV h b c = T c ∧ PG R (T c) ∧ (T c 0 = 6 → ∃ a, a < 8 ∧ T c 2 = nI a)
theorem AD_no (b c j : Nat) : (405 ≤ (AD b c j).1 ∧ (AD b c j).1 ≤ 419) ∨ (431 ≤ (AD b c j).1 ∧ (AD b c j).1 ≤ 433) ∨ (AD b c j).1 = 0 := by
  unfold AD
  split <;> simp
theorem ARc_no (r j : Nat) : (399 ≤ (ARc r j).1 ∧ (ARc r j).1 ≤ 404) ∨ (ARc r j).1 = 0 := by
  unfold ARc
  split <;> simp
theorem MV_of {h h' : Hp} {P : Nat → Prop} (s : SX h h' P) (hP : ∀ a, P a → ¬ (405 ≤ a ∧ a ≤ 419) ∧ ¬ (431 ≤ a ∧ a ≤ 433) ∧ ¬ a = 0) : MV h' = MV h := by
  funext b c j
  unfold MV
  have := AD_no b c j
  rw [s _ (fun q => by have := hP _ q; omega)]
theorem MRc_of {h h' : Hp} {P : Nat → Prop} (s : SX h h' P) (hP : ∀ a, P a → ¬ (399 ≤ a ∧ a ≤ 404) ∧ ¬ a = 0) : MRc h' = MRc h := by
  funext r j
  unfold MRc
  have := ARc_no r j
  rw [s _ (fun q => by have := hP _ q; omega)]
theorem MFl_of {h h' : Hp} {b : Nat} {R T : Nat → Row} (F : MFl h b R T) (e : IE h h') (s : SX h h' scrm) : MFl h' b R T := by
  refine ⟨IE_w e F.1, (MRc_of s fun a q => by unfold scrm at q; omega).trans F.2.1, fun c hc => ?_⟩
  rw [MV_of s (fun a q => by unfold scrm at q; omega)]
  exact F.2.2 c hc
def WM (h : Hp) (w : Nat → Bd) : Prop := ∀ t, t < 144 → match w t with
  | none => gI h 427 t = -1
  | some v => gI h 427 t = nI v.1 ∧ gI h 429 t = nI v.2.1 ∧ gI h 428 t = nI v.2.2 ∧ v.1 < 144 ∧ v.2.1 < 4 ∧ v.2.2 < 6
theorem and1 (y : Int32) : (y &&& 1 = 0) ↔ ¬ (y &&& 1 = 1) := by
  obtain ⟨j, hj, e⟩ := pk_andE y (m := 1) 1 (by decide)
  rw [e]
  rcases (show j = 0 ∨ j = 1 by omega) with rfl | rfl <;> decide
section MB
variable {L : Nat} {xs : Nat → Int32} {h : Hp} {b c t s d o g : Nat} {R T : Nat → Row} {w : Nat → Bd} {i : Int32}
theorem c156 (hb : b < 3) (F : MFl h b R T) (hc : c < 144) : Sp L xs 156 [.ref 397, .int (nI b), .int (nI c)] h (some (.int (ofd R (T c)))) h := by
  obtain ⟨hT, -, h6⟩ := F.2.2 c hc
  have k0 : gI h 405 c = T c 0 := congrFun hT 0
  have k9 : gI h 414 (144 * b + c) = T c 9 := congrFun hT 9
  have k5 : gI h 412 (144 * b + c) = T c 5 := congrFun hT 5
  have k2 : gI h 407 c = T c 2 := congrFun hT 2
  refine sp_eq (v156 F.1 ⟨c, rfl, hc, fun q => ⟨_, ix1 b c, by omega, fun q2 => ⟨?_, rfl⟩, fun q2 => ?_⟩, fun q => ⟨_, ix1 b c, by omega, ?_, rfl⟩⟩)
  · rw [k0] at q
    rw [k9] at q2
    rw [ofd_6 q, if_pos q2]
  · rw [k0] at q
    rw [k9] at q2
    obtain ⟨a, ha, e⟩ := h6 q
    refine ⟨a, by rw [k2, e], ha, ?_, rfl⟩
    have : gI h 400 a = R a 0 := congrFun (congrFun F.2.1 a) 0
    rw [ofd_6 q, if_neg q2, this]
    unfold rc
    rw [e, nI_c (by omega)]
  · rw [k0] at q
    rw [ofd_n q, k5]
theorem c158 (hb : b < 3) (F : MFl h b R T) (ht : t < 144) {a : Nat} (ha : a < 8) (hi : ¬ i = 0) : Sp L xs 158 [.ref 397, .int (144 * nI b + nI t), .int (nI a), .int i] h (some (.int (b2i (hsR (R a) (T t) i)))) h := by
  obtain ⟨hT, -, -⟩ := F.2.2 t ht
  have k7 : gI h 417 (2 * (144 * b + t)) = T t 7 := congrFun hT 7
  have k8 : gI h 417 (2 * (144 * b + t) + 1) = T t 8 := congrFun hT 8
  have r4 : gI h 402 (2 * a) = R a 4 := congrFun (congrFun F.2.1 a) 4
  have r5 : gI h 403 (2 * a) = R a 5 := congrFun (congrFun F.2.1 a) 5
  have r6 : gI h 402 (2 * a + 1) = R a 6 := congrFun (congrFun F.2.1 a) 6
  have r7 : gI h 403 (2 * a + 1) = R a 7 := congrFun (congrFun F.2.1 a) 7
  refine sp_eq (v158 F.1 ⟨_, ix4 a, by omega, fun q => ⟨_, ix2 b t, by omega, ?_, rfl⟩, fun q => ⟨_, ix5 a, by omega, fun q2 => ⟨_, ix3 b t, by omega, ?_, rfl⟩, fun q2 => ⟨?_, rfl⟩⟩⟩)
  · rw [r4] at q
    rw [hsR, if_neg hi, if_pos q.symm, iteb', r5, k7]
  · rw [r4] at q
    rw [r6] at q2
    rw [hsR, if_neg hi, if_neg (show ¬ i = R a 4 from fun z => q z.symm), if_pos q2.symm, iteb', r7, k8]
  · rw [r4] at q
    rw [r6] at q2
    rw [hsR, if_neg hi, if_neg (show ¬ i = R a 4 from fun z => q z.symm), if_neg (show ¬ i = R a 6 from fun z => q2 z.symm)]
    rfl
theorem c157 (hb : b < 3) (F : MFl h b R T) (ht : t < 144) (hg : g < 144) (hi : ¬ i = 0) : Sp L xs 157 [.ref 397, .int (nI b), .int (nI t), .int i, .int (nI d), .int (nI g)] h (some (.int (b2i (if T t 0 = 3 then (decide (T t 5 = 0) && decide (T g 0 = 2 ∧ T g 1 = T t 1)) else tks R (T t) i (nI d))))) h := by
  obtain ⟨hT, -, h6⟩ := F.2.2 t ht
  have k0 : gI h 405 t = T t 0 := congrFun hT 0
  have k1 : gI h 406 t = T t 1 := congrFun hT 1
  have k5 : gI h 412 (144 * b + t) = T t 5 := congrFun hT 5
  have k2 : gI h 407 t = T t 2 := congrFun hT 2
  have g0 : gI h 405 g = T g 0 := congrFun (F.2.2 g hg).1 0
  have g1 : gI h 406 g = T g 1 := congrFun (F.2.2 g hg).1 1
  have belt : (T t 0 = 1 ∨ T t 0 = 2) → ∃ k5 : Nat, ((144 * nI b) + nI t) = nI k5 ∧ k5 < 432 ∧ (((gI h 412 k5) = 0) → (some (Value.int (b2i (if (gI h 406 t) = nI d then (false) else (true)))) = some (.int (b2i (if T t 0 = 3 then (decide (T t 5 = 0) && decide (T g 0 = 2 ∧ T g 1 = T t 1)) else tks R (T t) i (nI d)))) ∧ h = h)) ∧ (¬ ((gI h 412 k5) = 0) → (some (Value.int 0) = some (.int (b2i (if T t 0 = 3 then (decide (T t 5 = 0) && decide (T g 0 = 2 ∧ T g 1 = T t 1)) else tks R (T t) i (nI d)))) ∧ h = h)) := by
    intro kk
    have n3 : ¬ T t 0 = 3 := by rcases kk with q | q <;> (rw [q]; decide)
    have e : tks R (T t) i (nI d) = (decide (T t 5 = 0) && !ldT (T t) (nI d)) := by rw [tks, if_pos (kk.elim Or.inl (fun q => Or.inr (Or.inl q)))]
    have el : ldT (T t) (nI d) = decide (T t 1 = nI d) := by
      rw [ldT, if_neg (by rcases kk with q | q <;> (rw [q]; decide)), if_neg (by rcases kk with q | q <;> (rw [q]; decide)), if_neg (by rcases kk with q | q <;> (rw [q]; decide))]
    refine ⟨_, ix1 b t, by omega, fun q => ⟨?_, rfl⟩, fun q => ⟨?_, rfl⟩⟩
    · rw [k5] at q
      rw [if_neg n3, e, decide_eq_true q, Bool.true_and, el, iteb', k1]
    · rw [k5] at q
      rw [if_neg n3, e, decide_eq_false q, Bool.false_and]
      rfl
  refine sp_eq (v157 F.1 ⟨t, rfl, ht, ?_⟩)
  rw [k0, k2]
  refine ⟨fun q => belt (Or.inl q), fun n1 => ⟨fun q => belt (Or.inr q), fun n2 => ⟨fun q => ?_, fun n3 => ⟨fun q => ?_, fun n4 => ⟨fun q => ?_, fun n5 => ⟨fun q => ?_, fun n6 => ⟨fun q => ?_, fun n7 => ?_⟩⟩⟩⟩⟩⟩⟩
  · refine ⟨_, ix1 b t, by omega, fun q5 => ⟨g, rfl, hg, fun q2 => ⟨?_, rfl⟩, fun q2 => ⟨?_, rfl⟩⟩, fun q5 => ⟨?_, rfl⟩⟩
    · rw [k5] at q5
      rw [g0] at q2
      rw [if_pos q, decide_eq_true q5, Bool.true_and, iteb, g1, k1]
      by_cases z : T g 1 = T t 1
      · rw [decide_eq_true z, decide_eq_true ⟨q2, z⟩]
      · rw [decide_eq_false z, decide_eq_false (fun y => z y.2)]
    · rw [g0] at q2
      rw [if_pos q, decide_eq_false (show ¬ (T g 0 = 2 ∧ T g 1 = T t 1) from fun y => q2 y.1), Bool.and_false]
      rfl
    · rw [k5] at q5
      rw [if_pos q, decide_eq_false q5, Bool.false_and]
      rfl
  · have e : tks R (T t) i (nI d) = (decide (T t 5 = 0) && !ldT (T t) (nI d)) := by rw [tks, if_pos (Or.inr (Or.inr q))]
    have el : ldT (T t) (nI d) = decide ((T t 1 >>> (nI d &&& 31)) &&& 1 = 1) := by
      rw [ldT, if_neg (by rw [q]; decide), if_neg (by rw [q]; decide), if_pos q]
    refine ⟨_, ix1 b t, by omega, fun q5 => ⟨?_, rfl⟩, fun q5 => ⟨?_, rfl⟩⟩
    · rw [k5] at q5
      rw [if_neg n3, e, decide_eq_true q5, Bool.true_and, el, iteb, k1]
      have := and1 (T t 1 >>> (nI d &&& 31))
      by_cases z : (T t 1 >>> (nI d &&& 31)) &&& 1 = 1
      · rw [decide_eq_true z, decide_eq_false (fun y => this.mp y z)]
        rfl
      · rw [decide_eq_false z, decide_eq_true (this.mpr z)]
        rfl
    · rw [k5] at q5
      rw [if_neg n3, e, decide_eq_false q5, Bool.false_and]
      rfl
  · refine ⟨?_, rfl⟩
    rw [if_neg n3, tks, if_neg (by rw [q]; decide), if_neg (by rw [q]; decide), decide_eq_false (by rw [q]; decide)]
    rfl
  · have e : tks R (T t) i (nI d) = (!ldT (T t) (nI d) && hsR (rc R (T t)) (T t) i) := by rw [tks, if_neg (by rw [q]; decide), if_pos q]
    have el : ldT (T t) (nI d) = decide (T t 1 = nI d) := by
      rw [ldT, if_neg (by rw [q]; decide), if_neg (by rw [q]; decide), if_neg (by rw [q]; decide)]
    obtain ⟨a, ha, ea⟩ := h6 q
    have er : rc R (T t) = R a := by unfold rc; rw [ea, nI_c (by omega)]
    rw [k1, ea]
    refine ⟨fun z => ⟨?_, rfl⟩, fun z => ⟨_, c158 hb F ht ha hi, ?_, rfl⟩⟩
    · rw [if_neg n3, e, el, decide_eq_true z, Bool.not_true, Bool.false_and]
      rfl
    · rw [if_neg n3, e, el, decide_eq_false z, Bool.not_false, Bool.true_and, er, b2i_nz']
  · refine ⟨?_, rfl⟩
    rw [if_neg n3, tks, if_neg (by rw [q]; decide), if_neg (by rw [q]; decide), decide_eq_true q]
    rfl
  · refine ⟨?_, rfl⟩
    rw [if_neg n3, tks, if_neg (fun z => z.elim n1 (fun z => z.elim n2 n4)), if_neg n6, decide_eq_false n7]
    rfl
theorem WM_set (W : WM h w) (hc : c < 144) (hd : d < 4) (ho : o < 6) {w' : Nat → Bd} (e1 : w' t = some (c, d, o)) (e2 : ∀ a, ¬ a = t → w' a = w a) : WM (sI (sI (sI h 427 t (nI c)) 428 t (nI o)) 429 t (nI d)) w' := by
  intro a ha
  by_cases hat : a = t
  · subst hat
    rw [e1]
    refine ⟨?_, ?_, ?_, hc, hd, ho⟩ <;> simp [gI_sI]
  · rw [e2 a hat]
    have g3 : gI (sI (sI (sI h 427 t (nI c)) 428 t (nI o)) 429 t (nI d)) 427 a = gI h 427 a := by simp [gI_sI, hat]
    have g4 : gI (sI (sI (sI h 427 t (nI c)) 428 t (nI o)) 429 t (nI d)) 428 a = gI h 428 a := by simp [gI_sI, hat]
    have g5 : gI (sI (sI (sI h 427 t (nI c)) 428 t (nI o)) 429 t (nI d)) 429 a = gI h 429 a := by simp [gI_sI, hat]
    rw [g3, g4, g5]
    exact W a ha
theorem c159 (hw : HW h) (W : WM h w) (hc : c < 144) (ht : t < 144) (hd : d < 4) (ho : o < 6) : ∃ h', Sp L xs 159 [.ref 397, .int (nI b), .int (nI c), .int (nI t), .int (nI d), .int (nI o)] h none h' ∧ IE h h' ∧ SX h h' scrm ∧ WM h' (addB w c (t, d, o)) := by
  have hwt := W t ht
  have hoth : ∀ a, ¬ a = t → addB w c (t, d, o) a = w a := by
    intro a ha
    unfold addB
    rw [if_neg (fun q => ha q.symm)]
  have sx : SX h (sI (sI (sI h 427 t (nI c)) 428 t (nI o)) 429 t (nI d)) scrm := by
    intro a ha
    unfold scrm at ha
    rw [gIo (by omega), gIo (by omega), gIo (by omega)]
  cases hv : w t with
  | none =>
    rw [hv] at hwt
    have e : addB w c (t, d, o) t = some (c, d, o) := by unfold addB; rw [if_pos rfl, hv]
    exact ⟨_, sp_eq (v159 hw ⟨t, rfl, ht, fun _ => ⟨rfl, rfl⟩, fun q => absurd hwt q⟩), IE_r h, sx, WM_set W hc hd ho e hoth⟩
  | some v =>
    rw [hv] at hwt
    obtain ⟨g3, g4, g5, v1, v2, v3⟩ := hwt
    have gn : ¬ gI h 427 t = -1 := by rw [g3]; exact nI_m1 (by omega)
    have cmp : (gI h 428 t ≤ nI o) ↔ ¬ o < v.2.2 := by
      rw [g5, nIlt (by omega) (by omega)]
      omega
    by_cases hlt : o < v.2.2
    · have e : addB w c (t, d, o) t = some (c, d, o) := by unfold addB; rw [if_pos rfl, hv]; show (if o < v.2.2 then _ else _) = _; rw [if_pos hlt]
      exact ⟨_, sp_eq (v159 hw ⟨t, rfl, ht, fun q => absurd q gn, fun _ => ⟨fun q => absurd hlt (cmp.mp q), fun _ => ⟨rfl, rfl⟩⟩⟩), IE_r h, sx, WM_set W hc hd ho e hoth⟩
    · refine ⟨h, sp_eq (v159 hw ⟨t, rfl, ht, fun q => absurd q gn, fun _ => ⟨fun _ => ⟨rfl, rfl⟩, fun q => absurd (cmp.mpr hlt) q⟩⟩), IE_r h, SX_r h _, ?_⟩
      have : addB w c (t, d, o) = w := by
        funext a
        by_cases ha : a = t
        · subst ha
          unfold addB
          rw [if_pos rfl, hv]
          show (if o < v.2.2 then _ else _) = _
          rw [if_neg hlt]
        · exact hoth a ha
      rw [this]
      exact W
theorem c161 (hb : b < 3) (F : MFl h b R T) (W : WM h w) (hc : c < 144) (hs : s < 4) (hi : ¬ i = 0) (h2 : ¬ T c 0 = 2) : ∃ h', Sp L xs 161 [.ref 397, .int (nI b), .int (nI c), .int (nI s), .int i] h (some (.int (b2i (bdO R T c s i).isSome))) h' ∧ IE h h' ∧ SX h h' scrm ∧ WM h' (addO w c (bdO R T c s i)) := by
  have hn := (nbr_all c hc s hs).2
  cases hx : nb c s with
  | none =>
    rw [hx] at hn
    have e : bdO R T c s i = none := by unfold bdO; rw [hx]
    rw [e]
    refine ⟨h, sp_eq (v161 F.1 ⟨fun _ => ⟨rfl, rfl⟩, fun q => absurd hn q⟩), IE_r h, SX_r h _, W⟩
  | some t =>
    rw [hx] at hn
    have ht := nb_lt hc hx
    have gn : ¬ nxt (nI c) (nI s) = -1 := by rw [hn]; exact nI_m1 (by omega)
    obtain ⟨hT, hP, -⟩ := F.2.2 t ht
    have c157' : Sp L xs 157 [.ref 397, .int (nI b), .int (nI t), .int i, .int (nI ((s + 2) % 4)), .int (nI c)] h (some (.int (b2i (tks R (T t) i (nI ((s + 2) % 4)))))) h := by
      have := c157 (L := L) (xs := xs) (d := (s + 2) % 4) hb F ht hc hi
      by_cases k3 : T t 0 = 3
      · rw [if_pos k3, decide_eq_false (show ¬ (T c 0 = 2 ∧ T c 1 = T t 1) from fun y => h2 y.1), Bool.and_false] at this
        rw [tks_3 k3]
        exact this
      · rw [if_neg k3] at this
        exact this
    have eo := (opp_all s hs).2
    obtain ⟨tk, htk, etk⟩ := hP.2.2.2.1
    have k12 : gI h 418 (144 * b + t) = nI tk := (congrFun hT 12).trans etk
    have etk2 : (T t 12).toNatClampNeg = tk := by rw [etk, nI_c (by omega)]
    have hd4 : (s + 2) % 4 < 4 := Nat.mod_lt _ (by decide)
    cases hk : tks R (T t) i (nI ((s + 2) % 4)) with
    | false =>
      have e : bdO R T c s i = none := by unfold bdO; rw [hx]; show (if tks R (T t) i (nI ((s + 2) % 4)) = true then _ else _) = none; rw [if_neg (by rw [hk]; decide)]
      rw [e]
      rw [hk] at c157'
      refine ⟨h, sp_eq (v161 F.1 ⟨fun q => absurd q gn, fun _ => ?_⟩), IE_r h, SX_r h _, W⟩
      rw [hn, eo]
      exact ⟨_, c157', fun _ => ⟨rfl, rfl⟩, fun q => absurd rfl q⟩
    | true =>
      have e : bdO R T c s i = some (t, (s + 2) % 4, ((s + 2) % 4 + 7 - (T t 12).toNatClampNeg) % 4) := by unfold bdO; rw [hx]; show (if tks R (T t) i (nI ((s + 2) % 4)) = true then _ else _) = _; rw [if_pos hk]
      rw [e]
      rw [hk] at c157'
      obtain ⟨h', s1, s2⟩ := c159 (L := L) (xs := xs) (b := b) (t := t) (d := (s + 2) % 4) (o := ((s + 2) % 4 + 7 - (T t 12).toNatClampNeg) % 4) F.1 W hc ht hd4 (Nat.lt_of_lt_of_le (Nat.mod_lt _ (by decide)) (by decide))
      refine ⟨h', sp_eq (v161 F.1 ⟨fun q => absurd q gn, fun _ => ?_⟩), s2⟩
      rw [hn, eo]
      refine ⟨_, c157', fun q => absurd q (by decide), fun _ => ⟨144 * b + t, ix1 b t, by omega, h', ?_, rfl, rfl⟩⟩
      rw [k12, (rk_all _ hd4 tk htk).2, ← etk2]
      exact s1
theorem c160l (hb : b < 3) (F : MFl h b R T) (W : WM h w) (hc : c < 144) (hs : s < 4) (es : T c 1 = nI s) (h2 : T c 0 = 2) (hi : ¬ i = 0) : ∀ (n k a : Nat), n + k = 6 → 1 ≤ k → a < 144 → WP L xs 160 6 [some (.ref 397), some (.int (nI b)), some (.int (nI c)), some (.int i), some (.int (nI a)), some (.int (nI k))] [] h (fun r h' => r = none ∧ IE h h' ∧ SX h h' scrm ∧ WM h' (addO w c (bdX T s n k a)))
  | 0, k, a, hk, _, ha => by
    refine v160_6 F.1 ⟨fun _ => ⟨rfl, IE_r h, SX_r h _, W⟩, fun q => absurd ?_ q⟩
    show nI 5 < nI k
    exact nI_lt (by omega) (by omega)
  | n + 1, k, a, hk, h1, ha => by
    have k1 : gI h 406 c = nI s := (congrFun (F.2.2 c hc).1 1).trans es
    have hn := (nbr_all a ha s hs).2
    refine v160_6 F.1 ⟨fun q => absurd (show nI 5 < nI k from q) (nI_nlt (by omega) (by omega)), fun _ => ⟨c, rfl, hc, ?_⟩⟩
    rw [k1]
    cases hx : nb a s with
    | none =>
      rw [hx] at hn
      have e : bdX T s (n + 1) k a = none := by unfold bdX; rw [hx]
      rw [e]
      exact ⟨fun _ => ⟨rfl, IE_r h, SX_r h _, W⟩, fun q => absurd hn q⟩
    | some t =>
      rw [hx] at hn
      have ht := nb_lt ha hx
      have t0 : gI h 405 t = T t 0 := congrFun (F.2.2 t ht).1 0
      have t1 : gI h 406 t = T t 1 := congrFun (F.2.2 t ht).1 1
      rw [hn]
      have e : bdX T s (n + 1) k a = if T t 0 = 3 ∧ T t 1 = nI s then (if T t 5 = 0 then some (t, (s + 2) % 4, k) else none) else bdX T s n (k + 1) t := by
        show (match nb a s with
          | none => none
          | some t => if T t 0 = 3 ∧ T t 1 = nI s then (if T t 5 = 0 then some (t, (s + 2) % 4, k) else none) else bdX T s n (k + 1) t) = _
        rw [hx]
      refine ⟨fun q => absurd q (nI_m1 (by omega)), fun _ => ⟨t, rfl, ht, ?_⟩⟩
      rw [t0, t1]
      have rest : ¬ (T t 0 = 3 ∧ T t 1 = nI s) → WP L xs 160 6 [some (.ref 397), some (.int (nI b)), some (.int (nI c)), some (.int i), some (.int (nI t)), some (.int (nI k + 1))] [] h (fun r h' => r = none ∧ IE h h' ∧ SX h h' scrm ∧ WM h' (addO w c (bdX T s (n + 1) k a))) := by
        intro q
        rw [e, if_neg q, nI_1]
        exact c160l hb F W hc hs es h2 hi n (k + 1) t (by omega) (by omega) ht
      refine ⟨fun q0 => ⟨fun q1 => ?_, fun q1 => rest (fun q => q1 q.2)⟩, fun q0 => rest (fun q => q0 q.1)⟩
      have c157' := c157 (L := L) (xs := xs) (d := (s + 2) % 4) hb F ht hc hi
      rw [if_pos q0, decide_eq_true (show T c 0 = 2 ∧ T c 1 = T t 1 from ⟨h2, by rw [es, q1]⟩), Bool.and_true] at c157'
      rw [(opp_all s hs).2, e, if_pos ⟨q0, q1⟩]
      refine ⟨_, c157', fun q5 => ?_, fun q5 => ?_⟩
      · rw [b2i_0] at q5
        rw [if_neg (of_decide_eq_false q5)]
        exact ⟨rfl, IE_r h, SX_r h _, W⟩
      · rw [b2i_n] at q5
        rw [if_pos (of_decide_eq_true q5)]
        obtain ⟨h', s1, s2⟩ := c159 (L := L) (xs := xs) (b := b) (t := t) (d := (s + 2) % 4) (o := k) F.1 W hc ht (Nat.mod_lt _ (by decide)) (by omega)
        exact ⟨h', s1, rfl, s2⟩
theorem c160 (hb : b < 3) (F : MFl h b R T) (W : WM h w) (hc : c < 144) (hs : s < 4) (es : T c 1 = nI s) (h2 : T c 0 = 2) (hi : ¬ i = 0) : ∃ h', Sp L xs 160 [.ref 397, .int (nI b), .int (nI c), .int i] h none h' ∧ IE h h' ∧ SX h h' scrm ∧ WM h' (addO w c (bdX T s 5 1 c)) := by
  obtain ⟨r, h', s1, rfl, s2⟩ := v160 F.1 (c160l (L := L) (xs := xs) hb F W hc hs es h2 hi 5 1 c rfl (Nat.le_refl _) hc)
  exact ⟨h', s1, s2⟩
theorem c128 (F : MFl h b R T) (hc : c < 144) : Sp L xs 128 [.ref 397, .int (nI c), .int i] h (some (.int (b2i (ldT (T c) i)))) h := by
  have k0 : gI h 405 c = T c 0 := congrFun (F.2.2 c hc).1 0
  have k1 : gI h 406 c = T c 1 := congrFun (F.2.2 c hc).1 1
  refine sp_eq (v128 F.1 ⟨c, rfl, hc, ?_⟩)
  rw [k0, k1]
  refine ⟨fun q => ⟨?_, rfl⟩, fun n4 => ⟨fun q => ⟨?_, rfl⟩, fun n0 => ⟨fun q => ⟨?_, rfl⟩, fun n7 => ⟨?_, rfl⟩⟩⟩⟩
  · rw [iteb, ldT, if_neg (show ¬ T c 0 = 0 by rw [q]; decide), if_neg (show ¬ T c 0 = 7 by rw [q]; decide), if_pos q]
  · rw [ldT, if_pos q]; rfl
  · rw [ldT, if_neg n0, if_pos q]; rfl
  · rw [iteb, ldT, if_neg n0, if_neg n7, if_neg n4]
end MB
