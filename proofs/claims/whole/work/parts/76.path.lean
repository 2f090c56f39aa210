/-! The call path. -/
/-- the distance from a bare cell on, 0 if there is no way -/
noncomputable def DF (T : Nat → Row) (z k : Nat) : Nat := @dite Nat (∃ d, DS T z k d) (Classical.propDecidable _) (fun h => h.choose) (fun _ => 0)
def DOk (T : Nat → Row) (z k d : Nat) : Prop := (d = 0 ∧ ∀ m, ¬ rch T z m k) ∨ (¬ d = 0 ∧ DS T z k d)
theorem DF_v {T : Nat → Row} {z k d : Nat} (w : DOk T z k d) : d = DF T z k := by
  unfold DF
  by_cases ex : ∃ d, DS T z k d
  · rw [dif_pos ex]
    rcases w with ⟨-, n⟩ | ⟨-, s⟩
    · exact absurd ex.choose_spec.1 (n _)
    · exact DS_u s ex.choose_spec
  · rw [dif_neg ex]
    rcases w with ⟨e, -⟩ | ⟨-, s⟩
    · exact e
    · exact absurd ⟨d, s⟩ ex
theorem DF_bare {T : Nat → Row} {z k : Nat} (w : DOk T z k (DF T z k)) (n : ¬ DF T z k = 0) : T k 0 = 0 := by
  rcases w with ⟨e, -⟩ | ⟨-, s⟩
  · exact absurd e n
  · exact (rch_b s.1).2
/-- the class's floor is T -/
def flE (T : Nat → Row) (h : Hp) : Prop := ∀ c, c < 144 → gI h (10 + c) = T c
/-- all distances are known and at most 144 -/
def DAll (T : Nat → Row) (z : Nat) : Prop := ∀ k, k < 144 → DOk T z k (DF T z k) ∧ DF T z k ≤ 144
/-- the cell that side s of a leads to -/
def goS (T : Nat → Row) (a s : Nat) : Option Nat := if ldT (T a) (nI s) = true then nb a s else none
def gdN (D : Nat → Nat) (g : Option Nat) : Nat := match g with
  | none => 0
  | some k => D k
def bsn (g b : Nat) : Nat := if g = 0 then b else if b = 0 then g else if g < b then g else b
/-- the least of the distances behind the first sides, 0 if there is none -/
def bsT (T : Nat → Row) (D : Nat → Nat) (a : Nat) : Nat → Nat
  | 0 => 0
  | s + 1 => bsn (gdN D (goS T a s)) (bsT T D a s)
theorem bsT_s (T : Nat → Row) (D : Nat → Nat) (a s : Nat) : bsT T D a (s + 1) = bsn (gdN D (goS T a s)) (bsT T D a s) := rfl
def encC (b : Nat) : Int32 := if b = 0 then -1 else nI b
def adb (T : Nat → Row) (a z s : Nat) : Bool := decide (goS T a s = some z) && !ldT (T z) (nI ((s + 2) % 4))
/-- one of the first sides leads at once into the target -/
def adB (T : Nat → Row) (a z : Nat) : Nat → Bool
  | 0 => false
  | s + 1 => adB T a z s || adb T a z s
noncomputable def pth (T : Nat → Row) (a z : Nat) : Int32 := if a = z ∨ cnG (T a 0) = false ∨ cnT (T z 0) = false then -1 else if adB T a z 4 = true then 0 else encC (bsT T (DF T z) a 4)
section PT1
variable {L : Nat} {xs : Nat → Int32} {h h0 : Hp} {z a s n : Nat} {T : Nat → Row} {D : Nat → Nat}
theorem goS_nb {k : Nat} (e : goS T a s = some k) : ldT (T a) (nI s) = true ∧ nb a s = some k := by
  unfold goS at e
  by_cases l : ldT (T a) (nI s) = true
  · rw [if_pos l] at e; exact ⟨l, e⟩
  · rw [if_neg l] at e; cases e
theorem goS_f (l : ldT (T a) (nI s) = false) : goS T a s = none := by
  unfold goS; rw [l]; rfl
theorem goS_t (l : ldT (T a) (nI s) = true) : goS T a s = nb a s := by
  unfold goS; rw [l]; rfl
theorem gdN_le (hD : ∀ k, k < 144 → D k ≤ n) (ha : a < 144) (hs : s < 4) : gdN D (goS T a s) ≤ n := by
  cases e : goS T a s with
  | none => exact Nat.zero_le _
  | some k => exact hD k (nb_144 a ha s hs k (goS_nb e).2)
theorem bsn_le {g b m : Nat} (h1 : g ≤ m) (h2 : b ≤ m) : bsn g b ≤ m := by
  unfold bsn
  split
  · exact h2
  · split
    · exact h1
    · split
      · exact h1
      · exact h2
theorem bsT_le (hD : ∀ k, k < 144 → D k ≤ n) (ha : a < 144) : ∀ s, s ≤ 4 → bsT T D a s ≤ n
  | 0, _ => Nat.zero_le _
  | s + 1, h => by
    rw [bsT_s]
    exact bsn_le (gdN_le hD ha (by omega)) (bsT_le hD ha s (by omega))
theorem c69 (hw : HW h) (ft : flE T h) (hD : ∀ k, k < 144 → gI h 391 k = nI (D k)) (ha : a < 144) (hs : s < 4) : Sp L xs 69 [.ref 390, .ref 4, .int (nI a), .int (nI s)] h (some (.int (nI (gdN D (goS T a s))))) h := by
  have s29 := c29 (L := L) (xs := xs) (s := nI s) hw (PT_4 ha)
  rw [ft a ha] at s29
  have nn := (nbr_all a ha s hs).1
  refine sp_eq (v69 hw ⟨a, rfl, ha, _, s29, fun l0 => ?_, fun l0 => ?_⟩)
  · rw [goS_f (b2i_0.mp l0)]; exact ⟨rfl, rfl⟩
  · rw [goS_t (b2i_n.mp l0)]
    cases hb : nb a s with
    | none =>
      rw [hb] at nn
      exact ⟨fun _ => ⟨rfl, rfl⟩, fun q => absurd nn q⟩
    | some k =>
      rw [hb] at nn
      have hk := nb_144 a ha s hs k hb
      exact ⟨fun q => absurd (nn.symm.trans q) (nI_m1 (by omega)), fun _ => ⟨k, nn, hk, by rw [hD k hk]; rfl, rfl⟩⟩
theorem nb_inj : ∀ a, a < 144 → ∀ s, s < 4 → ∀ t, t < 4 → ∀ z, nb a s = some z → nb a t = some z → s = t := by
  have : ∀ a, a < 144 → ∀ s, s < 4 → ∀ t, t < 4 → (match nb a s, nb a t with | some x, some y => decide (x = y → s = t) | _, _ => true) = true := by decide +kernel
  intro a ha s hs t ht z e1 e2
  have := this a ha s hs t ht
  rw [e1, e2] at this
  exact of_decide_eq_true this rfl
theorem opp4 : ∀ s, s < 4 → opp (nI s) = nI ((s + 2) % 4) ∧ (nI s + 2) - (nI s + 2) / 4 * 4 = nI ((s + 2) % 4) := by decide
theorem adb_n (g : ¬ goS T a s = some z) : adb T a z s = false := by
  unfold adb
  rw [decide_eq_false g]; rfl
theorem adB_all (ha : a < 144) (hs : s < 4) (g : goS T a s = some z) (b : adB T a z s = false) : adB T a z 4 = !ldT (T z) (nI ((s + 2) % 4)) := by
  have o : ∀ t, t < 4 → ¬ t = s → adb T a z t = false := fun t ht hne => adb_n (fun w => hne (nb_inj a ha t ht s hs z (goS_nb w).2 (goS_nb g).2))
  have e : adb T a z s = !ldT (T z) (nI ((s + 2) % 4)) := by
    unfold adb
    rw [decide_eq_true g, Bool.true_and]
  rw [← e]
  show (((false || adb T a z 0) || adb T a z 1) || adb T a z 2 || adb T a z 3) = _
  rcases (show s = 0 ∨ s = 1 ∨ s = 2 ∨ s = 3 by omega) with rfl | rfl | rfl | rfl
  · rw [o 1 (by decide) (by decide), o 2 (by decide) (by decide), o 3 (by decide) (by decide)]; simp
  · rw [o 0 (by decide) (by decide), o 2 (by decide) (by decide), o 3 (by decide) (by decide)]; simp
  · rw [o 0 (by decide) (by decide), o 1 (by decide) (by decide), o 3 (by decide) (by decide)]; simp
  · rw [o 0 (by decide) (by decide), o 1 (by decide) (by decide), o 2 (by decide) (by decide)]; simp
theorem c68l (hw : HW h) (ft : flE T h) (ha : a < 144) (hz : z < 144) {z0 : Option Value} : ∀ (m s : Nat), s + m = 4 → (∀ t, t < s → ¬ goS T a t = some z) → adB T a z s = false → WP L xs 68 3 [z0, some (.ref 4), some (.int (nI a)), some (.int (nI z)), some (.int (nI s))] [] h (fun r h' => r = some (.int (b2i (adB T a z 4))) ∧ h' = h)
  | 0, s, hs, cl, b => by
    obtain rfl : s = 4 := by omega
    rw [b]
    exact v68_3 hw ⟨fun _ => ⟨rfl, rfl⟩, fun q => absurd (nI_le (Nat.le_refl 4) (by decide)) q⟩
  | m + 1, s, hs, cl, b => by
    have hs4 : s < 4 := by omega
    have s29 := c29 (L := L) (xs := xs) (s := nI s) hw (PT_4 ha)
    rw [ft a ha] at s29
    have nn := (nbr_all a ha s hs4).1
    have next : ¬ goS T a s = some z → WP L xs 68 3 [z0, some (.ref 4), some (.int (nI a)), some (.int (nI z)), some (.int (nI s + 1))] [] h (fun r h' => r = some (.int (b2i (adB T a z 4))) ∧ h' = h) := fun ng => by
      rw [nI_1]
      refine c68l hw ft ha hz m (s + 1) (by omega) (fun t ht => ?_) ?_
      · by_cases y : t = s
        · rw [y]; exact ng
        · exact cl t (by omega)
      · show (adB T a z s || adb T a z s) = false
        rw [b, adb_n ng]; rfl
    refine v68_3 hw ⟨fun q => absurd q (nI_ge hs4 (by decide)), fun _ => ⟨a, rfl, ha, _, s29, fun l0 => next (fun g => ?_), fun l0 => ⟨fun e => ?_, fun e => next (fun g => ?_)⟩⟩⟩
    · rw [goS_f (b2i_0.mp l0)] at g; cases g
    · have t29 := c29 (L := L) (xs := xs) (s := opp (nI s)) hw (PT_4 hz)
      rw [ft z hz] at t29
      have hb : nb a s = some z := by
        rw [e] at nn
        cases hb : nb a s with
        | none => rw [hb] at nn; exact absurd nn (nI_m1 (by omega))
        | some k =>
          rw [hb] at nn
          have := nb_144 a ha s hs4 k hb
          rw [nI_inj (by omega) (by omega) nn]
      have g : goS T a s = some z := by rw [goS_t (b2i_n.mp l0)]; exact hb
      refine ⟨z, rfl, hz, _, t29, ?_, rfl⟩
      rw [b2i_nz, (opp4 s hs4).1, adB_all ha hs4 g b]
    · rw [(goS_nb g).2] at nn
      exact e nn
theorem c68 (hw : HW h) (ft : flE T h) (ha : a < 144) (hz : z < 144) : Sp L xs 68 [.ref 390, .ref 4, .int (nI a), .int (nI z)] h (some (.int (b2i (adB T a z 4)))) h :=
  sp_eq (v68 (L := L) (xs := xs) hw (c68l (L := L) (xs := xs) (z0 := some (.ref 390)) hw ft ha hz 4 0 (by omega) (fun t ht => absurd ht (Nat.not_lt_zero t)) rfl))
theorem c65l (hw : HW h) (ft : flE T h) (hD : ∀ k, k < 144 → gI h 391 k = nI (D k)) (hD2 : ∀ k, k < 144 → D k ≤ 144) (ha : a < 144) {z3 : Option Value} (hz3 : x_wide (some z3) = false) : ∀ (m s : Nat) (z6 : Option Value), s + m = 4 → WP L xs 65 79 [some (.ref 390), some (.ref 4), some (.int (nI a)), z3, some (.int (encC (bsT T D a s))), some (.int (nI s)), z6] [] h (fun r h' => r = some (.int (encC (bsT T D a 4))) ∧ h' = h)
  | 0, s, z6, hs => by
    obtain rfl : s = 4 := by omega
    exact v65_79 hw hz3 ⟨fun _ => ⟨rfl, rfl⟩, fun q => absurd (nI_le (Nat.le_refl 4) (by decide)) q⟩
  | m + 1, s, z6, hs => by
    have hs4 : s < 4 := by omega
    have g4 := gdN_le (T := T) hD2 ha hs4
    have b4 := bsT_le (T := T) hD2 ha s (by omega)
    have s69 := c69 (L := L) (xs := xs) hw ft hD ha hs4
    have rek := fun z6 => c65l hw ft hD hD2 ha hz3 m (s + 1) z6 (by omega)
    rw [bsT_s] at rek
    refine v65_79 hw hz3 ⟨fun q => absurd q (nI_ge hs4 (by decide)), fun _ => ⟨_, s69, ?_⟩⟩
    rw [nI_1]
    generalize gdN D (goS T a s) = g at *
    generalize bsT T D a s = b at *
    unfold bsn at rek
    refine ⟨fun q => ?_, fun q => ?_⟩
    · have g0 : g = 0 := by
        apply Decidable.byContradiction
        intro y
        exact nI_nle (by omega) (by omega) q
      rw [if_pos g0] at rek
      exact rek _
    · have g0 : ¬ g = 0 := fun y => q (by rw [y]; decide)
      rw [if_neg g0] at rek
      refine ⟨fun e => ?_, fun e => ?_⟩
      · have b0 : b = 0 := by
          apply Decidable.byContradiction
          intro y
          unfold encC at e
          rw [if_neg y] at e
          exact nI_m1 (by omega) e
        rw [if_pos b0] at rek
        unfold encC at rek
        rw [if_neg g0] at rek
        exact rek _
      · have b0 : ¬ b = 0 := fun y => e (by unfold encC; rw [if_pos y])
        rw [if_neg b0] at rek
        have eb : encC b = nI b := if_neg b0
        rw [eb]
        refine ⟨fun l => ?_, fun l => ?_⟩
        · have := (nI_leI (by omega) (by omega)).mp l
          rw [if_neg (by omega), eb] at rek
          exact rek _
        · have : ¬ b ≤ g := fun y => l (nI_le y (by omega))
          rw [if_pos (by omega)] at rek
          unfold encC at rek
          rw [if_neg g0] at rek
          exact rek _
theorem flE_0 : flE (flT h) h := fun _ _ => rfl
theorem FAR_D {h' : Hp} (f : FAR h h' z) : IE h h' ∧ SX h h' rob ∧ DAll (flT h) z ∧ ∀ k, k < 144 → gI h' 391 k = nI (DF (flT h) z k) := by
  obtain ⟨f1, f2, D, f3⟩ := f
  refine ⟨f1, f2, fun k hk => ?_, fun k hk => ?_⟩
  · obtain ⟨e1, e2, e3⟩ := f3 k hk
    have e := DF_v e3
    rw [← e]; exact ⟨e3, e2⟩
  · obtain ⟨e1, e2, e3⟩ := f3 k hk
    rw [e1, ← DF_v e3]
/-- what the class's search answers and leaves -/
theorem c65 (hw : HW h) (ha : a < 144) (hz : z < 144) : ∃ h', Sp L xs 65 [.ref 390, .ref 4, .int (nI a), .int (nI z)] h (some (.int (pth (flT h) a z))) h' ∧ IE h h' ∧ SX h h' rob ∧ (¬ pth (flT h) a z = -1 → ¬ pth (flT h) a z = 0 → pth (flT h) a z = encC (bsT (flT h) (DF (flT h) z) a 4) ∧ DAll (flT h) z ∧ ∀ k, k < 144 → gI h' 391 k = nI (DF (flT h) z k)) := by
  have ca : x_isCell (nI a) = true := (in3_t (a := 0) (b := 143) (by omega) (by decide) (by decide)).mpr ⟨Nat.zero_le _, by omega⟩
  have cz : x_isCell (nI z) = true := (in3_t (a := 0) (b := 143) (by omega) (by decide) (by decide)).mpr ⟨Nat.zero_le _, by omega⟩
  by_cases bad : a = z ∨ cnG (flT h a 0) = false ∨ cnT (flT h z 0) = false
  · have e : pth (flT h) a z = -1 := if_pos bad
    rw [e]
    refine ⟨h, sp_eq (v65 hw ⟨fun _ => ⟨fun _ => ⟨fun _ => ⟨rfl, rfl⟩, fun q => ⟨a, rfl, ha, fun g => ⟨z, rfl, hz, fun t => ?_, fun _ => ⟨rfl, rfl⟩⟩, fun _ => ⟨rfl, rfl⟩⟩⟩, fun q => absurd cz q⟩, fun q => absurd ca q⟩), IE_r h, SX_r h _, fun q => absurd rfl q⟩
    rcases bad with b | b | b
    · exact absurd (by rw [b]) q
    · rw [show cnG (gI h (10 + a) 0) = false from b] at g; cases g
    · rw [show cnT (gI h (10 + z) 0) = false from b] at t; cases t
  · have n1 : ¬ nI a = nI z := fun q => bad (Or.inl (nI_inj (by omega) (by omega) q))
    have n2 : cnG (gI h (10 + a) 0) = true := by
      cases w : cnG (gI h (10 + a) 0) with
      | true => rfl
      | false => exact absurd (Or.inr (Or.inl w)) bad
    have n3 : cnT (gI h (10 + z) 0) = true := by
      cases w : cnT (gI h (10 + z) 0) with
      | true => rfl
      | false => exact absurd (Or.inr (Or.inr w)) bad
    have s68 := c68 (L := L) (xs := xs) (T := flT h) hw flE_0 ha hz
    cases b : adB (flT h) a z 4 with
    | true =>
      have e : pth (flT h) a z = 0 := by unfold pth; rw [if_neg bad, if_pos b]
      rw [e]
      rw [b] at s68
      exact ⟨h, sp_eq (v65 hw ⟨fun _ => ⟨fun _ => ⟨fun q => absurd q n1, fun _ => ⟨a, rfl, ha, fun _ => ⟨z, rfl, hz, fun _ => ⟨_, s68, fun q => absurd q (by decide), fun _ => ⟨rfl, rfl⟩⟩, fun q => absurd n3 q⟩, fun q => absurd n2 q⟩⟩, fun q => absurd cz q⟩, fun q => absurd ca q⟩), IE_r h, SX_r h _, fun _ q => absurd rfl q⟩
    | false =>
      have e : pth (flT h) a z = encC (bsT (flT h) (DF (flT h) z) a 4) := by unfold pth; rw [if_neg bad, b]; rfl
      rw [b] at s68
      obtain ⟨h', s70, f⟩ := c70 (L := L) (xs := xs) hw hz
      obtain ⟨f1, f2, f3, f4⟩ := FAR_D f
      have w' := IE_w f1 hw
      have key := c65l (L := L) (xs := xs) (z3 := some (.int (nI z))) (T := flT h) w' (fun c hc => f2 (10 + c) (by unfold rob; omega)) f4 (fun k hk => (f3 k hk).2) ha rfl 4 0 none (by omega)
      refine ⟨h', ?_, f1, f2, fun _ _ => ⟨e, f3, f4⟩⟩
      rw [e]
      refine sp_eq (v65 hw ⟨fun _ => ⟨fun _ => ⟨fun q => absurd q n1, fun _ => ⟨a, rfl, ha, fun _ => ⟨z, rfl, hz, fun _ => ⟨_, s68, fun _ => ⟨h', s70, ?_⟩, fun q => absurd rfl q⟩, fun q => absurd n3 q⟩, fun q => absurd n2 q⟩⟩, fun q => absurd cz q⟩, fun q => absurd ca q⟩)
      exact key
end PT1
