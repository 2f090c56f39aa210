/-! The book; parts placed. -/
theorem nI_range {x : Int32} {k : Nat} (hk : k < 1000) : (x_in3 x 0 (nI k - 1) = true) ↔ ∃ a, a < k ∧ x = nI a := by
  cases k with
  | zero =>
    constructor
    · intro h
      obtain ⟨h1, h2⟩ := x_in3_iff.mp h
      have : (0 : Int32) ≤ nI 0 - 1 := Int32.le_trans h1 h2
      exact absurd this (by decide)
    · rintro ⟨a, ha, -⟩; omega
  | succ k =>
    rw [nI_pred]
    constructor
    · intro h
      obtain ⟨n, h1, h2, e⟩ := in3_n (a := 0) (b := k) (by decide) (by omega) h
      exact ⟨n, by omega, e⟩
    · rintro ⟨a, ha, rfl⟩
      exact (in3_t (a := 0) (by omega) (by decide) (by omega)).mpr ⟨Nat.zero_le _, by omega⟩
/-- kind, side, arg, period -/
abbrev Q4 : Type := Int32 × Int32 × Int32 × Int32
def nwR (q : Q4) : Row := fun j => if q.1 = 0 then 0 else (match j with
  | 0 => q.1
  | 1 => if q.1 = 7 then 0 else q.2.1
  | 2 => if q.1 = 5 then q.2.2.1 else if q.1 = 6 then q.2.2.1 else 0
  | 3 => if q.1 = 5 then q.2.2.2 else 0
  | 12 => 3
  | 13 => 3
  | _ => 0)
def sdB (kd sd : Int32) : Bool := if kd = 7 then true else if kd = 4 then (x_in3 sd 1 15 && x_in3 (mny sd) 2 3) else x_in3 sd 0 3
def gdB (kd sd ar pe : Int32) : Bool := x_in3 kd 1 7 && (sdB kd sd && (if kd = 5 then (x_isItem ar && x_in3 pe 1 60) else true))
theorem sd_all : ∀ n, n < 16 → (x_in3 (bc (nI n)) 2 3) = (x_in3 (nI n) 1 15 && x_in3 (mny (nI n)) 2 3) := by decide +kernel
theorem sdf_sdB (kd sd : Int32) : sdf kd sd = sdB kd sd := by
  unfold sdf sdB
  by_cases k7 : kd = 7
  · rw [if_pos k7, if_pos k7]
  · rw [if_neg k7, if_neg k7]
    by_cases k4 : kd = 4
    · rw [if_pos k4, if_pos k4]
      cases h : x_in3 sd 0 15 with
      | true =>
        obtain ⟨n, -, h2, rfl⟩ := in3_n (a := 0) (b := 15) (by decide) (by decide) h
        rw [Bool.true_and]
        exact sd_all n (by omega)
      | false =>
        rw [Bool.false_and]
        cases h2 : x_in3 sd 1 15 with
        | false => rfl
        | true =>
          exfalso
          obtain ⟨n, h3, h4, rfl⟩ := in3_n (a := 1) (b := 15) (by decide) (by decide) h2
          have := (in3_t (n := n) (a := 0) (b := 15) (by omega) (by decide) (by decide)).mpr ⟨Nat.zero_le _, h4⟩
          rw [show x_in3 (nI n) 0 15 = true from this] at h
          cases h
    · rw [if_neg k4, if_neg k4]
/-- what build() answers: 0 it may be built -/
def resB (k : Nat) (x kd sd ar pe kc : Int32) : Int32 := if x_isCell x = false then -1 else if kd = 6 ∧ ¬ x_in3 ar 0 (nI k - 1) = true then -1 else if gdB kd sd ar pe = false then -6 else if kc = 0 then 0 else -6
section PL
variable {L : Nat} {xs : Nat → Int32} {h : Hp} {k : Nat} {x kd sd ar pe : Int32}
theorem c2 (hw : HW h) (hk : k < 9) (e1 : gI h 2 1 = nI k) (e3 : ∀ r, r < k → gR h 3 r = some (444 + r)) : Sp L xs 2 [.ref 2, .int ar] h (some (x_rv (if x_in3 ar 0 (nI k - 1) = true then some (444 + ar.toNatClampNeg) else none))) h := by
  refine sp_eq (v2 hw ?_)
  rw [e1]
  by_cases hr : x_in3 ar 0 (nI k - 1) = true
  · obtain ⟨a, ha, rfl⟩ := (nI_range (by omega)).mp hr
    rw [if_pos hr]
    refine ⟨fun q => absurd q (nI_pos (by omega)), fun _ => ⟨fun q => absurd q (nI_ge ha (by omega)), fun _ => ⟨a, rfl, by omega, fun q => ?_, fun q11 q => ?_⟩⟩⟩
    · rw [e3 a ha] at q; cases q
    · rw [e3 a ha] at q
      injection q with q
      subst q
      exact ⟨by rw [nI_c (by omega)], rfl⟩
  · rw [if_neg hr]
    refine ⟨fun _ => ⟨rfl, rfl⟩, fun n0 => ⟨fun _ => ⟨rfl, rfl⟩, fun n1 => ?_⟩⟩
    exfalso
    obtain ⟨j, hj, rfl⟩ := nI_of n0
    apply hr
    rw [nI_range (by omega)]
    refine ⟨j, ?_, rfl⟩
    apply Decidable.byContradiction
    intro z
    exact n1 (nI_le (by omega) (by omega))
theorem c112 (hw : HW h) (hk : k < 9) (e1 : gI h 2 1 = nI k) (e3 : ∀ r, r < k → gR h 3 r = some (444 + r)) : Sp L xs 112 [.ref 0, .int x, .int kd, .int sd, .int ar, .int pe] h (some (.int (resB k x kd sd ar pe (gI h (10 + x.toNatClampNeg) 0)))) h := by
  refine sp_eq (v112 hw ⟨fun hx => ?_, fun hx => ?_⟩)
  · obtain ⟨c, hc, rfl⟩ := isCell_n hx
    have ec : (nI c).toNatClampNeg = c := nI_c (by omega)
    rw [ec]
    have r0 : ∀ v, resB k (nI c) kd sd ar pe v = if kd = 6 ∧ ¬ x_in3 ar 0 (nI k - 1) = true then -1 else if gdB kd sd ar pe = false then -6 else if v = 0 then 0 else -6 := fun v => by unfold resB; rw [if_neg (by rw [hx]; decide)]
    have tail : ∀ (P : ¬ (kd = 6 ∧ ¬ x_in3 ar 0 (nI k - 1) = true)), (((x_in3 kd 1 7) = true) → ((((sdf kd sd) = true) → (((kd = 5) → ((((x_isItem ar) = true) → ((((x_in3 pe 1 60) = true) → (∃ k59 : Nat, nI c = nI k59 ∧ k59 < 144 ∧ some (Value.int (if (gI h (10 + k59) 0) = 0 then (0) else ((-6)))) = some (.int (resB k (nI c) kd sd ar pe (gI h (10 + c) 0))) ∧ h = h)) ∧ (¬ ((x_in3 pe 1 60) = true) → (some (Value.int (-6)) = some (.int (resB k (nI c) kd sd ar pe (gI h (10 + c) 0))) ∧ h = h)))) ∧ (¬ ((x_isItem ar) = true) → (some (Value.int (-6)) = some (.int (resB k (nI c) kd sd ar pe (gI h (10 + c) 0))) ∧ h = h)))) ∧ (¬ (kd = 5) → (∃ k46 : Nat, nI c = nI k46 ∧ k46 < 144 ∧ some (Value.int (if (gI h (10 + k46) 0) = 0 then (0) else ((-6)))) = some (.int (resB k (nI c) kd sd ar pe (gI h (10 + c) 0))) ∧ h = h)))) ∧ (¬ ((sdf kd sd) = true) → (some (Value.int (-6)) = some (.int (resB k (nI c) kd sd ar pe (gI h (10 + c) 0))) ∧ h = h)))) ∧ (¬ ((x_in3 kd 1 7) = true) → (some (Value.int (-6)) = some (.int (resB k (nI c) kd sd ar pe (gI h (10 + c) 0))) ∧ h = h)) := by
      intro P
      have bad : gdB kd sd ar pe = false → (some (Value.int (-6)) = some (.int (resB k (nI c) kd sd ar pe (gI h (10 + c) 0))) ∧ h = h) := fun g => by rw [r0, if_neg P, if_pos g]; exact ⟨rfl, rfl⟩
      have ok : gdB kd sd ar pe = true → some (Value.int (if (gI h (10 + c) 0) = 0 then (0) else ((-6)))) = some (.int (resB k (nI c) kd sd ar pe (gI h (10 + c) 0))) ∧ h = h := fun g => by rw [r0, if_neg P, if_neg (show ¬ gdB kd sd ar pe = false by rw [g]; decide)]; exact ⟨rfl, rfl⟩
      refine ⟨fun a1 => ⟨fun a2 => ⟨fun a3 => ⟨fun a4 => ⟨fun a5 => ⟨c, rfl, hc, ok ?_⟩, fun a5 => bad ?_⟩, fun a4 => bad ?_⟩, fun a3 => ⟨c, rfl, hc, ok ?_⟩⟩, fun a2 => bad ?_⟩, fun a1 => bad ?_⟩
      · rw [sdf_sdB] at a2
        unfold gdB; rw [a1, a2, if_pos a3, a4, a5]; rfl
      · unfold gdB; rw [if_pos a3, (Bool.not_eq_true _).mp a5]; simp
      · unfold gdB; rw [if_pos a3, (Bool.not_eq_true _).mp a4]; simp
      · rw [sdf_sdB] at a2
        unfold gdB; rw [a1, a2, if_neg a3]; rfl
      · rw [sdf_sdB] at a2
        unfold gdB; rw [(Bool.not_eq_true _).mp a2]; simp
      · unfold gdB; rw [(Bool.not_eq_true _).mp a1]; simp
    refine ⟨fun k6 => ⟨_, c2 hw hk e1 e3, fun q => ?_, fun q38 q => ?_⟩, fun k6 => tail (fun z => k6 z.1)⟩
    · by_cases hr : x_in3 ar 0 (nI k - 1) = true
      · rw [if_pos hr] at q; cases q
      · rw [r0, if_pos ⟨k6, hr⟩]; exact ⟨rfl, rfl⟩
    · by_cases hr : x_in3 ar 0 (nI k - 1) = true
      · exact tail (fun z => z.2 hr)
      · rw [if_neg hr] at q; cases q
  · unfold resB
    rw [if_pos ((Bool.not_eq_true _).mp hx)]
    exact ⟨rfl, rfl⟩
theorem c132 (hw : HW h) (hk : k < 9) (e1 : gI h 397 1 = nI k) : Sp L xs 132 [.ref 397, .int x, .int kd, .int sd, .int ar, .int pe] h (some (.int (if resB k x kd sd ar pe (gI h 405 x.toNatClampNeg) = 0 then 1 else resB k x kd sd ar pe (gI h 405 x.toNatClampNeg)))) h := by
  refine sp_eq (v132 hw ?_)
  rw [e1]
  have gd : (if (if (x_in3 kd 1 7) = true then (if kd = 7 then (true) else (if kd = 4 then (if (x_in3 sd 1 15) = true then (if (x_in3 (mny sd) 2 3) = true then (true) else (false)) else (false)) else (if (x_in3 sd 0 3) = true then (true) else (false)))) else (false)) = true then (if kd = 5 then (if (x_isItem ar) = true then (if (x_in3 pe 1 60) = true then (true) else (false)) else (false)) else (true)) else (false)) = gdB kd sd ar pe := by
    unfold gdB sdB
    by_cases k5 : kd = 5
    · subst k5
      rw [if_pos rfl, if_pos rfl, if_neg (show ¬ (5 : Int32) = 7 by decide), if_neg (show ¬ (5 : Int32) = 4 by decide), if_neg (show ¬ (5 : Int32) = 7 by decide), if_neg (show ¬ (5 : Int32) = 4 by decide)]
      cases x_in3 (5 : Int32) 1 7 <;> cases x_in3 sd 0 3 <;> cases x_isItem ar <;> cases x_in3 pe 1 60 <;> rfl
    · rw [if_neg k5, if_neg k5]
      by_cases k7 : kd = 7
      · rw [if_pos k7, if_pos k7]
        cases x_in3 kd 1 7 <;> rfl
      · rw [if_neg k7, if_neg k7]
        by_cases k4 : kd = 4
        · rw [if_pos k4, if_pos k4]
          cases x_in3 kd 1 7 <;> cases x_in3 sd 1 15 <;> cases x_in3 (mny sd) 2 3 <;> rfl
        · rw [if_neg k4, if_neg k4]
          cases x_in3 kd 1 7 <;> cases x_in3 sd 0 3 <;> rfl
  rw [gd]
  refine ⟨fun hx => ?_, fun hx => ?_⟩
  · obtain ⟨c, hc, rfl⟩ := isCell_n hx
    have ec : (nI c).toNatClampNeg = c := nI_c (by omega)
    rw [ec]
    have r0 : ∀ v, resB k (nI c) kd sd ar pe v = if kd = 6 ∧ ¬ x_in3 ar 0 (nI k - 1) = true then -1 else if gdB kd sd ar pe = false then -6 else if v = 0 then 0 else -6 := fun v => by unfold resB; rw [if_neg (by rw [hx]; decide)]
    have ok : ∀ (P : ¬ (kd = 6 ∧ ¬ x_in3 ar 0 (nI k - 1) = true)), gdB kd sd ar pe = true → some (Value.int (if (gI h 405 c) = 0 then (1) else ((-6)))) = some (.int (if resB k (nI c) kd sd ar pe (gI h 405 c) = 0 then 1 else resB k (nI c) kd sd ar pe (gI h 405 c))) ∧ h = h := by
      intro P g
      rw [r0, if_neg P, if_neg (show ¬ gdB kd sd ar pe = false by rw [g]; decide)]
      by_cases z : gI h 405 c = 0
      · rw [if_pos z, if_pos z, if_pos rfl]; exact ⟨rfl, rfl⟩
      · rw [if_neg z, if_neg z, if_neg (by decide)]; exact ⟨rfl, rfl⟩
    have bad : ∀ (P : ¬ (kd = 6 ∧ ¬ x_in3 ar 0 (nI k - 1) = true)), ¬ gdB kd sd ar pe = true → some (Value.int (-6)) = some (.int (if resB k (nI c) kd sd ar pe (gI h 405 c) = 0 then 1 else resB k (nI c) kd sd ar pe (gI h 405 c))) ∧ h = h := by
      intro P g
      rw [r0, if_neg P, if_pos ((Bool.not_eq_true _).mp g), if_neg (by decide)]
      exact ⟨rfl, rfl⟩
    refine ⟨fun k6 => ⟨fun hr => ⟨fun g => ⟨c, rfl, hc, ok (fun z => z.2 hr) g⟩, fun g => bad (fun z => z.2 hr) g⟩, fun hr => ?_⟩, fun k6 => ⟨fun g => ⟨c, rfl, hc, ok (fun z => k6 z.1) g⟩, fun g => bad (fun z => k6 z.1) g⟩⟩
    have e : resB k (nI c) kd sd ar pe (gI h 405 c) = -1 := by rw [r0]; exact if_pos ⟨k6, hr⟩
    rw [e, if_neg (show ¬ (-1 : Int32) = 0 by decide)]
    exact ⟨rfl, rfl⟩
  · unfold resB
    rw [if_pos ((Bool.not_eq_true _).mp hx), if_neg (by decide)]
    exact ⟨rfl, rfl⟩
/-- the class's become -/
def bcR (q : Q4) (y : Row) : Row := fun j => if j ≤ 16 ∧ ¬ j = 4 then nwR q j else y j
theorem bc_chain (q : Q4) (y : Row) : up (up (up (up (up (up (up (up (up (up (up (up (up (up (up (up y 0 q.1) 1 (if (if q.1 = 0 then (false) else (if q.1 = 7 then (false) else (true))) = true then (q.2.1) else (0))) 2 (if q.1 = 5 then (q.2.2.1) else (if q.1 = 6 then (q.2.2.1) else (0)))) 3 (if q.1 = 5 then (q.2.2.2) else (0))) 5 0) 6 0) 7 0) 8 0) 9 0) 10 0) 11 0) 12 (if q.1 = 0 then (0) else (3))) 13 (if q.1 = 0 then (0) else (3))) 14 0) 15 0) 16 0 = bcR q y := by
  funext j
  by_cases z : q.1 = 0
  · skip
    by_cases e0 : j = 0
    · subst e0; simp [up_a, bcR, nwR, z]
    by_cases e1 : j = 1
    · subst e1; by_cases k7 : q.1 = 7 <;> simp [up_a, bcR, nwR, z, k7]
    by_cases e2 : j = 2
    · subst e2; simp [up_a, bcR, nwR, z]
    by_cases e3 : j = 3
    · subst e3; simp [up_a, bcR, nwR, z]
    by_cases e5 : j = 5
    · subst e5; simp [up_a, bcR, nwR, z]
    by_cases e6 : j = 6
    · subst e6; simp [up_a, bcR, nwR, z]
    by_cases e7 : j = 7
    · subst e7; simp [up_a, bcR, nwR, z]
    by_cases e8 : j = 8
    · subst e8; simp [up_a, bcR, nwR, z]
    by_cases e9 : j = 9
    · subst e9; simp [up_a, bcR, nwR, z]
    by_cases e10 : j = 10
    · subst e10; simp [up_a, bcR, nwR, z]
    by_cases e11 : j = 11
    · subst e11; simp [up_a, bcR, nwR, z]
    by_cases e12 : j = 12
    · subst e12; simp [up_a, bcR, nwR, z]
    by_cases e13 : j = 13
    · subst e13; simp [up_a, bcR, nwR, z]
    by_cases e14 : j = 14
    · subst e14; simp [up_a, bcR, nwR, z]
    by_cases e15 : j = 15
    · subst e15; simp [up_a, bcR, nwR, z]
    by_cases e16 : j = 16
    · subst e16; simp [up_a, bcR, nwR, z]
    have n : ¬ (j ≤ 16 ∧ ¬ j = 4) := by omega
    simp only [up_a, bcR, if_neg n, if_neg e0, if_neg e1, if_neg e2, if_neg e3, if_neg e5, if_neg e6, if_neg e7, if_neg e8, if_neg e9, if_neg e10, if_neg e11, if_neg e12, if_neg e13, if_neg e14, if_neg e15, if_neg e16]
  · skip
    by_cases e0 : j = 0
    · subst e0; simp [up_a, bcR, nwR, z]
    by_cases e1 : j = 1
    · subst e1; by_cases k7 : q.1 = 7 <;> simp [up_a, bcR, nwR, z, k7]
    by_cases e2 : j = 2
    · subst e2; simp [up_a, bcR, nwR, z]
    by_cases e3 : j = 3
    · subst e3; simp [up_a, bcR, nwR, z]
    by_cases e5 : j = 5
    · subst e5; simp [up_a, bcR, nwR, z]
    by_cases e6 : j = 6
    · subst e6; simp [up_a, bcR, nwR, z]
    by_cases e7 : j = 7
    · subst e7; simp [up_a, bcR, nwR, z]
    by_cases e8 : j = 8
    · subst e8; simp [up_a, bcR, nwR, z]
    by_cases e9 : j = 9
    · subst e9; simp [up_a, bcR, nwR, z]
    by_cases e10 : j = 10
    · subst e10; simp [up_a, bcR, nwR, z]
    by_cases e11 : j = 11
    · subst e11; simp [up_a, bcR, nwR, z]
    by_cases e12 : j = 12
    · subst e12; simp [up_a, bcR, nwR, z]
    by_cases e13 : j = 13
    · subst e13; simp [up_a, bcR, nwR, z]
    by_cases e14 : j = 14
    · subst e14; simp [up_a, bcR, nwR, z]
    by_cases e15 : j = 15
    · subst e15; simp [up_a, bcR, nwR, z]
    by_cases e16 : j = 16
    · subst e16; simp [up_a, bcR, nwR, z]
    have n : ¬ (j ≤ 16 ∧ ¬ j = 4) := by omega
    simp only [up_a, bcR, if_neg n, if_neg e0, if_neg e1, if_neg e2, if_neg e3, if_neg e5, if_neg e6, if_neg e7, if_neg e8, if_neg e9, if_neg e10, if_neg e11, if_neg e12, if_neg e13, if_neg e14, if_neg e15, if_neg e16]
theorem c26 {p : Nat} {rq : Option Nat} (hw : HW h) (hp : PT p) (q : Q4) (hrq : ∀ r, rq = some r → RQ r h.1) : Sp L xs 26 [.ref p, .int q.1, .int q.2.1, .int q.2.2.1, .int q.2.2.2, x_rv rq] h none (sR (wO h p (bcR q (gI h p))) p 4 (if q.1 = 6 then rq else none)) := by
  cases rq with
  | none =>
    have e0 : (if q.1 = 6 then (none : Option Nat) else none) = none := by split <;> rfl
    rw [e0]
    refine sp_eq (v26null hw hp ⟨fun k6 => ⟨_, c27 ?_ hp, rfl, ?_⟩, fun k6 => ⟨_, c27 ?_ hp, rfl, ?_⟩⟩)
    all_goals first | exact (HW_sI (HW_sI (HW_sI (HW_sI (HW_sI (HW_sI (HW_sI (HW_sI (HW_sI (HW_sRp hp (HW_sI (HW_sI (HW_sI (HW_sI hw)))))))))))))) | skip
    all_goals
      simp only [sI_wO, gIsR, wO_sR, wO_wO, gI_wO, up_s]
      rw [bc_chain]
  | some r =>
    have hq := hrq r rfl
    refine sp_eq (v26 hw hp hq ⟨fun k6 => ⟨_, c27 ?_ hp, rfl, ?_⟩, fun k6 => ⟨_, c27 ?_ hp, rfl, ?_⟩⟩)
    all_goals first | exact (HW_sI (HW_sI (HW_sI (HW_sI (HW_sI (HW_sI (HW_sI (HW_sI (HW_sI (HW_sRp hp (HW_sI (HW_sI (HW_sI (HW_sI hw)))))))))))))) | skip
    · simp only [sI_wO, gIsR, wO_sR, wO_wO, gI_wO, up_s]
      rw [bc_chain, if_pos k6]
    · simp only [sI_wO, gIsR, wO_sR, wO_wO, gI_wO, up_s]
      rw [bc_chain, if_neg k6]
end PL
