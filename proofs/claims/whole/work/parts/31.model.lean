/-! The floor in numbers: rows (a part's fields), recipes, what is offered to whom, who gives, what moves. -/
abbrev Row : Type := Nat → Int32
def rc (R : Nat → Row) (x : Row) : Row := R (x 2).toNatClampNeg
def runW (r x : Row) : Row := if x 10 + 1 < r 2 then up x 10 (x 10 + 1) else up (up (up (up x 9 (x 9 + r 1)) 11 0) 10 0) 16 (x 16 + 1)
def begW (r x : Row) : Row := if r 1 < x 9 then x else if x 7 < r 5 then x else if x 8 < r 7 then x else up (up (up (up x 7 (x 7 - r 5)) 8 (x 8 - r 7)) 11 1) 10 0
def prpM (r x : Row) : Row := if x 11 = 0 then begW r x else if runW r x 11 = 0 then begW r (runW r x) else runW r x
def prpS (x : Row) : Row := if x 6 + 1 < x 3 then up x 6 (x 6 + 1) else up (up x 5 (x 2)) 6 0
def prp (R : Nat → Row) (x : Row) : Row := if x 0 = 5 then (if x 5 = 0 then prpS x else x) else if x 0 = 6 then prpM (rc R x) x else x
def ofd (R : Nat → Row) (x : Row) : Int32 := if x 0 = 6 then (if x 9 ≤ 0 then 0 else rc R x 0) else x 5
def ldT (x : Row) (s : Int32) : Bool := if x 0 = 0 then false else if x 0 = 7 then false else if x 0 = 4 then decide ((x 1 >>> (s &&& 31)) &&& 1 = 1) else decide (x 1 = s)
def hsR (r x : Row) (i : Int32) : Bool := if i = 0 then false else if i = r 4 then !decide (2 * r 5 ≤ x 7) else if i = r 6 then !decide (2 * r 7 ≤ x 8) else false
def tks (R : Nat → Row) (x : Row) (i s : Int32) : Bool := if x 0 = 1 ∨ x 0 = 2 ∨ x 0 = 4 then (decide (x 5 = 0) && !ldT x s) else if x 0 = 6 then (!ldT x s && hsR (rc R x) x i) else decide (x 0 = 7)
def giv (x : Row) (s : Int32) : Row := up (if x 0 = 4 then up (if x 0 = 6 then up x 9 (x 9 - 1) else up x 5 0) 13 s else (if x 0 = 6 then up x 9 (x 9 - 1) else up x 5 0)) 15 (x 15 + 1)
def rcv (R : Nat → Row) (x : Row) (i s : Int32) : Row := up (up (if x 0 = 6 then (if i = rc R x 4 then up x 7 (x 7 + 1) else up x 8 (x 8 + 1)) else if x 0 = 7 then x else up x 5 i) 12 s) 14 (x 14 + 1)
def nb (c s : Nat) : Option Nat := if s = 0 then (if c / 12 = 0 then none else some (c - 12)) else if s = 1 then (if c % 12 = 11 then none else some (c + 1)) else if s = 2 then (if c / 12 = 11 then none else some (c + 12)) else (if c % 12 = 0 then none else some (c - 1))
abbrev Bd : Type := Option (Nat × Nat × Nat)
/-- an offer to the cell on side s: target, its side, the order among those that come there -/
def bdO (R : Nat → Row) (T : Nat → Row) (c s : Nat) (i : Int32) : Bd := match nb c s with
  | none => none
  | some t => if tks R (T t) i (nI ((s + 2) % 4)) = true then some (t, (s + 2) % 4, ((s + 2) % 4 + 7 - (T t 12).toNatClampNeg) % 4) else none
def bdX (T : Nat → Row) (s : Nat) : Nat → Nat → Nat → Bd
  | 0, _, _ => none
  | n + 1, k, a => match nb a s with
    | none => none
    | some t => if T t 0 = 3 ∧ T t 1 = nI s then (if T t 5 = 0 then some (t, (s + 2) % 4, k) else none) else bdX T s n (k + 1) t
def bdY (R : Nat → Row) (T : Nat → Row) (c : Nat) (i : Int32) : Nat → Nat → Bd
  | 0, _ => none
  | n + 1, k => if ldT (T c) (nI (((T c 13).toNatClampNeg + k) % 4)) = true then (match bdO R T c (((T c 13).toNatClampNeg + k) % 4) i with
      | some b => some b
      | none => bdY R T c i n (k + 1)) else bdY R T c i n (k + 1)
def bd (R : Nat → Row) (T : Nat → Row) (c : Nat) : Bd := if T c 0 = 0 ∨ ofd R (T c) = 0 then none else if T c 0 = 2 then bdX T (T c 1).toNatClampNeg 5 1 c else if T c 0 = 4 then bdY R T c (ofd R (T c)) 4 1 else bdO R T c (T c 1).toNatClampNeg (ofd R (T c))
def addB (w : Nat → Bd) (n : Nat) (b : Nat × Nat × Nat) : Nat → Bd := fun t => if b.1 = t then (match w t with
    | none => some (n, b.2)
    | some v => if b.2.2 < v.2.2 then some (n, b.2) else some v) else w t
def addO (w : Nat → Bd) (n : Nat) (b : Bd) : Nat → Bd := match b with
  | none => w
  | some b => addB w n b
/-- who gives to t among the first n cells: giver, side, order -/
def win (R : Nat → Row) (T : Nat → Row) : Nat → Nat → Bd
  | 0 => fun _ => none
  | n + 1 => addO (win R T n) n (bd R T n)
/-- given to the targets below a, taken by the cells below b -/
def mvG (R : Nat → Row) (T : Nat → Row) (a c : Nat) : Row := match bd R T c with
  | none => T c
  | some b => if b.1 < a ∧ win R T 144 b.1 = some (c, b.2) then giv (T c) (nI ((b.2.1 + 2) % 4)) else T c
def mv (R : Nat → Row) (T : Nat → Row) (a b c : Nat) : Row := if c < b then (match win R T 144 c with
    | none => mvG R T a c
    | some w => rcv R (mvG R T a c) (ofd R (T w.1)) (nI w.2.1)) else mvG R T a c
/-- how many of the first n cells are sinks that take; how many of item i -/
def cam (R : Nat → Row) (T : Nat → Row) : Nat → Int32
  | 0 => 0
  | n + 1 => match win R T 144 n with
    | none => cam R T n
    | some _ => cam R T n + (if T n 0 = 7 then 1 else 0)
def snk (R : Nat → Row) (T : Nat → Row) : Nat → Nat → Int32
  | 0, _ => 0
  | n + 1, i => match win R T 144 n with
    | none => snk R T n i
    | some w => if T n 0 = 7 ∧ (ofd R (T w.1)).toNatClampNeg = i then snk R T n i + 1 else snk R T n i
def prT (R : Nat → Row) (T : Nat → Row) : Nat → Row := fun c => prp R (T c)
def stp (R : Nat → Row) (T : Nat → Row) : Nat → Row := fun c => mv R (prT R T) 144 144 c
theorem nbr_all : ∀ c, c < 144 → ∀ s, s < 4 → nbr (nI c) (nI s) = (match nb c s with | none => -1 | some t => nI t) ∧ nxt (nI c) (nI s) = (match nb c s with | none => -1 | some t => nI t) := by decide +kernel
theorem nb_lt {c s t : Nat} (hc : c < 144) (h : nb c s = some t) : t < 144 := by
  unfold nb at h
  repeat' split at h
  all_goals first | (cases h; done) | (injection h with h; omega)
theorem opp_all : ∀ s, s < 4 → opp (nI s) = nI ((s + 2) % 4) ∧ (nI s + 2) - (nI s + 2) / 4 * 4 = nI ((s + 2) % 4) := by decide +kernel
/-- what a step asks of a row -/
def PG (R : Nat → Row) (x : Row) : Prop := (x 0 = 0 → x 5 = 0) ∧ (x 0 = 7 → x 5 = 0) ∧ (¬ x 0 = 0 → ¬ x 0 = 4 → ∃ s, s < 4 ∧ x 1 = nI s) ∧ (∃ t, t < 4 ∧ x 12 = nI t) ∧ (∃ g, g < 4 ∧ x 13 = nI g) ∧ (∃ i, i < 21 ∧ ofd R x = nI i)
theorem rk_all : ∀ d, d < 4 → ∀ t, t < 4 → (nI d - nI t - 1) &&& 3 = nI ((d + 7 - t) % 4) ∧ ((nI d - nI t) + 7) - ((nI d - nI t) + 7) / 4 * 4 = nI ((d + 7 - t) % 4) := by decide +kernel
theorem go_all : ∀ g, g < 4 → ∀ k, k < 5 → (nI g + nI k) &&& 3 = nI ((g + k) % 4) ∧ (nI g + nI k) - (nI g + nI k) / 4 * 4 = nI ((g + k) % 4) := by decide +kernel
theorem tks_3 {R : Nat → Row} {x : Row} {i s : Int32} (h : x 0 = 3) : tks R x i s = false := by
  rw [tks, if_neg (by rw [h]; decide), if_neg (by rw [h]; decide), decide_eq_false (by rw [h]; decide)]
theorem bdO_s {R T : Nat → Row} {c s : Nat} {i : Int32} {b : Nat × Nat × Nat} (h : bdO R T c s i = some b) : nb c s = some b.1 ∧ tks R (T b.1) i (nI ((s + 2) % 4)) = true ∧ b.2 = ((s + 2) % 4, ((s + 2) % 4 + 7 - (T b.1 12).toNatClampNeg) % 4) := by
  unfold bdO at h
  split at h
  · cases h
  · rename_i t ht
    split at h
    · rename_i hk
      injection h with h
      subst h
      exact ⟨ht, hk, rfl⟩
    · cases h
theorem bdX_s {T : Nat → Row} {s : Nat} : ∀ (n k a : Nat) {b : Nat × Nat × Nat}, a < 144 → bdX T s n k a = some b → b.1 < 144 ∧ T b.1 0 = 3 ∧ T b.1 1 = nI s ∧ T b.1 5 = 0 ∧ b.2.1 = (s + 2) % 4 ∧ k ≤ b.2.2 ∧ b.2.2 < k + n
  | 0, _, _, _, _, h => by cases h
  | n + 1, k, a, b, ha, h => by
    unfold bdX at h
    split at h
    · cases h
    · rename_i t ht
      have hlt := nb_lt ha ht
      split at h
      · rename_i hk
        split at h
        · rename_i h5
          injection h with h
          subst h
          exact ⟨hlt, hk.1, hk.2, h5, rfl, Nat.le_refl _, by show k < k + (n + 1); omega⟩
        · cases h
      · have := bdX_s n (k + 1) t hlt h
        exact ⟨this.1, this.2.1, this.2.2.1, this.2.2.2.1, this.2.2.2.2.1, by omega, by omega⟩
theorem bdY_s {R T : Nat → Row} {c : Nat} {i : Int32} : ∀ (n k : Nat) {b : Nat × Nat × Nat}, bdY R T c i n k = some b → ∃ s, s < 4 ∧ bdO R T c s i = some b
  | 0, _, _, h => by cases h
  | n + 1, k, b, h => by
    unfold bdY at h
    split at h
    · split at h
      · rename_i b' hb
        injection h with h
        subst h
        exact ⟨_, Nat.mod_lt _ (by decide), hb⟩
      · exact bdY_s n (k + 1) h
    · exact bdY_s n (k + 1) h
/-- what is known of an offer -/
theorem bd_s {R T : Nat → Row} {c : Nat} {b : Nat × Nat × Nat} (hc : c < 144) (hp : PG R (T c)) (h : bd R T c = some b) : b.1 < 144 ∧ ¬ b.1 = c ∧ ¬ T c 0 = 0 ∧ ¬ ofd R (T c) = 0 ∧ b.2.1 < 4 ∧ ((T b.1 0 = 3 ∧ T b.1 5 = 0 ∧ T b.1 1 = nI ((b.2.1 + 2) % 4) ∧ b.2.2 < 6) ∨ (¬ T b.1 0 = 3 ∧ b.2.2 = (b.2.1 + 7 - (T b.1 12).toNatClampNeg) % 4 ∧ ∃ s, tks R (T b.1) (ofd R (T c)) s = true)) := by
  have hO : ∀ s, s < 4 → bdO R T c s (ofd R (T c)) = some b → b.1 < 144 ∧ ¬ b.1 = c ∧ b.2.1 < 4 ∧ (¬ T b.1 0 = 3 ∧ b.2.2 = (b.2.1 + 7 - (T b.1 12).toNatClampNeg) % 4 ∧ ∃ s, tks R (T b.1) (ofd R (T c)) s = true) := by
    intro s hs hb
    obtain ⟨h1, h2, h3⟩ := bdO_s hb
    refine ⟨nb_lt hc h1, ?_, by rw [h3]; exact Nat.mod_lt _ (by decide), ?_, by rw [h3], _, h2⟩
    · intro e
      rw [e] at h1
      unfold nb at h1
      repeat' split at h1
      all_goals first | (cases h1; done) | (injection h1 with h1; omega)
    · intro e
      rw [tks_3 e] at h2
      cases h2
  unfold bd at h
  split at h
  · cases h
  · rename_i hz
    have z0 : ¬ T c 0 = 0 := fun q => hz (Or.inl q)
    have z1 : ¬ ofd R (T c) = 0 := fun q => hz (Or.inr q)
    split at h
    · rename_i k2
      obtain ⟨s, hs, e⟩ := hp.2.2.1 z0 (by rw [k2]; decide)
      rw [e, nI_c (by omega)] at h
      obtain ⟨h1, h2, h3, h4, h5, h6, h7⟩ := bdX_s 5 1 c hc h
      refine ⟨h1, ?_, z0, z1, by rw [h5]; exact Nat.mod_lt _ (by decide), Or.inl ⟨h2, h4, ?_, by omega⟩⟩
      · intro e2
        rw [e2, k2] at h2
        exact absurd h2 (by decide)
      · rw [h3, h5, show ((s + 2) % 4 + 2) % 4 = s by omega]
    · split at h
      · obtain ⟨s, hs, e⟩ := bdY_s 4 1 h
        obtain ⟨h1, h2, h3, h4⟩ := hO s hs e
        exact ⟨h1, h2, z0, z1, h3, Or.inr h4⟩
      · rename_i k4
        obtain ⟨s, hs, e⟩ := hp.2.2.1 z0 k4
        rw [e, nI_c (by omega)] at h
        obtain ⟨h1, h2, h3, h4⟩ := hO s hs h
        exact ⟨h1, h2, z0, z1, h3, Or.inr h4⟩
