/-! Ways over bare cells to a target: how far. -/
section RH
variable {T : Nat → Row} {z k j : Nat}
/-- k lies at the target, on one of its open sides -/
def atT (T : Nat → Row) (z k : Nat) : Prop := ∃ s, s < 4 ∧ nb z s = some k ∧ ldT (T z) (nI s) = false
def nxC (j k : Nat) : Prop := ∃ s, s < 4 ∧ nb j s = some k
def rch (T : Nat → Row) (z : Nat) : Nat → Nat → Prop
  | 0, _ => False
  | m + 1, k => k < 144 ∧ T k 0 = 0 ∧ (atT T z k ∨ ∃ j, rch T z m j ∧ nxC j k)
theorem rch_s (m k : Nat) : rch T z (m + 1) k ↔ k < 144 ∧ T k 0 = 0 ∧ (atT T z k ∨ ∃ j, rch T z m j ∧ nxC j k) := Iff.rfl
def DS (T : Nat → Row) (z k d : Nat) : Prop := rch T z d k ∧ ∀ e, e < d → ¬ rch T z e k
theorem rch_b : ∀ {m k : Nat}, rch T z m k → k < 144 ∧ T k 0 = 0
  | 0, _, h => absurd h (fun q => q)
  | m + 1, k, h => ⟨h.1, h.2.1⟩
theorem DS_u {d e : Nat} (h1 : DS T z k d) (h2 : DS T z k e) : d = e := by
  rcases Nat.lt_trichotomy d e with q | q | q
  · exact absurd h1.1 (h2.2 d q)
  · exact q
  · exact absurd h2.1 (h1.2 e q)
/-- what a search must keep to be right at its end: closed under one step -/
theorem DS_of {D : Nat → Nat} (h1 : ∀ k, k < 144 → ¬ D k = 0 → rch T z (D k) k) (h2 : ∀ k, k < 144 → T k 0 = 0 → atT T z k → ¬ D k = 0 ∧ D k ≤ 1) (h3 : ∀ j k, j < 144 → k < 144 → ¬ D j = 0 → nxC j k → T k 0 = 0 → ¬ D k = 0 ∧ D k ≤ D j + 1) (hk : k < 144) : (D k = 0 ∧ ∀ m, ¬ rch T z m k) ∨ (¬ D k = 0 ∧ DS T z k (D k)) := by
  have key : ∀ m k, rch T z m k → ¬ D k = 0 ∧ D k ≤ m := by
    intro m
    induction m with
    | zero => intro k h; exact absurd h (fun q => q)
    | succ m ih =>
      intro k h
      obtain ⟨k1, k2, k3⟩ := h
      rcases k3 with a | ⟨j, a, b⟩
      · have := h2 k k1 k2 a
        exact ⟨this.1, by omega⟩
      · have i := ih j a
        have := h3 j k (rch_b a).1 k1 i.1 b k2
        exact ⟨this.1, by omega⟩
  by_cases q : D k = 0
  · exact Or.inl ⟨q, fun m h => (key m k h).1 q⟩
  · refine Or.inr ⟨q, h1 k hk q, fun e he h => ?_⟩
    have := (key e k h).2
    omega
/-- how many cells are marked -/
def mkd (D : Nat → Nat) : Nat → Nat
  | 0 => 0
  | n + 1 => if D n = 0 then mkd D n else mkd D n + 1
theorem mkd_s (D : Nat → Nat) (n : Nat) : mkd D (n + 1) = if D n = 0 then mkd D n else mkd D n + 1 := rfl
def upD (D : Nat → Nat) (k v : Nat) : Nat → Nat := fun j => if j = k then v else D j
theorem mkd_o {D : Nat → Nat} {k v : Nat} : ∀ n, n ≤ k → mkd (upD D k v) n = mkd D n
  | 0, _ => rfl
  | n + 1, h => by
    have e : upD D k v n = D n := if_neg (by omega)
    rw [mkd_s, mkd_s, e, mkd_o n (by omega)]
theorem mkd_up {D : Nat → Nat} {k v : Nat} (h0 : D k = 0) (hv : ¬ v = 0) : ∀ n, k < n → mkd (upD D k v) n = mkd D n + 1
  | 0, h => absurd h (Nat.not_lt_zero k)
  | n + 1, h => by
    rw [mkd_s, mkd_s]
    by_cases e : n = k
    · subst e
      have e1 : upD D n v n = v := if_pos rfl
      rw [e1, if_neg hv, if_pos h0, mkd_o n (Nat.le_refl n)]
    · have e1 : upD D k v n = D n := if_neg e
      rw [e1, mkd_up h0 hv n (by omega)]
      split <;> rfl
theorem mkd_le (D : Nat → Nat) : ∀ n, mkd D n ≤ n
  | 0 => Nat.le_refl _
  | n + 1 => by
    rw [mkd_s]
    have := mkd_le D n
    split <;> omega
theorem mkd_lt {D : Nat → Nat} {k : Nat} (h0 : D k = 0) : ∀ n, k < n → mkd D n < n := fun n hn => by
  have h1 := mkd_up (v := 1) h0 (by decide) n hn
  have h2 := mkd_le (upD D k 1) n
  omega
/-- the queue: cells q 0 .. q (n - 1) are marked, the first i are done -/
def QI (T : Nat → Row) (z : Nat) (D q : Nat → Nat) (n i : Nat) : Prop := (∀ p, p < n → q p < 144 ∧ ¬ D (q p) = 0 ∧ D (q p) ≤ p + 1) ∧ (∀ k, k < 144 → ¬ D k = 0 → rch T z (D k) k ∧ ∃ p, p < n ∧ q p = k) ∧ (∀ p p', p ≤ p' → p' < n → D (q p) ≤ D (q p')) ∧ (∀ p, i ≤ p → p < n → D (q p) ≤ D (q i) + 1) ∧ (∀ p, p < i → ∀ k, nxC (q p) k → k < 144 → T k 0 = 0 → ¬ D k = 0 ∧ D k ≤ D (q p) + 1) ∧ n = mkd D 144 ∧ i ≤ n
theorem QI_push {D q : Nat → Nat} {n i d : Nat} (I : QI T z D q n i) (hk : k < 144) (h0 : D k = 0) (hd : ¬ d = 0) (hn : d ≤ n + 1) (hr : rch T z d k) (hm : ∀ p, p < n → D (q p) ≤ d) (hh : i < n → d ≤ D (q i) + 1) : QI T z (upD D k d) (upD q n k) (n + 1) i := by
  obtain ⟨i1, i2, i3, i4, i5, i6, i7⟩ := I
  have qo : ∀ p, p < n → upD q n k p = q p := fun p hp => if_neg (by omega)
  have qn : upD q n k n = k := if_pos rfl
  have dk : upD D k d k = d := if_pos rfl
  have dn : ∀ j, ¬ D j = 0 → upD D k d j = D j := fun j hj => if_neg (fun e => hj (by rw [e]; exact h0))
  have dq : ∀ p, p < n → upD D k d (upD q n k p) = D (q p) := fun p hp => by rw [qo p hp, dn _ (i1 p hp).2.1]
  have dd : upD D k d (upD q n k n) = d := by rw [qn, dk]
  refine ⟨fun p hp => ?_, fun j hj hz => ?_, fun p p' h1 h2 => ?_, fun p h1 h2 => ?_, fun p hp j hx hj hT => ?_, ?_, by omega⟩
  · by_cases e : p = n
    · subst e
      rw [qn, dk]
      exact ⟨hk, hd, hn⟩
    · rw [dq p (by omega), qo p (by omega)]
      exact i1 p (by omega)
  · by_cases e : j = k
    · subst e
      rw [dk]
      exact ⟨hr, n, Nat.lt_succ_self n, qn⟩
    · have e1 : upD D k d j = D j := if_neg e
      rw [e1] at hz ⊢
      obtain ⟨a, p, hp, b⟩ := i2 j hj hz
      exact ⟨a, p, by omega, by rw [qo p hp]; exact b⟩
  · by_cases e : p' = n
    · rw [e, dd]
      by_cases e2 : p = n
      · rw [e2, dd]; exact Nat.le_refl _
      · rw [dq p (by omega)]; exact hm p (by omega)
    · rw [dq p' (by omega), dq p (by omega)]
      exact i3 p p' h1 (by omega)
  · by_cases e : p = n
    · rw [e, dd]
      by_cases e2 : i = n
      · rw [e2, dd]; omega
      · rw [dq i (by omega)]; exact hh (by omega)
    · rw [dq p (by omega), dq i (by omega)]
      exact i4 p h1 (by omega)
  · rw [dq p (by omega)]
    rw [qo p (by omega)] at hx
    obtain ⟨a, b⟩ := i5 p hp j hx hj hT
    rw [dn j a]
    exact ⟨a, b⟩
  · rw [mkd_up h0 hd 144 hk, i6]
end RH
