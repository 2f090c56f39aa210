theorem x_stz {ls : x_L} {a : Nat} {v : Value} {z : Option Value} (h1 : ls[a]? = some z) (hz : x_wide (some z) = false) (hv : v.category = 1) : x_st ls (a + 1) v = ls.set (a + 1) (some v) := by
  unfold x_st
  rw [hv, show Nat.beq 1 2 = false from rfl, cond_false]
  show (bif x_wide ls[a]? then ls.set a none else ls).set (a + 1) (some v) = _
  rw [h1, hz, cond_false]
theorem x_stzl {ls : x_L} {a : Nat} {v : Value} {z : Option Value} (h1 : ls[a]? = some z) (hz : x_wide (some z) = false) (hv : v.category = 2) : x_st ls (a + 1) v = (ls.set (a + 1 + 1) none).set (a + 1) (some v) := by
  unfold x_st
  rw [hv, show Nat.beq 2 2 = true from rfl, cond_true]
  show ((bif x_wide ls[a]? then ls.set a none else ls).set (a + 1 + 1) none).set (a + 1) (some v) = _
  rw [h1, hz, cond_false]
