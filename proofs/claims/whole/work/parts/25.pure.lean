/-! The methods that only reckon, as functions. -/
def sdf (x y : Int32) : Bool := if x = 7 then true else if x = 4 then (x_in3 y 0 15 && x_in3 (bc y) 2 3) else x_in3 y 0 3
def onF (x y z : Int32) : Bool := decide (¬ (12 - (x - x / 12 * 12)) < y) && decide (¬ (12 - (x / 12)) < z)
def opp (x : Int32) : Int32 := (x + 2) &&& 3
def nbr (x y : Int32) : Int32 := if y = 0 then (if (x / 12) ≤ 0 then (-1) else x - 12) else if y = 1 then (if 11 ≤ (x - x / 12 * 12) then (-1) else x + 1) else if y = 2 then (if 11 ≤ (x / 12) then (-1) else x + 12) else (if (x - x / 12 * 12) ≤ 0 then (-1) else x - 1)
def btO (x : Int32) : Int32 := if x = (-1) then 0 else (1 <<< ((x : Int32) &&& 31))
def hsB (x y : Int32) : Bool := decide (((x >>> ((y : Int32) &&& 31)) &&& 1) = 1)
def cnG (x : Int32) : Bool := decide (x ≠ 0 ∧ x ≠ 2 ∧ x ≠ 7)
def cnT (x : Int32) : Bool := decide (x ≠ 0 ∧ x ≠ 3 ∧ x ≠ 5)
def nxt (x y : Int32) : Int32 := if (x_in3 ((x - x / 12 * 12) + (if y = 1 then (1) else (if y = 3 then ((-1)) else (0)))) 0 11) = true then (if (x_in3 ((x / 12) + (if y = 2 then (1) else (if y = 0 then ((-1)) else (0)))) 0 11) = true then ((12 * ((x / 12) + (if y = 2 then (1) else (if y = 0 then ((-1)) else (0))))) + ((x - x / 12 * 12) + (if y = 1 then (1) else (if y = 3 then ((-1)) else (0))))) else ((-1))) else ((-1))
def mny (x : Int32) : Int32 := (((x &&& 1) + ((x >>> ((1 : Int32) &&& 31)) &&& 1)) + ((x >>> ((2 : Int32) &&& 31)) &&& 1)) + ((x >>> ((3 : Int32) &&& 31)) &&& 1)
def lws (x : Int32) (y : Int64) : Int64 := if x = 0 then (y.toInt32.toInt8.toInt32.toInt64) else (if x = 1 then (y.toInt32.toInt16.toInt32.toInt64) else (if x = 2 then (y.toInt32.toInt64) else (y)))
def tsd (x y z : Int32) : Int32 := if x = 4 then (((y <<< ((z : Int32) &&& 31)) ||| (y >>> (((4 - z) : Int32) &&& 31))) &&& 15) else (y + z) - (y + z) / 4 * 4
section PU
variable {L : Nat} {xs : Nat → Int32} {h : Hp} {x y z : Int32}
theorem m118 : Sp L xs 118 [.int x, .int y] h (some (.int (b2i (sdf x y)))) h := by
  refine sp_eq (v118 ⟨fun c => ⟨?_, rfl⟩, fun c => ⟨fun d => ⟨?_, rfl⟩, fun d => ⟨?_, rfl⟩⟩⟩)
  · rw [sdf, if_pos c]; rfl
  · rw [sdf, if_neg c, if_pos d]
    cases x_in3 y 0 15 <;> cases x_in3 (bc y) 2 3 <;> rfl
  · rw [sdf, if_neg c, if_neg d]
theorem m119 : Sp L xs 119 [.int x, .int y, .int z] h (some (.int (b2i (onF x y z)))) h := by
  refine sp_eq (v119 ⟨fun c => ⟨?_, rfl⟩, fun c => ⟨?_, rfl⟩⟩)
  · rw [onF, decide_eq_false (not_not_intro c)]; rfl
  · rw [onF, decide_eq_true c]
    by_cases d : 12 - x / 12 < z
    · rw [if_pos d, decide_eq_false (not_not_intro d)]; rfl
    · rw [if_neg d, decide_eq_true d]; rfl
theorem m120 : Sp L xs 120 [.int x] h (some (.int (opp x))) h := sp_eq (v120 ⟨rfl, rfl⟩)
theorem m121 : Sp L xs 121 [.int x, .int y] h (some (.int (nbr x y))) h := by
  refine sp_eq (v121 ⟨fun c => ⟨?_, rfl⟩, fun c => ⟨fun d => ⟨?_, rfl⟩, fun d => ⟨fun e => ⟨?_, rfl⟩, fun e => ⟨?_, rfl⟩⟩⟩⟩)
  · rw [nbr, if_pos c]
  · rw [nbr, if_neg c, if_pos d]
  · rw [nbr, if_neg c, if_neg d, if_pos e]
  · rw [nbr, if_neg c, if_neg d, if_neg e]
theorem m54 : Sp L xs 54 [.ref 393, .int x] h (some (.int (btO x))) h := sp_eq (v54 ⟨rfl, rfl⟩)
theorem m55 : Sp L xs 55 [.ref 393, .int x, .int y] h (some (.int (b2i (hsB x y)))) h := by
  refine sp_eq (v55 ⟨?_, rfl⟩)
  unfold hsB
  split <;> rename_i c
  · rw [decide_eq_true c]
  · rw [decide_eq_false c]
theorem m66 : Sp L xs 66 [.ref 390, .int x] h (some (.int (b2i (cnG x)))) h := by
  refine sp_eq (v66 ⟨?_, rfl⟩)
  unfold cnG
  split
  · rename_i c; rw [decide_eq_false (fun q => q.1 c)]
  · split
    · rename_i c; rw [decide_eq_false (fun q => q.2.1 c)]
    · split
      · rename_i c; rw [decide_eq_false (fun q => q.2.2 c)]
      · rename_i c d e; rw [decide_eq_true ⟨c, d, e⟩]
theorem m67 : Sp L xs 67 [.ref 390, .int x] h (some (.int (b2i (cnT x)))) h := by
  refine sp_eq (v67 ⟨?_, rfl⟩)
  unfold cnT
  split
  · rename_i c; rw [decide_eq_false (fun q => q.1 c)]
  · split
    · rename_i c; rw [decide_eq_false (fun q => q.2.1 c)]
    · split
      · rename_i c; rw [decide_eq_false (fun q => q.2.2 c)]
      · rename_i c d e; rw [decide_eq_true ⟨c, d, e⟩]
theorem m127 : Sp L xs 127 [.int x, .int y] h (some (.int (nxt x y))) h := sp_eq (v127 ⟨rfl, rfl⟩)
theorem m131 : Sp L xs 131 [.int x] h (some (.int (mny x))) h := sp_eq (v131 ⟨rfl, rfl⟩)
theorem m138 {w : Int64} : Sp L xs 138 [.int x, .long w] h (some (.long (lws x w))) h := sp_eq (v138 ⟨rfl, rfl⟩)
theorem m150 : Sp L xs 150 [.int x, .int y, .int z] h (some (.int (tsd x y z))) h := by
  refine sp_eq (v150 ⟨fun c => ⟨?_, rfl⟩, fun c => ⟨?_, rfl⟩⟩)
  · rw [tsd, if_pos c]
  · rw [tsd, if_neg c]
end PU
