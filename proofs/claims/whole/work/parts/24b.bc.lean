/-! How many bits. -/
def bc1 (x : Int32) : Int32 := ((x - (((x.toUInt32 >>> ((1 : Int32).toUInt32 &&& Int32.toUInt32 31)).toInt32) &&& 1431655765)) &&& 858993459) + ((((x - (((x.toUInt32 >>> ((1 : Int32).toUInt32 &&& Int32.toUInt32 31)).toInt32) &&& 1431655765)).toUInt32 >>> ((2 : Int32).toUInt32 &&& Int32.toUInt32 31)).toInt32) &&& 858993459)
def bc2 (y1 : Int32) : Int32 := ((y1 + ((y1.toUInt32 >>> ((4 : Int32).toUInt32 &&& Int32.toUInt32 31)).toInt32)) &&& 252645135) + ((((y1 + ((y1.toUInt32 >>> ((4 : Int32).toUInt32 &&& Int32.toUInt32 31)).toInt32)) &&& 252645135).toUInt32 >>> ((8 : Int32).toUInt32 &&& Int32.toUInt32 31)).toInt32)
def bc3 (y2 : Int32) : Int32 := (y2 + ((y2.toUInt32 >>> ((16 : Int32).toUInt32 &&& Int32.toUInt32 31)).toInt32)) &&& 63
def bc (x : Int32) : Int32 := bc3 (bc2 (bc1 x))
theorem m195 {L : Nat} {xs : Nat → Int32} {h : Hp} {x : Int32} : Sp L xs 195 [.int x] h (some (.int (bc x))) h := by
  refine sp_eq (v195 ?_)
  intros
  subst_vars
  exact ⟨rfl, rfl⟩
