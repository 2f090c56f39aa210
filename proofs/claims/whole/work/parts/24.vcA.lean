/-! Conditions of the methods that only reckon (made by wip/whole/vcmake.py). -/
set_option maxRecDepth 100000 in
theorem i195_0 : INS 195 0 = some (0, 1, 0, 0, .null, []) := rfl
set_option maxRecDepth 100000 in
theorem i195_1 : INS 195 1 = some (0, 1, 0, 0, .null, []) := rfl
set_option maxRecDepth 100000 in
theorem i195_2 : INS 195 2 = some (2, 1, 0, 0, .int 1, []) := rfl
set_option maxRecDepth 100000 in
theorem i195_3 : INS 195 3 = some (3, 1, 10, 0, .null, []) := rfl
set_option maxRecDepth 100000 in
theorem i195_4 : INS 195 4 = some (2, 3, 1, 0, .int 1431655765, []) := rfl
set_option maxRecDepth 100000 in
theorem i195_7 : INS 195 7 = some (3, 1, 5, 0, .null, []) := rfl
set_option maxRecDepth 100000 in
theorem i195_8 : INS 195 8 = some (3, 1, 1, 0, .null, []) := rfl
set_option maxRecDepth 100000 in
theorem i195_9 : INS 195 9 = some (1, 1, 0, 0, .null, []) := rfl
set_option maxRecDepth 100000 in
theorem i195_10 : INS 195 10 = some (0, 1, 0, 0, .null, []) := rfl
set_option maxRecDepth 100000 in
theorem i195_11 : INS 195 11 = some (2, 3, 1, 0, .int 858993459, []) := rfl
set_option maxRecDepth 100000 in
theorem i195_14 : INS 195 14 = some (3, 1, 5, 0, .null, []) := rfl
set_option maxRecDepth 100000 in
theorem i195_15 : INS 195 15 = some (0, 1, 0, 0, .null, []) := rfl
set_option maxRecDepth 100000 in
theorem i195_16 : INS 195 16 = some (2, 1, 0, 0, .int 2, []) := rfl
set_option maxRecDepth 100000 in
theorem i195_17 : INS 195 17 = some (3, 1, 10, 0, .null, []) := rfl
set_option maxRecDepth 100000 in
theorem i195_18 : INS 195 18 = some (2, 3, 1, 0, .int 858993459, []) := rfl
set_option maxRecDepth 100000 in
theorem i195_21 : INS 195 21 = some (3, 1, 5, 0, .null, []) := rfl
set_option maxRecDepth 100000 in
theorem i195_22 : INS 195 22 = some (3, 1, 0, 0, .null, []) := rfl
set_option maxRecDepth 100000 in
theorem i195_23 : INS 195 23 = some (1, 1, 0, 0, .null, []) := rfl
set_option maxRecDepth 100000 in
theorem i195_24 : INS 195 24 = some (0, 1, 0, 0, .null, []) := rfl
set_option maxRecDepth 100000 in
theorem i195_25 : INS 195 25 = some (0, 1, 0, 0, .null, []) := rfl
set_option maxRecDepth 100000 in
theorem i195_26 : INS 195 26 = some (2, 1, 0, 0, .int 4, []) := rfl
set_option maxRecDepth 100000 in
theorem i195_27 : INS 195 27 = some (3, 1, 10, 0, .null, []) := rfl
set_option maxRecDepth 100000 in
theorem i195_28 : INS 195 28 = some (3, 1, 0, 0, .null, []) := rfl
set_option maxRecDepth 100000 in
theorem i195_29 : INS 195 29 = some (2, 3, 1, 0, .int 252645135, []) := rfl
set_option maxRecDepth 100000 in
theorem i195_32 : INS 195 32 = some (3, 1, 5, 0, .null, []) := rfl
set_option maxRecDepth 100000 in
theorem i195_33 : INS 195 33 = some (1, 1, 0, 0, .null, []) := rfl
set_option maxRecDepth 100000 in
theorem i195_34 : INS 195 34 = some (0, 1, 0, 0, .null, []) := rfl
set_option maxRecDepth 100000 in
theorem i195_35 : INS 195 35 = some (0, 1, 0, 0, .null, []) := rfl
set_option maxRecDepth 100000 in
theorem i195_36 : INS 195 36 = some (2, 2, 0, 0, .int 8, []) := rfl
set_option maxRecDepth 100000 in
theorem i195_38 : INS 195 38 = some (3, 1, 10, 0, .null, []) := rfl
set_option maxRecDepth 100000 in
theorem i195_39 : INS 195 39 = some (3, 1, 0, 0, .null, []) := rfl
set_option maxRecDepth 100000 in
theorem i195_40 : INS 195 40 = some (1, 1, 0, 0, .null, []) := rfl
set_option maxRecDepth 100000 in
theorem i195_41 : INS 195 41 = some (0, 1, 0, 0, .null, []) := rfl
set_option maxRecDepth 100000 in
theorem i195_42 : INS 195 42 = some (0, 1, 0, 0, .null, []) := rfl
set_option maxRecDepth 100000 in
theorem i195_43 : INS 195 43 = some (2, 2, 0, 0, .int 16, []) := rfl
set_option maxRecDepth 100000 in
theorem i195_45 : INS 195 45 = some (3, 1, 10, 0, .null, []) := rfl
set_option maxRecDepth 100000 in
theorem i195_46 : INS 195 46 = some (3, 1, 0, 0, .null, []) := rfl
set_option maxRecDepth 100000 in
theorem i195_47 : INS 195 47 = some (1, 1, 0, 0, .null, []) := rfl
set_option maxRecDepth 100000 in
theorem i195_48 : INS 195 48 = some (0, 1, 0, 0, .null, []) := rfl
set_option maxRecDepth 100000 in
theorem i195_49 : INS 195 49 = some (2, 2, 0, 0, .int 63, []) := rfl
set_option maxRecDepth 100000 in
theorem i195_51 : INS 195 51 = some (3, 1, 5, 0, .null, []) := rfl
set_option maxRecDepth 100000 in
theorem i195_52 : INS 195 52 = some (27, 1, 0, 0, .null, []) := rfl
-- java/lang/Integer.bitCount(I)I
set_option maxHeartbeats 8000000 in
set_option maxRecDepth 100000 in
theorem v195 {L : Nat} {xs : Nat → Int32} {Q : Option Value → Hp → Prop} {h : Hp} {x : Int32}  
  (H : ∀ y1 : Int32, y1 = x - (((x.toUInt32 >>> ((1 : Int32).toUInt32 &&& Int32.toUInt32 31)).toInt32) &&& 1431655765) → ∀ y2 : Int32, y2 = (y1 &&& 858993459) + (((y1.toUInt32 >>> ((2 : Int32).toUInt32 &&& Int32.toUInt32 31)).toInt32) &&& 858993459) → ∀ y3 : Int32, y3 = (y2 + ((y2.toUInt32 >>> ((4 : Int32).toUInt32 &&& Int32.toUInt32 31)).toInt32)) &&& 252645135 → ∀ y4 : Int32, y4 = (y3 + ((y3.toUInt32 >>> ((8 : Int32).toUInt32 &&& Int32.toUInt32 31)).toInt32)) + (((y3 + ((y3.toUInt32 >>> ((8 : Int32).toUInt32 &&& Int32.toUInt32 31)).toInt32)).toUInt32 >>> ((16 : Int32).toUInt32 &&& Int32.toUInt32 31)).toInt32) → Q (some (.int (y4 &&& 63))) h) : ∃ r h', Sp L xs 195 [.int x] h r h' ∧ Q r h' := by
  refine sp_ex (ls := [some (.int x)]) rfl ?_
  refine e_ld (pc' := 1) i195_0 rfl rfl ?_
  refine e_ld (pc' := 2) i195_1 rfl rfl ?_
  refine e_cn (pc' := 3) i195_2 rfl ?_
  refine e_ib (z := (x.toUInt32 >>> ((1 : Int32).toUInt32 &&& Int32.toUInt32 31)).toInt32) (pc' := 4) i195_3 rfl rfl ?_
  refine e_cn (pc' := 7) i195_4 rfl ?_
  refine e_ib (z := ((x.toUInt32 >>> ((1 : Int32).toUInt32 &&& Int32.toUInt32 31)).toInt32) &&& 1431655765) (pc' := 8) i195_7 rfl rfl ?_
  refine e_ib (z := x - (((x.toUInt32 >>> ((1 : Int32).toUInt32 &&& Int32.toUInt32 31)).toInt32) &&& 1431655765)) (pc' := 9) i195_8 rfl rfl ?_
  replace H := H _ rfl
  generalize x - (((x.toUInt32 >>> ((1 : Int32).toUInt32 &&& Int32.toUInt32 31)).toInt32) &&& 1431655765) = y1 at H ⊢
  refine e_st (ls' := [some (.int y1)]) (pc' := 10) i195_9 rfl rfl rfl ?_
  refine e_ld (pc' := 11) i195_10 rfl rfl ?_
  refine e_cn (pc' := 14) i195_11 rfl ?_
  refine e_ib (z := y1 &&& 858993459) (pc' := 15) i195_14 rfl rfl ?_
  refine e_ld (pc' := 16) i195_15 rfl rfl ?_
  refine e_cn (pc' := 17) i195_16 rfl ?_
  refine e_ib (z := (y1.toUInt32 >>> ((2 : Int32).toUInt32 &&& Int32.toUInt32 31)).toInt32) (pc' := 18) i195_17 rfl rfl ?_
  refine e_cn (pc' := 21) i195_18 rfl ?_
  refine e_ib (z := ((y1.toUInt32 >>> ((2 : Int32).toUInt32 &&& Int32.toUInt32 31)).toInt32) &&& 858993459) (pc' := 22) i195_21 rfl rfl ?_
  refine e_ib (z := (y1 &&& 858993459) + (((y1.toUInt32 >>> ((2 : Int32).toUInt32 &&& Int32.toUInt32 31)).toInt32) &&& 858993459)) (pc' := 23) i195_22 rfl rfl ?_
  replace H := H _ rfl
  generalize (y1 &&& 858993459) + (((y1.toUInt32 >>> ((2 : Int32).toUInt32 &&& Int32.toUInt32 31)).toInt32) &&& 858993459) = y2 at H ⊢
  refine e_st (ls' := [some (.int y2)]) (pc' := 24) i195_23 rfl rfl rfl ?_
  refine e_ld (pc' := 25) i195_24 rfl rfl ?_
  refine e_ld (pc' := 26) i195_25 rfl rfl ?_
  refine e_cn (pc' := 27) i195_26 rfl ?_
  refine e_ib (z := (y2.toUInt32 >>> ((4 : Int32).toUInt32 &&& Int32.toUInt32 31)).toInt32) (pc' := 28) i195_27 rfl rfl ?_
  refine e_ib (z := y2 + ((y2.toUInt32 >>> ((4 : Int32).toUInt32 &&& Int32.toUInt32 31)).toInt32)) (pc' := 29) i195_28 rfl rfl ?_
  refine e_cn (pc' := 32) i195_29 rfl ?_
  refine e_ib (z := (y2 + ((y2.toUInt32 >>> ((4 : Int32).toUInt32 &&& Int32.toUInt32 31)).toInt32)) &&& 252645135) (pc' := 33) i195_32 rfl rfl ?_
  replace H := H _ rfl
  generalize (y2 + ((y2.toUInt32 >>> ((4 : Int32).toUInt32 &&& Int32.toUInt32 31)).toInt32)) &&& 252645135 = y3 at H ⊢
  refine e_st (ls' := [some (.int y3)]) (pc' := 34) i195_33 rfl rfl rfl ?_
  refine e_ld (pc' := 35) i195_34 rfl rfl ?_
  refine e_ld (pc' := 36) i195_35 rfl rfl ?_
  refine e_cn (pc' := 38) i195_36 rfl ?_
  refine e_ib (z := (y3.toUInt32 >>> ((8 : Int32).toUInt32 &&& Int32.toUInt32 31)).toInt32) (pc' := 39) i195_38 rfl rfl ?_
  refine e_ib (z := y3 + ((y3.toUInt32 >>> ((8 : Int32).toUInt32 &&& Int32.toUInt32 31)).toInt32)) (pc' := 40) i195_39 rfl rfl ?_
  refine e_st (ls' := [some (.int (y3 + ((y3.toUInt32 >>> ((8 : Int32).toUInt32 &&& Int32.toUInt32 31)).toInt32)))]) (pc' := 41) i195_40 rfl rfl rfl ?_
  refine e_ld (pc' := 42) i195_41 rfl rfl ?_
  refine e_ld (pc' := 43) i195_42 rfl rfl ?_
  refine e_cn (pc' := 45) i195_43 rfl ?_
  refine e_ib (z := ((y3 + ((y3.toUInt32 >>> ((8 : Int32).toUInt32 &&& Int32.toUInt32 31)).toInt32)).toUInt32 >>> ((16 : Int32).toUInt32 &&& Int32.toUInt32 31)).toInt32) (pc' := 46) i195_45 rfl rfl ?_
  refine e_ib (z := (y3 + ((y3.toUInt32 >>> ((8 : Int32).toUInt32 &&& Int32.toUInt32 31)).toInt32)) + (((y3 + ((y3.toUInt32 >>> ((8 : Int32).toUInt32 &&& Int32.toUInt32 31)).toInt32)).toUInt32 >>> ((16 : Int32).toUInt32 &&& Int32.toUInt32 31)).toInt32)) (pc' := 47) i195_46 rfl rfl ?_
  replace H := H _ rfl
  generalize (y3 + ((y3.toUInt32 >>> ((8 : Int32).toUInt32 &&& Int32.toUInt32 31)).toInt32)) + (((y3 + ((y3.toUInt32 >>> ((8 : Int32).toUInt32 &&& Int32.toUInt32 31)).toInt32)).toUInt32 >>> ((16 : Int32).toUInt32 &&& Int32.toUInt32 31)).toInt32) = y4 at H ⊢
  refine e_st (ls' := [some (.int y4)]) (pc' := 48) i195_47 rfl rfl rfl ?_
  refine e_ld (pc' := 49) i195_48 rfl rfl ?_
  refine e_cn (pc' := 51) i195_49 rfl ?_
  refine e_ib (z := y4 &&& 63) (pc' := 52) i195_51 rfl rfl ?_
  refine e_rt i195_52 rfl ?_
  exact H
