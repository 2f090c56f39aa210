/-! Each entry of the own tables is what the machine decodes there, and the words that it links stand in lw_tbl. -/
def x_all : List Cond := lw_tbl.filter goodWord
def x_wd (ix : Nat) (w : Cond) : Bool := decide (lw_tbl[ix]? = some w) && goodWord w
theorem x_wd_in {ix : Nat} {w : Cond} (h : x_wd ix w = true) : w ∈ x_all := by
  simp only [x_wd, Bool.and_eq_true, decide_eq_true_eq] at h
  exact List.mem_filter.mpr ⟨List.mem_of_getElem? h.1, h.2⟩
def x_nwl : List (Nat × String × Nat × MethodName × String) := [(103, "FloorTurn", 15, ⟨"FloorTurn$Book", "<init>", "()V"⟩, "FloorTurn"), (129, "FloorTurn$Floor", 34, ⟨"FloorTurn$Part", "<init>", "()V"⟩, "FloorTurn"), (234, "FloorTurn", 35, ⟨"FloorTurn$Shelf", "<init>", "()V"⟩, "FloorTurn"), (240, "FloorTurn$Shelf", 9, ⟨"FloorTurn$Row", "<init>", "()V"⟩, "FloorTurn"), (260, "FloorTurn$Shelf", 18, ⟨"FloorTurn$Piece", "<init>", "()V"⟩, "FloorTurn"), (353, "FloorTurn", 45, ⟨"FloorTurn$Router", "<init>", "()V"⟩, "FloorTurn"), (369, "FloorTurn", 52, ⟨"FloorTurn$Planner", "<init>", "()V"⟩, "FloorTurn"), (674, "FloorTurn$Floor", 82, ⟨"FloorTurn", "neighbour", "(II)I"⟩, "FloorTurn"), (681, "FloorTurn$Floor", 100, ⟨"FloorTurn", "opposite", "(I)I"⟩, "FloorTurn"), (862, "FloorTurn$Router", 18, ⟨"FloorTurn", "isCell", "(I)Z"⟩, "FloorTurn"), (876, "FloorTurn$Router", 55, ⟨"FloorTurn", "neighbour", "(II)I"⟩, "FloorTurn"), (877, "FloorTurn$Router", 59, ⟨"FloorTurn", "opposite", "(I)I"⟩, "FloorTurn")]
def x_fld (j c k idx ix : Nat) : Bool := Nat.blt c 12 && (Nat.blt k (NF c) && (decide ((TT c k).1 = RN c) && x_wd ix (.fieldLink (MN j).cls idx (RN c) (TT c k).2.1 (TT c k).2.2.1)))
def x_lnk (j idx k m ix : Nat) : Bool := Nat.blt k 201 && (Nat.blt (MF k) (MF j) && (Nat.ble (8 + (ML k + 11) + MO k) (MO j) && (bif Nat.blt m 3 then x_wd ix (.methodLink (MN j).cls idx (MN k)) else decide ((ix, (MN j).cls, idx, MN k, "FloorTurn") ∈ x_nwl))))
def x_atp (t : Nat) : ArrayType := match t with
  | 20 => .int
  | 21 => .long
  | _ => .boolean
def x_ack (t : Nat) : String := match t with
  | 23 => "FloorTurn$Part"
  | 24 => "FloorTurn$Recipe"
  | _ => "FloorTurn$Shelf"
/-- an entry and its instruction -/
def x_ck (j pc : Nat) (e : x_E) (i : Instr) (ix : Nat) : Bool := match i with
  | .iload_n n => decide (e.1 = 0 ∧ e.2.1 = 1 ∧ e.2.2.1 = n.val ∧ e.2.2.2.1 = 0)
  | .iload n => decide (e.1 = 0 ∧ e.2.1 = 2 ∧ e.2.2.1 = n ∧ e.2.2.2.1 = 0)
  | .lload_n n => decide (e.1 = 0 ∧ e.2.1 = 1 ∧ e.2.2.1 = n.val ∧ e.2.2.2.1 = 1)
  | .lload n => decide (e.1 = 0 ∧ e.2.1 = 2 ∧ e.2.2.1 = n ∧ e.2.2.2.1 = 1)
  | .aload_n n => decide (e.1 = 0 ∧ e.2.1 = 1 ∧ e.2.2.1 = n.val ∧ e.2.2.2.1 = 2)
  | .aload n => decide (e.1 = 0 ∧ e.2.1 = 2 ∧ e.2.2.1 = n ∧ e.2.2.2.1 = 2)
  | .istore_n n => decide (e.1 = 1 ∧ e.2.1 = 1 ∧ e.2.2.1 = n.val ∧ e.2.2.2.1 = 0)
  | .istore n => decide (e.1 = 1 ∧ e.2.1 = 2 ∧ e.2.2.1 = n ∧ e.2.2.2.1 = 0)
  | .lstore_n n => decide (e.1 = 1 ∧ e.2.1 = 1 ∧ e.2.2.1 = n.val ∧ e.2.2.2.1 = 1)
  | .lstore n => decide (e.1 = 1 ∧ e.2.1 = 2 ∧ e.2.2.1 = n ∧ e.2.2.2.1 = 1)
  | .astore_n n => decide (e.1 = 1 ∧ e.2.1 = 1 ∧ e.2.2.1 = n.val ∧ e.2.2.2.1 = 2)
  | .astore n => decide (e.1 = 1 ∧ e.2.1 = 2 ∧ e.2.2.1 = n ∧ e.2.2.2.1 = 2)
  | .iconst n => decide (e.1 = 2 ∧ e.2.1 = 1 ∧ e.2.2.2.2.1 = .int (Int32.ofInt n))
  | .bipush n => decide (e.1 = 2 ∧ e.2.1 = 2 ∧ e.2.2.2.2.1 = .int (Int8.ofInt n).toInt32)
  | .sipush n => decide (e.1 = 2 ∧ e.2.1 = 3 ∧ e.2.2.2.2.1 = .int (Int16.ofInt n).toInt32)
  | .lconst n => decide (e.1 = 2 ∧ e.2.1 = 1 ∧ e.2.2.2.2.1 = .long (Int64.ofNat n))
  | .aconst_null => decide (e.1 = 2 ∧ e.2.1 = 1 ∧ e.2.2.2.2.1 = .null)
  | .ldc n => match e.2.2.2.2.1 with
    | .int v => decide (e.1 = 2 ∧ e.2.1 = 2) && x_wd ix (.constant (MN j).cls n v)
    | _ => false
  | .ldc_w n => match e.2.2.2.2.1 with
    | .int v => decide (e.1 = 2 ∧ e.2.1 = 3) && x_wd ix (.constant (MN j).cls n v)
    | _ => false
  | .ldc2_w n => match e.2.2.2.2.1 with
    | .long v => decide (e.1 = 2 ∧ e.2.1 = 3) && x_wd ix (.constantLong (MN j).cls n v)
    | _ => false
  | .iadd => decide (e.1 = 3 ∧ e.2.1 = 1 ∧ e.2.2.1 = 0)
  | .isub => decide (e.1 = 3 ∧ e.2.1 = 1 ∧ e.2.2.1 = 1)
  | .imul => decide (e.1 = 3 ∧ e.2.1 = 1 ∧ e.2.2.1 = 2)
  | .idiv => decide (e.1 = 3 ∧ e.2.1 = 1 ∧ e.2.2.1 = 3)
  | .irem => decide (e.1 = 3 ∧ e.2.1 = 1 ∧ e.2.2.1 = 4)
  | .iand => decide (e.1 = 3 ∧ e.2.1 = 1 ∧ e.2.2.1 = 5)
  | .ior => decide (e.1 = 3 ∧ e.2.1 = 1 ∧ e.2.2.1 = 6)
  | .ixor => decide (e.1 = 3 ∧ e.2.1 = 1 ∧ e.2.2.1 = 7)
  | .ishl => decide (e.1 = 3 ∧ e.2.1 = 1 ∧ e.2.2.1 = 8)
  | .ishr => decide (e.1 = 3 ∧ e.2.1 = 1 ∧ e.2.2.1 = 9)
  | .iushr => decide (e.1 = 3 ∧ e.2.1 = 1 ∧ e.2.2.1 = 10)
  | .ladd => decide (e.1 = 4 ∧ e.2.1 = 1 ∧ e.2.2.1 = 0)
  | .lsub => decide (e.1 = 4 ∧ e.2.1 = 1 ∧ e.2.2.1 = 1)
  | .lmul => decide (e.1 = 4 ∧ e.2.1 = 1 ∧ e.2.2.1 = 2)
  | .ldiv => decide (e.1 = 4 ∧ e.2.1 = 1 ∧ e.2.2.1 = 3)
  | .lrem => decide (e.1 = 4 ∧ e.2.1 = 1 ∧ e.2.2.1 = 4)
  | .land => decide (e.1 = 4 ∧ e.2.1 = 1 ∧ e.2.2.1 = 5)
  | .lor => decide (e.1 = 4 ∧ e.2.1 = 1 ∧ e.2.2.1 = 6)
  | .lshl => decide (e.1 = 5 ∧ e.2.1 = 1)
  | .ineg => decide (e.1 = 6 ∧ e.2.1 = 1 ∧ e.2.2.1 = 0)
  | .i2l => decide (e.1 = 6 ∧ e.2.1 = 1 ∧ e.2.2.1 = 1)
  | .l2i => decide (e.1 = 6 ∧ e.2.1 = 1 ∧ e.2.2.1 = 2)
  | .i2b => decide (e.1 = 6 ∧ e.2.1 = 1 ∧ e.2.2.1 = 3)
  | .i2s => decide (e.1 = 6 ∧ e.2.1 = 1 ∧ e.2.2.1 = 4)
  | .lcmp => decide (e.1 = 7 ∧ e.2.1 = 1)
  | .dup => decide (e.1 = 8 ∧ e.2.1 = 1 ∧ e.2.2.1 = 0)
  | .pop => decide (e.1 = 8 ∧ e.2.1 = 1 ∧ e.2.2.1 = 1)
  | .dup2 => decide (e.1 = 8 ∧ e.2.1 = 1 ∧ e.2.2.1 = 2)
  | .dup_x1 => decide (e.1 = 8 ∧ e.2.1 = 1 ∧ e.2.2.1 = 3)
  | .ifCond q off => decide (e.1 = 9 ∧ e.2.1 = 3 ∧ (pc : Int) + off = (e.2.2.1 : Int) ∧ e.2.2.2.1 = (match q with | .eq => 0 | .ne => 1 | .lt => 2 | .ge => 3 | .gt => 4 | .le => 5))
  | .if_icmp q off => decide (e.1 = 10 ∧ e.2.1 = 3 ∧ (pc : Int) + off = (e.2.2.1 : Int) ∧ e.2.2.2.1 = (match q with | .eq => 0 | .ne => 1 | .lt => 2 | .ge => 3 | .gt => 4 | .le => 5))
  | .ifnull off => decide (e.1 = 11 ∧ e.2.1 = 3 ∧ (pc : Int) + off = (e.2.2.1 : Int) ∧ e.2.2.2.1 = 0)
  | .ifnonnull off => decide (e.1 = 11 ∧ e.2.1 = 3 ∧ (pc : Int) + off = (e.2.2.1 : Int) ∧ e.2.2.2.1 = 1)
  | .goto off => decide (e.1 = 12 ∧ e.2.1 = 3 ∧ (pc : Int) + off = (e.2.2.1 : Int))
  | .tableswitch d l hi offs => decide (e.1 = 13 ∧ (pc : Int) + d = (e.2.2.1 : Int) ∧ l = (e.2.2.2.1 : Int) ∧ hi + 1 = l + e.2.2.2.2.2.length ∧ offs.toList.map (fun o => (pc : Int) + o) = e.2.2.2.2.2.map (fun (n : Nat) => (n : Int)))
  | .lookupswitch d ps => decide (e.1 = 14 ∧ (ps.toList.zip (ps.toList.drop 1)).all (fun (a, next) => a.1 < next.1) = true ∧ (pc : Int) + d = (e.2.2.1 : Int) ∧ ps.toList.flatMap (fun q => [q.1, (pc : Int) + q.2]) = e.2.2.2.2.2.map (fun (n : Nat) => (n : Int)) ∧ ps.size = 2)
  | .iinc k n => decide (e.1 = 15 ∧ e.2.1 = 3 ∧ e.2.2.1 = k ∧ e.2.2.2.2.1 = .int (Int32.ofInt n))
  | .getfield n => decide (e.1 = 16 ∧ e.2.1 = 3) && x_fld j e.2.2.1 e.2.2.2.1 n ix
  | .putfield n => decide (e.1 = 17 ∧ e.2.1 = 3) && (x_fld j e.2.2.1 e.2.2.2.1 n ix && (decide ((TT e.2.2.1 e.2.2.2.1).2.2.2 = false) || decide ((MN j).cls = RN e.2.2.1 ∧ (MN j).name = "<init>")))
  | .iaload => decide (e.1 = 18 ∧ e.2.1 = 1 ∧ e.2.2.1 = 20)
  | .laload => decide (e.1 = 18 ∧ e.2.1 = 1 ∧ e.2.2.1 = 21)
  | .baload => decide (e.1 = 18 ∧ e.2.1 = 1 ∧ e.2.2.1 = 22)
  | .aaload => decide (e.1 = 18 ∧ e.2.1 = 1 ∧ e.2.2.1 = 23)
  | .iastore => decide (e.1 = 19 ∧ e.2.1 = 1 ∧ e.2.2.1 = 20)
  | .lastore => decide (e.1 = 19 ∧ e.2.1 = 1 ∧ e.2.2.1 = 21)
  | .bastore => decide (e.1 = 19 ∧ e.2.1 = 1 ∧ e.2.2.1 = 22)
  | .aastore => decide (e.1 = 19 ∧ e.2.1 = 1 ∧ e.2.2.1 = 23)
  | .arraylength => decide (e.1 = 20 ∧ e.2.1 = 1)
  | .new n => decide (e.1 = 21 ∧ e.2.1 = 3 ∧ e.2.2.1 < 12) && x_wd ix (.classLink (MN j).cls n (RN e.2.2.1))
  | .newarray a => decide (e.1 = 22 ∧ e.2.1 = 2 ∧ a = x_atp e.2.2.1 ∧ (e.2.2.1 = 20 ∨ e.2.2.1 = 21 ∨ e.2.2.1 = 22))
  | .anewarray n => decide (e.1 = 23 ∧ e.2.1 = 3 ∧ (e.2.2.1 = 23 ∨ e.2.2.1 = 24 ∨ e.2.2.1 = 25)) && x_wd ix (.classLink (MN j).cls n (x_ack e.2.2.1))
  | .invokevirtual n => decide (e.1 = 24 ∧ e.2.1 = 3 ∧ e.2.2.2.1 = 0) && x_lnk j n e.2.2.1 0 ix
  | .invokespecial n => (decide (e.1 = 24 ∧ e.2.1 = 3 ∧ e.2.2.2.1 = 1 ∧ MR e.2.2.1 = none ∧ (MN e.2.2.1).name = "<init>") && x_lnk j n e.2.2.1 1 ix) || ((decide (e.1 = 24 ∧ e.2.1 = 3 ∧ e.2.2.2.1 = 4 ∧ MR e.2.2.1 = none ∧ (MN e.2.2.1).name = "<init>") && x_lnk j n e.2.2.1 4 ix) || (decide (e.1 = 25 ∧ e.2.1 = 3 ∧ 1 ≤ MF j ∧ 20 ≤ MO j) && x_wd ix (.methodLink (MN j).cls n objectInit)))
  | .invokestatic n => (decide (e.1 = 24 ∧ e.2.1 = 3 ∧ e.2.2.2.1 = 2) && x_lnk j n e.2.2.1 2 ix) || ((decide (e.1 = 24 ∧ e.2.1 = 3 ∧ e.2.2.2.1 = 5) && x_lnk j n e.2.2.1 5 ix) || (decide (e.1 = 26 ∧ e.2.1 = 3 ∧ 1 ≤ MF j ∧ 60 ≤ MO j) && x_wd ix (.methodLink (MN j).cls n arraycopyName)))
  | .ireturn => decide (e.1 = 27 ∧ e.2.1 = 1 ∧ e.2.2.1 = 0)
  | .lreturn => decide (e.1 = 27 ∧ e.2.1 = 1 ∧ e.2.2.1 = 1)
  | .areturn => decide (e.1 = 27 ∧ e.2.1 = 1 ∧ e.2.2.1 = 2)
  | .return_ => decide (e.1 = 27 ∧ e.2.1 = 1 ∧ e.2.2.1 = 3)
  | _ => false
def x_ckP (j : Nat) (q : x_P) : Bool := decide (decode (MB j) q.1 = .ok (q.2.2.1, q.2.1.2.1)) && x_ck j q.1 q.2.1 q.2.2.1 q.2.2.2
theorem x_c0 : x_P0.all (x_ckP 0) = true := by decide +kernel
theorem x_c1 : x_P1.all (x_ckP 1) = true := by decide +kernel
theorem x_c2 : x_P2.all (x_ckP 2) = true := by decide +kernel
theorem x_c3 : x_P3.all (x_ckP 3) = true := by decide +kernel
theorem x_c4 : x_P4.all (x_ckP 4) = true := by decide +kernel
theorem x_c5 : x_P5.all (x_ckP 5) = true := by decide +kernel
theorem x_c6 : x_P6.all (x_ckP 6) = true := by decide +kernel
theorem x_c7 : x_P7.all (x_ckP 7) = true := by decide +kernel
theorem x_c8 : x_P8.all (x_ckP 8) = true := by decide +kernel
theorem x_c9 : x_P9.all (x_ckP 9) = true := by decide +kernel
theorem x_c10 : x_P10.all (x_ckP 10) = true := by decide +kernel
theorem x_c11 : x_P11.all (x_ckP 11) = true := by decide +kernel
theorem x_c12 : x_P12.all (x_ckP 12) = true := by decide +kernel
theorem x_c13 : x_P13.all (x_ckP 13) = true := by decide +kernel
theorem x_c14 : x_P14.all (x_ckP 14) = true := by decide +kernel
theorem x_c15 : x_P15.all (x_ckP 15) = true := by decide +kernel
theorem x_c16 : x_P16.all (x_ckP 16) = true := by decide +kernel
theorem x_c17 : x_P17.all (x_ckP 17) = true := by decide +kernel
theorem x_c18 : x_P18.all (x_ckP 18) = true := by decide +kernel
theorem x_c19 : x_P19.all (x_ckP 19) = true := by decide +kernel
theorem x_c20 : x_P20.all (x_ckP 20) = true := by decide +kernel
theorem x_c21 : x_P21.all (x_ckP 21) = true := by decide +kernel
theorem x_c22 : x_P22.all (x_ckP 22) = true := by decide +kernel
theorem x_c23 : x_P23.all (x_ckP 23) = true := by decide +kernel
theorem x_c24 : x_P24.all (x_ckP 24) = true := by decide +kernel
theorem x_c25 : x_P25.all (x_ckP 25) = true := by decide +kernel
theorem x_c26 : x_P26.all (x_ckP 26) = true := by decide +kernel
theorem x_c27 : x_P27.all (x_ckP 27) = true := by decide +kernel
theorem x_c28 : x_P28.all (x_ckP 28) = true := by decide +kernel
theorem x_c29 : x_P29.all (x_ckP 29) = true := by decide +kernel
theorem x_c30 : x_P30.all (x_ckP 30) = true := by decide +kernel
theorem x_c31 : x_P31.all (x_ckP 31) = true := by decide +kernel
theorem x_c32 : x_P32.all (x_ckP 32) = true := by decide +kernel
theorem x_c33 : x_P33.all (x_ckP 33) = true := by decide +kernel
theorem x_c34 : x_P34.all (x_ckP 34) = true := by decide +kernel
theorem x_c35 : x_P35.all (x_ckP 35) = true := by decide +kernel
theorem x_c36 : x_P36.all (x_ckP 36) = true := by decide +kernel
theorem x_c37 : x_P37.all (x_ckP 37) = true := by decide +kernel
theorem x_c38 : x_P38.all (x_ckP 38) = true := by decide +kernel
theorem x_c39 : x_P39.all (x_ckP 39) = true := by decide +kernel
theorem x_c40 : x_P40.all (x_ckP 40) = true := by decide +kernel
theorem x_c41 : x_P41.all (x_ckP 41) = true := by decide +kernel
theorem x_c42 : x_P42.all (x_ckP 42) = true := by decide +kernel
theorem x_c43 : x_P43.all (x_ckP 43) = true := by decide +kernel
theorem x_c44 : x_P44.all (x_ckP 44) = true := by decide +kernel
theorem x_c45 : x_P45.all (x_ckP 45) = true := by decide +kernel
theorem x_c46 : x_P46.all (x_ckP 46) = true := by decide +kernel
theorem x_c47 : x_P47.all (x_ckP 47) = true := by decide +kernel
theorem x_c48 : x_P48.all (x_ckP 48) = true := by decide +kernel
theorem x_c49 : x_P49.all (x_ckP 49) = true := by decide +kernel
theorem x_c50 : x_P50.all (x_ckP 50) = true := by decide +kernel
theorem x_c51 : x_P51.all (x_ckP 51) = true := by decide +kernel
theorem x_c52 : x_P52.all (x_ckP 52) = true := by decide +kernel
theorem x_c53 : x_P53.all (x_ckP 53) = true := by decide +kernel
theorem x_c54 : x_P54.all (x_ckP 54) = true := by decide +kernel
theorem x_c55 : x_P55.all (x_ckP 55) = true := by decide +kernel
theorem x_c56 : x_P56.all (x_ckP 56) = true := by decide +kernel
theorem x_c57 : x_P57.all (x_ckP 57) = true := by decide +kernel
theorem x_c58 : x_P58.all (x_ckP 58) = true := by decide +kernel
theorem x_c59 : x_P59.all (x_ckP 59) = true := by decide +kernel
theorem x_c60 : x_P60.all (x_ckP 60) = true := by decide +kernel
theorem x_c61 : x_P61.all (x_ckP 61) = true := by decide +kernel
theorem x_c62 : x_P62.all (x_ckP 62) = true := by decide +kernel
theorem x_c63 : x_P63.all (x_ckP 63) = true := by decide +kernel
theorem x_c64 : x_P64.all (x_ckP 64) = true := by decide +kernel
theorem x_c65 : x_P65.all (x_ckP 65) = true := by decide +kernel
theorem x_c66 : x_P66.all (x_ckP 66) = true := by decide +kernel
theorem x_c67 : x_P67.all (x_ckP 67) = true := by decide +kernel
theorem x_c68 : x_P68.all (x_ckP 68) = true := by decide +kernel
theorem x_c69 : x_P69.all (x_ckP 69) = true := by decide +kernel
theorem x_c70 : x_P70.all (x_ckP 70) = true := by decide +kernel
theorem x_c71 : x_P71.all (x_ckP 71) = true := by decide +kernel
theorem x_c72 : x_P72.all (x_ckP 72) = true := by decide +kernel
theorem x_c73 : x_P73.all (x_ckP 73) = true := by decide +kernel
theorem x_c74 : x_P74.all (x_ckP 74) = true := by decide +kernel
theorem x_c75 : x_P75.all (x_ckP 75) = true := by decide +kernel
theorem x_c76 : x_P76.all (x_ckP 76) = true := by decide +kernel
theorem x_c77 : x_P77.all (x_ckP 77) = true := by decide +kernel
theorem x_c78 : x_P78.all (x_ckP 78) = true := by decide +kernel
theorem x_c79 : x_P79.all (x_ckP 79) = true := by decide +kernel
theorem x_c80 : x_P80.all (x_ckP 80) = true := by decide +kernel
theorem x_c81 : x_P81.all (x_ckP 81) = true := by decide +kernel
theorem x_c82 : x_P82.all (x_ckP 82) = true := by decide +kernel
theorem x_c83 : x_P83.all (x_ckP 83) = true := by decide +kernel
theorem x_c84 : x_P84.all (x_ckP 84) = true := by decide +kernel
theorem x_c85 : x_P85.all (x_ckP 85) = true := by decide +kernel
theorem x_c86 : x_P86.all (x_ckP 86) = true := by decide +kernel
theorem x_c87 : x_P87.all (x_ckP 87) = true := by decide +kernel
theorem x_c88 : x_P88.all (x_ckP 88) = true := by decide +kernel
theorem x_c89 : x_P89.all (x_ckP 89) = true := by decide +kernel
theorem x_c90 : x_P90.all (x_ckP 90) = true := by decide +kernel
theorem x_c91 : x_P91.all (x_ckP 91) = true := by decide +kernel
theorem x_c92 : x_P92.all (x_ckP 92) = true := by decide +kernel
theorem x_c93 : x_P93.all (x_ckP 93) = true := by decide +kernel
theorem x_c94 : x_P94.all (x_ckP 94) = true := by decide +kernel
theorem x_c95 : x_P95.all (x_ckP 95) = true := by decide +kernel
theorem x_c96 : x_P96.all (x_ckP 96) = true := by decide +kernel
theorem x_c97 : x_P97.all (x_ckP 97) = true := by decide +kernel
theorem x_c98 : x_P98.all (x_ckP 98) = true := by decide +kernel
theorem x_c99 : x_P99.all (x_ckP 99) = true := by decide +kernel
theorem x_c100 : x_P100.all (x_ckP 100) = true := by decide +kernel
theorem x_c101 : x_P101.all (x_ckP 101) = true := by decide +kernel
theorem x_c102 : x_P102.all (x_ckP 102) = true := by decide +kernel
theorem x_c103 : x_P103.all (x_ckP 103) = true := by decide +kernel
theorem x_c104 : x_P104.all (x_ckP 104) = true := by decide +kernel
theorem x_c105 : x_P105.all (x_ckP 105) = true := by decide +kernel
theorem x_c106 : x_P106.all (x_ckP 106) = true := by decide +kernel
theorem x_c107 : x_P107.all (x_ckP 107) = true := by decide +kernel
theorem x_c108 : x_P108.all (x_ckP 108) = true := by decide +kernel
theorem x_c109 : x_P109.all (x_ckP 109) = true := by decide +kernel
