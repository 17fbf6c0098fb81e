/-! ===== Integer.bitCount (laid by a program) ===== -/
def MJ6_bitCount : AM := (yJ6_bitCount_0f7a4, cJ6_bitCount_0f7a4, 1, (some .int), [], 0, 0, 1, [(0, .iload_n 0, 1), (1, .iload_n 0, 1), (2, .iconst 1, 1), (3, .iushr, 1), (4, .ldc_w 265, 3), (7, .iand, 1), (8, .isub, 1), (9, .istore_n 0, 1), (10, .iload_n 0, 1), (11, .ldc_w 266, 3), (14, .iand, 1), (15, .iload_n 0, 1), (16, .iconst 2, 1), (17, .iushr, 1), (18, .ldc_w 266, 3), (21, .iand, 1), (22, .iadd, 1), (23, .istore_n 0, 1), (24, .iload_n 0, 1), (25, .iload_n 0, 1), (26, .iconst 4, 1), (27, .iushr, 1), (28, .iadd, 1), (29, .ldc_w 267, 3), (32, .iand, 1), (33, .istore_n 0, 1), (34, .iload_n 0, 1), (35, .iload_n 0, 1), (36, .bipush 8, 2), (38, .iushr, 1), (39, .iadd, 1), (40, .istore_n 0, 1), (41, .iload_n 0, 1), (42, .iload_n 0, 1), (43, .bipush 16, 2), (45, .iushr, 1), (46, .iadd, 1), (47, .istore_n 0, 1), (48, .iload_n 0, 1), (49, .bipush 63, 2), (51, .iand, 1), (52, .ireturn, 1)])
theorem okJ6_bitCount : okM MJ6_bitCount := ⟨by decide +kernel, by decide +kernel, ⟨by decide +kernel, by decide +kernel, by decide +kernel⟩, q25, Or.inl ⟨rfl, q1459⟩⟩
theorem osJ6_bitCount : okS MJ6_bitCount := ⟨okJ6_bitCount, rfl, q1459, q1458⟩
def ushr (x y : Int32) : Int32 := (x.toUInt32 >>> (y.toUInt32 &&& Int32.toUInt32 31)).toInt32
def bc1 (x : Int32) : Int32 := x - (ushr x 1 &&& 1431655765)
def bc2 (x : Int32) : Int32 := (x &&& 858993459) + (ushr x 2 &&& 858993459)
def bc3 (x : Int32) : Int32 := (x + ushr x 4) &&& 252645135
def bc4 (x : Int32) : Int32 := x + ushr x 8
def bc5 (x : Int32) : Int32 := x + ushr x 16
def sJ6_bitCount (x : Int32) : Int32 := bc5 (bc4 (bc3 (bc2 (bc1 x)))) &&& 63
set_option maxRecDepth 100000 in
theorem dJ6_bitCount {g : AG} {h : AH} {Q : AO → AH → Prop} {x : Int32} (hQ : Q (.ok (some (.int (sJ6_bitCount x)))) h) : AW g MJ6_bitCount 0 [some (.int x)] [] h Q := by
  refine AW.iload_n (z := 0) (am_r 0 rfl) rfl rfl ?_
  refine AW.iload_n (z := 0) (am_r 1 rfl) rfl rfl ?_
  refine AW.iconst (v := (1 : Int32)) (am_r 2 rfl) rfl (by decide) ?_
  refine AW.iushr (am_r 3 rfl) rfl ?_
  refine AW.ldcw (v := (1431655765)) (am_r 4 rfl) rfl q1460 ?_
  refine AW.iand (am_r 5 rfl) rfl ?_
  refine AW.isub (am_r 6 rfl) rfl ?_
  refine AW.istore_n (L' := [some (.int (bc1 x))]) (z := 0) (am_r 7 rfl) rfl (Nat.le_of_ble_eq_true rfl) rfl ?_
  refine AW.iload_n (z := 0) (am_r 8 rfl) rfl rfl ?_
  refine AW.ldcw (v := (858993459)) (am_r 9 rfl) rfl q1461 ?_
  refine AW.iand (am_r 10 rfl) rfl ?_
  refine AW.iload_n (z := 0) (am_r 11 rfl) rfl rfl ?_
  refine AW.iconst (v := (2 : Int32)) (am_r 12 rfl) rfl (by decide) ?_
  refine AW.iushr (am_r 13 rfl) rfl ?_
  refine AW.ldcw (v := (858993459)) (am_r 14 rfl) rfl q1461 ?_
  refine AW.iand (am_r 15 rfl) rfl ?_
  refine AW.iadd (am_r 16 rfl) rfl ?_
  refine AW.istore_n (L' := [some (.int (bc2 (bc1 x)))]) (z := 0) (am_r 17 rfl) rfl (Nat.le_of_ble_eq_true rfl) rfl ?_
  refine AW.iload_n (z := 0) (am_r 18 rfl) rfl rfl ?_
  refine AW.iload_n (z := 0) (am_r 19 rfl) rfl rfl ?_
  refine AW.iconst (v := (4 : Int32)) (am_r 20 rfl) rfl (by decide) ?_
  refine AW.iushr (am_r 21 rfl) rfl ?_
  refine AW.iadd (am_r 22 rfl) rfl ?_
  refine AW.ldcw (v := (252645135)) (am_r 23 rfl) rfl q1462 ?_
  refine AW.iand (am_r 24 rfl) rfl ?_
  refine AW.istore_n (L' := [some (.int (bc3 (bc2 (bc1 x))))]) (z := 0) (am_r 25 rfl) rfl (Nat.le_of_ble_eq_true rfl) rfl ?_
  refine AW.iload_n (z := 0) (am_r 26 rfl) rfl rfl ?_
  refine AW.iload_n (z := 0) (am_r 27 rfl) rfl rfl ?_
  refine AW.bipush (v := (8 : Int32)) (am_r 28 rfl) rfl (by decide) ?_
  refine AW.iushr (am_r 29 rfl) rfl ?_
  refine AW.iadd (am_r 30 rfl) rfl ?_
  refine AW.istore_n (L' := [some (.int (bc4 (bc3 (bc2 (bc1 x)))))]) (z := 0) (am_r 31 rfl) rfl (Nat.le_of_ble_eq_true rfl) rfl ?_
  refine AW.iload_n (z := 0) (am_r 32 rfl) rfl rfl ?_
  refine AW.iload_n (z := 0) (am_r 33 rfl) rfl rfl ?_
  refine AW.bipush (v := (16 : Int32)) (am_r 34 rfl) rfl (by decide) ?_
  refine AW.iushr (am_r 35 rfl) rfl ?_
  refine AW.iadd (am_r 36 rfl) rfl ?_
  refine AW.istore_n (L' := [some (.int (bc5 (bc4 (bc3 (bc2 (bc1 x))))))]) (z := 0) (am_r 37 rfl) rfl (Nat.le_of_ble_eq_true rfl) rfl ?_
  refine AW.iload_n (z := 0) (am_r 38 rfl) rfl rfl ?_
  refine AW.bipush (v := (63 : Int32)) (am_r 39 rfl) rfl (by decide) ?_
  refine AW.iand (am_r 40 rfl) rfl ?_
  exact AW.iret (am_r 41 rfl) rfl hQ
