/-! ===== THE MODEL'S METHODS, DECOMPILED (laid by a program) ===== -/
noncomputable def sX10_quietAt_j23 (S : Mem) (p1 : Int32) (y0 : Int32) : Option (Int32 × Mem) :=
  olet (sX10_throwsIf S y0 (1 : Int32)) fun r5 =>
  if r5.1 = 0 then
    obind (sX10_foresee r5.2 (-1 : Int32) p1) fun r8 =>
    some ((r8.1, r8.2))
  else
    some (((0 : Int32), r5.2))
set_option maxRecDepth 100000 in
theorem dX10_quietAt_j23 {g : AG} {h0 : AH} {b : Nat} {S : Mem} {Q : AO → AH → Prop} {p1 : Int32} {y0 : Int32} (hA : gB g ≤ b)  (hk0 : y0 = 0 ∨ y0 = 1) {r : (Int32 × Mem)} (hs : sX10_quietAt_j23 S p1 y0 = some r) (hQ : Q (.ok (some (.int r.1))) (mb h0 b r.2)) : AW g MX10_quietAt 23 [some (.ref (b)), some (.int (p1))] [(.int (y0)), (.ref (b))] (mb h0 b S) Q := by
  unfold sX10_quietAt_j23 at hs
  refine AW.iconst (am_r 13 rfl) rfl ci_1 ?_
  refine AW.callV (N := MX10_throwsIf) (As := [.int (y0), .int ((1 : Int32))]) (S := []) (L0 := [some (.ref (b)), some (.int (y0)), some (.int ((1 : Int32)))]) (b := b) (am_r 14 rfl) rfl ovX10_throwsIf q1607 rfl rfl mb_ob rfl rfl rfl rfl (dX10_throwsIf hA hk0 rfl (fun hok6 => (cQ_r ?_)))
  refine olet_e (P := fun (y : (Int32 × Mem)) => (y.1 = 0 ∨ y.1 = 1) → AW g MX10_quietAt 27 [some (.ref (b)), some (.int (p1))] [(.int (y.1))] (mb h0 b y.2) Q) hs (fun r5 hs hok6 => ?_) hok6
  refine AW.if_eq (tg := 34) (am_r 15 rfl) rfl rfl (fun hc7 => ?_) (fun hc7 => ?_)
  · replace hs := (if_pos hc7).symm.trans hs
    refine AW.aload_n (z := 0) (am_r 18 rfl) rfl rfl ?_
    refine AW.iconst (am_r 19 rfl) rfl ci_m1 ?_
    refine AW.iload_n (z := 1) (am_r 20 rfl) rfl rfl ?_
    refine obind_e hs (fun r8 hg10 hs => ?_)
    refine AW.callV (N := MX10_foresee) (As := [.int ((-1 : Int32)), .int (p1)]) (S := []) (L0 := [some (.ref (b)), some (.int ((-1 : Int32))), some (.int (p1)), none, none, none]) (b := b) (am_r 21 rfl) rfl ovX10_foresee q1964 rfl rfl mb_ob rfl rfl rfl rfl (dX10_foresee hA  hg10 (cQ_r ?_))
    have hr := (Option.some.inj hs).symm
    subst hr
    exact AW.iret (am_r 22 rfl) rfl hQ
  · replace hs := (if_neg hc7).symm.trans hs
    refine AW.iconst (am_r 16 rfl) rfl ci_0 ?_
    refine AW.goto (tg := 40) (am_r 17 rfl) rfl ?_
    have hr := (Option.some.inj hs).symm
    subst hr
    exact AW.iret (am_r 22 rfl) rfl hQ
noncomputable def sX10_quietAt (S : Mem) (p1 : Int32) : Option (Int32 × Mem) :=
  olet (si S 100 6 0 ((0 : Int32))) fun S1 =>
  if (sX10_inRange S1 p1.toInt64 (1 : Int64) (500 : Int64)) = 0 then
    sX10_quietAt_j23 S1 p1 (1 : Int32)
  else
    sX10_quietAt_j23 S1 p1 (0 : Int32)
set_option maxRecDepth 100000 in
theorem dX10_quietAt {g : AG} {h0 : AH} {b : Nat} {S : Mem} {Q : AO → AH → Prop} {p1 : Int32} (hA : gB g ≤ b)  {r : (Int32 × Mem)} (hs : sX10_quietAt S p1 = some r) (hQ : Q (.ok (some (.int r.1))) (mb h0 b r.2)) : AW g MX10_quietAt 0 [some (.ref (b)), some (.int (p1))] [] (mb h0 b S) Q := by
  unfold sX10_quietAt at hs
  refine AW.aload_n (z := 0) (am_r 0 rfl) rfl rfl ?_
  refine AW.iconst (am_r 1 rfl) rfl ci_0 ?_
  refine AW.putO (am_r 2 rfl) rfl klX10 (k := 6) (by omega) q1509 (Or.inl rfl) mb_ob hA rfl rfl (mbp_ob (by decide)) ?_
  refine olet_e (P := fun y => AW g MX10_quietAt 5 [some (.ref (b)), some (.int (p1))] [] (mb h0 b y) Q) hs (fun S1 hs => ?_)
  refine AW.aload_n (z := 0) (am_r 3 rfl) rfl rfl ?_
  refine AW.iload_n (z := 1) (am_r 4 rfl) rfl rfl ?_
  refine AW.i2l (am_r 5 rfl) rfl ?_
  refine AW.lconst (z := 1) (am_r 6 rfl) rfl cl_1 ?_
  refine AW.ldc2 (v := (500)) (am_r 7 rfl) rfl q1685 ?_
  refine AW.callS (N := MX10_inRange) (As := [.long (p1.toInt64), .long ((1 : Int64)), .long ((500 : Int64))]) (S := [(.ref (b))]) (L0 := [some (.long (p1.toInt64)), none, some (.long ((1 : Int64))), none, some (.long ((500 : Int64))), none]) (am_r 8 rfl) rfl osX10_inRange q1592 rfl rfl rfl rfl rfl (dX10_inRange hA  rfl (fun hok3 => (cQ_r ?_)))
  refine AW.if_ne (tg := 22) (am_r 9 rfl) rfl rfl (fun hc4 => ?_) (fun hc4 => ?_)
  · replace hs := (if_neg hc4).symm.trans hs
    refine AW.iconst (am_r 12 rfl) rfl ci_0 ?_
    exact dX10_quietAt_j23 hA  (Or.inl rfl) hs hQ
  · replace hs := (if_pos hc4).symm.trans hs
    refine AW.iconst (am_r 10 rfl) rfl ci_1 ?_
    refine AW.goto (tg := 23) (am_r 11 rfl) rfl ?_
    exact dX10_quietAt_j23 hA  (Or.inr rfl) hs hQ
noncomputable def sX10_scoreBehind (S : Mem) (p1 : Int32) (p2 : Int32) : Option (Int32 × Mem) :=
  obind (sX10_copyBlock S (0 : Int32) (13 : Int32)) fun r1 =>
  obind (sX10_hours r1 p2) fun r4 =>
  obind (sX10_of r4 p1 (0 : Int32)) fun r7 =>
  obind (sX10_copyBlock r4 (13 : Int32) (0 : Int32)) fun r10 =>
  some ((r7, r10))
set_option maxRecDepth 100000 in
theorem dX10_scoreBehind {g : AG} {h0 : AH} {b : Nat} {S : Mem} {Q : AO → AH → Prop} {p1 : Int32} {p2 : Int32} (hA : gB g ≤ b)  {r : (Int32 × Mem)} (hs : sX10_scoreBehind S p1 p2 = some r) (hQ : Q (.ok (some (.int r.1))) (mb h0 b r.2)) : AW g MX10_scoreBehind 0 [some (.ref (b)), some (.int (p1)), some (.int (p2)), none] [] (mb h0 b S) Q := by
  unfold sX10_scoreBehind at hs
  refine AW.aload_n (z := 0) (am_r 0 rfl) rfl rfl ?_
  refine AW.iconst (am_r 1 rfl) rfl ci_0 ?_
  refine AW.bipush (am_r 2 rfl) rfl cb_13 ?_
  refine obind_e hs (fun r1 hg3 hs => ?_)
  refine AW.callV (N := MX10_copyBlock) (As := [.int ((0 : Int32)), .int ((13 : Int32))]) (S := []) (L0 := [some (.ref (b)), some (.int ((0 : Int32))), some (.int ((13 : Int32))), none]) (b := b) (am_r 3 rfl) rfl ovX10_copyBlock q1584 rfl rfl mb_ob rfl rfl rfl rfl (dX10_copyBlock hA  hg3 (cQ_v ?_))
  refine AW.aload_n (z := 0) (am_r 4 rfl) rfl rfl ?_
  refine AW.iload_n (z := 2) (am_r 5 rfl) rfl rfl ?_
  refine obind_e hs (fun r4 hg6 hs => ?_)
  refine AW.callV (N := MX10_hours) (As := [.int (p2)]) (S := []) (L0 := [some (.ref (b)), some (.int (p2)), none]) (b := b) (am_r 6 rfl) rfl ovX10_hours q1706 rfl rfl mb_ob rfl rfl rfl rfl (dX10_hours hA  hg6 (cQ_v ?_))
  refine AW.aload_n (z := 0) (am_r 7 rfl) rfl rfl ?_
  refine AW.iload_n (z := 1) (am_r 8 rfl) rfl rfl ?_
  refine AW.iconst (am_r 9 rfl) rfl ci_0 ?_
  refine obind_e hs (fun r7 hg9 hs => ?_)
  refine AW.callV (N := MX10_of) (As := [.int (p1), .int ((0 : Int32))]) (S := []) (L0 := [some (.ref (b)), some (.int (p1)), some (.int ((0 : Int32)))]) (b := b) (am_r 10 rfl) rfl ovX10_of q1615 rfl rfl mb_ob rfl rfl rfl rfl (dX10_of hA  hg9 (cQ_r ?_))
  refine AW.istore_n (L' := [some (.ref (b)), some (.int (p1)), some (.int (p2)), some (.int (r7))]) (z := 3) (am_r 11 rfl) rfl (Nat.le_of_ble_eq_true rfl) rfl ?_
  refine AW.aload_n (z := 0) (am_r 12 rfl) rfl rfl ?_
  refine AW.bipush (am_r 13 rfl) rfl cb_13 ?_
  refine AW.iconst (am_r 14 rfl) rfl ci_0 ?_
  refine obind_e hs (fun r10 hg12 hs => ?_)
  refine AW.callV (N := MX10_copyBlock) (As := [.int ((13 : Int32)), .int ((0 : Int32))]) (S := []) (L0 := [some (.ref (b)), some (.int ((13 : Int32))), some (.int ((0 : Int32))), none]) (b := b) (am_r 15 rfl) rfl ovX10_copyBlock q1584 rfl rfl mb_ob rfl rfl rfl rfl (dX10_copyBlock hA  hg12 (cQ_v ?_))
  refine AW.iload_n (z := 3) (am_r 16 rfl) rfl rfl ?_
  have hr := (Option.some.inj hs).symm
  subst hr
  exact AW.iret (am_r 17 rfl) rfl hQ
noncomputable def sX10_scoreIn_j44 (S : Mem) (p1 : Int32) (p2 : Int32) (y0 : Int32) : Option (Int32 × Mem) :=
  olet (sX10_throwsIf S y0 (2 : Int32)) fun r11 =>
  if r11.1 = 0 then
    obind (sX10_scoreBehind r11.2 p1 p2) fun r14 =>
    some ((r14.1, r14.2))
  else
    some (((0 : Int32), r11.2))
set_option maxRecDepth 100000 in
theorem dX10_scoreIn_j44 {g : AG} {h0 : AH} {b : Nat} {S : Mem} {Q : AO → AH → Prop} {p1 : Int32} {p2 : Int32} {y0 : Int32} (hA : gB g ≤ b)  (hk0 : y0 = 0 ∨ y0 = 1) {r : (Int32 × Mem)} (hs : sX10_scoreIn_j44 S p1 p2 y0 = some r) (hQ : Q (.ok (some (.int r.1))) (mb h0 b r.2)) : AW g MX10_scoreIn 44 [some (.ref (b)), some (.int (p1)), some (.int (p2))] [(.int (y0)), (.ref (b))] (mb h0 b S) Q := by
  unfold sX10_scoreIn_j44 at hs
  refine AW.iconst (am_r 24 rfl) rfl ci_2 ?_
  refine AW.callV (N := MX10_throwsIf) (As := [.int (y0), .int ((2 : Int32))]) (S := []) (L0 := [some (.ref (b)), some (.int (y0)), some (.int ((2 : Int32)))]) (b := b) (am_r 25 rfl) rfl ovX10_throwsIf q1607 rfl rfl mb_ob rfl rfl rfl rfl (dX10_throwsIf hA hk0 rfl (fun hok12 => (cQ_r ?_)))
  refine olet_e (P := fun (y : (Int32 × Mem)) => (y.1 = 0 ∨ y.1 = 1) → AW g MX10_scoreIn 48 [some (.ref (b)), some (.int (p1)), some (.int (p2))] [(.int (y.1))] (mb h0 b y.2) Q) hs (fun r11 hs hok12 => ?_) hok12
  refine AW.if_eq (tg := 55) (am_r 26 rfl) rfl rfl (fun hc13 => ?_) (fun hc13 => ?_)
  · replace hs := (if_pos hc13).symm.trans hs
    refine AW.aload_n (z := 0) (am_r 29 rfl) rfl rfl ?_
    refine AW.iload_n (z := 1) (am_r 30 rfl) rfl rfl ?_
    refine AW.iload_n (z := 2) (am_r 31 rfl) rfl rfl ?_
    refine obind_e hs (fun r14 hg16 hs => ?_)
    refine AW.callV (N := MX10_scoreBehind) (As := [.int (p1), .int (p2)]) (S := []) (L0 := [some (.ref (b)), some (.int (p1)), some (.int (p2)), none]) (b := b) (am_r 32 rfl) rfl ovX10_scoreBehind q1984 rfl rfl mb_ob rfl rfl rfl rfl (dX10_scoreBehind hA  hg16 (cQ_r ?_))
    have hr := (Option.some.inj hs).symm
    subst hr
    exact AW.iret (am_r 33 rfl) rfl hQ
  · replace hs := (if_neg hc13).symm.trans hs
    refine AW.iconst (am_r 27 rfl) rfl ci_0 ?_
    refine AW.goto (tg := 61) (am_r 28 rfl) rfl ?_
    have hr := (Option.some.inj hs).symm
    subst hr
    exact AW.iret (am_r 33 rfl) rfl hQ
noncomputable def sX10_scoreIn_j19 (S : Mem) (p1 : Int32) (p2 : Int32) (y0 : Int32) : Option (Int32 × Mem) :=
  olet (sX10_throwsIf S y0 (1 : Int32)) fun r5 =>
  if r5.1 = 0 then
    if (sX10_inRange r5.2 p2.toInt64 (1 : Int64) (500 : Int64)) = 0 then
      sX10_scoreIn_j44 r5.2 p1 p2 (1 : Int32)
    else
      sX10_scoreIn_j44 r5.2 p1 p2 (0 : Int32)
  else
    some (((0 : Int32), r5.2))
set_option maxRecDepth 100000 in
theorem dX10_scoreIn_j19 {g : AG} {h0 : AH} {b : Nat} {S : Mem} {Q : AO → AH → Prop} {p1 : Int32} {p2 : Int32} {y0 : Int32} (hA : gB g ≤ b)  (hk0 : y0 = 0 ∨ y0 = 1) {r : (Int32 × Mem)} (hs : sX10_scoreIn_j19 S p1 p2 y0 = some r) (hQ : Q (.ok (some (.int r.1))) (mb h0 b r.2)) : AW g MX10_scoreIn 19 [some (.ref (b)), some (.int (p1)), some (.int (p2))] [(.int (y0)), (.ref (b))] (mb h0 b S) Q := by
  unfold sX10_scoreIn_j19 at hs
  refine AW.iconst (am_r 11 rfl) rfl ci_1 ?_
  refine AW.callV (N := MX10_throwsIf) (As := [.int (y0), .int ((1 : Int32))]) (S := []) (L0 := [some (.ref (b)), some (.int (y0)), some (.int ((1 : Int32)))]) (b := b) (am_r 12 rfl) rfl ovX10_throwsIf q1607 rfl rfl mb_ob rfl rfl rfl rfl (dX10_throwsIf hA hk0 rfl (fun hok6 => (cQ_r ?_)))
  refine olet_e (P := fun (y : (Int32 × Mem)) => (y.1 = 0 ∨ y.1 = 1) → AW g MX10_scoreIn 23 [some (.ref (b)), some (.int (p1)), some (.int (p2))] [(.int (y.1))] (mb h0 b y.2) Q) hs (fun r5 hs hok6 => ?_) hok6
  refine AW.if_ne (tg := 51) (am_r 13 rfl) rfl rfl (fun hc7 => ?_) (fun hc7 => ?_)
  · replace hs := (if_neg hc7).symm.trans hs
    refine AW.iconst (am_r 27 rfl) rfl ci_0 ?_
    refine AW.goto (tg := 61) (am_r 28 rfl) rfl ?_
    have hr := (Option.some.inj hs).symm
    subst hr
    exact AW.iret (am_r 33 rfl) rfl hQ
  · replace hs := (if_pos hc7).symm.trans hs
    refine AW.aload_n (z := 0) (am_r 14 rfl) rfl rfl ?_
    refine AW.iload_n (z := 2) (am_r 15 rfl) rfl rfl ?_
    refine AW.i2l (am_r 16 rfl) rfl ?_
    refine AW.lconst (z := 1) (am_r 17 rfl) rfl cl_1 ?_
    refine AW.ldc2 (v := (500)) (am_r 18 rfl) rfl q1685 ?_
    refine AW.callS (N := MX10_inRange) (As := [.long (p2.toInt64), .long ((1 : Int64)), .long ((500 : Int64))]) (S := [(.ref (b))]) (L0 := [some (.long (p2.toInt64)), none, some (.long ((1 : Int64))), none, some (.long ((500 : Int64))), none]) (am_r 19 rfl) rfl osX10_inRange q1592 rfl rfl rfl rfl rfl (dX10_inRange hA  rfl (fun hok9 => (cQ_r ?_)))
    refine AW.if_ne (tg := 43) (am_r 20 rfl) rfl rfl (fun hc10 => ?_) (fun hc10 => ?_)
    · replace hs := (if_neg hc10).symm.trans hs
      refine AW.iconst (am_r 23 rfl) rfl ci_0 ?_
      exact dX10_scoreIn_j44 hA  (Or.inl rfl) hs hQ
    · replace hs := (if_pos hc10).symm.trans hs
      refine AW.iconst (am_r 21 rfl) rfl ci_1 ?_
      refine AW.goto (tg := 44) (am_r 22 rfl) rfl ?_
      exact dX10_scoreIn_j44 hA  (Or.inr rfl) hs hQ
noncomputable def sX10_scoreIn (S : Mem) (p1 : Int32) (p2 : Int32) : Option (Int32 × Mem) :=
  olet (si S 100 6 0 ((0 : Int32))) fun S1 =>
  if (sX10_isObject S1 p1) = 0 then
    sX10_scoreIn_j19 S1 p1 p2 (1 : Int32)
  else
    sX10_scoreIn_j19 S1 p1 p2 (0 : Int32)
set_option maxRecDepth 100000 in
theorem dX10_scoreIn {g : AG} {h0 : AH} {b : Nat} {S : Mem} {Q : AO → AH → Prop} {p1 : Int32} {p2 : Int32} (hA : gB g ≤ b)  {r : (Int32 × Mem)} (hs : sX10_scoreIn S p1 p2 = some r) (hQ : Q (.ok (some (.int r.1))) (mb h0 b r.2)) : AW g MX10_scoreIn 0 [some (.ref (b)), some (.int (p1)), some (.int (p2))] [] (mb h0 b S) Q := by
  unfold sX10_scoreIn at hs
  refine AW.aload_n (z := 0) (am_r 0 rfl) rfl rfl ?_
  refine AW.iconst (am_r 1 rfl) rfl ci_0 ?_
  refine AW.putO (am_r 2 rfl) rfl klX10 (k := 6) (by omega) q1509 (Or.inl rfl) mb_ob hA rfl rfl (mbp_ob (by decide)) ?_
  refine olet_e (P := fun y => AW g MX10_scoreIn 5 [some (.ref (b)), some (.int (p1)), some (.int (p2))] [] (mb h0 b y) Q) hs (fun S1 hs => ?_)
  refine AW.aload_n (z := 0) (am_r 3 rfl) rfl rfl ?_
  refine AW.aload_n (z := 0) (am_r 4 rfl) rfl rfl ?_
  refine AW.iload_n (z := 1) (am_r 5 rfl) rfl rfl ?_
  refine AW.callV (N := MX10_isObject) (As := [.int (p1)]) (S := [(.ref (b))]) (L0 := [some (.ref (b)), some (.int (p1))]) (b := b) (am_r 6 rfl) rfl ovX10_isObject q1603 rfl rfl mb_ob rfl rfl rfl rfl (dX10_isObject hA  rfl (fun hok3 => (cQ_r ?_)))
  refine AW.if_ne (tg := 18) (am_r 7 rfl) rfl rfl (fun hc4 => ?_) (fun hc4 => ?_)
  · replace hs := (if_neg hc4).symm.trans hs
    refine AW.iconst (am_r 10 rfl) rfl ci_0 ?_
    exact dX10_scoreIn_j19 hA  (Or.inl rfl) hs hQ
  · replace hs := (if_pos hc4).symm.trans hs
    refine AW.iconst (am_r 8 rfl) rfl ci_1 ?_
    refine AW.goto (tg := 19) (am_r 9 rfl) rfl ?_
    exact dX10_scoreIn_j19 hA  (Or.inr rfl) hs hQ
noncomputable def sX10_lentIn_j23 (S : Mem) (p1 : Int32) (y0 : Int32) : Option (Int32 × Mem) :=
  olet (sX10_throwsIf S y0 (1 : Int32)) fun r5 =>
  if r5.1 = 0 then
    obind (sX10_copyBlock r5.2 (0 : Int32) (13 : Int32)) fun r8 =>
    obind (sX10_hours r8 p1) fun r11 =>
    obind (sX10_objectsAt r11 (4 : Int32)) fun r14 =>
    obind (sX10_copyBlock r11 (13 : Int32) (0 : Int32)) fun r17 =>
    some ((r14, r17))
  else
    some (((0 : Int32), r5.2))
set_option maxRecDepth 100000 in
theorem dX10_lentIn_j23 {g : AG} {h0 : AH} {b : Nat} {S : Mem} {Q : AO → AH → Prop} {p1 : Int32} {y0 : Int32} (hA : gB g ≤ b)  (hk0 : y0 = 0 ∨ y0 = 1) {r : (Int32 × Mem)} (hs : sX10_lentIn_j23 S p1 y0 = some r) (hQ : Q (.ok (some (.int r.1))) (mb h0 b r.2)) : AW g MX10_lentIn 23 [some (.ref (b)), some (.int (p1)), none] [(.int (y0)), (.ref (b))] (mb h0 b S) Q := by
  unfold sX10_lentIn_j23 at hs
  refine AW.iconst (am_r 13 rfl) rfl ci_1 ?_
  refine AW.callV (N := MX10_throwsIf) (As := [.int (y0), .int ((1 : Int32))]) (S := []) (L0 := [some (.ref (b)), some (.int (y0)), some (.int ((1 : Int32)))]) (b := b) (am_r 14 rfl) rfl ovX10_throwsIf q1607 rfl rfl mb_ob rfl rfl rfl rfl (dX10_throwsIf hA hk0 rfl (fun hok6 => (cQ_r ?_)))
  refine olet_e (P := fun (y : (Int32 × Mem)) => (y.1 = 0 ∨ y.1 = 1) → AW g MX10_lentIn 27 [some (.ref (b)), some (.int (p1)), none] [(.int (y.1))] (mb h0 b y.2) Q) hs (fun r5 hs hok6 => ?_) hok6
  refine AW.if_eq (tg := 32) (am_r 15 rfl) rfl rfl (fun hc7 => ?_) (fun hc7 => ?_)
  · replace hs := (if_pos hc7).symm.trans hs
    refine AW.aload_n (z := 0) (am_r 18 rfl) rfl rfl ?_
    refine AW.iconst (am_r 19 rfl) rfl ci_0 ?_
    refine AW.bipush (am_r 20 rfl) rfl cb_13 ?_
    refine obind_e hs (fun r8 hg10 hs => ?_)
    refine AW.callV (N := MX10_copyBlock) (As := [.int ((0 : Int32)), .int ((13 : Int32))]) (S := []) (L0 := [some (.ref (b)), some (.int ((0 : Int32))), some (.int ((13 : Int32))), none]) (b := b) (am_r 21 rfl) rfl ovX10_copyBlock q1584 rfl rfl mb_ob rfl rfl rfl rfl (dX10_copyBlock hA  hg10 (cQ_v ?_))
    refine AW.aload_n (z := 0) (am_r 22 rfl) rfl rfl ?_
    refine AW.iload_n (z := 1) (am_r 23 rfl) rfl rfl ?_
    refine obind_e hs (fun r11 hg13 hs => ?_)
    refine AW.callV (N := MX10_hours) (As := [.int (p1)]) (S := []) (L0 := [some (.ref (b)), some (.int (p1)), none]) (b := b) (am_r 24 rfl) rfl ovX10_hours q1706 rfl rfl mb_ob rfl rfl rfl rfl (dX10_hours hA  hg13 (cQ_v ?_))
    refine AW.aload_n (z := 0) (am_r 25 rfl) rfl rfl ?_
    refine AW.iconst (am_r 26 rfl) rfl ci_4 ?_
    refine obind_e hs (fun r14 hg16 hs => ?_)
    refine AW.callV (N := MX10_objectsAt) (As := [.int ((4 : Int32))]) (S := []) (L0 := [some (.ref (b)), some (.int ((4 : Int32))), none, none]) (b := b) (am_r 27 rfl) rfl ovX10_objectsAt q1780 rfl rfl mb_ob rfl rfl rfl rfl (dX10_objectsAt hA  hg16 (cQ_r ?_))
    refine AW.istore_n (L' := [some (.ref (b)), some (.int (p1)), some (.int (r14))]) (z := 2) (am_r 28 rfl) rfl (Nat.le_of_ble_eq_true rfl) rfl ?_
    refine AW.aload_n (z := 0) (am_r 29 rfl) rfl rfl ?_
    refine AW.bipush (am_r 30 rfl) rfl cb_13 ?_
    refine AW.iconst (am_r 31 rfl) rfl ci_0 ?_
    refine obind_e hs (fun r17 hg19 hs => ?_)
    refine AW.callV (N := MX10_copyBlock) (As := [.int ((13 : Int32)), .int ((0 : Int32))]) (S := []) (L0 := [some (.ref (b)), some (.int ((13 : Int32))), some (.int ((0 : Int32))), none]) (b := b) (am_r 32 rfl) rfl ovX10_copyBlock q1584 rfl rfl mb_ob rfl rfl rfl rfl (dX10_copyBlock hA  hg19 (cQ_v ?_))
    refine AW.iload_n (z := 2) (am_r 33 rfl) rfl rfl ?_
    have hr := (Option.some.inj hs).symm
    subst hr
    exact AW.iret (am_r 34 rfl) rfl hQ
  · replace hs := (if_neg hc7).symm.trans hs
    refine AW.iconst (am_r 16 rfl) rfl ci_0 ?_
    have hr := (Option.some.inj hs).symm
    subst hr
    exact AW.iret (am_r 17 rfl) rfl hQ
noncomputable def sX10_lentIn (S : Mem) (p1 : Int32) : Option (Int32 × Mem) :=
  olet (si S 100 6 0 ((0 : Int32))) fun S1 =>
  if (sX10_inRange S1 p1.toInt64 (1 : Int64) (500 : Int64)) = 0 then
    sX10_lentIn_j23 S1 p1 (1 : Int32)
  else
    sX10_lentIn_j23 S1 p1 (0 : Int32)
set_option maxRecDepth 100000 in
theorem dX10_lentIn {g : AG} {h0 : AH} {b : Nat} {S : Mem} {Q : AO → AH → Prop} {p1 : Int32} (hA : gB g ≤ b)  {r : (Int32 × Mem)} (hs : sX10_lentIn S p1 = some r) (hQ : Q (.ok (some (.int r.1))) (mb h0 b r.2)) : AW g MX10_lentIn 0 [some (.ref (b)), some (.int (p1)), none] [] (mb h0 b S) Q := by
  unfold sX10_lentIn at hs
  refine AW.aload_n (z := 0) (am_r 0 rfl) rfl rfl ?_
  refine AW.iconst (am_r 1 rfl) rfl ci_0 ?_
  refine AW.putO (am_r 2 rfl) rfl klX10 (k := 6) (by omega) q1509 (Or.inl rfl) mb_ob hA rfl rfl (mbp_ob (by decide)) ?_
  refine olet_e (P := fun y => AW g MX10_lentIn 5 [some (.ref (b)), some (.int (p1)), none] [] (mb h0 b y) Q) hs (fun S1 hs => ?_)
  refine AW.aload_n (z := 0) (am_r 3 rfl) rfl rfl ?_
  refine AW.iload_n (z := 1) (am_r 4 rfl) rfl rfl ?_
  refine AW.i2l (am_r 5 rfl) rfl ?_
  refine AW.lconst (z := 1) (am_r 6 rfl) rfl cl_1 ?_
  refine AW.ldc2 (v := (500)) (am_r 7 rfl) rfl q1685 ?_
  refine AW.callS (N := MX10_inRange) (As := [.long (p1.toInt64), .long ((1 : Int64)), .long ((500 : Int64))]) (S := [(.ref (b))]) (L0 := [some (.long (p1.toInt64)), none, some (.long ((1 : Int64))), none, some (.long ((500 : Int64))), none]) (am_r 8 rfl) rfl osX10_inRange q1592 rfl rfl rfl rfl rfl (dX10_inRange hA  rfl (fun hok3 => (cQ_r ?_)))
  refine AW.if_ne (tg := 22) (am_r 9 rfl) rfl rfl (fun hc4 => ?_) (fun hc4 => ?_)
  · replace hs := (if_neg hc4).symm.trans hs
    refine AW.iconst (am_r 12 rfl) rfl ci_0 ?_
    exact dX10_lentIn_j23 hA  (Or.inl rfl) hs hQ
  · replace hs := (if_pos hc4).symm.trans hs
    refine AW.iconst (am_r 10 rfl) rfl ci_1 ?_
    refine AW.goto (tg := 23) (am_r 11 rfl) rfl ?_
    exact dX10_lentIn_j23 hA  (Or.inr rfl) hs hQ
noncomputable def sX10_bestBenches_j87 (S : Mem) (p1 : Int32) (y0 : Int32) (y1 : Int32) (y2 : Int32) (y3 : Int32) : Option ((Int32 × Int32 × Int32 × Int32 × Mem) ⊕ (Int32 × Mem)) :=
  olet (sX10_max S y2 (gi S 0 (1 : Int32).toNatClampNeg 0)) fun v23 =>
  obind (sX10_copyBlock S (13 : Int32) (0 : Int32)) fun r24 =>
  some (.inl (y0, y1, v23, y3 + (1 : Int32), r24))
set_option maxRecDepth 100000 in
theorem dX10_bestBenches_j87 {g : AG} {h0 : AH} {b : Nat} {S : Mem} {Q : AO → AH → Prop} {p1 : Int32} {y0 : Int32} {y1 : Int32} {y2 : Int32} {y3 : Int32} (hA : gB g ≤ b)   {r : ((Int32 × Int32 × Int32 × Int32 × Mem) ⊕ (Int32 × Mem))} (hs : sX10_bestBenches_j87 S p1 y0 y1 y2 y3 = some r) (hc : ∀ a : (Int32 × Int32 × Int32 × Int32 × Mem), r = .inl a → AW g MX10_bestBenches 54 [some (.ref (b)), some (.int (p1)), some (.int (a.1)), some (.int (a.2.1)), some (.int (a.2.2.1)), some (.int (a.2.2.2.1))] [] (mb h0 b a.2.2.2.2) Q) (he : ∀ z : (Int32 × Mem), r = .inr z → Q (.ok (some (.int z.1))) (mb h0 b z.2)) : AW g MX10_bestBenches 87 [some (.ref (b)), some (.int (p1)), some (.int (y0)), some (.int (y1)), some (.int (y2)), some (.int (y3))] [] (mb h0 b S) Q := by
  unfold sX10_bestBenches_j87 at hs
  refine AW.iload (am_r 52 rfl) rfl rfl ?_
  refine AW.aload_n (z := 0) (am_r 53 rfl) rfl rfl ?_
  refine AW.getO (am_r 54 rfl) rfl klX10 (k := 0) (by omega) q1503 mb_ob rfl ?_
  refine AW.iconst (am_r 55 rfl) rfl ci_1 ?_
  refine AW.iald (am_r 56 rfl) rfl mb_a1 (vp_of_inb rfl) rfl ?_
  refine AW.callS (N := MX10_max) (As := [.int (y2), .int (gi S 0 (1 : Int32).toNatClampNeg 0)]) (S := []) (L0 := [some (.int (y2)), some (.int (gi S 0 (1 : Int32).toNatClampNeg 0))]) (am_r 57 rfl) rfl osX10_max q1741 rfl rfl rfl rfl rfl (dX10_max hA  rfl (cQ_r ?_))
  refine olet_e (P := fun y => AW g MX10_bestBenches 98 [some (.ref (b)), some (.int (p1)), some (.int (y0)), some (.int (y1)), some (.int (y2)), some (.int (y3))] [(.int (y))] (mb h0 b S) Q) hs (fun v23 hs => ?_)
  refine AW.istore (L' := [some (.ref (b)), some (.int (p1)), some (.int (y0)), some (.int (y1)), some (.int (v23)), some (.int (y3))]) (am_r 58 rfl) rfl (Nat.le_of_ble_eq_true rfl) rfl ?_
  refine AW.aload_n (z := 0) (am_r 59 rfl) rfl rfl ?_
  refine AW.bipush (am_r 60 rfl) rfl cb_13 ?_
  refine AW.iconst (am_r 61 rfl) rfl ci_0 ?_
  refine obind_e hs (fun r24 hg26 hs => ?_)
  refine AW.callV (N := MX10_copyBlock) (As := [.int ((13 : Int32)), .int ((0 : Int32))]) (S := []) (L0 := [some (.ref (b)), some (.int ((13 : Int32))), some (.int ((0 : Int32))), none]) (b := b) (am_r 62 rfl) rfl ovX10_copyBlock q1584 rfl rfl mb_ob rfl rfl rfl rfl (dX10_copyBlock hA  hg26 (cQ_v ?_))
  refine AW.iinc (v := y3 + (1 : Int32)) (L' := [some (.ref (b)), some (.int (p1)), some (.int (y0)), some (.int (y1)), some (.int (v23)), some (.int (y3 + (1 : Int32)))]) (am_r 63 rfl) rfl (Nat.le_of_ble_eq_true rfl) rfl (congrArg (fun z => y3 + z) ci_1) rfl ?_
  refine AW.goto (tg := 54) (am_r 64 rfl) rfl ?_
  have hr := (Option.some.inj hs).symm
  exact hc (y0, y1, v23, y3 + (1 : Int32), r24) hr 
noncomputable def sX10_bestBenches_l54_step  (p1 : Int32) (a : (Int32 × Int32 × Int32 × Int32 × Mem)) : Option ((Int32 × Int32 × Int32 × Int32 × Mem) ⊕ (Int32 × Mem)) :=
  if (4 : Int32) < a.2.2.2.1 then
    oinr (
    olet (si a.2.2.2.2 5 (0 : Int32).toNatClampNeg 0 (a.1)) fun S15 =>
    some ((a.2.1, S15)))
  else
    olet (si a.2.2.2.2 5 (0 : Int32).toNatClampNeg 0 (a.2.2.2.1)) fun S16 =>
    obind (sX10_hours S16 p1) fun r17 =>
    if (gi r17 0 (1 : Int32).toNatClampNeg 0) ≤ a.2.2.1 then
      sX10_bestBenches_j87 r17 p1 a.1 a.2.1 a.2.2.1 a.2.2.2.1
    else
      sX10_bestBenches_j87 r17 p1 a.1 a.2.2.2.1 a.2.2.1 a.2.2.2.1
noncomputable def sX10_bestBenches_l54  (p1 : Int32) (a : (Int32 × Int32 × Int32 × Int32 × Mem)) : Option (Int32 × Mem) := itw (sX10_bestBenches_l54_step  p1) a
set_option maxRecDepth 100000 in
theorem dX10_bestBenches_l54 {g : AG} {h0 : AH} {b : Nat} {Q : AO → AH → Prop} {p1 : Int32} (hA : gB g ≤ b)  {a : (Int32 × Int32 × Int32 × Int32 × Mem)}  {r : (Int32 × Mem)} (hs : sX10_bestBenches_l54  p1 a = some r) (hQ : Q (.ok (some (.int r.1))) (mb h0 b r.2)) : AW g MX10_bestBenches 54 [some (.ref (b)), some (.int (p1)), some (.int (a.1)), some (.int (a.2.1)), some (.int (a.2.2.1)), some (.int (a.2.2.2.1))] [] (mb h0 b a.2.2.2.2) Q := by
  refine itw_e (P := fun a => AW g MX10_bestBenches 54 [some (.ref (b)), some (.int (p1)), some (.int (a.1)), some (.int (a.2.1)), some (.int (a.2.2.1)), some (.int (a.2.2.2.1))] [] (mb h0 b a.2.2.2.2) Q) (Post := fun r => Q (.ok (some (.int r.1))) (mb h0 b r.2)) (fun a r hs hc he  => ?_) hs hQ 
  unfold sX10_bestBenches_l54_step at hs
  refine AW.iload (am_r 33 rfl) rfl rfl ?_
  refine AW.iconst (am_r 34 rfl) rfl ci_4 ?_
  refine AW.icmp_gt (tg := 113) (am_r 35 rfl) rfl rfl (fun hc12 => ?_) (fun hc12 => ?_)
  · replace hs := (if_pos hc12).symm.trans hs
    refine oinr_e hs (fun z13 hz14 hs => ?_)
    have hQ := he _ hz14
    refine AW.aload_n (z := 0) (am_r 65 rfl) rfl rfl ?_
    refine AW.getO (am_r 66 rfl) rfl klX10 (k := 5) (by omega) q1508 mb_ob rfl ?_
    refine AW.iconst (am_r 67 rfl) rfl ci_0 ?_
    refine AW.iload_n (z := 2) (am_r 68 rfl) rfl rfl ?_
    refine AW.iast (am_r 69 rfl) rfl mb_a4 (Nat.le_trans hA (by omega)) (vp_of_inb rfl) ?_
    rw [show _ = _ from mbp_a4]
    refine olet_e (P := fun y => AW g MX10_bestBenches 120 [some (.ref (b)), some (.int (p1)), some (.int (a.1)), some (.int (a.2.1)), some (.int (a.2.2.1)), some (.int (a.2.2.2.1))] [] (mb h0 b y) Q) hs (fun S15 hs => ?_)
    refine AW.iload_n (z := 3) (am_r 70 rfl) rfl rfl ?_
    have hr := (Option.some.inj hs).symm
    subst hr
    exact AW.iret (am_r 71 rfl) rfl hQ
  · replace hs := (if_neg hc12).symm.trans hs
    refine AW.aload_n (z := 0) (am_r 36 rfl) rfl rfl ?_
    refine AW.getO (am_r 37 rfl) rfl klX10 (k := 5) (by omega) q1508 mb_ob rfl ?_
    refine AW.iconst (am_r 38 rfl) rfl ci_0 ?_
    refine AW.iload (am_r 39 rfl) rfl rfl ?_
    refine AW.iast (am_r 40 rfl) rfl mb_a4 (Nat.le_trans hA (by omega)) (vp_of_inb rfl) ?_
    rw [show _ = _ from mbp_a4]
    refine olet_e (P := fun y => AW g MX10_bestBenches 68 [some (.ref (b)), some (.int (p1)), some (.int (a.1)), some (.int (a.2.1)), some (.int (a.2.2.1)), some (.int (a.2.2.2.1))] [] (mb h0 b y) Q) hs (fun S16 hs => ?_)
    refine AW.aload_n (z := 0) (am_r 41 rfl) rfl rfl ?_
    refine AW.iload_n (z := 1) (am_r 42 rfl) rfl rfl ?_
    refine obind_e hs (fun r17 hg19 hs => ?_)
    refine AW.callV (N := MX10_hours) (As := [.int (p1)]) (S := []) (L0 := [some (.ref (b)), some (.int (p1)), none]) (b := b) (am_r 43 rfl) rfl ovX10_hours q1706 rfl rfl mb_ob rfl rfl rfl rfl (dX10_hours hA  hg19 (cQ_v ?_))
    refine AW.aload_n (z := 0) (am_r 44 rfl) rfl rfl ?_
    refine AW.getO (am_r 45 rfl) rfl klX10 (k := 0) (by omega) q1503 mb_ob rfl ?_
    refine AW.iconst (am_r 46 rfl) rfl ci_1 ?_
    refine AW.iald (am_r 47 rfl) rfl mb_a1 (vp_of_inb rfl) rfl ?_
    refine AW.iload (am_r 48 rfl) rfl rfl ?_
    refine AW.icmp_le (tg := 87) (am_r 49 rfl) rfl rfl (fun hc20 => ?_) (fun hc20 => ?_)
    · replace hs := (if_pos hc20).symm.trans hs
      exact dX10_bestBenches_j87 hA   hs hc he
    · replace hs := (if_neg hc20).symm.trans hs
      refine AW.iload (am_r 50 rfl) rfl rfl ?_
      refine AW.istore_n (L' := [some (.ref (b)), some (.int (p1)), some (.int (a.1)), some (.int (a.2.2.2.1)), some (.int (a.2.2.1)), some (.int (a.2.2.2.1))]) (z := 3) (am_r 51 rfl) rfl (Nat.le_of_ble_eq_true rfl) rfl ?_
      exact dX10_bestBenches_j87 hA   hs hc he
noncomputable def sX10_bestBenches_j23 (S : Mem) (p1 : Int32) (y0 : Int32) : Option (Int32 × Mem) :=
  olet (sX10_throwsIf S y0 (1 : Int32)) fun r5 =>
  if r5.1 = 0 then
    obind (sX10_copyBlock r5.2 (0 : Int32) (13 : Int32)) fun r8 =>
    olet (gi r8 5 (0 : Int32).toNatClampNeg 0) fun v11 =>
    sX10_bestBenches_l54  p1 (v11, (0 : Int32), (-1 : Int32), (1 : Int32), r8)
  else
    some (((0 : Int32), r5.2))
set_option maxRecDepth 100000 in
theorem dX10_bestBenches_j23 {g : AG} {h0 : AH} {b : Nat} {S : Mem} {Q : AO → AH → Prop} {p1 : Int32} {y0 : Int32} (hA : gB g ≤ b)  (hk0 : y0 = 0 ∨ y0 = 1) {r : (Int32 × Mem)} (hs : sX10_bestBenches_j23 S p1 y0 = some r) (hQ : Q (.ok (some (.int r.1))) (mb h0 b r.2)) : AW g MX10_bestBenches 23 [some (.ref (b)), some (.int (p1)), none, none, none, none] [(.int (y0)), (.ref (b))] (mb h0 b S) Q := by
  unfold sX10_bestBenches_j23 at hs
  refine AW.iconst (am_r 13 rfl) rfl ci_1 ?_
  refine AW.callV (N := MX10_throwsIf) (As := [.int (y0), .int ((1 : Int32))]) (S := []) (L0 := [some (.ref (b)), some (.int (y0)), some (.int ((1 : Int32)))]) (b := b) (am_r 14 rfl) rfl ovX10_throwsIf q1607 rfl rfl mb_ob rfl rfl rfl rfl (dX10_throwsIf hA hk0 rfl (fun hok6 => (cQ_r ?_)))
  refine olet_e (P := fun (y : (Int32 × Mem)) => (y.1 = 0 ∨ y.1 = 1) → AW g MX10_bestBenches 27 [some (.ref (b)), some (.int (p1)), none, none, none, none] [(.int (y.1))] (mb h0 b y.2) Q) hs (fun r5 hs hok6 => ?_) hok6
  refine AW.if_eq (tg := 32) (am_r 15 rfl) rfl rfl (fun hc7 => ?_) (fun hc7 => ?_)
  · replace hs := (if_pos hc7).symm.trans hs
    refine AW.aload_n (z := 0) (am_r 18 rfl) rfl rfl ?_
    refine AW.iconst (am_r 19 rfl) rfl ci_0 ?_
    refine AW.bipush (am_r 20 rfl) rfl cb_13 ?_
    refine obind_e hs (fun r8 hg10 hs => ?_)
    refine AW.callV (N := MX10_copyBlock) (As := [.int ((0 : Int32)), .int ((13 : Int32))]) (S := []) (L0 := [some (.ref (b)), some (.int ((0 : Int32))), some (.int ((13 : Int32))), none]) (b := b) (am_r 21 rfl) rfl ovX10_copyBlock q1584 rfl rfl mb_ob rfl rfl rfl rfl (dX10_copyBlock hA  hg10 (cQ_v ?_))
    refine AW.aload_n (z := 0) (am_r 22 rfl) rfl rfl ?_
    refine AW.getO (am_r 23 rfl) rfl klX10 (k := 5) (by omega) q1508 mb_ob rfl ?_
    refine AW.iconst (am_r 24 rfl) rfl ci_0 ?_
    refine AW.iald (am_r 25 rfl) rfl mb_a4 (vp_of_inb rfl) rfl ?_
    refine olet_e (P := fun y => AW g MX10_bestBenches 45 [some (.ref (b)), some (.int (p1)), none, none, none, none] [(.int (y))] (mb h0 b r8) Q) hs (fun v11 hs => ?_)
    refine AW.istore_n (L' := [some (.ref (b)), some (.int (p1)), some (.int (v11)), none, none, none]) (z := 2) (am_r 26 rfl) rfl (Nat.le_of_ble_eq_true rfl) rfl ?_
    refine AW.iconst (am_r 27 rfl) rfl ci_0 ?_
    refine AW.istore_n (L' := [some (.ref (b)), some (.int (p1)), some (.int (v11)), some (.int ((0 : Int32))), none, none]) (z := 3) (am_r 28 rfl) rfl (Nat.le_of_ble_eq_true rfl) rfl ?_
    refine AW.iconst (am_r 29 rfl) rfl ci_m1 ?_
    refine AW.istore (L' := [some (.ref (b)), some (.int (p1)), some (.int (v11)), some (.int ((0 : Int32))), some (.int ((-1 : Int32))), none]) (am_r 30 rfl) rfl (Nat.le_of_ble_eq_true rfl) rfl ?_
    refine AW.iconst (am_r 31 rfl) rfl ci_1 ?_
    refine AW.istore (L' := [some (.ref (b)), some (.int (p1)), some (.int (v11)), some (.int ((0 : Int32))), some (.int ((-1 : Int32))), some (.int ((1 : Int32)))]) (am_r 32 rfl) rfl (Nat.le_of_ble_eq_true rfl) rfl ?_
    exact dX10_bestBenches_l54 hA   hs hQ
  · replace hs := (if_neg hc7).symm.trans hs
    refine AW.iconst (am_r 16 rfl) rfl ci_0 ?_
    have hr := (Option.some.inj hs).symm
    subst hr
    exact AW.iret (am_r 17 rfl) rfl hQ
noncomputable def sX10_bestBenches (S : Mem) (p1 : Int32) : Option (Int32 × Mem) :=
  olet (si S 100 6 0 ((0 : Int32))) fun S1 =>
  if (sX10_inRange S1 p1.toInt64 (1 : Int64) (200 : Int64)) = 0 then
    sX10_bestBenches_j23 S1 p1 (1 : Int32)
  else
    sX10_bestBenches_j23 S1 p1 (0 : Int32)
set_option maxRecDepth 100000 in
theorem dX10_bestBenches {g : AG} {h0 : AH} {b : Nat} {S : Mem} {Q : AO → AH → Prop} {p1 : Int32} (hA : gB g ≤ b)  {r : (Int32 × Mem)} (hs : sX10_bestBenches S p1 = some r) (hQ : Q (.ok (some (.int r.1))) (mb h0 b r.2)) : AW g MX10_bestBenches 0 [some (.ref (b)), some (.int (p1)), none, none, none, none] [] (mb h0 b S) Q := by
  unfold sX10_bestBenches at hs
  refine AW.aload_n (z := 0) (am_r 0 rfl) rfl rfl ?_
  refine AW.iconst (am_r 1 rfl) rfl ci_0 ?_
  refine AW.putO (am_r 2 rfl) rfl klX10 (k := 6) (by omega) q1509 (Or.inl rfl) mb_ob hA rfl rfl (mbp_ob (by decide)) ?_
  refine olet_e (P := fun y => AW g MX10_bestBenches 5 [some (.ref (b)), some (.int (p1)), none, none, none, none] [] (mb h0 b y) Q) hs (fun S1 hs => ?_)
  refine AW.aload_n (z := 0) (am_r 3 rfl) rfl rfl ?_
  refine AW.iload_n (z := 1) (am_r 4 rfl) rfl rfl ?_
  refine AW.i2l (am_r 5 rfl) rfl ?_
  refine AW.lconst (z := 1) (am_r 6 rfl) rfl cl_1 ?_
  refine AW.ldc2 (v := (200)) (am_r 7 rfl) rfl q1996 ?_
  refine AW.callS (N := MX10_inRange) (As := [.long (p1.toInt64), .long ((1 : Int64)), .long ((200 : Int64))]) (S := [(.ref (b))]) (L0 := [some (.long (p1.toInt64)), none, some (.long ((1 : Int64))), none, some (.long ((200 : Int64))), none]) (am_r 8 rfl) rfl osX10_inRange q1592 rfl rfl rfl rfl rfl (dX10_inRange hA  rfl (fun hok3 => (cQ_r ?_)))
  refine AW.if_ne (tg := 22) (am_r 9 rfl) rfl rfl (fun hc4 => ?_) (fun hc4 => ?_)
  · replace hs := (if_neg hc4).symm.trans hs
    refine AW.iconst (am_r 12 rfl) rfl ci_0 ?_
    exact dX10_bestBenches_j23 hA  (Or.inl rfl) hs hQ
  · replace hs := (if_pos hc4).symm.trans hs
    refine AW.iconst (am_r 10 rfl) rfl ci_1 ?_
    refine AW.goto (tg := 23) (am_r 11 rfl) rfl ?_
    exact dX10_bestBenches_j23 hA  (Or.inr rfl) hs hQ
noncomputable def sX10_lateness_j19 (S : Mem) (p1 : Int32) (y0 : Int32) : Option (Int32 × Mem) :=
  olet (sX10_throwsIf S y0 (1 : Int32)) fun r5 =>
  if r5.1 = 0 then
    obind (sX10_of r5.2 p1 (8 : Int32)) fun r8 =>
    if r8 = (-1 : Int32) then
      some (((-1 : Int32), r5.2))
    else
      obind (sX10_of r5.2 p1 (8 : Int32)) fun r12 =>
      some ((sX10_max r5.2 (0 : Int32) ((gi r5.2 0 (0 : Int32).toNatClampNeg 0) - r12), r5.2))
  else
    some (((0 : Int32), r5.2))
set_option maxRecDepth 100000 in
theorem dX10_lateness_j19 {g : AG} {h0 : AH} {b : Nat} {S : Mem} {Q : AO → AH → Prop} {p1 : Int32} {y0 : Int32} (hA : gB g ≤ b)  (hk0 : y0 = 0 ∨ y0 = 1) {r : (Int32 × Mem)} (hs : sX10_lateness_j19 S p1 y0 = some r) (hQ : Q (.ok (some (.int r.1))) (mb h0 b r.2)) : AW g MX10_lateness 19 [some (.ref (b)), some (.int (p1))] [(.int (y0)), (.ref (b))] (mb h0 b S) Q := by
  unfold sX10_lateness_j19 at hs
  refine AW.iconst (am_r 11 rfl) rfl ci_1 ?_
  refine AW.callV (N := MX10_throwsIf) (As := [.int (y0), .int ((1 : Int32))]) (S := []) (L0 := [some (.ref (b)), some (.int (y0)), some (.int ((1 : Int32)))]) (b := b) (am_r 12 rfl) rfl ovX10_throwsIf q1607 rfl rfl mb_ob rfl rfl rfl rfl (dX10_throwsIf hA hk0 rfl (fun hok6 => (cQ_r ?_)))
  refine olet_e (P := fun (y : (Int32 × Mem)) => (y.1 = 0 ∨ y.1 = 1) → AW g MX10_lateness 23 [some (.ref (b)), some (.int (p1))] [(.int (y.1))] (mb h0 b y.2) Q) hs (fun r5 hs hok6 => ?_) hok6
  refine AW.if_eq (tg := 30) (am_r 13 rfl) rfl rfl (fun hc7 => ?_) (fun hc7 => ?_)
  · replace hs := (if_pos hc7).symm.trans hs
    refine AW.aload_n (z := 0) (am_r 16 rfl) rfl rfl ?_
    refine AW.iload_n (z := 1) (am_r 17 rfl) rfl rfl ?_
    refine AW.bipush (am_r 18 rfl) rfl cb_8 ?_
    refine obind_e hs (fun r8 hg10 hs => ?_)
    refine AW.callV (N := MX10_of) (As := [.int (p1), .int ((8 : Int32))]) (S := []) (L0 := [some (.ref (b)), some (.int (p1)), some (.int ((8 : Int32)))]) (b := b) (am_r 19 rfl) rfl ovX10_of q1615 rfl rfl mb_ob rfl rfl rfl rfl (dX10_of hA  hg10 (cQ_r ?_))
    refine AW.iconst (am_r 20 rfl) rfl ci_m1 ?_
    refine AW.icmp_ne (tg := 45) (am_r 21 rfl) rfl rfl (fun hc11 => ?_) (fun hc11 => ?_)
    · replace hs := (if_neg hc11).symm.trans hs
      refine AW.iconst (am_r 24 rfl) rfl ci_0 ?_
      refine AW.aload_n (z := 0) (am_r 25 rfl) rfl rfl ?_
      refine AW.getO (am_r 26 rfl) rfl klX10 (k := 0) (by omega) q1503 mb_ob rfl ?_
      refine AW.iconst (am_r 27 rfl) rfl ci_0 ?_
      refine AW.iald (am_r 28 rfl) rfl mb_a1 (vp_of_inb rfl) rfl ?_
      refine AW.aload_n (z := 0) (am_r 29 rfl) rfl rfl ?_
      refine AW.iload_n (z := 1) (am_r 30 rfl) rfl rfl ?_
      refine AW.bipush (am_r 31 rfl) rfl cb_8 ?_
      refine obind_e hs (fun r12 hg14 hs => ?_)
      refine AW.callV (N := MX10_of) (As := [.int (p1), .int ((8 : Int32))]) (S := [(.int (gi r5.2 0 (0 : Int32).toNatClampNeg 0)), (.int ((0 : Int32)))]) (L0 := [some (.ref (b)), some (.int (p1)), some (.int ((8 : Int32)))]) (b := b) (am_r 32 rfl) rfl ovX10_of q1615 rfl rfl mb_ob rfl rfl rfl rfl (dX10_of hA  hg14 (cQ_r ?_))
      refine AW.isub (am_r 33 rfl) rfl ?_
      refine AW.callS (N := MX10_max) (As := [.int ((0 : Int32)), .int ((gi r5.2 0 (0 : Int32).toNatClampNeg 0) - r12)]) (S := []) (L0 := [some (.int ((0 : Int32))), some (.int ((gi r5.2 0 (0 : Int32).toNatClampNeg 0) - r12))]) (am_r 34 rfl) rfl osX10_max q1741 rfl rfl rfl rfl rfl (dX10_max hA  rfl (cQ_r ?_))
      have hr := (Option.some.inj hs).symm
      subst hr
      exact AW.iret (am_r 35 rfl) rfl hQ
    · replace hs := (if_pos hc11).symm.trans hs
      refine AW.iconst (am_r 22 rfl) rfl ci_m1 ?_
      refine AW.goto (tg := 63) (am_r 23 rfl) rfl ?_
      have hr := (Option.some.inj hs).symm
      subst hr
      exact AW.iret (am_r 35 rfl) rfl hQ
  · replace hs := (if_neg hc7).symm.trans hs
    refine AW.iconst (am_r 14 rfl) rfl ci_0 ?_
    refine AW.goto (tg := 63) (am_r 15 rfl) rfl ?_
    have hr := (Option.some.inj hs).symm
    subst hr
    exact AW.iret (am_r 35 rfl) rfl hQ
noncomputable def sX10_lateness (S : Mem) (p1 : Int32) : Option (Int32 × Mem) :=
  olet (si S 100 6 0 ((0 : Int32))) fun S1 =>
  if (sX10_isObject S1 p1) = 0 then
    sX10_lateness_j19 S1 p1 (1 : Int32)
  else
    sX10_lateness_j19 S1 p1 (0 : Int32)
set_option maxRecDepth 100000 in
theorem dX10_lateness {g : AG} {h0 : AH} {b : Nat} {S : Mem} {Q : AO → AH → Prop} {p1 : Int32} (hA : gB g ≤ b)  {r : (Int32 × Mem)} (hs : sX10_lateness S p1 = some r) (hQ : Q (.ok (some (.int r.1))) (mb h0 b r.2)) : AW g MX10_lateness 0 [some (.ref (b)), some (.int (p1))] [] (mb h0 b S) Q := by
  unfold sX10_lateness at hs
  refine AW.aload_n (z := 0) (am_r 0 rfl) rfl rfl ?_
  refine AW.iconst (am_r 1 rfl) rfl ci_0 ?_
  refine AW.putO (am_r 2 rfl) rfl klX10 (k := 6) (by omega) q1509 (Or.inl rfl) mb_ob hA rfl rfl (mbp_ob (by decide)) ?_
  refine olet_e (P := fun y => AW g MX10_lateness 5 [some (.ref (b)), some (.int (p1))] [] (mb h0 b y) Q) hs (fun S1 hs => ?_)
  refine AW.aload_n (z := 0) (am_r 3 rfl) rfl rfl ?_
  refine AW.aload_n (z := 0) (am_r 4 rfl) rfl rfl ?_
  refine AW.iload_n (z := 1) (am_r 5 rfl) rfl rfl ?_
  refine AW.callV (N := MX10_isObject) (As := [.int (p1)]) (S := [(.ref (b))]) (L0 := [some (.ref (b)), some (.int (p1))]) (b := b) (am_r 6 rfl) rfl ovX10_isObject q1603 rfl rfl mb_ob rfl rfl rfl rfl (dX10_isObject hA  rfl (fun hok3 => (cQ_r ?_)))
  refine AW.if_ne (tg := 18) (am_r 7 rfl) rfl rfl (fun hc4 => ?_) (fun hc4 => ?_)
  · replace hs := (if_neg hc4).symm.trans hs
    refine AW.iconst (am_r 10 rfl) rfl ci_0 ?_
    exact dX10_lateness_j19 hA  (Or.inl rfl) hs hQ
  · replace hs := (if_pos hc4).symm.trans hs
    refine AW.iconst (am_r 8 rfl) rfl ci_1 ?_
    refine AW.goto (tg := 19) (am_r 9 rfl) rfl ?_
    exact dX10_lateness_j19 hA  (Or.inr rfl) hs hQ
noncomputable def sX10_mostUrgent_l9_step   (a : (Int32 × Int32 × Mem)) : Option ((Int32 × Int32 × Mem) ⊕ (Int32 × Mem)) :=
  if (gi a.2.2 5 (4 : Int32).toNatClampNeg 0) ≤ a.2.1 then
    oinr (
    some ((a.1, a.2.2)))
  else
    obind (sX10_of a.2.2 a.2.1 (8 : Int32)) fun r5 =>
    if r5 = (-1 : Int32) then
      some (.inl (a.1, a.2.1 + (1 : Int32), a.2.2))
    else
      if a.1 = (-1 : Int32) then
        some (.inl (a.2.1, a.2.1 + (1 : Int32), a.2.2))
      else
        obind (sX10_of a.2.2 a.2.1 (8 : Int32)) fun r10 =>
        obind (sX10_of a.2.2 a.1 (8 : Int32)) fun r13 =>
        if r13 ≤ r10 then
          some (.inl (a.1, a.2.1 + (1 : Int32), a.2.2))
        else
          some (.inl (a.2.1, a.2.1 + (1 : Int32), a.2.2))
noncomputable def sX10_mostUrgent_l9   (a : (Int32 × Int32 × Mem)) : Option (Int32 × Mem) := itw (sX10_mostUrgent_l9_step  ) a
set_option maxRecDepth 100000 in
theorem dX10_mostUrgent_l9 {g : AG} {h0 : AH} {b : Nat} {Q : AO → AH → Prop}  (hA : gB g ≤ b)  {a : (Int32 × Int32 × Mem)}  {r : (Int32 × Mem)} (hs : sX10_mostUrgent_l9   a = some r) (hQ : Q (.ok (some (.int r.1))) (mb h0 b r.2)) : AW g MX10_mostUrgent 9 [some (.ref (b)), some (.int (a.1)), some (.int (a.2.1))] [] (mb h0 b a.2.2) Q := by
  refine itw_e (P := fun a => AW g MX10_mostUrgent 9 [some (.ref (b)), some (.int (a.1)), some (.int (a.2.1))] [] (mb h0 b a.2.2) Q) (Post := fun r => Q (.ok (some (.int r.1))) (mb h0 b r.2)) (fun a r hs hc he  => ?_) hs hQ 
  unfold sX10_mostUrgent_l9_step at hs
  refine AW.iload_n (z := 2) (am_r 7 rfl) rfl rfl ?_
  refine AW.aload_n (z := 0) (am_r 8 rfl) rfl rfl ?_
  refine AW.getO (am_r 9 rfl) rfl klX10 (k := 5) (by omega) q1508 mb_ob rfl ?_
  refine AW.iconst (am_r 10 rfl) rfl ci_4 ?_
  refine AW.iald (am_r 11 rfl) rfl mb_a4 (vp_of_inb rfl) rfl ?_
  refine AW.icmp_ge (tg := 60) (am_r 12 rfl) rfl rfl (fun hc2 => ?_) (fun hc2 => ?_)
  · replace hs := (if_pos hc2).symm.trans hs
    refine oinr_e hs (fun z3 hz4 hs => ?_)
    have hQ := he _ hz4
    refine AW.iload_n (z := 1) (am_r 35 rfl) rfl rfl ?_
    have hr := (Option.some.inj hs).symm
    subst hr
    exact AW.iret (am_r 36 rfl) rfl hQ
  · replace hs := (if_neg hc2).symm.trans hs
    refine AW.aload_n (z := 0) (am_r 13 rfl) rfl rfl ?_
    refine AW.iload_n (z := 2) (am_r 14 rfl) rfl rfl ?_
    refine AW.bipush (am_r 15 rfl) rfl cb_8 ?_
    refine obind_e hs (fun r5 hg7 hs => ?_)
    refine AW.callV (N := MX10_of) (As := [.int (a.2.1), .int ((8 : Int32))]) (S := []) (L0 := [some (.ref (b)), some (.int (a.2.1)), some (.int ((8 : Int32)))]) (b := b) (am_r 16 rfl) rfl ovX10_of q1615 rfl rfl mb_ob rfl rfl rfl rfl (dX10_of hA  hg7 (cQ_r ?_))
    refine AW.iconst (am_r 17 rfl) rfl ci_m1 ?_
    refine AW.icmp_eq (tg := 54) (am_r 18 rfl) rfl rfl (fun hc8 => ?_) (fun hc8 => ?_)
    · replace hs := (if_pos hc8).symm.trans hs
      refine AW.iinc (v := a.2.1 + (1 : Int32)) (L' := [some (.ref (b)), some (.int (a.1)), some (.int (a.2.1 + (1 : Int32)))]) (am_r 33 rfl) rfl (Nat.le_of_ble_eq_true rfl) rfl (congrArg (fun z => a.2.1 + z) ci_1) rfl ?_
      refine AW.goto (tg := 9) (am_r 34 rfl) rfl ?_
      have hr := (Option.some.inj hs).symm
      exact hc (a.1, a.2.1 + (1 : Int32), a.2.2) hr 
    · replace hs := (if_neg hc8).symm.trans hs
      refine AW.iload_n (z := 1) (am_r 19 rfl) rfl rfl ?_
      refine AW.iconst (am_r 20 rfl) rfl ci_m1 ?_
      refine AW.icmp_eq (tg := 52) (am_r 21 rfl) rfl rfl (fun hc9 => ?_) (fun hc9 => ?_)
      · replace hs := (if_pos hc9).symm.trans hs
        refine AW.iload_n (z := 2) (am_r 31 rfl) rfl rfl ?_
        refine AW.istore_n (L' := [some (.ref (b)), some (.int (a.2.1)), some (.int (a.2.1))]) (z := 1) (am_r 32 rfl) rfl (Nat.le_of_ble_eq_true rfl) rfl ?_
        refine AW.iinc (v := a.2.1 + (1 : Int32)) (L' := [some (.ref (b)), some (.int (a.2.1)), some (.int (a.2.1 + (1 : Int32)))]) (am_r 33 rfl) rfl (Nat.le_of_ble_eq_true rfl) rfl (congrArg (fun z => a.2.1 + z) ci_1) rfl ?_
        refine AW.goto (tg := 9) (am_r 34 rfl) rfl ?_
        have hr := (Option.some.inj hs).symm
        exact hc (a.2.1, a.2.1 + (1 : Int32), a.2.2) hr 
      · replace hs := (if_neg hc9).symm.trans hs
        refine AW.aload_n (z := 0) (am_r 22 rfl) rfl rfl ?_
        refine AW.iload_n (z := 2) (am_r 23 rfl) rfl rfl ?_
        refine AW.bipush (am_r 24 rfl) rfl cb_8 ?_
        refine obind_e hs (fun r10 hg12 hs => ?_)
        refine AW.callV (N := MX10_of) (As := [.int (a.2.1), .int ((8 : Int32))]) (S := []) (L0 := [some (.ref (b)), some (.int (a.2.1)), some (.int ((8 : Int32)))]) (b := b) (am_r 25 rfl) rfl ovX10_of q1615 rfl rfl mb_ob rfl rfl rfl rfl (dX10_of hA  hg12 (cQ_r ?_))
        refine AW.aload_n (z := 0) (am_r 26 rfl) rfl rfl ?_
        refine AW.iload_n (z := 1) (am_r 27 rfl) rfl rfl ?_
        refine AW.bipush (am_r 28 rfl) rfl cb_8 ?_
        refine obind_e hs (fun r13 hg15 hs => ?_)
        refine AW.callV (N := MX10_of) (As := [.int (a.1), .int ((8 : Int32))]) (S := [(.int (r10))]) (L0 := [some (.ref (b)), some (.int (a.1)), some (.int ((8 : Int32)))]) (b := b) (am_r 29 rfl) rfl ovX10_of q1615 rfl rfl mb_ob rfl rfl rfl rfl (dX10_of hA  hg15 (cQ_r ?_))
        refine AW.icmp_ge (tg := 54) (am_r 30 rfl) rfl rfl (fun hc16 => ?_) (fun hc16 => ?_)
        · replace hs := (if_pos hc16).symm.trans hs
          refine AW.iinc (v := a.2.1 + (1 : Int32)) (L' := [some (.ref (b)), some (.int (a.1)), some (.int (a.2.1 + (1 : Int32)))]) (am_r 33 rfl) rfl (Nat.le_of_ble_eq_true rfl) rfl (congrArg (fun z => a.2.1 + z) ci_1) rfl ?_
          refine AW.goto (tg := 9) (am_r 34 rfl) rfl ?_
          have hr := (Option.some.inj hs).symm
          exact hc (a.1, a.2.1 + (1 : Int32), a.2.2) hr 
        · replace hs := (if_neg hc16).symm.trans hs
          refine AW.iload_n (z := 2) (am_r 31 rfl) rfl rfl ?_
          refine AW.istore_n (L' := [some (.ref (b)), some (.int (a.2.1)), some (.int (a.2.1))]) (z := 1) (am_r 32 rfl) rfl (Nat.le_of_ble_eq_true rfl) rfl ?_
          refine AW.iinc (v := a.2.1 + (1 : Int32)) (L' := [some (.ref (b)), some (.int (a.2.1)), some (.int (a.2.1 + (1 : Int32)))]) (am_r 33 rfl) rfl (Nat.le_of_ble_eq_true rfl) rfl (congrArg (fun z => a.2.1 + z) ci_1) rfl ?_
          refine AW.goto (tg := 9) (am_r 34 rfl) rfl ?_
          have hr := (Option.some.inj hs).symm
          exact hc (a.2.1, a.2.1 + (1 : Int32), a.2.2) hr 
noncomputable def sX10_mostUrgent (S : Mem)  : Option (Int32 × Mem) :=
  olet (si S 100 6 0 ((0 : Int32))) fun S1 =>
  sX10_mostUrgent_l9   ((-1 : Int32), (0 : Int32), S1)
set_option maxRecDepth 100000 in
theorem dX10_mostUrgent {g : AG} {h0 : AH} {b : Nat} {S : Mem} {Q : AO → AH → Prop}  (hA : gB g ≤ b)  {r : (Int32 × Mem)} (hs : sX10_mostUrgent S  = some r) (hQ : Q (.ok (some (.int r.1))) (mb h0 b r.2)) : AW g MX10_mostUrgent 0 [some (.ref (b)), none, none] [] (mb h0 b S) Q := by
  unfold sX10_mostUrgent at hs
  refine AW.aload_n (z := 0) (am_r 0 rfl) rfl rfl ?_
  refine AW.iconst (am_r 1 rfl) rfl ci_0 ?_
  refine AW.putO (am_r 2 rfl) rfl klX10 (k := 6) (by omega) q1509 (Or.inl rfl) mb_ob hA rfl rfl (mbp_ob (by decide)) ?_
  refine olet_e (P := fun y => AW g MX10_mostUrgent 5 [some (.ref (b)), none, none] [] (mb h0 b y) Q) hs (fun S1 hs => ?_)
  refine AW.iconst (am_r 3 rfl) rfl ci_m1 ?_
  refine AW.istore_n (L' := [some (.ref (b)), some (.int ((-1 : Int32))), none]) (z := 1) (am_r 4 rfl) rfl (Nat.le_of_ble_eq_true rfl) rfl ?_
  refine AW.iconst (am_r 5 rfl) rfl ci_0 ?_
  refine AW.istore_n (L' := [some (.ref (b)), some (.int ((-1 : Int32))), some (.int ((0 : Int32)))]) (z := 2) (am_r 6 rfl) rfl (Nat.le_of_ble_eq_true rfl) rfl ?_
  exact dX10_mostUrgent_l9 hA   hs hQ
noncomputable def sX10_inQueues_l45_step  (p1 : Int32) (a : (Int32 × Int32 × Int32 × Mem)) : Option ((Int32 × Int32 × Int32 × Mem) ⊕ ((Int32 × Int32 × Mem) ⊕ (Int32 × Mem))) :=
  obind (sX10_of a.2.2.2 a.2.1 (3 : Int32)) fun r11 =>
  if r11 ≤ a.2.2.1 then
    oinr (
    some (.inl (a.1, a.2.1 + (1 : Int32), a.2.2.2)))
  else
    obind (sX10_of a.2.2.2 a.2.1 ((13 : Int32) + a.2.2.1)) fun r17 =>
    if r17 = p1 then
      olet (a.1 + (1 : Int32)) fun v22 =>
      some (.inl (v22, a.2.1, a.2.2.1 + (1 : Int32), a.2.2.2))
    else
      olet (a.1 + (0 : Int32)) fun v21 =>
      some (.inl (v21, a.2.1, a.2.2.1 + (1 : Int32), a.2.2.2))
noncomputable def sX10_inQueues_l45  (p1 : Int32) (a : (Int32 × Int32 × Int32 × Mem)) : Option ((Int32 × Int32 × Mem) ⊕ (Int32 × Mem)) := itw (sX10_inQueues_l45_step  p1) a
set_option maxRecDepth 100000 in
theorem dX10_inQueues_l45 {g : AG} {h0 : AH} {b : Nat} {Q : AO → AH → Prop} {p1 : Int32} (hA : gB g ≤ b)  {a : (Int32 × Int32 × Int32 × Mem)}  {r : ((Int32 × Int32 × Mem) ⊕ (Int32 × Mem))} (hs : sX10_inQueues_l45  p1 a = some r) (hc : ∀ a : (Int32 × Int32 × Mem), r = .inl a → AW g MX10_inQueues 32 [some (.ref (b)), some (.int (p1)), some (.int (a.1)), some (.int (a.2.1)), none] [] (mb h0 b a.2.2) Q) (he : ∀ z : (Int32 × Mem), r = .inr z → Q (.ok (some (.int z.1))) (mb h0 b z.2)) : AW g MX10_inQueues 45 [some (.ref (b)), some (.int (p1)), some (.int (a.1)), some (.int (a.2.1)), some (.int (a.2.2.1))] [] (mb h0 b a.2.2.2) Q := by
  refine itw_e (P := fun a => AW g MX10_inQueues 45 [some (.ref (b)), some (.int (p1)), some (.int (a.1)), some (.int (a.2.1)), some (.int (a.2.2.1))] [] (mb h0 b a.2.2.2) Q) (Post := fun r => (∀ a : (Int32 × Int32 × Mem), r = .inl a → AW g MX10_inQueues 32 [some (.ref (b)), some (.int (p1)), some (.int (a.1)), some (.int (a.2.1)), none] [] (mb h0 b a.2.2) Q) ∧ (∀ z : (Int32 × Mem), r = .inr z → Q (.ok (some (.int z.1))) (mb h0 b z.2))) (fun a r hs hc he  => ?_) hs ⟨hc, he⟩ 
  unfold sX10_inQueues_l45_step at hs
  refine AW.iload (am_r 28 rfl) rfl rfl ?_
  refine AW.aload_n (z := 0) (am_r 29 rfl) rfl rfl ?_
  refine AW.iload_n (z := 3) (am_r 30 rfl) rfl rfl ?_
  refine AW.iconst (am_r 31 rfl) rfl ci_3 ?_
  refine obind_e hs (fun r11 hg13 hs => ?_)
  refine AW.callV (N := MX10_of) (As := [.int (a.2.1), .int ((3 : Int32))]) (S := [(.int (a.2.2.1))]) (L0 := [some (.ref (b)), some (.int (a.2.1)), some (.int ((3 : Int32)))]) (b := b) (am_r 32 rfl) rfl ovX10_of q1615 rfl rfl mb_ob rfl rfl rfl rfl (dX10_of hA  hg13 (cQ_r ?_))
  refine AW.icmp_ge (tg := 84) (am_r 33 rfl) rfl rfl (fun hc14 => ?_) (fun hc14 => ?_)
  · replace hs := (if_pos hc14).symm.trans hs
    refine oinr_e hs (fun z15 hz16 hs => ?_)
    obtain ⟨hc, he⟩ := he _ hz16
    refine AW.iinc (v := a.2.1 + (1 : Int32)) (L' := [some (.ref (b)), some (.int (p1)), some (.int (a.1)), some (.int (a.2.1 + (1 : Int32))), some (.int (a.2.2.1))]) (am_r 50 rfl) rfl (Nat.le_of_ble_eq_true rfl) rfl (congrArg (fun z => a.2.1 + z) ci_1) rfl ?_
    refine AW.goto (tg := 32) (am_r 51 rfl) rfl ?_
    refine AW.lessL (L' := [some (.ref (b)), some (.int (p1)), some (.int (a.1)), some (.int (a.2.1 + (1 : Int32))), none]) ⟨rfl, rfl, rfl, rfl, trivial⟩ ?_
    have hr := (Option.some.inj hs).symm
    exact hc (a.1, a.2.1 + (1 : Int32), a.2.2.2) hr 
  · replace hs := (if_neg hc14).symm.trans hs
    refine AW.iload_n (z := 2) (am_r 34 rfl) rfl rfl ?_
    refine AW.aload_n (z := 0) (am_r 35 rfl) rfl rfl ?_
    refine AW.iload_n (z := 3) (am_r 36 rfl) rfl rfl ?_
    refine AW.bipush (am_r 37 rfl) rfl cb_13 ?_
    refine AW.iload (am_r 38 rfl) rfl rfl ?_
    refine AW.iadd (am_r 39 rfl) rfl ?_
    refine obind_e hs (fun r17 hg19 hs => ?_)
    refine AW.callV (N := MX10_of) (As := [.int (a.2.1), .int ((13 : Int32) + a.2.2.1)]) (S := [(.int (a.1))]) (L0 := [some (.ref (b)), some (.int (a.2.1)), some (.int ((13 : Int32) + a.2.2.1))]) (b := b) (am_r 40 rfl) rfl ovX10_of q1615 rfl rfl mb_ob rfl rfl rfl rfl (dX10_of hA  hg19 (cQ_r ?_))
    refine AW.iload_n (z := 1) (am_r 41 rfl) rfl rfl ?_
    refine AW.icmp_ne (tg := 75) (am_r 42 rfl) rfl rfl (fun hc20 => ?_) (fun hc20 => ?_)
    · replace hs := (if_neg hc20).symm.trans hs
      refine AW.iconst (am_r 45 rfl) rfl ci_0 ?_
      refine AW.iadd (am_r 46 rfl) rfl ?_
      refine olet_e (P := fun y => AW g MX10_inQueues 77 [some (.ref (b)), some (.int (p1)), some (.int (a.1)), some (.int (a.2.1)), some (.int (a.2.2.1))] [(.int (y))] (mb h0 b a.2.2.2) Q) hs (fun v21 hs => ?_)
      refine AW.istore_n (L' := [some (.ref (b)), some (.int (p1)), some (.int (v21)), some (.int (a.2.1)), some (.int (a.2.2.1))]) (z := 2) (am_r 47 rfl) rfl (Nat.le_of_ble_eq_true rfl) rfl ?_
      refine AW.iinc (v := a.2.2.1 + (1 : Int32)) (L' := [some (.ref (b)), some (.int (p1)), some (.int (v21)), some (.int (a.2.1)), some (.int (a.2.2.1 + (1 : Int32)))]) (am_r 48 rfl) rfl (Nat.le_of_ble_eq_true rfl) rfl (congrArg (fun z => a.2.2.1 + z) ci_1) rfl ?_
      refine AW.goto (tg := 45) (am_r 49 rfl) rfl ?_
      have hr := (Option.some.inj hs).symm
      exact hc (v21, a.2.1, a.2.2.1 + (1 : Int32), a.2.2.2) hr 
    · replace hs := (if_pos hc20).symm.trans hs
      refine AW.iconst (am_r 43 rfl) rfl ci_1 ?_
      refine AW.goto (tg := 76) (am_r 44 rfl) rfl ?_
      refine AW.iadd (am_r 46 rfl) rfl ?_
      refine olet_e (P := fun y => AW g MX10_inQueues 77 [some (.ref (b)), some (.int (p1)), some (.int (a.1)), some (.int (a.2.1)), some (.int (a.2.2.1))] [(.int (y))] (mb h0 b a.2.2.2) Q) hs (fun v22 hs => ?_)
      refine AW.istore_n (L' := [some (.ref (b)), some (.int (p1)), some (.int (v22)), some (.int (a.2.1)), some (.int (a.2.2.1))]) (z := 2) (am_r 47 rfl) rfl (Nat.le_of_ble_eq_true rfl) rfl ?_
      refine AW.iinc (v := a.2.2.1 + (1 : Int32)) (L' := [some (.ref (b)), some (.int (p1)), some (.int (v22)), some (.int (a.2.1)), some (.int (a.2.2.1 + (1 : Int32)))]) (am_r 48 rfl) rfl (Nat.le_of_ble_eq_true rfl) rfl (congrArg (fun z => a.2.2.1 + z) ci_1) rfl ?_
      refine AW.goto (tg := 45) (am_r 49 rfl) rfl ?_
      have hr := (Option.some.inj hs).symm
      exact hc (v22, a.2.1, a.2.2.1 + (1 : Int32), a.2.2.2) hr 
noncomputable def sX10_inQueues_l32_step  (p1 : Int32) (a : (Int32 × Int32 × Mem)) : Option ((Int32 × Int32 × Mem) ⊕ (Int32 × Mem)) :=
  if (gi a.2.2 5 (4 : Int32).toNatClampNeg 0) ≤ a.2.1 then
    oinr (
    some ((a.1, a.2.2)))
  else
    sX10_inQueues_l45  p1 (a.1, a.2.1, (0 : Int32), a.2.2)
noncomputable def sX10_inQueues_l32  (p1 : Int32) (a : (Int32 × Int32 × Mem)) : Option (Int32 × Mem) := itw (sX10_inQueues_l32_step  p1) a
set_option maxRecDepth 100000 in
theorem dX10_inQueues_l32 {g : AG} {h0 : AH} {b : Nat} {Q : AO → AH → Prop} {p1 : Int32} (hA : gB g ≤ b)  {a : (Int32 × Int32 × Mem)}  {r : (Int32 × Mem)} (hs : sX10_inQueues_l32  p1 a = some r) (hQ : Q (.ok (some (.int r.1))) (mb h0 b r.2)) : AW g MX10_inQueues 32 [some (.ref (b)), some (.int (p1)), some (.int (a.1)), some (.int (a.2.1)), none] [] (mb h0 b a.2.2) Q := by
  refine itw_e (P := fun a => AW g MX10_inQueues 32 [some (.ref (b)), some (.int (p1)), some (.int (a.1)), some (.int (a.2.1)), none] [] (mb h0 b a.2.2) Q) (Post := fun r => Q (.ok (some (.int r.1))) (mb h0 b r.2)) (fun a r hs hc he  => ?_) hs hQ 
  unfold sX10_inQueues_l32_step at hs
  refine AW.iload_n (z := 3) (am_r 20 rfl) rfl rfl ?_
  refine AW.aload_n (z := 0) (am_r 21 rfl) rfl rfl ?_
  refine AW.getO (am_r 22 rfl) rfl klX10 (k := 5) (by omega) q1508 mb_ob rfl ?_
  refine AW.iconst (am_r 23 rfl) rfl ci_4 ?_
  refine AW.iald (am_r 24 rfl) rfl mb_a4 (vp_of_inb rfl) rfl ?_
  refine AW.icmp_ge (tg := 90) (am_r 25 rfl) rfl rfl (fun hc8 => ?_) (fun hc8 => ?_)
  · replace hs := (if_pos hc8).symm.trans hs
    refine oinr_e hs (fun z9 hz10 hs => ?_)
    have hQ := he _ hz10
    refine AW.iload_n (z := 2) (am_r 52 rfl) rfl rfl ?_
    have hr := (Option.some.inj hs).symm
    subst hr
    exact AW.iret (am_r 53 rfl) rfl hQ
  · replace hs := (if_neg hc8).symm.trans hs
    refine AW.iconst (am_r 26 rfl) rfl ci_0 ?_
    refine AW.istore (L' := [some (.ref (b)), some (.int (p1)), some (.int (a.1)), some (.int (a.2.1)), some (.int ((0 : Int32)))]) (am_r 27 rfl) rfl (Nat.le_of_ble_eq_true rfl) rfl ?_
    exact dX10_inQueues_l45 hA   hs hc he
noncomputable def sX10_inQueues_j19 (S : Mem) (p1 : Int32) (y0 : Int32) : Option (Int32 × Mem) :=
  olet (sX10_throwsIf S y0 (1 : Int32)) fun r5 =>
  if r5.1 = 0 then
    sX10_inQueues_l32  p1 ((0 : Int32), (0 : Int32), r5.2)
  else
    some (((0 : Int32), r5.2))
set_option maxRecDepth 100000 in
theorem dX10_inQueues_j19 {g : AG} {h0 : AH} {b : Nat} {S : Mem} {Q : AO → AH → Prop} {p1 : Int32} {y0 : Int32} (hA : gB g ≤ b)  (hk0 : y0 = 0 ∨ y0 = 1) {r : (Int32 × Mem)} (hs : sX10_inQueues_j19 S p1 y0 = some r) (hQ : Q (.ok (some (.int r.1))) (mb h0 b r.2)) : AW g MX10_inQueues 19 [some (.ref (b)), some (.int (p1)), none, none, none] [(.int (y0)), (.ref (b))] (mb h0 b S) Q := by
  unfold sX10_inQueues_j19 at hs
  refine AW.iconst (am_r 11 rfl) rfl ci_1 ?_
  refine AW.callV (N := MX10_throwsIf) (As := [.int (y0), .int ((1 : Int32))]) (S := []) (L0 := [some (.ref (b)), some (.int (y0)), some (.int ((1 : Int32)))]) (b := b) (am_r 12 rfl) rfl ovX10_throwsIf q1607 rfl rfl mb_ob rfl rfl rfl rfl (dX10_throwsIf hA hk0 rfl (fun hok6 => (cQ_r ?_)))
  refine olet_e (P := fun (y : (Int32 × Mem)) => (y.1 = 0 ∨ y.1 = 1) → AW g MX10_inQueues 23 [some (.ref (b)), some (.int (p1)), none, none, none] [(.int (y.1))] (mb h0 b y.2) Q) hs (fun r5 hs hok6 => ?_) hok6
  refine AW.if_eq (tg := 28) (am_r 13 rfl) rfl rfl (fun hc7 => ?_) (fun hc7 => ?_)
  · replace hs := (if_pos hc7).symm.trans hs
    refine AW.iconst (am_r 16 rfl) rfl ci_0 ?_
    refine AW.istore_n (L' := [some (.ref (b)), some (.int (p1)), some (.int ((0 : Int32))), none, none]) (z := 2) (am_r 17 rfl) rfl (Nat.le_of_ble_eq_true rfl) rfl ?_
    refine AW.iconst (am_r 18 rfl) rfl ci_0 ?_
    refine AW.istore_n (L' := [some (.ref (b)), some (.int (p1)), some (.int ((0 : Int32))), some (.int ((0 : Int32))), none]) (z := 3) (am_r 19 rfl) rfl (Nat.le_of_ble_eq_true rfl) rfl ?_
    exact dX10_inQueues_l32 hA   hs hQ
  · replace hs := (if_neg hc7).symm.trans hs
    refine AW.iconst (am_r 14 rfl) rfl ci_0 ?_
    have hr := (Option.some.inj hs).symm
    subst hr
    exact AW.iret (am_r 15 rfl) rfl hQ
noncomputable def sX10_inQueues (S : Mem) (p1 : Int32) : Option (Int32 × Mem) :=
  olet (si S 100 6 0 ((0 : Int32))) fun S1 =>
  if (sX10_isRecipe S1 p1) = 0 then
    sX10_inQueues_j19 S1 p1 (1 : Int32)
  else
    sX10_inQueues_j19 S1 p1 (0 : Int32)
set_option maxRecDepth 100000 in
theorem dX10_inQueues {g : AG} {h0 : AH} {b : Nat} {S : Mem} {Q : AO → AH → Prop} {p1 : Int32} (hA : gB g ≤ b)  {r : (Int32 × Mem)} (hs : sX10_inQueues S p1 = some r) (hQ : Q (.ok (some (.int r.1))) (mb h0 b r.2)) : AW g MX10_inQueues 0 [some (.ref (b)), some (.int (p1)), none, none, none] [] (mb h0 b S) Q := by
  unfold sX10_inQueues at hs
  refine AW.aload_n (z := 0) (am_r 0 rfl) rfl rfl ?_
  refine AW.iconst (am_r 1 rfl) rfl ci_0 ?_
  refine AW.putO (am_r 2 rfl) rfl klX10 (k := 6) (by omega) q1509 (Or.inl rfl) mb_ob hA rfl rfl (mbp_ob (by decide)) ?_
  refine olet_e (P := fun y => AW g MX10_inQueues 5 [some (.ref (b)), some (.int (p1)), none, none, none] [] (mb h0 b y) Q) hs (fun S1 hs => ?_)
  refine AW.aload_n (z := 0) (am_r 3 rfl) rfl rfl ?_
  refine AW.aload_n (z := 0) (am_r 4 rfl) rfl rfl ?_
  refine AW.iload_n (z := 1) (am_r 5 rfl) rfl rfl ?_
  refine AW.callV (N := MX10_isRecipe) (As := [.int (p1)]) (S := [(.ref (b))]) (L0 := [some (.ref (b)), some (.int (p1))]) (b := b) (am_r 6 rfl) rfl ovX10_isRecipe q1639 rfl rfl mb_ob rfl rfl rfl rfl (dX10_isRecipe hA  rfl (fun hok3 => (cQ_r ?_)))
  refine AW.if_ne (tg := 18) (am_r 7 rfl) rfl rfl (fun hc4 => ?_) (fun hc4 => ?_)
  · replace hs := (if_neg hc4).symm.trans hs
    refine AW.iconst (am_r 10 rfl) rfl ci_0 ?_
    exact dX10_inQueues_j19 hA  (Or.inl rfl) hs hQ
  · replace hs := (if_pos hc4).symm.trans hs
    refine AW.iconst (am_r 8 rfl) rfl ci_1 ?_
    refine AW.goto (tg := 19) (am_r 9 rfl) rfl ?_
    exact dX10_inQueues_j19 hA  (Or.inr rfl) hs hQ
noncomputable def sX10_dryIn_j19 (S : Mem) (p1 : Int32) (y0 : Int32) : Option (Int32 × Mem) :=
  olet (sX10_throwsIf S y0 (1 : Int32)) fun r5 =>
  if r5.1 = 0 then
    obind (sX10_inPress r5.2 p1) fun r8 =>
    if r8 = (-1 : Int32) then
      some (((0 : Int32), r5.2))
    else
      obind (sX10_inPress r5.2 p1) fun r12 =>
      obind (sX10_of r5.2 r12 (2 : Int32)) fun r15 =>
      some ((r15, r5.2))
  else
    some (((0 : Int32), r5.2))
set_option maxRecDepth 100000 in
theorem dX10_dryIn_j19 {g : AG} {h0 : AH} {b : Nat} {S : Mem} {Q : AO → AH → Prop} {p1 : Int32} {y0 : Int32} (hA : gB g ≤ b)  (hk0 : y0 = 0 ∨ y0 = 1) {r : (Int32 × Mem)} (hs : sX10_dryIn_j19 S p1 y0 = some r) (hQ : Q (.ok (some (.int r.1))) (mb h0 b r.2)) : AW g MX10_dryIn 19 [some (.ref (b)), some (.int (p1))] [(.int (y0)), (.ref (b))] (mb h0 b S) Q := by
  unfold sX10_dryIn_j19 at hs
  refine AW.iconst (am_r 11 rfl) rfl ci_1 ?_
  refine AW.callV (N := MX10_throwsIf) (As := [.int (y0), .int ((1 : Int32))]) (S := []) (L0 := [some (.ref (b)), some (.int (y0)), some (.int ((1 : Int32)))]) (b := b) (am_r 12 rfl) rfl ovX10_throwsIf q1607 rfl rfl mb_ob rfl rfl rfl rfl (dX10_throwsIf hA hk0 rfl (fun hok6 => (cQ_r ?_)))
  refine olet_e (P := fun (y : (Int32 × Mem)) => (y.1 = 0 ∨ y.1 = 1) → AW g MX10_dryIn 23 [some (.ref (b)), some (.int (p1))] [(.int (y.1))] (mb h0 b y.2) Q) hs (fun r5 hs hok6 => ?_) hok6
  refine AW.if_ne (tg := 35) (am_r 13 rfl) rfl rfl (fun hc7 => ?_) (fun hc7 => ?_)
  · replace hs := (if_neg hc7).symm.trans hs
    refine AW.iconst (am_r 19 rfl) rfl ci_0 ?_
    refine AW.goto (tg := 49) (am_r 20 rfl) rfl ?_
    have hr := (Option.some.inj hs).symm
    subst hr
    exact AW.iret (am_r 27 rfl) rfl hQ
  · replace hs := (if_pos hc7).symm.trans hs
    refine AW.aload_n (z := 0) (am_r 14 rfl) rfl rfl ?_
    refine AW.iload_n (z := 1) (am_r 15 rfl) rfl rfl ?_
    refine obind_e hs (fun r8 hg10 hs => ?_)
    refine AW.callV (N := MX10_inPress) (As := [.int (p1)]) (S := []) (L0 := [some (.ref (b)), some (.int (p1)), none]) (b := b) (am_r 16 rfl) rfl ovX10_inPress q1760 rfl rfl mb_ob rfl rfl rfl rfl (dX10_inPress hA  hg10 (cQ_r ?_))
    refine AW.iconst (am_r 17 rfl) rfl ci_m1 ?_
    refine AW.icmp_ne (tg := 39) (am_r 18 rfl) rfl rfl (fun hc11 => ?_) (fun hc11 => ?_)
    · replace hs := (if_neg hc11).symm.trans hs
      refine AW.aload_n (z := 0) (am_r 21 rfl) rfl rfl ?_
      refine AW.aload_n (z := 0) (am_r 22 rfl) rfl rfl ?_
      refine AW.iload_n (z := 1) (am_r 23 rfl) rfl rfl ?_
      refine obind_e hs (fun r12 hg14 hs => ?_)
      refine AW.callV (N := MX10_inPress) (As := [.int (p1)]) (S := [(.ref (b))]) (L0 := [some (.ref (b)), some (.int (p1)), none]) (b := b) (am_r 24 rfl) rfl ovX10_inPress q1760 rfl rfl mb_ob rfl rfl rfl rfl (dX10_inPress hA  hg14 (cQ_r ?_))
      refine AW.iconst (am_r 25 rfl) rfl ci_2 ?_
      refine obind_e hs (fun r15 hg17 hs => ?_)
      refine AW.callV (N := MX10_of) (As := [.int (r12), .int ((2 : Int32))]) (S := []) (L0 := [some (.ref (b)), some (.int (r12)), some (.int ((2 : Int32)))]) (b := b) (am_r 26 rfl) rfl ovX10_of q1615 rfl rfl mb_ob rfl rfl rfl rfl (dX10_of hA  hg17 (cQ_r ?_))
      have hr := (Option.some.inj hs).symm
      subst hr
      exact AW.iret (am_r 27 rfl) rfl hQ
    · replace hs := (if_pos hc11).symm.trans hs
      refine AW.iconst (am_r 19 rfl) rfl ci_0 ?_
      refine AW.goto (tg := 49) (am_r 20 rfl) rfl ?_
      have hr := (Option.some.inj hs).symm
      subst hr
      exact AW.iret (am_r 27 rfl) rfl hQ
noncomputable def sX10_dryIn (S : Mem) (p1 : Int32) : Option (Int32 × Mem) :=
  olet (si S 100 6 0 ((0 : Int32))) fun S1 =>
  if (sX10_isPress S1 p1) = 0 then
    sX10_dryIn_j19 S1 p1 (1 : Int32)
  else
    sX10_dryIn_j19 S1 p1 (0 : Int32)
set_option maxRecDepth 100000 in
theorem dX10_dryIn {g : AG} {h0 : AH} {b : Nat} {S : Mem} {Q : AO → AH → Prop} {p1 : Int32} (hA : gB g ≤ b)  {r : (Int32 × Mem)} (hs : sX10_dryIn S p1 = some r) (hQ : Q (.ok (some (.int r.1))) (mb h0 b r.2)) : AW g MX10_dryIn 0 [some (.ref (b)), some (.int (p1))] [] (mb h0 b S) Q := by
  unfold sX10_dryIn at hs
  refine AW.aload_n (z := 0) (am_r 0 rfl) rfl rfl ?_
  refine AW.iconst (am_r 1 rfl) rfl ci_0 ?_
  refine AW.putO (am_r 2 rfl) rfl klX10 (k := 6) (by omega) q1509 (Or.inl rfl) mb_ob hA rfl rfl (mbp_ob (by decide)) ?_
  refine olet_e (P := fun y => AW g MX10_dryIn 5 [some (.ref (b)), some (.int (p1))] [] (mb h0 b y) Q) hs (fun S1 hs => ?_)
  refine AW.aload_n (z := 0) (am_r 3 rfl) rfl rfl ?_
  refine AW.aload_n (z := 0) (am_r 4 rfl) rfl rfl ?_
  refine AW.iload_n (z := 1) (am_r 5 rfl) rfl rfl ?_
  refine AW.callV (N := MX10_isPress) (As := [.int (p1)]) (S := [(.ref (b))]) (L0 := [some (.ref (b)), some (.int (p1))]) (b := b) (am_r 6 rfl) rfl ovX10_isPress q1811 rfl rfl mb_ob rfl rfl rfl rfl (dX10_isPress hA  rfl (fun hok3 => (cQ_r ?_)))
  refine AW.if_ne (tg := 18) (am_r 7 rfl) rfl rfl (fun hc4 => ?_) (fun hc4 => ?_)
  · replace hs := (if_neg hc4).symm.trans hs
    refine AW.iconst (am_r 10 rfl) rfl ci_0 ?_
    exact dX10_dryIn_j19 hA  (Or.inl rfl) hs hQ
  · replace hs := (if_pos hc4).symm.trans hs
    refine AW.iconst (am_r 8 rfl) rfl ci_1 ?_
    refine AW.goto (tg := 19) (am_r 9 rfl) rfl ?_
    exact dX10_dryIn_j19 hA  (Or.inr rfl) hs hQ
noncomputable def sX10_rank_l32_step  (p1 : Int32) (a : (Int32 × Int32 × Mem)) : Option ((Int32 × Int32 × Mem) ⊕ (Int32 × Mem)) :=
  if (gi a.2.2 5 (4 : Int32).toNatClampNeg 0) ≤ a.2.1 then
    oinr (
    some ((a.1, a.2.2)))
  else
    obind (sX10_of a.2.2 a.2.1 (0 : Int32)) fun r11 =>
    obind (sX10_of a.2.2 p1 (0 : Int32)) fun r14 =>
    if r14 ≤ r11 then
      olet (a.1 + (0 : Int32)) fun v18 =>
      some (.inl (v18, a.2.1 + (1 : Int32), a.2.2))
    else
      olet (a.1 + (1 : Int32)) fun v19 =>
      some (.inl (v19, a.2.1 + (1 : Int32), a.2.2))
noncomputable def sX10_rank_l32  (p1 : Int32) (a : (Int32 × Int32 × Mem)) : Option (Int32 × Mem) := itw (sX10_rank_l32_step  p1) a
set_option maxRecDepth 100000 in
theorem dX10_rank_l32 {g : AG} {h0 : AH} {b : Nat} {Q : AO → AH → Prop} {p1 : Int32} (hA : gB g ≤ b)  {a : (Int32 × Int32 × Mem)}  {r : (Int32 × Mem)} (hs : sX10_rank_l32  p1 a = some r) (hQ : Q (.ok (some (.int r.1))) (mb h0 b r.2)) : AW g MX10_rank 32 [some (.ref (b)), some (.int (p1)), some (.int (a.1)), some (.int (a.2.1))] [] (mb h0 b a.2.2) Q := by
  refine itw_e (P := fun a => AW g MX10_rank 32 [some (.ref (b)), some (.int (p1)), some (.int (a.1)), some (.int (a.2.1))] [] (mb h0 b a.2.2) Q) (Post := fun r => Q (.ok (some (.int r.1))) (mb h0 b r.2)) (fun a r hs hc he  => ?_) hs hQ 
  unfold sX10_rank_l32_step at hs
  refine AW.iload_n (z := 3) (am_r 20 rfl) rfl rfl ?_
  refine AW.aload_n (z := 0) (am_r 21 rfl) rfl rfl ?_
  refine AW.getO (am_r 22 rfl) rfl klX10 (k := 5) (by omega) q1508 mb_ob rfl ?_
  refine AW.iconst (am_r 23 rfl) rfl ci_4 ?_
  refine AW.iald (am_r 24 rfl) rfl mb_a4 (vp_of_inb rfl) rfl ?_
  refine AW.icmp_ge (tg := 71) (am_r 25 rfl) rfl rfl (fun hc8 => ?_) (fun hc8 => ?_)
  · replace hs := (if_pos hc8).symm.trans hs
    refine oinr_e hs (fun z9 hz10 hs => ?_)
    have hQ := he _ hz10
    refine AW.iload_n (z := 2) (am_r 43 rfl) rfl rfl ?_
    have hr := (Option.some.inj hs).symm
    subst hr
    exact AW.iret (am_r 44 rfl) rfl hQ
  · replace hs := (if_neg hc8).symm.trans hs
    refine AW.iload_n (z := 2) (am_r 26 rfl) rfl rfl ?_
    refine AW.aload_n (z := 0) (am_r 27 rfl) rfl rfl ?_
    refine AW.iload_n (z := 3) (am_r 28 rfl) rfl rfl ?_
    refine AW.iconst (am_r 29 rfl) rfl ci_0 ?_
    refine obind_e hs (fun r11 hg13 hs => ?_)
    refine AW.callV (N := MX10_of) (As := [.int (a.2.1), .int ((0 : Int32))]) (S := [(.int (a.1))]) (L0 := [some (.ref (b)), some (.int (a.2.1)), some (.int ((0 : Int32)))]) (b := b) (am_r 30 rfl) rfl ovX10_of q1615 rfl rfl mb_ob rfl rfl rfl rfl (dX10_of hA  hg13 (cQ_r ?_))
    refine AW.aload_n (z := 0) (am_r 31 rfl) rfl rfl ?_
    refine AW.iload_n (z := 1) (am_r 32 rfl) rfl rfl ?_
    refine AW.iconst (am_r 33 rfl) rfl ci_0 ?_
    refine obind_e hs (fun r14 hg16 hs => ?_)
    refine AW.callV (N := MX10_of) (As := [.int (p1), .int ((0 : Int32))]) (S := [(.int (r11)), (.int (a.1))]) (L0 := [some (.ref (b)), some (.int (p1)), some (.int ((0 : Int32)))]) (b := b) (am_r 34 rfl) rfl ovX10_of q1615 rfl rfl mb_ob rfl rfl rfl rfl (dX10_of hA  hg16 (cQ_r ?_))
    refine AW.icmp_ge (tg := 62) (am_r 35 rfl) rfl rfl (fun hc17 => ?_) (fun hc17 => ?_)
    · replace hs := (if_pos hc17).symm.trans hs
      refine AW.iconst (am_r 38 rfl) rfl ci_0 ?_
      refine AW.iadd (am_r 39 rfl) rfl ?_
      refine olet_e (P := fun y => AW g MX10_rank 64 [some (.ref (b)), some (.int (p1)), some (.int (a.1)), some (.int (a.2.1))] [(.int (y))] (mb h0 b a.2.2) Q) hs (fun v18 hs => ?_)
      refine AW.istore_n (L' := [some (.ref (b)), some (.int (p1)), some (.int (v18)), some (.int (a.2.1))]) (z := 2) (am_r 40 rfl) rfl (Nat.le_of_ble_eq_true rfl) rfl ?_
      refine AW.iinc (v := a.2.1 + (1 : Int32)) (L' := [some (.ref (b)), some (.int (p1)), some (.int (v18)), some (.int (a.2.1 + (1 : Int32)))]) (am_r 41 rfl) rfl (Nat.le_of_ble_eq_true rfl) rfl (congrArg (fun z => a.2.1 + z) ci_1) rfl ?_
      refine AW.goto (tg := 32) (am_r 42 rfl) rfl ?_
      have hr := (Option.some.inj hs).symm
      exact hc (v18, a.2.1 + (1 : Int32), a.2.2) hr 
    · replace hs := (if_neg hc17).symm.trans hs
      refine AW.iconst (am_r 36 rfl) rfl ci_1 ?_
      refine AW.goto (tg := 63) (am_r 37 rfl) rfl ?_
      refine AW.iadd (am_r 39 rfl) rfl ?_
      refine olet_e (P := fun y => AW g MX10_rank 64 [some (.ref (b)), some (.int (p1)), some (.int (a.1)), some (.int (a.2.1))] [(.int (y))] (mb h0 b a.2.2) Q) hs (fun v19 hs => ?_)
      refine AW.istore_n (L' := [some (.ref (b)), some (.int (p1)), some (.int (v19)), some (.int (a.2.1))]) (z := 2) (am_r 40 rfl) rfl (Nat.le_of_ble_eq_true rfl) rfl ?_
      refine AW.iinc (v := a.2.1 + (1 : Int32)) (L' := [some (.ref (b)), some (.int (p1)), some (.int (v19)), some (.int (a.2.1 + (1 : Int32)))]) (am_r 41 rfl) rfl (Nat.le_of_ble_eq_true rfl) rfl (congrArg (fun z => a.2.1 + z) ci_1) rfl ?_
      refine AW.goto (tg := 32) (am_r 42 rfl) rfl ?_
      have hr := (Option.some.inj hs).symm
      exact hc (v19, a.2.1 + (1 : Int32), a.2.2) hr 
noncomputable def sX10_rank_j19 (S : Mem) (p1 : Int32) (y0 : Int32) : Option (Int32 × Mem) :=
  olet (sX10_throwsIf S y0 (1 : Int32)) fun r5 =>
  if r5.1 = 0 then
    sX10_rank_l32  p1 ((0 : Int32), (0 : Int32), r5.2)
  else
    some (((0 : Int32), r5.2))
set_option maxRecDepth 100000 in
theorem dX10_rank_j19 {g : AG} {h0 : AH} {b : Nat} {S : Mem} {Q : AO → AH → Prop} {p1 : Int32} {y0 : Int32} (hA : gB g ≤ b)  (hk0 : y0 = 0 ∨ y0 = 1) {r : (Int32 × Mem)} (hs : sX10_rank_j19 S p1 y0 = some r) (hQ : Q (.ok (some (.int r.1))) (mb h0 b r.2)) : AW g MX10_rank 19 [some (.ref (b)), some (.int (p1)), none, none] [(.int (y0)), (.ref (b))] (mb h0 b S) Q := by
  unfold sX10_rank_j19 at hs
  refine AW.iconst (am_r 11 rfl) rfl ci_1 ?_
  refine AW.callV (N := MX10_throwsIf) (As := [.int (y0), .int ((1 : Int32))]) (S := []) (L0 := [some (.ref (b)), some (.int (y0)), some (.int ((1 : Int32)))]) (b := b) (am_r 12 rfl) rfl ovX10_throwsIf q1607 rfl rfl mb_ob rfl rfl rfl rfl (dX10_throwsIf hA hk0 rfl (fun hok6 => (cQ_r ?_)))
  refine olet_e (P := fun (y : (Int32 × Mem)) => (y.1 = 0 ∨ y.1 = 1) → AW g MX10_rank 23 [some (.ref (b)), some (.int (p1)), none, none] [(.int (y.1))] (mb h0 b y.2) Q) hs (fun r5 hs hok6 => ?_) hok6
  refine AW.if_eq (tg := 28) (am_r 13 rfl) rfl rfl (fun hc7 => ?_) (fun hc7 => ?_)
  · replace hs := (if_pos hc7).symm.trans hs
    refine AW.iconst (am_r 16 rfl) rfl ci_0 ?_
    refine AW.istore_n (L' := [some (.ref (b)), some (.int (p1)), some (.int ((0 : Int32))), none]) (z := 2) (am_r 17 rfl) rfl (Nat.le_of_ble_eq_true rfl) rfl ?_
    refine AW.iconst (am_r 18 rfl) rfl ci_0 ?_
    refine AW.istore_n (L' := [some (.ref (b)), some (.int (p1)), some (.int ((0 : Int32))), some (.int ((0 : Int32)))]) (z := 3) (am_r 19 rfl) rfl (Nat.le_of_ble_eq_true rfl) rfl ?_
    exact dX10_rank_l32 hA   hs hQ
  · replace hs := (if_neg hc7).symm.trans hs
    refine AW.iconst (am_r 14 rfl) rfl ci_0 ?_
    have hr := (Option.some.inj hs).symm
    subst hr
    exact AW.iret (am_r 15 rfl) rfl hQ
noncomputable def sX10_rank (S : Mem) (p1 : Int32) : Option (Int32 × Mem) :=
  olet (si S 100 6 0 ((0 : Int32))) fun S1 =>
  if (sX10_isObject S1 p1) = 0 then
    sX10_rank_j19 S1 p1 (1 : Int32)
  else
    sX10_rank_j19 S1 p1 (0 : Int32)
set_option maxRecDepth 100000 in
theorem dX10_rank {g : AG} {h0 : AH} {b : Nat} {S : Mem} {Q : AO → AH → Prop} {p1 : Int32} (hA : gB g ≤ b)  {r : (Int32 × Mem)} (hs : sX10_rank S p1 = some r) (hQ : Q (.ok (some (.int r.1))) (mb h0 b r.2)) : AW g MX10_rank 0 [some (.ref (b)), some (.int (p1)), none, none] [] (mb h0 b S) Q := by
  unfold sX10_rank at hs
  refine AW.aload_n (z := 0) (am_r 0 rfl) rfl rfl ?_
  refine AW.iconst (am_r 1 rfl) rfl ci_0 ?_
  refine AW.putO (am_r 2 rfl) rfl klX10 (k := 6) (by omega) q1509 (Or.inl rfl) mb_ob hA rfl rfl (mbp_ob (by decide)) ?_
  refine olet_e (P := fun y => AW g MX10_rank 5 [some (.ref (b)), some (.int (p1)), none, none] [] (mb h0 b y) Q) hs (fun S1 hs => ?_)
  refine AW.aload_n (z := 0) (am_r 3 rfl) rfl rfl ?_
  refine AW.aload_n (z := 0) (am_r 4 rfl) rfl rfl ?_
  refine AW.iload_n (z := 1) (am_r 5 rfl) rfl rfl ?_
  refine AW.callV (N := MX10_isObject) (As := [.int (p1)]) (S := [(.ref (b))]) (L0 := [some (.ref (b)), some (.int (p1))]) (b := b) (am_r 6 rfl) rfl ovX10_isObject q1603 rfl rfl mb_ob rfl rfl rfl rfl (dX10_isObject hA  rfl (fun hok3 => (cQ_r ?_)))
  refine AW.if_ne (tg := 18) (am_r 7 rfl) rfl rfl (fun hc4 => ?_) (fun hc4 => ?_)
  · replace hs := (if_neg hc4).symm.trans hs
    refine AW.iconst (am_r 10 rfl) rfl ci_0 ?_
    exact dX10_rank_j19 hA  (Or.inl rfl) hs hQ
  · replace hs := (if_pos hc4).symm.trans hs
    refine AW.iconst (am_r 8 rfl) rfl ci_1 ?_
    refine AW.goto (tg := 19) (am_r 9 rfl) rfl ?_
    exact dX10_rank_j19 hA  (Or.inr rfl) hs hQ
noncomputable def sX10_below_l9_step  (p1 : Int32) (a : (Int32 × Int32 × Mem)) : Option ((Int32 × Int32 × Mem) ⊕ (Int32 × Mem)) :=
  if (gi a.2.2 5 (4 : Int32).toNatClampNeg 0) ≤ a.2.1 then
    oinr (
    some ((a.1, a.2.2)))
  else
    obind (sX10_of a.2.2 a.2.1 (0 : Int32)) fun r5 =>
    if p1 ≤ r5 then
      olet (a.1 ||| (0 : Int32)) fun v9 =>
      some (.inl (v9, a.2.1 + (1 : Int32), a.2.2))
    else
      olet (a.1 ||| ((1 : Int32) <<< (a.2.1 &&& 31))) fun v10 =>
      some (.inl (v10, a.2.1 + (1 : Int32), a.2.2))
noncomputable def sX10_below_l9  (p1 : Int32) (a : (Int32 × Int32 × Mem)) : Option (Int32 × Mem) := itw (sX10_below_l9_step  p1) a
set_option maxRecDepth 100000 in
theorem dX10_below_l9 {g : AG} {h0 : AH} {b : Nat} {Q : AO → AH → Prop} {p1 : Int32} (hA : gB g ≤ b)  {a : (Int32 × Int32 × Mem)}  {r : (Int32 × Mem)} (hs : sX10_below_l9  p1 a = some r) (hQ : Q (.ok (some (.int r.1))) (mb h0 b r.2)) : AW g MX10_below 9 [some (.ref (b)), some (.int (p1)), some (.int (a.1)), some (.int (a.2.1))] [] (mb h0 b a.2.2) Q := by
  refine itw_e (P := fun a => AW g MX10_below 9 [some (.ref (b)), some (.int (p1)), some (.int (a.1)), some (.int (a.2.1))] [] (mb h0 b a.2.2) Q) (Post := fun r => Q (.ok (some (.int r.1))) (mb h0 b r.2)) (fun a r hs hc he  => ?_) hs hQ 
  unfold sX10_below_l9_step at hs
  refine AW.iload_n (z := 3) (am_r 7 rfl) rfl rfl ?_
  refine AW.aload_n (z := 0) (am_r 8 rfl) rfl rfl ?_
  refine AW.getO (am_r 9 rfl) rfl klX10 (k := 5) (by omega) q1508 mb_ob rfl ?_
  refine AW.iconst (am_r 10 rfl) rfl ci_4 ?_
  refine AW.iald (am_r 11 rfl) rfl mb_a4 (vp_of_inb rfl) rfl ?_
  refine AW.icmp_ge (tg := 45) (am_r 12 rfl) rfl rfl (fun hc2 => ?_) (fun hc2 => ?_)
  · replace hs := (if_pos hc2).symm.trans hs
    refine oinr_e hs (fun z3 hz4 hs => ?_)
    have hQ := he _ hz4
    refine AW.iload_n (z := 2) (am_r 29 rfl) rfl rfl ?_
    have hr := (Option.some.inj hs).symm
    subst hr
    exact AW.iret (am_r 30 rfl) rfl hQ
  · replace hs := (if_neg hc2).symm.trans hs
    refine AW.iload_n (z := 2) (am_r 13 rfl) rfl rfl ?_
    refine AW.aload_n (z := 0) (am_r 14 rfl) rfl rfl ?_
    refine AW.iload_n (z := 3) (am_r 15 rfl) rfl rfl ?_
    refine AW.iconst (am_r 16 rfl) rfl ci_0 ?_
    refine obind_e hs (fun r5 hg7 hs => ?_)
    refine AW.callV (N := MX10_of) (As := [.int (a.2.1), .int ((0 : Int32))]) (S := [(.int (a.1))]) (L0 := [some (.ref (b)), some (.int (a.2.1)), some (.int ((0 : Int32)))]) (b := b) (am_r 17 rfl) rfl ovX10_of q1615 rfl rfl mb_ob rfl rfl rfl rfl (dX10_of hA  hg7 (cQ_r ?_))
    refine AW.iload_n (z := 1) (am_r 18 rfl) rfl rfl ?_
    refine AW.icmp_ge (tg := 36) (am_r 19 rfl) rfl rfl (fun hc8 => ?_) (fun hc8 => ?_)
    · replace hs := (if_pos hc8).symm.trans hs
      refine AW.iconst (am_r 24 rfl) rfl ci_0 ?_
      refine AW.ior (am_r 25 rfl) rfl ?_
      refine olet_e (P := fun y => AW g MX10_below 38 [some (.ref (b)), some (.int (p1)), some (.int (a.1)), some (.int (a.2.1))] [(.int (y))] (mb h0 b a.2.2) Q) hs (fun v9 hs => ?_)
      refine AW.istore_n (L' := [some (.ref (b)), some (.int (p1)), some (.int (v9)), some (.int (a.2.1))]) (z := 2) (am_r 26 rfl) rfl (Nat.le_of_ble_eq_true rfl) rfl ?_
      refine AW.iinc (v := a.2.1 + (1 : Int32)) (L' := [some (.ref (b)), some (.int (p1)), some (.int (v9)), some (.int (a.2.1 + (1 : Int32)))]) (am_r 27 rfl) rfl (Nat.le_of_ble_eq_true rfl) rfl (congrArg (fun z => a.2.1 + z) ci_1) rfl ?_
      refine AW.goto (tg := 9) (am_r 28 rfl) rfl ?_
      have hr := (Option.some.inj hs).symm
      exact hc (v9, a.2.1 + (1 : Int32), a.2.2) hr 
    · replace hs := (if_neg hc8).symm.trans hs
      refine AW.iconst (am_r 20 rfl) rfl ci_1 ?_
      refine AW.iload_n (z := 3) (am_r 21 rfl) rfl rfl ?_
      refine AW.ishl (am_r 22 rfl) rfl ?_
      refine AW.goto (tg := 37) (am_r 23 rfl) rfl ?_
      refine AW.ior (am_r 25 rfl) rfl ?_
      refine olet_e (P := fun y => AW g MX10_below 38 [some (.ref (b)), some (.int (p1)), some (.int (a.1)), some (.int (a.2.1))] [(.int (y))] (mb h0 b a.2.2) Q) hs (fun v10 hs => ?_)
      refine AW.istore_n (L' := [some (.ref (b)), some (.int (p1)), some (.int (v10)), some (.int (a.2.1))]) (z := 2) (am_r 26 rfl) rfl (Nat.le_of_ble_eq_true rfl) rfl ?_
      refine AW.iinc (v := a.2.1 + (1 : Int32)) (L' := [some (.ref (b)), some (.int (p1)), some (.int (v10)), some (.int (a.2.1 + (1 : Int32)))]) (am_r 27 rfl) rfl (Nat.le_of_ble_eq_true rfl) rfl (congrArg (fun z => a.2.1 + z) ci_1) rfl ?_
      refine AW.goto (tg := 9) (am_r 28 rfl) rfl ?_
      have hr := (Option.some.inj hs).symm
      exact hc (v10, a.2.1 + (1 : Int32), a.2.2) hr 
noncomputable def sX10_below (S : Mem) (p1 : Int32) : Option (Int32 × Mem) :=
  olet (si S 100 6 0 ((0 : Int32))) fun S1 =>
  sX10_below_l9  p1 ((0 : Int32), (0 : Int32), S1)
set_option maxRecDepth 100000 in
theorem dX10_below {g : AG} {h0 : AH} {b : Nat} {S : Mem} {Q : AO → AH → Prop} {p1 : Int32} (hA : gB g ≤ b)  {r : (Int32 × Mem)} (hs : sX10_below S p1 = some r) (hQ : Q (.ok (some (.int r.1))) (mb h0 b r.2)) : AW g MX10_below 0 [some (.ref (b)), some (.int (p1)), none, none] [] (mb h0 b S) Q := by
  unfold sX10_below at hs
  refine AW.aload_n (z := 0) (am_r 0 rfl) rfl rfl ?_
  refine AW.iconst (am_r 1 rfl) rfl ci_0 ?_
  refine AW.putO (am_r 2 rfl) rfl klX10 (k := 6) (by omega) q1509 (Or.inl rfl) mb_ob hA rfl rfl (mbp_ob (by decide)) ?_
  refine olet_e (P := fun y => AW g MX10_below 5 [some (.ref (b)), some (.int (p1)), none, none] [] (mb h0 b y) Q) hs (fun S1 hs => ?_)
  refine AW.iconst (am_r 3 rfl) rfl ci_0 ?_
  refine AW.istore_n (L' := [some (.ref (b)), some (.int (p1)), some (.int ((0 : Int32))), none]) (z := 2) (am_r 4 rfl) rfl (Nat.le_of_ble_eq_true rfl) rfl ?_
  refine AW.iconst (am_r 5 rfl) rfl ci_0 ?_
  refine AW.istore_n (L' := [some (.ref (b)), some (.int (p1)), some (.int ((0 : Int32))), some (.int ((0 : Int32)))]) (z := 3) (am_r 6 rfl) rfl (Nat.le_of_ble_eq_true rfl) rfl ?_
  exact dX10_below_l9 hA   hs hQ
noncomputable def sX10_objectsIn_j23 (S : Mem) (p1 : Int32) (y0 : Int32) : Option (Int32 × Mem) :=
  olet (sX10_throwsIf S y0 (1 : Int32)) fun r5 =>
  if r5.1 = 0 then
    obind (sX10_objectsAt r5.2 p1) fun r8 =>
    some ((r8, r5.2))
  else
    some (((0 : Int32), r5.2))
set_option maxRecDepth 100000 in
theorem dX10_objectsIn_j23 {g : AG} {h0 : AH} {b : Nat} {S : Mem} {Q : AO → AH → Prop} {p1 : Int32} {y0 : Int32} (hA : gB g ≤ b)  (hk0 : y0 = 0 ∨ y0 = 1) {r : (Int32 × Mem)} (hs : sX10_objectsIn_j23 S p1 y0 = some r) (hQ : Q (.ok (some (.int r.1))) (mb h0 b r.2)) : AW g MX10_objectsIn 23 [some (.ref (b)), some (.int (p1))] [(.int (y0)), (.ref (b))] (mb h0 b S) Q := by
  unfold sX10_objectsIn_j23 at hs
  refine AW.iconst (am_r 13 rfl) rfl ci_1 ?_
  refine AW.callV (N := MX10_throwsIf) (As := [.int (y0), .int ((1 : Int32))]) (S := []) (L0 := [some (.ref (b)), some (.int (y0)), some (.int ((1 : Int32)))]) (b := b) (am_r 14 rfl) rfl ovX10_throwsIf q1607 rfl rfl mb_ob rfl rfl rfl rfl (dX10_throwsIf hA hk0 rfl (fun hok6 => (cQ_r ?_)))
  refine olet_e (P := fun (y : (Int32 × Mem)) => (y.1 = 0 ∨ y.1 = 1) → AW g MX10_objectsIn 27 [some (.ref (b)), some (.int (p1))] [(.int (y.1))] (mb h0 b y.2) Q) hs (fun r5 hs hok6 => ?_) hok6
  refine AW.if_eq (tg := 34) (am_r 15 rfl) rfl rfl (fun hc7 => ?_) (fun hc7 => ?_)
  · replace hs := (if_pos hc7).symm.trans hs
    refine AW.aload_n (z := 0) (am_r 18 rfl) rfl rfl ?_
    refine AW.iload_n (z := 1) (am_r 19 rfl) rfl rfl ?_
    refine obind_e hs (fun r8 hg10 hs => ?_)
    refine AW.callV (N := MX10_objectsAt) (As := [.int (p1)]) (S := []) (L0 := [some (.ref (b)), some (.int (p1)), none, none]) (b := b) (am_r 20 rfl) rfl ovX10_objectsAt q1780 rfl rfl mb_ob rfl rfl rfl rfl (dX10_objectsAt hA  hg10 (cQ_r ?_))
    have hr := (Option.some.inj hs).symm
    subst hr
    exact AW.iret (am_r 21 rfl) rfl hQ
  · replace hs := (if_neg hc7).symm.trans hs
    refine AW.iconst (am_r 16 rfl) rfl ci_0 ?_
    refine AW.goto (tg := 39) (am_r 17 rfl) rfl ?_
    have hr := (Option.some.inj hs).symm
    subst hr
    exact AW.iret (am_r 21 rfl) rfl hQ
noncomputable def sX10_objectsIn (S : Mem) (p1 : Int32) : Option (Int32 × Mem) :=
  olet (si S 100 6 0 ((0 : Int32))) fun S1 =>
  if (sX10_inRange S1 p1.toInt64 (0 : Int64) (4 : Int64)) = 0 then
    sX10_objectsIn_j23 S1 p1 (1 : Int32)
  else
    sX10_objectsIn_j23 S1 p1 (0 : Int32)
set_option maxRecDepth 100000 in
theorem dX10_objectsIn {g : AG} {h0 : AH} {b : Nat} {S : Mem} {Q : AO → AH → Prop} {p1 : Int32} (hA : gB g ≤ b)  {r : (Int32 × Mem)} (hs : sX10_objectsIn S p1 = some r) (hQ : Q (.ok (some (.int r.1))) (mb h0 b r.2)) : AW g MX10_objectsIn 0 [some (.ref (b)), some (.int (p1))] [] (mb h0 b S) Q := by
  unfold sX10_objectsIn at hs
  refine AW.aload_n (z := 0) (am_r 0 rfl) rfl rfl ?_
  refine AW.iconst (am_r 1 rfl) rfl ci_0 ?_
  refine AW.putO (am_r 2 rfl) rfl klX10 (k := 6) (by omega) q1509 (Or.inl rfl) mb_ob hA rfl rfl (mbp_ob (by decide)) ?_
  refine olet_e (P := fun y => AW g MX10_objectsIn 5 [some (.ref (b)), some (.int (p1))] [] (mb h0 b y) Q) hs (fun S1 hs => ?_)
  refine AW.aload_n (z := 0) (am_r 3 rfl) rfl rfl ?_
  refine AW.iload_n (z := 1) (am_r 4 rfl) rfl rfl ?_
  refine AW.i2l (am_r 5 rfl) rfl ?_
  refine AW.lconst (z := 0) (am_r 6 rfl) rfl cl_0 ?_
  refine AW.ldc2 (v := (4)) (am_r 7 rfl) rfl q2025 ?_
  refine AW.callS (N := MX10_inRange) (As := [.long (p1.toInt64), .long ((0 : Int64)), .long ((4 : Int64))]) (S := [(.ref (b))]) (L0 := [some (.long (p1.toInt64)), none, some (.long ((0 : Int64))), none, some (.long ((4 : Int64))), none]) (am_r 8 rfl) rfl osX10_inRange q1592 rfl rfl rfl rfl rfl (dX10_inRange hA  rfl (fun hok3 => (cQ_r ?_)))
  refine AW.if_ne (tg := 22) (am_r 9 rfl) rfl rfl (fun hc4 => ?_) (fun hc4 => ?_)
  · replace hs := (if_neg hc4).symm.trans hs
    refine AW.iconst (am_r 12 rfl) rfl ci_0 ?_
    exact dX10_objectsIn_j23 hA  (Or.inl rfl) hs hQ
  · replace hs := (if_pos hc4).symm.trans hs
    refine AW.iconst (am_r 10 rfl) rfl ci_1 ?_
    refine AW.goto (tg := 23) (am_r 11 rfl) rfl ?_
    exact dX10_objectsIn_j23 hA  (Or.inr rfl) hs hQ
noncomputable def sX10_digest_l17_step   (a : (Int32 × Int32 × Mem)) : Option ((Int32 × Int32 × Mem) ⊕ (Int32 × Mem)) :=
  if (gi a.2.2 5 (4 : Int32).toNatClampNeg 0) ≤ a.2.1 then
    oinr (
    some ((a.1, a.2.2)))
  else
    obind (sX10_of a.2.2 a.2.1 (0 : Int32)) fun r6 =>
    obind (sX10_of a.2.2 a.2.1 (1 : Int32)) fun r9 =>
    obind (sX10_of a.2.2 a.2.1 (2 : Int32)) fun r12 =>
    olet (((31 : Int32) * (((31 : Int32) * (((31 : Int32) * a.1) + r6)) + r9)) + r12) fun v15 =>
    some (.inl (v15, a.2.1 + (1 : Int32), a.2.2))
noncomputable def sX10_digest_l17   (a : (Int32 × Int32 × Mem)) : Option (Int32 × Mem) := itw (sX10_digest_l17_step  ) a
set_option maxRecDepth 100000 in
theorem dX10_digest_l17 {g : AG} {h0 : AH} {b : Nat} {Q : AO → AH → Prop}  (hA : gB g ≤ b)  {a : (Int32 × Int32 × Mem)}  {r : (Int32 × Mem)} (hs : sX10_digest_l17   a = some r) (hQ : Q (.ok (some (.int r.1))) (mb h0 b r.2)) : AW g MX10_digest 17 [some (.ref (b)), some (.int (a.1)), some (.int (a.2.1))] [] (mb h0 b a.2.2) Q := by
  refine itw_e (P := fun a => AW g MX10_digest 17 [some (.ref (b)), some (.int (a.1)), some (.int (a.2.1))] [] (mb h0 b a.2.2) Q) (Post := fun r => Q (.ok (some (.int r.1))) (mb h0 b r.2)) (fun a r hs hc he  => ?_) hs hQ 
  unfold sX10_digest_l17_step at hs
  refine AW.iload_n (z := 2) (am_r 12 rfl) rfl rfl ?_
  refine AW.aload_n (z := 0) (am_r 13 rfl) rfl rfl ?_
  refine AW.getO (am_r 14 rfl) rfl klX10 (k := 5) (by omega) q1508 mb_ob rfl ?_
  refine AW.iconst (am_r 15 rfl) rfl ci_4 ?_
  refine AW.iald (am_r 16 rfl) rfl mb_a4 (vp_of_inb rfl) rfl ?_
  refine AW.icmp_ge (tg := 65) (am_r 17 rfl) rfl rfl (fun hc3 => ?_) (fun hc3 => ?_)
  · replace hs := (if_pos hc3).symm.trans hs
    refine oinr_e hs (fun z4 hz5 hs => ?_)
    have hQ := he _ hz5
    refine AW.iload_n (z := 1) (am_r 43 rfl) rfl rfl ?_
    have hr := (Option.some.inj hs).symm
    subst hr
    exact AW.iret (am_r 44 rfl) rfl hQ
  · replace hs := (if_neg hc3).symm.trans hs
    refine AW.bipush (am_r 18 rfl) rfl cb_31 ?_
    refine AW.bipush (am_r 19 rfl) rfl cb_31 ?_
    refine AW.bipush (am_r 20 rfl) rfl cb_31 ?_
    refine AW.iload_n (z := 1) (am_r 21 rfl) rfl rfl ?_
    refine AW.imul (am_r 22 rfl) rfl ?_
    refine AW.aload_n (z := 0) (am_r 23 rfl) rfl rfl ?_
    refine AW.iload_n (z := 2) (am_r 24 rfl) rfl rfl ?_
    refine AW.iconst (am_r 25 rfl) rfl ci_0 ?_
    refine obind_e hs (fun r6 hg8 hs => ?_)
    refine AW.callV (N := MX10_of) (As := [.int (a.2.1), .int ((0 : Int32))]) (S := [(.int ((31 : Int32) * a.1)), (.int ((31 : Int32))), (.int ((31 : Int32)))]) (L0 := [some (.ref (b)), some (.int (a.2.1)), some (.int ((0 : Int32)))]) (b := b) (am_r 26 rfl) rfl ovX10_of q1615 rfl rfl mb_ob rfl rfl rfl rfl (dX10_of hA  hg8 (cQ_r ?_))
    refine AW.iadd (am_r 27 rfl) rfl ?_
    refine AW.imul (am_r 28 rfl) rfl ?_
    refine AW.aload_n (z := 0) (am_r 29 rfl) rfl rfl ?_
    refine AW.iload_n (z := 2) (am_r 30 rfl) rfl rfl ?_
    refine AW.iconst (am_r 31 rfl) rfl ci_1 ?_
    refine obind_e hs (fun r9 hg11 hs => ?_)
    refine AW.callV (N := MX10_of) (As := [.int (a.2.1), .int ((1 : Int32))]) (S := [(.int ((31 : Int32) * (((31 : Int32) * a.1) + r6))), (.int ((31 : Int32)))]) (L0 := [some (.ref (b)), some (.int (a.2.1)), some (.int ((1 : Int32)))]) (b := b) (am_r 32 rfl) rfl ovX10_of q1615 rfl rfl mb_ob rfl rfl rfl rfl (dX10_of hA  hg11 (cQ_r ?_))
    refine AW.iadd (am_r 33 rfl) rfl ?_
    refine AW.imul (am_r 34 rfl) rfl ?_
    refine AW.aload_n (z := 0) (am_r 35 rfl) rfl rfl ?_
    refine AW.iload_n (z := 2) (am_r 36 rfl) rfl rfl ?_
    refine AW.iconst (am_r 37 rfl) rfl ci_2 ?_
    refine obind_e hs (fun r12 hg14 hs => ?_)
    refine AW.callV (N := MX10_of) (As := [.int (a.2.1), .int ((2 : Int32))]) (S := [(.int ((31 : Int32) * (((31 : Int32) * (((31 : Int32) * a.1) + r6)) + r9)))]) (L0 := [some (.ref (b)), some (.int (a.2.1)), some (.int ((2 : Int32)))]) (b := b) (am_r 38 rfl) rfl ovX10_of q1615 rfl rfl mb_ob rfl rfl rfl rfl (dX10_of hA  hg14 (cQ_r ?_))
    refine AW.iadd (am_r 39 rfl) rfl ?_
    refine olet_e (P := fun y => AW g MX10_digest 58 [some (.ref (b)), some (.int (a.1)), some (.int (a.2.1))] [(.int (y))] (mb h0 b a.2.2) Q) hs (fun v15 hs => ?_)
    refine AW.istore_n (L' := [some (.ref (b)), some (.int (v15)), some (.int (a.2.1))]) (z := 1) (am_r 40 rfl) rfl (Nat.le_of_ble_eq_true rfl) rfl ?_
    refine AW.iinc (v := a.2.1 + (1 : Int32)) (L' := [some (.ref (b)), some (.int (v15)), some (.int (a.2.1 + (1 : Int32)))]) (am_r 41 rfl) rfl (Nat.le_of_ble_eq_true rfl) rfl (congrArg (fun z => a.2.1 + z) ci_1) rfl ?_
    refine AW.goto (tg := 17) (am_r 42 rfl) rfl ?_
    have hr := (Option.some.inj hs).symm
    exact hc (v15, a.2.1 + (1 : Int32), a.2.2) hr 
noncomputable def sX10_digest (S : Mem)  : Option (Int32 × Mem) :=
  olet (si S 100 6 0 ((0 : Int32))) fun S1 =>
  olet ((31 : Int32) + (gi S1 0 (0 : Int32).toNatClampNeg 0)) fun v2 =>
  sX10_digest_l17   (v2, (0 : Int32), S1)
set_option maxRecDepth 100000 in
theorem dX10_digest {g : AG} {h0 : AH} {b : Nat} {S : Mem} {Q : AO → AH → Prop}  (hA : gB g ≤ b)  {r : (Int32 × Mem)} (hs : sX10_digest S  = some r) (hQ : Q (.ok (some (.int r.1))) (mb h0 b r.2)) : AW g MX10_digest 0 [some (.ref (b)), none, none] [] (mb h0 b S) Q := by
  unfold sX10_digest at hs
  refine AW.aload_n (z := 0) (am_r 0 rfl) rfl rfl ?_
  refine AW.iconst (am_r 1 rfl) rfl ci_0 ?_
  refine AW.putO (am_r 2 rfl) rfl klX10 (k := 6) (by omega) q1509 (Or.inl rfl) mb_ob hA rfl rfl (mbp_ob (by decide)) ?_
  refine olet_e (P := fun y => AW g MX10_digest 5 [some (.ref (b)), none, none] [] (mb h0 b y) Q) hs (fun S1 hs => ?_)
  refine AW.bipush (am_r 3 rfl) rfl cb_31 ?_
  refine AW.aload_n (z := 0) (am_r 4 rfl) rfl rfl ?_
  refine AW.getO (am_r 5 rfl) rfl klX10 (k := 0) (by omega) q1503 mb_ob rfl ?_
  refine AW.iconst (am_r 6 rfl) rfl ci_0 ?_
  refine AW.iald (am_r 7 rfl) rfl mb_a1 (vp_of_inb rfl) rfl ?_
  refine AW.iadd (am_r 8 rfl) rfl ?_
  refine olet_e (P := fun y => AW g MX10_digest 14 [some (.ref (b)), none, none] [(.int (y))] (mb h0 b S1) Q) hs (fun v2 hs => ?_)
  refine AW.istore_n (L' := [some (.ref (b)), some (.int (v2)), none]) (z := 1) (am_r 9 rfl) rfl (Nat.le_of_ble_eq_true rfl) rfl ?_
  refine AW.iconst (am_r 10 rfl) rfl ci_0 ?_
  refine AW.istore_n (L' := [some (.ref (b)), some (.int (v2)), some (.int ((0 : Int32)))]) (z := 2) (am_r 11 rfl) rfl (Nat.le_of_ble_eq_true rfl) rfl ?_
  exact dX10_digest_l17 hA   hs hQ
noncomputable def sX10_put (S : Mem) (p1 : Int32) : Option Mem :=
  oif (inb (gi S 100 10 0) 24) (
  olet (si S 9 (gi S 100 10 0).toNatClampNeg 0 (p1)) fun S2 =>
  olet (si S2 100 10 0 ((gi S2 100 10 0) + (1 : Int32))) fun S3 =>
  some (S3))
set_option maxRecDepth 100000 in
theorem dX10_put {g : AG} {h0 : AH} {b : Nat} {S : Mem} {Q : AO → AH → Prop} {p1 : Int32} (hA : gB g ≤ b)  {r : Mem} (hs : sX10_put S p1 = some r) (hQ : Q (.ok none) (mb h0 b r)) : AW g MX10_put 0 [some (.ref (b)), some (.int (p1))] [] (mb h0 b S) Q := by
  unfold sX10_put at hs
  refine AW.aload_n (z := 0) (am_r 0 rfl) rfl rfl ?_
  refine AW.getO (am_r 1 rfl) rfl klX10 (k := 9) (by omega) q1512 mb_ob rfl ?_
  refine AW.aload_n (z := 0) (am_r 2 rfl) rfl rfl ?_
  refine AW.getO (am_r 3 rfl) rfl klX10 (k := 10) (by omega) q1513 mb_ob rfl ?_
  refine AW.iload_n (z := 1) (am_r 4 rfl) rfl rfl ?_
  refine oif_g hs (fun hg1 hs => ?_)
  refine AW.iast (am_r 5 rfl) rfl mb_a7 (Nat.le_trans hA (by omega)) (vp_of_inb hg1) ?_
  rw [show _ = _ from mbp_a7]
  refine olet_e (P := fun y => AW g MX10_put 10 [some (.ref (b)), some (.int (p1))] [] (mb h0 b y) Q) hs (fun S2 hs => ?_)
  refine AW.aload_n (z := 0) (am_r 6 rfl) rfl rfl ?_
  refine AW.dup (am_r 7 rfl) rfl rfl ?_
  refine AW.getO (am_r 8 rfl) rfl klX10 (k := 10) (by omega) q1513 mb_ob rfl ?_
  refine AW.iconst (am_r 9 rfl) rfl ci_1 ?_
  refine AW.iadd (am_r 10 rfl) rfl ?_
  refine AW.putO (am_r 11 rfl) rfl klX10 (k := 10) (by omega) q1513 (Or.inl rfl) mb_ob hA rfl rfl (mbp_ob (by decide)) ?_
  refine olet_e (P := fun y => AW g MX10_put 20 [some (.ref (b)), some (.int (p1))] [] (mb h0 b y) Q) hs (fun S3 hs => ?_)
  have hr := (Option.some.inj hs).symm
  subst hr
  exact AW.vret (am_r 12 rfl) rfl hQ
noncomputable def sX10_write_j55 (S : Mem) (p1 : Int32) (y0 : Int32) : Option ((Int32 × Mem) ⊕ (Int32 × Mem)) :=
  obind (sX10_of S p1 ((13 : Int32) + y0)) fun r16 =>
  obind (sX10_put S ((48 : Int32) + r16)) fun r19 =>
  obind (sX10_of r19 p1 ((13 : Int32) + y0)) fun r22 =>
  obind (sX10_isApprovable r19 p1 r22) fun r25 =>
  if r25 = 0 then
    some (.inl (y0 + (1 : Int32), r19))
  else
    obind (sX10_put r19 (33 : Int32)) fun r29 =>
    some (.inl (y0 + (1 : Int32), r29))
set_option maxRecDepth 100000 in
theorem dX10_write_j55 {g : AG} {h0 : AH} {b : Nat} {S : Mem} {Q : AO → AH → Prop} {p1 : Int32} {y0 : Int32} (hA : gB g ≤ b)   {r : ((Int32 × Mem) ⊕ (Int32 × Mem))} (hs : sX10_write_j55 S p1 y0 = some r) (hc : ∀ a : (Int32 × Mem), r = .inl a → AW g MX10_write 35 [some (.ref (b)), some (.int (p1)), some (.int (a.1))] [] (mb h0 b a.2) Q) (he : ∀ z : (Int32 × Mem), r = .inr z → Q (.ok (some (.int z.1))) (mb h0 b z.2)) : AW g MX10_write 55 [some (.ref (b)), some (.int (p1)), some (.int (y0))] [] (mb h0 b S) Q := by
  unfold sX10_write_j55 at hs
  refine AW.aload_n (z := 0) (am_r 32 rfl) rfl rfl ?_
  refine AW.bipush (am_r 33 rfl) rfl cb_48 ?_
  refine AW.aload_n (z := 0) (am_r 34 rfl) rfl rfl ?_
  refine AW.iload_n (z := 1) (am_r 35 rfl) rfl rfl ?_
  refine AW.bipush (am_r 36 rfl) rfl cb_13 ?_
  refine AW.iload_n (z := 2) (am_r 37 rfl) rfl rfl ?_
  refine AW.iadd (am_r 38 rfl) rfl ?_
  refine obind_e hs (fun r16 hg18 hs => ?_)
  refine AW.callV (N := MX10_of) (As := [.int (p1), .int ((13 : Int32) + y0)]) (S := [(.int ((48 : Int32))), (.ref (b))]) (L0 := [some (.ref (b)), some (.int (p1)), some (.int ((13 : Int32) + y0))]) (b := b) (am_r 39 rfl) rfl ovX10_of q1615 rfl rfl mb_ob rfl rfl rfl rfl (dX10_of hA  hg18 (cQ_r ?_))
  refine AW.iadd (am_r 40 rfl) rfl ?_
  refine obind_e hs (fun r19 hg21 hs => ?_)
  refine AW.callV (N := MX10_put) (As := [.int ((48 : Int32) + r16)]) (S := []) (L0 := [some (.ref (b)), some (.int ((48 : Int32) + r16))]) (b := b) (am_r 41 rfl) rfl ovX10_put q2038 rfl rfl mb_ob rfl rfl rfl rfl (dX10_put hA  hg21 (cQ_v ?_))
  refine AW.aload_n (z := 0) (am_r 42 rfl) rfl rfl ?_
  refine AW.iload_n (z := 1) (am_r 43 rfl) rfl rfl ?_
  refine AW.aload_n (z := 0) (am_r 44 rfl) rfl rfl ?_
  refine AW.iload_n (z := 1) (am_r 45 rfl) rfl rfl ?_
  refine AW.bipush (am_r 46 rfl) rfl cb_13 ?_
  refine AW.iload_n (z := 2) (am_r 47 rfl) rfl rfl ?_
  refine AW.iadd (am_r 48 rfl) rfl ?_
  refine obind_e hs (fun r22 hg24 hs => ?_)
  refine AW.callV (N := MX10_of) (As := [.int (p1), .int ((13 : Int32) + y0)]) (S := [(.int (p1)), (.ref (b))]) (L0 := [some (.ref (b)), some (.int (p1)), some (.int ((13 : Int32) + y0))]) (b := b) (am_r 49 rfl) rfl ovX10_of q1615 rfl rfl mb_ob rfl rfl rfl rfl (dX10_of hA  hg24 (cQ_r ?_))
  refine obind_e hs (fun r25 hg27 hs => ?_)
  refine AW.callV (N := MX10_isApprovable) (As := [.int (p1), .int (r22)]) (S := []) (L0 := [some (.ref (b)), some (.int (p1)), some (.int (r22))]) (b := b) (am_r 50 rfl) rfl ovX10_isApprovable q1667 rfl rfl mb_ob rfl rfl rfl rfl (dX10_isApprovable hA  hg27 (fun hok26 => (cQ_r ?_)))
  refine AW.if_eq (tg := 94) (am_r 51 rfl) rfl rfl (fun hc28 => ?_) (fun hc28 => ?_)
  · replace hs := (if_pos hc28).symm.trans hs
    refine AW.iinc (v := y0 + (1 : Int32)) (L' := [some (.ref (b)), some (.int (p1)), some (.int (y0 + (1 : Int32)))]) (am_r 55 rfl) rfl (Nat.le_of_ble_eq_true rfl) rfl (congrArg (fun z => y0 + z) ci_1) rfl ?_
    refine AW.goto (tg := 35) (am_r 56 rfl) rfl ?_
    have hr := (Option.some.inj hs).symm
    exact hc (y0 + (1 : Int32), r19) hr 
  · replace hs := (if_neg hc28).symm.trans hs
    refine AW.aload_n (z := 0) (am_r 52 rfl) rfl rfl ?_
    refine AW.bipush (am_r 53 rfl) rfl cb_33 ?_
    refine obind_e hs (fun r29 hg31 hs => ?_)
    refine AW.callV (N := MX10_put) (As := [.int ((33 : Int32))]) (S := []) (L0 := [some (.ref (b)), some (.int ((33 : Int32)))]) (b := b) (am_r 54 rfl) rfl ovX10_put q2038 rfl rfl mb_ob rfl rfl rfl rfl (dX10_put hA  hg31 (cQ_v ?_))
    refine AW.iinc (v := y0 + (1 : Int32)) (L' := [some (.ref (b)), some (.int (p1)), some (.int (y0 + (1 : Int32)))]) (am_r 55 rfl) rfl (Nat.le_of_ble_eq_true rfl) rfl (congrArg (fun z => y0 + z) ci_1) rfl ?_
    refine AW.goto (tg := 35) (am_r 56 rfl) rfl ?_
    have hr := (Option.some.inj hs).symm
    exact hc (y0 + (1 : Int32), r29) hr 
noncomputable def sX10_write_l35_step  (p1 : Int32) (a : (Int32 × Mem)) : Option ((Int32 × Mem) ⊕ (Int32 × Mem)) :=
  obind (sX10_of a.2 p1 (3 : Int32)) fun r9 =>
  if r9 ≤ a.1 then
    oinr (
    some ((gi a.2 100 10 0, a.2)))
  else
    if a.1 ≤ 0 then
      sX10_write_j55 a.2 p1 a.1
    else
      obind (sX10_put a.2 (44 : Int32)) fun r32 =>
      sX10_write_j55 r32 p1 a.1
noncomputable def sX10_write_l35  (p1 : Int32) (a : (Int32 × Mem)) : Option (Int32 × Mem) := itw (sX10_write_l35_step  p1) a
set_option maxRecDepth 100000 in
theorem dX10_write_l35 {g : AG} {h0 : AH} {b : Nat} {Q : AO → AH → Prop} {p1 : Int32} (hA : gB g ≤ b)  {a : (Int32 × Mem)}  {r : (Int32 × Mem)} (hs : sX10_write_l35  p1 a = some r) (hQ : Q (.ok (some (.int r.1))) (mb h0 b r.2)) : AW g MX10_write 35 [some (.ref (b)), some (.int (p1)), some (.int (a.1))] [] (mb h0 b a.2) Q := by
  refine itw_e (P := fun a => AW g MX10_write 35 [some (.ref (b)), some (.int (p1)), some (.int (a.1))] [] (mb h0 b a.2) Q) (Post := fun r => Q (.ok (some (.int r.1))) (mb h0 b r.2)) (fun a r hs hc he  => ?_) hs hQ 
  unfold sX10_write_l35_step at hs
  refine AW.iload_n (z := 2) (am_r 21 rfl) rfl rfl ?_
  refine AW.aload_n (z := 0) (am_r 22 rfl) rfl rfl ?_
  refine AW.iload_n (z := 1) (am_r 23 rfl) rfl rfl ?_
  refine AW.iconst (am_r 24 rfl) rfl ci_3 ?_
  refine obind_e hs (fun r9 hg11 hs => ?_)
  refine AW.callV (N := MX10_of) (As := [.int (p1), .int ((3 : Int32))]) (S := [(.int (a.1))]) (L0 := [some (.ref (b)), some (.int (p1)), some (.int ((3 : Int32)))]) (b := b) (am_r 25 rfl) rfl ovX10_of q1615 rfl rfl mb_ob rfl rfl rfl rfl (dX10_of hA  hg11 (cQ_r ?_))
  refine AW.icmp_ge (tg := 100) (am_r 26 rfl) rfl rfl (fun hc12 => ?_) (fun hc12 => ?_)
  · replace hs := (if_pos hc12).symm.trans hs
    refine oinr_e hs (fun z13 hz14 hs => ?_)
    have hQ := he _ hz14
    refine AW.aload_n (z := 0) (am_r 57 rfl) rfl rfl ?_
    refine AW.getO (am_r 58 rfl) rfl klX10 (k := 10) (by omega) q1513 mb_ob rfl ?_
    have hr := (Option.some.inj hs).symm
    subst hr
    exact AW.iret (am_r 59 rfl) rfl hQ
  · replace hs := (if_neg hc12).symm.trans hs
    refine AW.iload_n (z := 2) (am_r 27 rfl) rfl rfl ?_
    refine AW.if_le (tg := 55) (am_r 28 rfl) rfl rfl (fun hc15 => ?_) (fun hc15 => ?_)
    · replace hs := (if_pos hc15).symm.trans hs
      exact dX10_write_j55 hA   hs hc he
    · replace hs := (if_neg hc15).symm.trans hs
      refine AW.aload_n (z := 0) (am_r 29 rfl) rfl rfl ?_
      refine AW.bipush (am_r 30 rfl) rfl cb_44 ?_
      refine obind_e hs (fun r32 hg34 hs => ?_)
      refine AW.callV (N := MX10_put) (As := [.int ((44 : Int32))]) (S := []) (L0 := [some (.ref (b)), some (.int ((44 : Int32)))]) (b := b) (am_r 31 rfl) rfl ovX10_put q2038 rfl rfl mb_ob rfl rfl rfl rfl (dX10_put hA  hg34 (cQ_v ?_))
      exact dX10_write_j55 hA   hs hc he
noncomputable def sX10_write_j19 (S : Mem) (p1 : Int32) (y0 : Int32) : Option (Int32 × Mem) :=
  olet (sX10_throwsIf S y0 (1 : Int32)) fun r5 =>
  if r5.1 = 0 then
    olet (si r5.2 100 10 0 ((0 : Int32))) fun S8 =>
    sX10_write_l35  p1 ((0 : Int32), S8)
  else
    some (((0 : Int32), r5.2))
set_option maxRecDepth 100000 in
theorem dX10_write_j19 {g : AG} {h0 : AH} {b : Nat} {S : Mem} {Q : AO → AH → Prop} {p1 : Int32} {y0 : Int32} (hA : gB g ≤ b)  (hk0 : y0 = 0 ∨ y0 = 1) {r : (Int32 × Mem)} (hs : sX10_write_j19 S p1 y0 = some r) (hQ : Q (.ok (some (.int r.1))) (mb h0 b r.2)) : AW g MX10_write 19 [some (.ref (b)), some (.int (p1)), none] [(.int (y0)), (.ref (b))] (mb h0 b S) Q := by
  unfold sX10_write_j19 at hs
  refine AW.iconst (am_r 11 rfl) rfl ci_1 ?_
  refine AW.callV (N := MX10_throwsIf) (As := [.int (y0), .int ((1 : Int32))]) (S := []) (L0 := [some (.ref (b)), some (.int (y0)), some (.int ((1 : Int32)))]) (b := b) (am_r 12 rfl) rfl ovX10_throwsIf q1607 rfl rfl mb_ob rfl rfl rfl rfl (dX10_throwsIf hA hk0 rfl (fun hok6 => (cQ_r ?_)))
  refine olet_e (P := fun (y : (Int32 × Mem)) => (y.1 = 0 ∨ y.1 = 1) → AW g MX10_write 23 [some (.ref (b)), some (.int (p1)), none] [(.int (y.1))] (mb h0 b y.2) Q) hs (fun r5 hs hok6 => ?_) hok6
  refine AW.if_eq (tg := 28) (am_r 13 rfl) rfl rfl (fun hc7 => ?_) (fun hc7 => ?_)
  · replace hs := (if_pos hc7).symm.trans hs
    refine AW.aload_n (z := 0) (am_r 16 rfl) rfl rfl ?_
    refine AW.iconst (am_r 17 rfl) rfl ci_0 ?_
    refine AW.putO (am_r 18 rfl) rfl klX10 (k := 10) (by omega) q1513 (Or.inl rfl) mb_ob hA rfl rfl (mbp_ob (by decide)) ?_
    refine olet_e (P := fun y => AW g MX10_write 33 [some (.ref (b)), some (.int (p1)), none] [] (mb h0 b y) Q) hs (fun S8 hs => ?_)
    refine AW.iconst (am_r 19 rfl) rfl ci_0 ?_
    refine AW.istore_n (L' := [some (.ref (b)), some (.int (p1)), some (.int ((0 : Int32)))]) (z := 2) (am_r 20 rfl) rfl (Nat.le_of_ble_eq_true rfl) rfl ?_
    exact dX10_write_l35 hA   hs hQ
  · replace hs := (if_neg hc7).symm.trans hs
    refine AW.iconst (am_r 14 rfl) rfl ci_0 ?_
    have hr := (Option.some.inj hs).symm
    subst hr
    exact AW.iret (am_r 15 rfl) rfl hQ
noncomputable def sX10_write (S : Mem) (p1 : Int32) : Option (Int32 × Mem) :=
  olet (si S 100 6 0 ((0 : Int32))) fun S1 =>
  if (sX10_isObject S1 p1) = 0 then
    sX10_write_j19 S1 p1 (1 : Int32)
  else
    sX10_write_j19 S1 p1 (0 : Int32)
set_option maxRecDepth 100000 in
theorem dX10_write {g : AG} {h0 : AH} {b : Nat} {S : Mem} {Q : AO → AH → Prop} {p1 : Int32} (hA : gB g ≤ b)  {r : (Int32 × Mem)} (hs : sX10_write S p1 = some r) (hQ : Q (.ok (some (.int r.1))) (mb h0 b r.2)) : AW g MX10_write 0 [some (.ref (b)), some (.int (p1)), none] [] (mb h0 b S) Q := by
  unfold sX10_write at hs
  refine AW.aload_n (z := 0) (am_r 0 rfl) rfl rfl ?_
  refine AW.iconst (am_r 1 rfl) rfl ci_0 ?_
  refine AW.putO (am_r 2 rfl) rfl klX10 (k := 6) (by omega) q1509 (Or.inl rfl) mb_ob hA rfl rfl (mbp_ob (by decide)) ?_
  refine olet_e (P := fun y => AW g MX10_write 5 [some (.ref (b)), some (.int (p1)), none] [] (mb h0 b y) Q) hs (fun S1 hs => ?_)
  refine AW.aload_n (z := 0) (am_r 3 rfl) rfl rfl ?_
  refine AW.aload_n (z := 0) (am_r 4 rfl) rfl rfl ?_
  refine AW.iload_n (z := 1) (am_r 5 rfl) rfl rfl ?_
  refine AW.callV (N := MX10_isObject) (As := [.int (p1)]) (S := [(.ref (b))]) (L0 := [some (.ref (b)), some (.int (p1))]) (b := b) (am_r 6 rfl) rfl ovX10_isObject q1603 rfl rfl mb_ob rfl rfl rfl rfl (dX10_isObject hA  rfl (fun hok3 => (cQ_r ?_)))
  refine AW.if_ne (tg := 18) (am_r 7 rfl) rfl rfl (fun hc4 => ?_) (fun hc4 => ?_)
  · replace hs := (if_neg hc4).symm.trans hs
    refine AW.iconst (am_r 10 rfl) rfl ci_0 ?_
    exact dX10_write_j19 hA  (Or.inl rfl) hs hQ
  · replace hs := (if_pos hc4).symm.trans hs
    refine AW.iconst (am_r 8 rfl) rfl ci_1 ?_
    refine AW.goto (tg := 19) (am_r 9 rfl) rfl ?_
    exact dX10_write_j19 hA  (Or.inr rfl) hs hQ
noncomputable def sX10_outputByte (S : Mem) (p1 : Int32) : Option (Int32 × Mem) :=
  olet (si S 100 6 0 ((0 : Int32))) fun S1 =>
  if (sX10_inRange S1 p1.toInt64 (0 : Int64) (((gi S1 100 10 0) - (1 : Int32)).toInt64)) = 0 then
    some (((-1 : Int32), S1))
  else
    oif (inb p1 24) (
    some ((gi S1 9 p1.toNatClampNeg 0, S1)))
set_option maxRecDepth 100000 in
theorem dX10_outputByte {g : AG} {h0 : AH} {b : Nat} {S : Mem} {Q : AO → AH → Prop} {p1 : Int32} (hA : gB g ≤ b)  {r : (Int32 × Mem)} (hs : sX10_outputByte S p1 = some r) (hQ : Q (.ok (some (.int r.1))) (mb h0 b r.2)) : AW g MX10_outputByte 0 [some (.ref (b)), some (.int (p1))] [] (mb h0 b S) Q := by
  unfold sX10_outputByte at hs
  refine AW.aload_n (z := 0) (am_r 0 rfl) rfl rfl ?_
  refine AW.iconst (am_r 1 rfl) rfl ci_0 ?_
  refine AW.putO (am_r 2 rfl) rfl klX10 (k := 6) (by omega) q1509 (Or.inl rfl) mb_ob hA rfl rfl (mbp_ob (by decide)) ?_
  refine olet_e (P := fun y => AW g MX10_outputByte 5 [some (.ref (b)), some (.int (p1))] [] (mb h0 b y) Q) hs (fun S1 hs => ?_)
  refine AW.iload_n (z := 1) (am_r 3 rfl) rfl rfl ?_
  refine AW.i2l (am_r 4 rfl) rfl ?_
  refine AW.lconst (z := 0) (am_r 5 rfl) rfl cl_0 ?_
  refine AW.aload_n (z := 0) (am_r 6 rfl) rfl rfl ?_
  refine AW.getO (am_r 7 rfl) rfl klX10 (k := 10) (by omega) q1513 mb_ob rfl ?_
  refine AW.iconst (am_r 8 rfl) rfl ci_1 ?_
  refine AW.isub (am_r 9 rfl) rfl ?_
  refine AW.i2l (am_r 10 rfl) rfl ?_
  refine AW.callS (N := MX10_inRange) (As := [.long (p1.toInt64), .long ((0 : Int64)), .long (((gi S1 100 10 0) - (1 : Int32)).toInt64)]) (S := []) (L0 := [some (.long (p1.toInt64)), none, some (.long ((0 : Int64))), none, some (.long (((gi S1 100 10 0) - (1 : Int32)).toInt64)), none]) (am_r 11 rfl) rfl osX10_inRange q1592 rfl rfl rfl rfl rfl (dX10_inRange hA  rfl (fun hok3 => (cQ_r ?_)))
  refine AW.if_eq (tg := 30) (am_r 12 rfl) rfl rfl (fun hc4 => ?_) (fun hc4 => ?_)
  · replace hs := (if_pos hc4).symm.trans hs
    refine AW.iconst (am_r 18 rfl) rfl ci_m1 ?_
    have hr := (Option.some.inj hs).symm
    subst hr
    exact AW.iret (am_r 19 rfl) rfl hQ
  · replace hs := (if_neg hc4).symm.trans hs
    refine AW.aload_n (z := 0) (am_r 13 rfl) rfl rfl ?_
    refine AW.getO (am_r 14 rfl) rfl klX10 (k := 9) (by omega) q1512 mb_ob rfl ?_
    refine AW.iload_n (z := 1) (am_r 15 rfl) rfl rfl ?_
    refine oif_g hs (fun hg5 hs => ?_)
    refine AW.iald (am_r 16 rfl) rfl mb_a7 (vp_of_inb hg5) rfl ?_
    refine AW.goto (tg := 31) (am_r 17 rfl) rfl ?_
    have hr := (Option.some.inj hs).symm
    subst hr
    exact AW.iret (am_r 19 rfl) rfl hQ
noncomputable def sX10_appendBytes_l3_step  (p1 : Int32) (a : (Int32 × Mem)) : Option ((Int32 × Mem) ⊕ Mem) :=
  if a.1 < 0 then
    oinr (
    some (a.2))
  else
    oif (inb (gi a.2 100 12 0) 1000) (
    olet (si a.2 11 (gi a.2 100 12 0).toNatClampNeg 0 (((p1 >>> (a.1 &&& 31)).toInt8.toInt32).toInt8.toInt32)) fun S5 =>
    olet (si S5 100 12 0 ((gi S5 100 12 0) + (1 : Int32))) fun S6 =>
    some (.inl (a.1 + (-8 : Int32), S6)))
noncomputable def sX10_appendBytes_l3  (p1 : Int32) (a : (Int32 × Mem)) : Option Mem := itw (sX10_appendBytes_l3_step  p1) a
set_option maxRecDepth 100000 in
theorem dX10_appendBytes_l3 {g : AG} {h0 : AH} {b : Nat} {Q : AO → AH → Prop} {p1 : Int32} (hA : gB g ≤ b)  {a : (Int32 × Mem)}  {r : Mem} (hs : sX10_appendBytes_l3  p1 a = some r) (hQ : Q (.ok none) (mb h0 b r)) : AW g MX10_appendBytes 3 [some (.ref (b)), some (.int (p1)), some (.int (a.1))] [] (mb h0 b a.2) Q := by
  refine itw_e (P := fun a => AW g MX10_appendBytes 3 [some (.ref (b)), some (.int (p1)), some (.int (a.1))] [] (mb h0 b a.2) Q) (Post := fun r => Q (.ok none) (mb h0 b r)) (fun a r hs hc he  => ?_) hs hQ 
  unfold sX10_appendBytes_l3_step at hs
  refine AW.iload_n (z := 2) (am_r 2 rfl) rfl rfl ?_
  refine AW.if_lt (tg := 36) (am_r 3 rfl) rfl rfl (fun hc1 => ?_) (fun hc1 => ?_)
  · replace hs := (if_pos hc1).symm.trans hs
    refine oinr_e hs (fun z2 hz3 hs => ?_)
    have hQ := he _ hz3
    have hr := (Option.some.inj hs).symm
    subst hr
    exact AW.vret (am_r 21 rfl) rfl hQ
  · replace hs := (if_neg hc1).symm.trans hs
    refine AW.aload_n (z := 0) (am_r 4 rfl) rfl rfl ?_
    refine AW.getO (am_r 5 rfl) rfl klX10 (k := 11) (by omega) q1514 mb_ob rfl ?_
    refine AW.aload_n (z := 0) (am_r 6 rfl) rfl rfl ?_
    refine AW.getO (am_r 7 rfl) rfl klX10 (k := 12) (by omega) q1515 mb_ob rfl ?_
    refine AW.iload_n (z := 1) (am_r 8 rfl) rfl rfl ?_
    refine AW.iload_n (z := 2) (am_r 9 rfl) rfl rfl ?_
    refine AW.ishr (am_r 10 rfl) rfl ?_
    refine AW.i2b (am_r 11 rfl) rfl ?_
    refine oif_g hs (fun hg4 hs => ?_)
    refine AW.bast (am_r 12 rfl) rfl mb_a8 (Nat.le_trans hA (by omega)) (vp_of_inb hg4) rfl ?_
    rw [show _ = _ from mbp_a8]
    refine olet_e (P := fun y => AW g MX10_appendBytes 20 [some (.ref (b)), some (.int (p1)), some (.int (a.1))] [] (mb h0 b y) Q) hs (fun S5 hs => ?_)
    refine AW.aload_n (z := 0) (am_r 13 rfl) rfl rfl ?_
    refine AW.dup (am_r 14 rfl) rfl rfl ?_
    refine AW.getO (am_r 15 rfl) rfl klX10 (k := 12) (by omega) q1515 mb_ob rfl ?_
    refine AW.iconst (am_r 16 rfl) rfl ci_1 ?_
    refine AW.iadd (am_r 17 rfl) rfl ?_
    refine AW.putO (am_r 18 rfl) rfl klX10 (k := 12) (by omega) q1515 (Or.inl rfl) mb_ob hA rfl rfl (mbp_ob (by decide)) ?_
    refine olet_e (P := fun y => AW g MX10_appendBytes 30 [some (.ref (b)), some (.int (p1)), some (.int (a.1))] [] (mb h0 b y) Q) hs (fun S6 hs => ?_)
    refine AW.iinc (v := a.1 + (-8 : Int32)) (L' := [some (.ref (b)), some (.int (p1)), some (.int (a.1 + (-8 : Int32)))]) (am_r 19 rfl) rfl (Nat.le_of_ble_eq_true rfl) rfl (congrArg (fun z => a.1 + z) ci_m8) rfl ?_
    refine AW.goto (tg := 3) (am_r 20 rfl) rfl ?_
    have hr := (Option.some.inj hs).symm
    exact hc (a.1 + (-8 : Int32), S6) hr 
noncomputable def sX10_appendBytes (S : Mem) (p1 : Int32) : Option Mem :=
  sX10_appendBytes_l3  p1 ((24 : Int32), S)
set_option maxRecDepth 100000 in
theorem dX10_appendBytes {g : AG} {h0 : AH} {b : Nat} {S : Mem} {Q : AO → AH → Prop} {p1 : Int32} (hA : gB g ≤ b)  {r : Mem} (hs : sX10_appendBytes S p1 = some r) (hQ : Q (.ok none) (mb h0 b r)) : AW g MX10_appendBytes 0 [some (.ref (b)), some (.int (p1)), none] [] (mb h0 b S) Q := by
  unfold sX10_appendBytes at hs
  refine AW.bipush (am_r 0 rfl) rfl cb_24 ?_
  refine AW.istore_n (L' := [some (.ref (b)), some (.int (p1)), some (.int ((24 : Int32)))]) (z := 2) (am_r 1 rfl) rfl (Nat.le_of_ble_eq_true rfl) rfl ?_
  exact dX10_appendBytes_l3 hA   hs hQ
noncomputable def sX10_appendInput (S : Mem) (p1 : Int32) (p2 : Int32) (p3 : Int32) (p4 : Int32) (p5 : Int32) : Option (Int32 × Mem) :=
  olet (si S 100 6 0 ((0 : Int32))) fun S1 =>
  if ((gi S1 100 12 0) + (20 : Int32)) ≤ (1000 : Int32) then
    obind (sX10_appendBytes S1 p1) fun r3 =>
    obind (sX10_appendBytes r3 p2) fun r6 =>
    obind (sX10_appendBytes r6 p3) fun r9 =>
    obind (sX10_appendBytes r9 p4) fun r12 =>
    obind (sX10_appendBytes r12 p5) fun r15 =>
    some ((gi r15 100 12 0, r15))
  else
    some (((-1 : Int32), S1))
set_option maxRecDepth 100000 in
theorem dX10_appendInput {g : AG} {h0 : AH} {b : Nat} {S : Mem} {Q : AO → AH → Prop} {p1 : Int32} {p2 : Int32} {p3 : Int32} {p4 : Int32} {p5 : Int32} (hA : gB g ≤ b)  {r : (Int32 × Mem)} (hs : sX10_appendInput S p1 p2 p3 p4 p5 = some r) (hQ : Q (.ok (some (.int r.1))) (mb h0 b r.2)) : AW g MX10_appendInput 0 [some (.ref (b)), some (.int (p1)), some (.int (p2)), some (.int (p3)), some (.int (p4)), some (.int (p5))] [] (mb h0 b S) Q := by
  unfold sX10_appendInput at hs
  refine AW.aload_n (z := 0) (am_r 0 rfl) rfl rfl ?_
  refine AW.iconst (am_r 1 rfl) rfl ci_0 ?_
  refine AW.putO (am_r 2 rfl) rfl klX10 (k := 6) (by omega) q1509 (Or.inl rfl) mb_ob hA rfl rfl (mbp_ob (by decide)) ?_
  refine olet_e (P := fun y => AW g MX10_appendInput 5 [some (.ref (b)), some (.int (p1)), some (.int (p2)), some (.int (p3)), some (.int (p4)), some (.int (p5))] [] (mb h0 b y) Q) hs (fun S1 hs => ?_)
  refine AW.aload_n (z := 0) (am_r 3 rfl) rfl rfl ?_
  refine AW.getO (am_r 4 rfl) rfl klX10 (k := 12) (by omega) q1515 mb_ob rfl ?_
  refine AW.bipush (am_r 5 rfl) rfl cb_20 ?_
  refine AW.iadd (am_r 6 rfl) rfl ?_
  refine AW.sipush (am_r 7 rfl) rfl cs_1000 ?_
  refine AW.icmp_le (tg := 20) (am_r 8 rfl) rfl rfl (fun hc2 => ?_) (fun hc2 => ?_)
  · replace hs := (if_pos hc2).symm.trans hs
    refine AW.aload_n (z := 0) (am_r 11 rfl) rfl rfl ?_
    refine AW.iload_n (z := 1) (am_r 12 rfl) rfl rfl ?_
    refine obind_e hs (fun r3 hg5 hs => ?_)
    refine AW.callV (N := MX10_appendBytes) (As := [.int (p1)]) (S := []) (L0 := [some (.ref (b)), some (.int (p1)), none]) (b := b) (am_r 13 rfl) rfl ovX10_appendBytes q2050 rfl rfl mb_ob rfl rfl rfl rfl (dX10_appendBytes hA  hg5 (cQ_v ?_))
    refine AW.aload_n (z := 0) (am_r 14 rfl) rfl rfl ?_
    refine AW.iload_n (z := 2) (am_r 15 rfl) rfl rfl ?_
    refine obind_e hs (fun r6 hg8 hs => ?_)
    refine AW.callV (N := MX10_appendBytes) (As := [.int (p2)]) (S := []) (L0 := [some (.ref (b)), some (.int (p2)), none]) (b := b) (am_r 16 rfl) rfl ovX10_appendBytes q2050 rfl rfl mb_ob rfl rfl rfl rfl (dX10_appendBytes hA  hg8 (cQ_v ?_))
    refine AW.aload_n (z := 0) (am_r 17 rfl) rfl rfl ?_
    refine AW.iload_n (z := 3) (am_r 18 rfl) rfl rfl ?_
    refine obind_e hs (fun r9 hg11 hs => ?_)
    refine AW.callV (N := MX10_appendBytes) (As := [.int (p3)]) (S := []) (L0 := [some (.ref (b)), some (.int (p3)), none]) (b := b) (am_r 19 rfl) rfl ovX10_appendBytes q2050 rfl rfl mb_ob rfl rfl rfl rfl (dX10_appendBytes hA  hg11 (cQ_v ?_))
    refine AW.aload_n (z := 0) (am_r 20 rfl) rfl rfl ?_
    refine AW.iload (am_r 21 rfl) rfl rfl ?_
    refine obind_e hs (fun r12 hg14 hs => ?_)
    refine AW.callV (N := MX10_appendBytes) (As := [.int (p4)]) (S := []) (L0 := [some (.ref (b)), some (.int (p4)), none]) (b := b) (am_r 22 rfl) rfl ovX10_appendBytes q2050 rfl rfl mb_ob rfl rfl rfl rfl (dX10_appendBytes hA  hg14 (cQ_v ?_))
    refine AW.aload_n (z := 0) (am_r 23 rfl) rfl rfl ?_
    refine AW.iload (am_r 24 rfl) rfl rfl ?_
    refine obind_e hs (fun r15 hg17 hs => ?_)
    refine AW.callV (N := MX10_appendBytes) (As := [.int (p5)]) (S := []) (L0 := [some (.ref (b)), some (.int (p5)), none]) (b := b) (am_r 25 rfl) rfl ovX10_appendBytes q2050 rfl rfl mb_ob rfl rfl rfl rfl (dX10_appendBytes hA  hg17 (cQ_v ?_))
    refine AW.aload_n (z := 0) (am_r 26 rfl) rfl rfl ?_
    refine AW.getO (am_r 27 rfl) rfl klX10 (k := 12) (by omega) q1515 mb_ob rfl ?_
    have hr := (Option.some.inj hs).symm
    subst hr
    exact AW.iret (am_r 28 rfl) rfl hQ
  · replace hs := (if_neg hc2).symm.trans hs
    refine AW.iconst (am_r 9 rfl) rfl ci_m1 ?_
    have hr := (Option.some.inj hs).symm
    subst hr
    exact AW.iret (am_r 10 rfl) rfl hQ
def sX10_truncateInput (S : Mem) (p1 : Int32) : (Int32 × Mem) :=
  olet (si S 100 6 0 ((0 : Int32))) fun S1 =>
  if (sX10_inRange S1 p1.toInt64 (0 : Int64) ((gi S1 100 12 0).toInt64)) = 0 then
    ((-1 : Int32), S1)
  else
    olet (si S1 100 12 0 (p1)) fun S5 =>
    (p1, S5)
set_option maxRecDepth 100000 in
theorem dX10_truncateInput {g : AG} {h0 : AH} {b : Nat} {S : Mem} {Q : AO → AH → Prop} {p1 : Int32} (hA : gB g ≤ b)  {r : (Int32 × Mem)} (hs : sX10_truncateInput S p1 = r) (hQ : Q (.ok (some (.int r.1))) (mb h0 b r.2)) : AW g MX10_truncateInput 0 [some (.ref (b)), some (.int (p1))] [] (mb h0 b S) Q := by
  unfold sX10_truncateInput at hs
  refine AW.aload_n (z := 0) (am_r 0 rfl) rfl rfl ?_
  refine AW.iconst (am_r 1 rfl) rfl ci_0 ?_
  refine AW.putO (am_r 2 rfl) rfl klX10 (k := 6) (by omega) q1509 (Or.inl rfl) mb_ob hA rfl rfl (mbp_ob (by decide)) ?_
  refine olet_e (P := fun y => AW g MX10_truncateInput 5 [some (.ref (b)), some (.int (p1))] [] (mb h0 b y) Q) hs (fun S1 hs => ?_)
  refine AW.iload_n (z := 1) (am_r 3 rfl) rfl rfl ?_
  refine AW.i2l (am_r 4 rfl) rfl ?_
  refine AW.lconst (z := 0) (am_r 5 rfl) rfl cl_0 ?_
  refine AW.aload_n (z := 0) (am_r 6 rfl) rfl rfl ?_
  refine AW.getO (am_r 7 rfl) rfl klX10 (k := 12) (by omega) q1515 mb_ob rfl ?_
  refine AW.i2l (am_r 8 rfl) rfl ?_
  refine AW.callS (N := MX10_inRange) (As := [.long (p1.toInt64), .long ((0 : Int64)), .long ((gi S1 100 12 0).toInt64)]) (S := []) (L0 := [some (.long (p1.toInt64)), none, some (.long ((0 : Int64))), none, some (.long ((gi S1 100 12 0).toInt64)), none]) (am_r 9 rfl) rfl osX10_inRange q1592 rfl rfl rfl rfl rfl (dX10_inRange hA  rfl (fun hok3 => (cQ_r ?_)))
  refine AW.if_ne (tg := 21) (am_r 10 rfl) rfl rfl (fun hc4 => ?_) (fun hc4 => ?_)
  · replace hs := (if_neg hc4).symm.trans hs
    refine AW.aload_n (z := 0) (am_r 13 rfl) rfl rfl ?_
    refine AW.iload_n (z := 1) (am_r 14 rfl) rfl rfl ?_
    refine AW.putO (am_r 15 rfl) rfl klX10 (k := 12) (by omega) q1515 (Or.inl rfl) mb_ob hA rfl rfl (mbp_ob (by decide)) ?_
    refine olet_e (P := fun y => AW g MX10_truncateInput 26 [some (.ref (b)), some (.int (p1))] [] (mb h0 b y) Q) hs (fun S5 hs => ?_)
    refine AW.iload_n (z := 1) (am_r 16 rfl) rfl rfl ?_
    have hr := hs.symm
    subst hr
    exact AW.iret (am_r 17 rfl) rfl hQ
  · replace hs := (if_pos hc4).symm.trans hs
    refine AW.iconst (am_r 11 rfl) rfl ci_m1 ?_
    have hr := hs.symm
    subst hr
    exact AW.iret (am_r 12 rfl) rfl hQ
def sX10_errorCode (S : Mem)  : (Int32 × Mem) :=
  olet (si S 100 6 0 ((0 : Int32))) fun S1 =>
  (gi S1 100 14 0, S1)
set_option maxRecDepth 100000 in
theorem dX10_errorCode {g : AG} {h0 : AH} {b : Nat} {S : Mem} {Q : AO → AH → Prop}  (hA : gB g ≤ b)  {r : (Int32 × Mem)} (hs : sX10_errorCode S  = r) (hQ : Q (.ok (some (.int r.1))) (mb h0 b r.2)) : AW g MX10_errorCode 0 [some (.ref (b))] [] (mb h0 b S) Q := by
  unfold sX10_errorCode at hs
  refine AW.aload_n (z := 0) (am_r 0 rfl) rfl rfl ?_
  refine AW.iconst (am_r 1 rfl) rfl ci_0 ?_
  refine AW.putO (am_r 2 rfl) rfl klX10 (k := 6) (by omega) q1509 (Or.inl rfl) mb_ob hA rfl rfl (mbp_ob (by decide)) ?_
  refine olet_e (P := fun y => AW g MX10_errorCode 5 [some (.ref (b))] [] (mb h0 b y) Q) hs (fun S1 hs => ?_)
  refine AW.aload_n (z := 0) (am_r 3 rfl) rfl rfl ?_
  refine AW.getO (am_r 4 rfl) rfl klX10 (k := 14) (by omega) q1517 mb_ob rfl ?_
  have hr := hs.symm
  subst hr
  exact AW.iret (am_r 5 rfl) rfl hQ
def sX10_errorPosition (S : Mem)  : (Int32 × Mem) :=
  olet (si S 100 6 0 ((0 : Int32))) fun S1 =>
  (gi S1 100 15 0, S1)
set_option maxRecDepth 100000 in
theorem dX10_errorPosition {g : AG} {h0 : AH} {b : Nat} {S : Mem} {Q : AO → AH → Prop}  (hA : gB g ≤ b)  {r : (Int32 × Mem)} (hs : sX10_errorPosition S  = r) (hQ : Q (.ok (some (.int r.1))) (mb h0 b r.2)) : AW g MX10_errorPosition 0 [some (.ref (b))] [] (mb h0 b S) Q := by
  unfold sX10_errorPosition at hs
  refine AW.aload_n (z := 0) (am_r 0 rfl) rfl rfl ?_
  refine AW.iconst (am_r 1 rfl) rfl ci_0 ?_
  refine AW.putO (am_r 2 rfl) rfl klX10 (k := 6) (by omega) q1509 (Or.inl rfl) mb_ob hA rfl rfl (mbp_ob (by decide)) ?_
  refine olet_e (P := fun y => AW g MX10_errorPosition 5 [some (.ref (b))] [] (mb h0 b y) Q) hs (fun S1 hs => ?_)
  refine AW.aload_n (z := 0) (am_r 3 rfl) rfl rfl ?_
  refine AW.getO (am_r 4 rfl) rfl klX10 (k := 15) (by omega) q1518 mb_ob rfl ?_
  have hr := hs.symm
  subst hr
  exact AW.iret (am_r 5 rfl) rfl hQ
noncomputable def sX10_byteAt (S : Mem) (p1 : Int32) : Option Int32 :=
  if (gi S 100 12 0) ≤ p1 then
    some ((-1 : Int32))
  else
    oif (inb p1 1000) (
    some ((gi S 11 p1.toNatClampNeg 0) &&& (255 : Int32)))
set_option maxRecDepth 100000 in
theorem dX10_byteAt {g : AG} {h0 : AH} {b : Nat} {S : Mem} {Q : AO → AH → Prop} {p1 : Int32} (hA : gB g ≤ b)  {r : Int32} (hs : sX10_byteAt S p1 = some r) (hQ : Q (.ok (some (.int r))) (mb h0 b S)) : AW g MX10_byteAt 0 [some (.ref (b)), some (.int (p1))] [] (mb h0 b S) Q := by
  unfold sX10_byteAt at hs
  refine AW.iload_n (z := 1) (am_r 0 rfl) rfl rfl ?_
  refine AW.aload_n (z := 0) (am_r 1 rfl) rfl rfl ?_
  refine AW.getO (am_r 2 rfl) rfl klX10 (k := 12) (by omega) q1515 mb_ob rfl ?_
  refine AW.icmp_ge (tg := 21) (am_r 3 rfl) rfl rfl (fun hc1 => ?_) (fun hc1 => ?_)
  · replace hs := (if_pos hc1).symm.trans hs
    refine AW.iconst (am_r 11 rfl) rfl ci_m1 ?_
    have hr := (Option.some.inj hs).symm
    subst hr
    exact AW.iret (am_r 12 rfl) rfl hQ
  · replace hs := (if_neg hc1).symm.trans hs
    refine AW.aload_n (z := 0) (am_r 4 rfl) rfl rfl ?_
    refine AW.getO (am_r 5 rfl) rfl klX10 (k := 11) (by omega) q1514 mb_ob rfl ?_
    refine AW.iload_n (z := 1) (am_r 6 rfl) rfl rfl ?_
    refine oif_g hs (fun hg2 hs => ?_)
    refine AW.bald (am_r 7 rfl) rfl mb_a8 (vp_of_inb hg2) rfl ?_
    refine AW.sipush (am_r 8 rfl) rfl cs_255 ?_
    refine AW.iand (am_r 9 rfl) rfl ?_
    refine AW.goto (tg := 22) (am_r 10 rfl) rfl ?_
    have hr := (Option.some.inj hs).symm
    subst hr
    exact AW.iret (am_r 12 rfl) rfl hQ
def sX10_isLetter (S : Mem) (p1 : Int32) : Int32 :=
  sX10_inRange S p1.toInt64 (97 : Int64) (122 : Int64)
set_option maxRecDepth 100000 in
theorem dX10_isLetter {g : AG} {h0 : AH} {b : Nat} {S : Mem} {Q : AO → AH → Prop} {p1 : Int32} (hA : gB g ≤ b)  {r : Int32} (hs : sX10_isLetter S p1 = r) (hQ : (r = 0 ∨ r = 1) → Q (.ok (some (.int r))) (mb h0 b S)) : AW g MX10_isLetter 0 [some (.int (p1))] [] (mb h0 b S) Q := by
  unfold sX10_isLetter at hs
  refine AW.iload_n (z := 0) (am_r 0 rfl) rfl rfl ?_
  refine AW.i2l (am_r 1 rfl) rfl ?_
  refine AW.ldc2 (v := (97)) (am_r 2 rfl) rfl q2085 ?_
  refine AW.ldc2 (v := (122)) (am_r 3 rfl) rfl q2086 ?_
  refine AW.callS (N := MX10_inRange) (As := [.long (p1.toInt64), .long ((97 : Int64)), .long ((122 : Int64))]) (S := []) (L0 := [some (.long (p1.toInt64)), none, some (.long ((97 : Int64))), none, some (.long ((122 : Int64))), none]) (am_r 4 rfl) rfl osX10_inRange q1592 rfl rfl rfl rfl rfl (dX10_inRange hA  rfl (fun hok2 => (cQ_r ?_)))
  have hr := hs.symm
  subst hr
  exact AW.zret (am_r 5 rfl) rfl hok2 (hQ hok2)
def sX10_isDigit (S : Mem) (p1 : Int32) : Int32 :=
  sX10_inRange S p1.toInt64 (48 : Int64) (57 : Int64)
set_option maxRecDepth 100000 in
theorem dX10_isDigit {g : AG} {h0 : AH} {b : Nat} {S : Mem} {Q : AO → AH → Prop} {p1 : Int32} (hA : gB g ≤ b)  {r : Int32} (hs : sX10_isDigit S p1 = r) (hQ : (r = 0 ∨ r = 1) → Q (.ok (some (.int r))) (mb h0 b S)) : AW g MX10_isDigit 0 [some (.int (p1))] [] (mb h0 b S) Q := by
  unfold sX10_isDigit at hs
  refine AW.iload_n (z := 0) (am_r 0 rfl) rfl rfl ?_
  refine AW.i2l (am_r 1 rfl) rfl ?_
  refine AW.ldc2 (v := (48)) (am_r 2 rfl) rfl q2090 ?_
  refine AW.ldc2 (v := (57)) (am_r 3 rfl) rfl q2091 ?_
  refine AW.callS (N := MX10_inRange) (As := [.long (p1.toInt64), .long ((48 : Int64)), .long ((57 : Int64))]) (S := []) (L0 := [some (.long (p1.toInt64)), none, some (.long ((48 : Int64))), none, some (.long ((57 : Int64))), none]) (am_r 4 rfl) rfl osX10_inRange q1592 rfl rfl rfl rfl rfl (dX10_inRange hA  rfl (fun hok2 => (cQ_r ?_)))
  have hr := hs.symm
  subst hr
  exact AW.zret (am_r 5 rfl) rfl hok2 (hQ hok2)
noncomputable def sX10_advance_j26 (S : Mem)   : Option (Mem ⊕ Mem) :=
  olet (si S 100 13 0 ((gi S 100 13 0) + (1 : Int32))) fun S5 =>
  some (.inl S5)
set_option maxRecDepth 100000 in
theorem dX10_advance_j26 {g : AG} {h0 : AH} {b : Nat} {S : Mem} {Q : AO → AH → Prop}   (hA : gB g ≤ b)   {r : (Mem ⊕ Mem)} (hs : sX10_advance_j26 S   = some r) (hc : ∀ a : Mem, r = .inl a → AW g MX10_advance 0 [some (.ref (b)), none] [] (mb h0 b a) Q) (he : ∀ z : Mem, r = .inr z → Q (.ok none) (mb h0 b z)) : AW g MX10_advance 26 [some (.ref (b)), none] [] (mb h0 b S) Q := by
  unfold sX10_advance_j26 at hs
  refine AW.aload_n (z := 0) (am_r 12 rfl) rfl rfl ?_
  refine AW.dup (am_r 13 rfl) rfl rfl ?_
  refine AW.getO (am_r 14 rfl) rfl klX10 (k := 13) (by omega) q1516 mb_ob rfl ?_
  refine AW.iconst (am_r 15 rfl) rfl ci_1 ?_
  refine AW.iadd (am_r 16 rfl) rfl ?_
  refine AW.putO (am_r 17 rfl) rfl klX10 (k := 13) (by omega) q1516 (Or.inl rfl) mb_ob hA rfl rfl (mbp_ob (by decide)) ?_
  refine olet_e (P := fun y => AW g MX10_advance 36 [some (.ref (b)), none] [] (mb h0 b y) Q) hs (fun S5 hs => ?_)
  refine AW.goto (tg := 0) (am_r 18 rfl) rfl ?_
  have hr := (Option.some.inj hs).symm
  exact hc S5 hr 
noncomputable def sX10_advance_j297 (S : Mem)   : Option Mem :=
  if (gi S 100 16 0) = (2 : Int32) then
    if ((gi S 100 13 0) - (gi S 100 17 0)) ≤ (9 : Int32) then
      some (S)
    else
      olet (si S 100 16 0 ((4 : Int32))) fun S36 =>
      some (S36)
  else
    some (S)
set_option maxRecDepth 100000 in
theorem dX10_advance_j297 {g : AG} {h0 : AH} {b : Nat} {S : Mem} {Q : AO → AH → Prop}   (hA : gB g ≤ b)   {r : Mem} (hs : sX10_advance_j297 S   = some r) (hQ : Q (.ok none) (mb h0 b r)) : AW g MX10_advance 297 [some (.ref (b)), none] [] (mb h0 b S) Q := by
  unfold sX10_advance_j297 at hs
  refine AW.aload_n (z := 0) (am_r 151 rfl) rfl rfl ?_
  refine AW.getO (am_r 152 rfl) rfl klX10 (k := 16) (by omega) q1519 mb_ob rfl ?_
  refine AW.iconst (am_r 153 rfl) rfl ci_2 ?_
  refine AW.icmp_ne (tg := 324) (am_r 154 rfl) rfl rfl (fun hc34 => ?_) (fun hc34 => ?_)
  · replace hs := (if_neg hc34).symm.trans hs
    have hr := (Option.some.inj hs).symm
    subst hr
    exact AW.vret (am_r 165 rfl) rfl hQ
  · replace hs := (if_pos hc34).symm.trans hs
    refine AW.aload_n (z := 0) (am_r 155 rfl) rfl rfl ?_
    refine AW.getO (am_r 156 rfl) rfl klX10 (k := 13) (by omega) q1516 mb_ob rfl ?_
    refine AW.aload_n (z := 0) (am_r 157 rfl) rfl rfl ?_
    refine AW.getO (am_r 158 rfl) rfl klX10 (k := 17) (by omega) q1520 mb_ob rfl ?_
    refine AW.isub (am_r 159 rfl) rfl ?_
    refine AW.bipush (am_r 160 rfl) rfl cb_9 ?_
    refine AW.icmp_le (tg := 324) (am_r 161 rfl) rfl rfl (fun hc35 => ?_) (fun hc35 => ?_)
    · replace hs := (if_pos hc35).symm.trans hs
      have hr := (Option.some.inj hs).symm
      subst hr
      exact AW.vret (am_r 165 rfl) rfl hQ
    · replace hs := (if_neg hc35).symm.trans hs
      refine AW.aload_n (z := 0) (am_r 162 rfl) rfl rfl ?_
      refine AW.iconst (am_r 163 rfl) rfl ci_4 ?_
      refine AW.putO (am_r 164 rfl) rfl klX10 (k := 16) (by omega) q1519 (Or.inl rfl) mb_ob hA rfl rfl (mbp_ob (by decide)) ?_
      refine olet_e (P := fun y => AW g MX10_advance 324 [some (.ref (b)), none] [] (mb h0 b y) Q) hs (fun S36 hs => ?_)
      have hr := (Option.some.inj hs).symm
      subst hr
      exact AW.vret (am_r 165 rfl) rfl hQ
noncomputable def sX10_advance_j275 (S : Mem)   : Option Mem :=
  if (gi S 100 16 0) = (1 : Int32) then
    if (8 : Int32) < ((gi S 100 13 0) - (gi S 100 17 0)) then
      olet (si S 100 16 0 ((4 : Int32))) fun S38 =>
      some (S38)
    else
      sX10_advance_j297 S  
  else
    sX10_advance_j297 S  
set_option maxRecDepth 100000 in
theorem dX10_advance_j275 {g : AG} {h0 : AH} {b : Nat} {S : Mem} {Q : AO → AH → Prop}   (hA : gB g ≤ b)   {r : Mem} (hs : sX10_advance_j275 S   = some r) (hQ : Q (.ok none) (mb h0 b r)) : AW g MX10_advance 275 [some (.ref (b)), none] [] (mb h0 b S) Q := by
  unfold sX10_advance_j275 at hs
  refine AW.aload_n (z := 0) (am_r 140 rfl) rfl rfl ?_
  refine AW.getO (am_r 141 rfl) rfl klX10 (k := 16) (by omega) q1519 mb_ob rfl ?_
  refine AW.iconst (am_r 142 rfl) rfl ci_1 ?_
  refine AW.icmp_ne (tg := 297) (am_r 143 rfl) rfl rfl (fun hc33 => ?_) (fun hc33 => ?_)
  · replace hs := (if_neg hc33).symm.trans hs
    exact dX10_advance_j297 hA   hs hQ
  · replace hs := (if_pos hc33).symm.trans hs
    refine AW.aload_n (z := 0) (am_r 144 rfl) rfl rfl ?_
    refine AW.getO (am_r 145 rfl) rfl klX10 (k := 13) (by omega) q1516 mb_ob rfl ?_
    refine AW.aload_n (z := 0) (am_r 146 rfl) rfl rfl ?_
    refine AW.getO (am_r 147 rfl) rfl klX10 (k := 17) (by omega) q1520 mb_ob rfl ?_
    refine AW.isub (am_r 148 rfl) rfl ?_
    refine AW.bipush (am_r 149 rfl) rfl cb_8 ?_
    refine AW.icmp_gt (tg := 319) (am_r 150 rfl) rfl rfl (fun hc37 => ?_) (fun hc37 => ?_)
    · replace hs := (if_pos hc37).symm.trans hs
      refine AW.aload_n (z := 0) (am_r 162 rfl) rfl rfl ?_
      refine AW.iconst (am_r 163 rfl) rfl ci_4 ?_
      refine AW.putO (am_r 164 rfl) rfl klX10 (k := 16) (by omega) q1519 (Or.inl rfl) mb_ob hA rfl rfl (mbp_ob (by decide)) ?_
      refine olet_e (P := fun y => AW g MX10_advance 324 [some (.ref (b)), none] [] (mb h0 b y) Q) hs (fun S38 hs => ?_)
      have hr := (Option.some.inj hs).symm
      subst hr
      exact AW.vret (am_r 165 rfl) rfl hQ
    · replace hs := (if_neg hc37).symm.trans hs
      exact dX10_advance_j297 hA   hs hQ
noncomputable def sX10_advance_j262 (S : Mem)   : Option (Mem ⊕ Mem) :=
  olet (si S 100 13 0 ((gi S 100 13 0) + (1 : Int32))) fun S48 =>
  some (.inl S48)
set_option maxRecDepth 100000 in
theorem dX10_advance_j262 {g : AG} {h0 : AH} {b : Nat} {S : Mem} {Q : AO → AH → Prop}   (hA : gB g ≤ b)   {r : (Mem ⊕ Mem)} (hs : sX10_advance_j262 S   = some r) (hc : ∀ a : Mem, r = .inl a → AW g MX10_advance 200 [some (.ref (b)), none] [] (mb h0 b a) Q) (he : ∀ z : Mem, r = .inr z → Q (.ok none) (mb h0 b z)) : AW g MX10_advance 262 [some (.ref (b)), none] [] (mb h0 b S) Q := by
  unfold sX10_advance_j262 at hs
  refine AW.aload_n (z := 0) (am_r 133 rfl) rfl rfl ?_
  refine AW.dup (am_r 134 rfl) rfl rfl ?_
  refine AW.getO (am_r 135 rfl) rfl klX10 (k := 13) (by omega) q1516 mb_ob rfl ?_
  refine AW.iconst (am_r 136 rfl) rfl ci_1 ?_
  refine AW.iadd (am_r 137 rfl) rfl ?_
  refine AW.putO (am_r 138 rfl) rfl klX10 (k := 13) (by omega) q1516 (Or.inl rfl) mb_ob hA rfl rfl (mbp_ob (by decide)) ?_
  refine olet_e (P := fun y => AW g MX10_advance 272 [some (.ref (b)), none] [] (mb h0 b y) Q) hs (fun S48 hs => ?_)
  refine AW.goto (tg := 200) (am_r 139 rfl) rfl ?_
  have hr := (Option.some.inj hs).symm
  exact hc S48 hr 
noncomputable def sX10_advance_l200_step   (a : Mem) : Option (Mem ⊕ Mem) :=
  if (gi a 100 16 0) = (2 : Int32) then
    obind (sX10_byteAt a (gi a 100 13 0)) fun r39 =>
    if (sX10_isDigit a r39) = 0 then
      oinr (
      sX10_advance_j275 a  )
    else
      if (9 : Int32) ≤ ((gi a 100 13 0) - (gi a 100 17 0)) then
        sX10_advance_j262 a  
      else
        obind (sX10_byteAt a (gi a 100 13 0)) fun r49 =>
        olet (sq a 19 0 ((((gq a 19 0) * (10 : Int64)) + r49.toInt64) - (48 : Int64))) fun S52 =>
        sX10_advance_j262 S52  
  else
    oinr (
    sX10_advance_j275 a  )
noncomputable def sX10_advance_l200   (a : Mem) : Option Mem := itw (sX10_advance_l200_step  ) a
set_option maxRecDepth 100000 in
theorem dX10_advance_l200 {g : AG} {h0 : AH} {b : Nat} {Q : AO → AH → Prop}  (hA : gB g ≤ b)  {a : Mem}  {r : Mem} (hs : sX10_advance_l200   a = some r) (hQ : Q (.ok none) (mb h0 b r)) : AW g MX10_advance 200 [some (.ref (b)), none] [] (mb h0 b a) Q := by
  refine itw_e (P := fun a => AW g MX10_advance 200 [some (.ref (b)), none] [] (mb h0 b a) Q) (Post := fun r => Q (.ok none) (mb h0 b r)) (fun a r hs hc he  => ?_) hs hQ 
  unfold sX10_advance_l200_step at hs
  refine AW.aload_n (z := 0) (am_r 102 rfl) rfl rfl ?_
  refine AW.getO (am_r 103 rfl) rfl klX10 (k := 16) (by omega) q1519 mb_ob rfl ?_
  refine AW.iconst (am_r 104 rfl) rfl ci_2 ?_
  refine AW.icmp_ne (tg := 275) (am_r 105 rfl) rfl rfl (fun hc30 => ?_) (fun hc30 => ?_)
  · replace hs := (if_neg hc30).symm.trans hs
    refine oinr_e hs (fun z31 hz32 hs => ?_)
    have hQ := he _ hz32
    exact dX10_advance_j275 hA   hs hQ
  · replace hs := (if_pos hc30).symm.trans hs
    refine AW.aload_n (z := 0) (am_r 106 rfl) rfl rfl ?_
    refine AW.aload_n (z := 0) (am_r 107 rfl) rfl rfl ?_
    refine AW.getO (am_r 108 rfl) rfl klX10 (k := 13) (by omega) q1516 mb_ob rfl ?_
    refine obind_e hs (fun r39 hg41 hs => ?_)
    refine AW.callV (N := MX10_byteAt) (As := [.int (gi a 100 13 0)]) (S := []) (L0 := [some (.ref (b)), some (.int (gi a 100 13 0))]) (b := b) (am_r 109 rfl) rfl ovX10_byteAt q2078 rfl rfl mb_ob rfl rfl rfl rfl (dX10_byteAt hA  hg41 (cQ_r ?_))
    refine AW.callS (N := MX10_isDigit) (As := [.int (r39)]) (S := []) (L0 := [some (.int (r39))]) (am_r 110 rfl) rfl osX10_isDigit q2087 rfl rfl rfl rfl rfl (dX10_isDigit hA  rfl (fun hok43 => (cQ_r ?_)))
    refine AW.if_eq (tg := 275) (am_r 111 rfl) rfl rfl (fun hc44 => ?_) (fun hc44 => ?_)
    · replace hs := (if_pos hc44).symm.trans hs
      refine oinr_e hs (fun z45 hz46 hs => ?_)
      have hQ := he _ hz46
      exact dX10_advance_j275 hA   hs hQ
    · replace hs := (if_neg hc44).symm.trans hs
      refine AW.aload_n (z := 0) (am_r 112 rfl) rfl rfl ?_
      refine AW.getO (am_r 113 rfl) rfl klX10 (k := 13) (by omega) q1516 mb_ob rfl ?_
      refine AW.aload_n (z := 0) (am_r 114 rfl) rfl rfl ?_
      refine AW.getO (am_r 115 rfl) rfl klX10 (k := 17) (by omega) q1520 mb_ob rfl ?_
      refine AW.isub (am_r 116 rfl) rfl ?_
      refine AW.bipush (am_r 117 rfl) rfl cb_9 ?_
      refine AW.icmp_ge (tg := 262) (am_r 118 rfl) rfl rfl (fun hc47 => ?_) (fun hc47 => ?_)
      · replace hs := (if_pos hc47).symm.trans hs
        exact dX10_advance_j262 hA   hs hc he
      · replace hs := (if_neg hc47).symm.trans hs
        refine AW.aload_n (z := 0) (am_r 119 rfl) rfl rfl ?_
        refine AW.aload_n (z := 0) (am_r 120 rfl) rfl rfl ?_
        refine AW.getO (am_r 121 rfl) rfl klX10 (k := 19) (by omega) q1522 mb_ob rfl ?_
        refine AW.ldc2 (v := (10)) (am_r 122 rfl) rfl q2094 ?_
        refine AW.lmul (am_r 123 rfl) rfl ?_
        refine AW.aload_n (z := 0) (am_r 124 rfl) rfl rfl ?_
        refine AW.aload_n (z := 0) (am_r 125 rfl) rfl rfl ?_
        refine AW.getO (am_r 126 rfl) rfl klX10 (k := 13) (by omega) q1516 mb_ob rfl ?_
        refine obind_e hs (fun r49 hg51 hs => ?_)
        refine AW.callV (N := MX10_byteAt) (As := [.int (gi a 100 13 0)]) (S := [(.long ((gq a 19 0) * (10 : Int64))), (.ref (b))]) (L0 := [some (.ref (b)), some (.int (gi a 100 13 0))]) (b := b) (am_r 127 rfl) rfl ovX10_byteAt q2078 rfl rfl mb_ob rfl rfl rfl rfl (dX10_byteAt hA  hg51 (cQ_r ?_))
        refine AW.i2l (am_r 128 rfl) rfl ?_
        refine AW.ladd (am_r 129 rfl) rfl ?_
        refine AW.ldc2 (v := (48)) (am_r 130 rfl) rfl q2090 ?_
        refine AW.lsub (am_r 131 rfl) rfl ?_
        refine AW.putO (am_r 132 rfl) rfl klX10 (k := 19) (by omega) q1522 (Or.inl rfl) mb_ob hA rfl rfl mbp_va ?_
        refine olet_e (P := fun y => AW g MX10_advance 262 [some (.ref (b)), none] [] (mb h0 b y) Q) hs (fun S52 hs => ?_)
        exact dX10_advance_j262 hA   hs hc he
noncomputable def sX10_advance_j187 (S : Mem)   : Option (Mem ⊕ Mem) :=
  olet (si S 100 13 0 ((gi S 100 13 0) + (1 : Int32))) fun S62 =>
  some (.inl S62)
set_option maxRecDepth 100000 in
theorem dX10_advance_j187 {g : AG} {h0 : AH} {b : Nat} {S : Mem} {Q : AO → AH → Prop}   (hA : gB g ≤ b)   {r : (Mem ⊕ Mem)} (hs : sX10_advance_j187 S   = some r) (hc : ∀ a : Mem, r = .inl a → AW g MX10_advance 125 [some (.ref (b)), none] [] (mb h0 b a) Q) (he : ∀ z : Mem, r = .inr z → Q (.ok none) (mb h0 b z)) : AW g MX10_advance 187 [some (.ref (b)), none] [] (mb h0 b S) Q := by
  unfold sX10_advance_j187 at hs
  refine AW.aload_n (z := 0) (am_r 95 rfl) rfl rfl ?_
  refine AW.dup (am_r 96 rfl) rfl rfl ?_
  refine AW.getO (am_r 97 rfl) rfl klX10 (k := 13) (by omega) q1516 mb_ob rfl ?_
  refine AW.iconst (am_r 98 rfl) rfl ci_1 ?_
  refine AW.iadd (am_r 99 rfl) rfl ?_
  refine AW.putO (am_r 100 rfl) rfl klX10 (k := 13) (by omega) q1516 (Or.inl rfl) mb_ob hA rfl rfl (mbp_ob (by decide)) ?_
  refine olet_e (P := fun y => AW g MX10_advance 197 [some (.ref (b)), none] [] (mb h0 b y) Q) hs (fun S62 hs => ?_)
  refine AW.goto (tg := 125) (am_r 101 rfl) rfl ?_
  have hr := (Option.some.inj hs).symm
  exact hc S62 hr 
noncomputable def sX10_advance_l125_step   (a : Mem) : Option (Mem ⊕ Mem) :=
  if (gi a 100 16 0) = (1 : Int32) then
    obind (sX10_byteAt a (gi a 100 13 0)) fun r53 =>
    if (sX10_isLetter a r53) = 0 then
      oinr (
      sX10_advance_l200   a)
    else
      if (8 : Int32) ≤ ((gi a 100 13 0) - (gi a 100 17 0)) then
        sX10_advance_j187 a  
      else
        obind (sX10_byteAt a (gi a 100 13 0)) fun r63 =>
        olet (sq a 19 0 ((((gq a 19 0) * (32 : Int64)) + r63.toInt64) - (96 : Int64))) fun S66 =>
        sX10_advance_j187 S66  
  else
    oinr (
    sX10_advance_l200   a)
noncomputable def sX10_advance_l125   (a : Mem) : Option Mem := itw (sX10_advance_l125_step  ) a
set_option maxRecDepth 100000 in
theorem dX10_advance_l125 {g : AG} {h0 : AH} {b : Nat} {Q : AO → AH → Prop}  (hA : gB g ≤ b)  {a : Mem}  {r : Mem} (hs : sX10_advance_l125   a = some r) (hQ : Q (.ok none) (mb h0 b r)) : AW g MX10_advance 125 [some (.ref (b)), none] [] (mb h0 b a) Q := by
  refine itw_e (P := fun a => AW g MX10_advance 125 [some (.ref (b)), none] [] (mb h0 b a) Q) (Post := fun r => Q (.ok none) (mb h0 b r)) (fun a r hs hc he  => ?_) hs hQ 
  unfold sX10_advance_l125_step at hs
  refine AW.aload_n (z := 0) (am_r 64 rfl) rfl rfl ?_
  refine AW.getO (am_r 65 rfl) rfl klX10 (k := 16) (by omega) q1519 mb_ob rfl ?_
  refine AW.iconst (am_r 66 rfl) rfl ci_1 ?_
  refine AW.icmp_ne (tg := 200) (am_r 67 rfl) rfl rfl (fun hc27 => ?_) (fun hc27 => ?_)
  · replace hs := (if_neg hc27).symm.trans hs
    refine oinr_e hs (fun z28 hz29 hs => ?_)
    have hQ := he _ hz29
    exact dX10_advance_l200 hA   hs hQ
  · replace hs := (if_pos hc27).symm.trans hs
    refine AW.aload_n (z := 0) (am_r 68 rfl) rfl rfl ?_
    refine AW.aload_n (z := 0) (am_r 69 rfl) rfl rfl ?_
    refine AW.getO (am_r 70 rfl) rfl klX10 (k := 13) (by omega) q1516 mb_ob rfl ?_
    refine obind_e hs (fun r53 hg55 hs => ?_)
    refine AW.callV (N := MX10_byteAt) (As := [.int (gi a 100 13 0)]) (S := []) (L0 := [some (.ref (b)), some (.int (gi a 100 13 0))]) (b := b) (am_r 71 rfl) rfl ovX10_byteAt q2078 rfl rfl mb_ob rfl rfl rfl rfl (dX10_byteAt hA  hg55 (cQ_r ?_))
    refine AW.callS (N := MX10_isLetter) (As := [.int (r53)]) (S := []) (L0 := [some (.int (r53))]) (am_r 72 rfl) rfl osX10_isLetter q2082 rfl rfl rfl rfl rfl (dX10_isLetter hA  rfl (fun hok57 => (cQ_r ?_)))
    refine AW.if_eq (tg := 200) (am_r 73 rfl) rfl rfl (fun hc58 => ?_) (fun hc58 => ?_)
    · replace hs := (if_pos hc58).symm.trans hs
      refine oinr_e hs (fun z59 hz60 hs => ?_)
      have hQ := he _ hz60
      exact dX10_advance_l200 hA   hs hQ
    · replace hs := (if_neg hc58).symm.trans hs
      refine AW.aload_n (z := 0) (am_r 74 rfl) rfl rfl ?_
      refine AW.getO (am_r 75 rfl) rfl klX10 (k := 13) (by omega) q1516 mb_ob rfl ?_
      refine AW.aload_n (z := 0) (am_r 76 rfl) rfl rfl ?_
      refine AW.getO (am_r 77 rfl) rfl klX10 (k := 17) (by omega) q1520 mb_ob rfl ?_
      refine AW.isub (am_r 78 rfl) rfl ?_
      refine AW.bipush (am_r 79 rfl) rfl cb_8 ?_
      refine AW.icmp_ge (tg := 187) (am_r 80 rfl) rfl rfl (fun hc61 => ?_) (fun hc61 => ?_)
      · replace hs := (if_pos hc61).symm.trans hs
        exact dX10_advance_j187 hA   hs hc he
      · replace hs := (if_neg hc61).symm.trans hs
        refine AW.aload_n (z := 0) (am_r 81 rfl) rfl rfl ?_
        refine AW.aload_n (z := 0) (am_r 82 rfl) rfl rfl ?_
        refine AW.getO (am_r 83 rfl) rfl klX10 (k := 19) (by omega) q1522 mb_ob rfl ?_
        refine AW.ldc2 (v := (32)) (am_r 84 rfl) rfl q2092 ?_
        refine AW.lmul (am_r 85 rfl) rfl ?_
        refine AW.aload_n (z := 0) (am_r 86 rfl) rfl rfl ?_
        refine AW.aload_n (z := 0) (am_r 87 rfl) rfl rfl ?_
        refine AW.getO (am_r 88 rfl) rfl klX10 (k := 13) (by omega) q1516 mb_ob rfl ?_
        refine obind_e hs (fun r63 hg65 hs => ?_)
        refine AW.callV (N := MX10_byteAt) (As := [.int (gi a 100 13 0)]) (S := [(.long ((gq a 19 0) * (32 : Int64))), (.ref (b))]) (L0 := [some (.ref (b)), some (.int (gi a 100 13 0))]) (b := b) (am_r 89 rfl) rfl ovX10_byteAt q2078 rfl rfl mb_ob rfl rfl rfl rfl (dX10_byteAt hA  hg65 (cQ_r ?_))
        refine AW.i2l (am_r 90 rfl) rfl ?_
        refine AW.ladd (am_r 91 rfl) rfl ?_
        refine AW.ldc2 (v := (96)) (am_r 92 rfl) rfl q2093 ?_
        refine AW.lsub (am_r 93 rfl) rfl ?_
        refine AW.putO (am_r 94 rfl) rfl klX10 (k := 19) (by omega) q1522 (Or.inl rfl) mb_ob hA rfl rfl mbp_va ?_
        refine olet_e (P := fun y => AW g MX10_advance 187 [some (.ref (b)), none] [] (mb h0 b y) Q) hs (fun S66 hs => ?_)
        exact dX10_advance_j187 hA   hs hc he
noncomputable def sX10_advance_j104 (S : Mem)  (y0 : Int32) : Option Mem :=
  olet (si S 100 16 0 (y0)) fun S25 =>
  if (gi S25 100 16 0) ≤ (2 : Int32) then
    sX10_advance_l125   S25
  else
    olet (si S25 100 13 0 ((gi S25 100 13 0) + (1 : Int32))) fun S67 =>
    sX10_advance_l125   S67
set_option maxRecDepth 100000 in
theorem dX10_advance_j104 {g : AG} {h0 : AH} {b : Nat} {S : Mem} {Q : AO → AH → Prop}  {y0 : Int32} (hA : gB g ≤ b)   {r : Mem} (hs : sX10_advance_j104 S  y0 = some r) (hQ : Q (.ok none) (mb h0 b r)) : AW g MX10_advance 104 [some (.ref (b)), none] [(.int (y0)), (.ref (b))] (mb h0 b S) Q := by
  unfold sX10_advance_j104 at hs
  refine AW.putO (am_r 53 rfl) rfl klX10 (k := 16) (by omega) q1519 (Or.inl rfl) mb_ob hA rfl rfl (mbp_ob (by decide)) ?_
  refine olet_e (P := fun y => AW g MX10_advance 107 [some (.ref (b)), none] [] (mb h0 b y) Q) hs (fun S25 hs => ?_)
  refine AW.aload_n (z := 0) (am_r 54 rfl) rfl rfl ?_
  refine AW.getO (am_r 55 rfl) rfl klX10 (k := 16) (by omega) q1519 mb_ob rfl ?_
  refine AW.iconst (am_r 56 rfl) rfl ci_2 ?_
  refine AW.icmp_le (tg := 125) (am_r 57 rfl) rfl rfl (fun hc26 => ?_) (fun hc26 => ?_)
  · replace hs := (if_pos hc26).symm.trans hs
    exact dX10_advance_l125 hA   hs hQ
  · replace hs := (if_neg hc26).symm.trans hs
    refine AW.aload_n (z := 0) (am_r 58 rfl) rfl rfl ?_
    refine AW.dup (am_r 59 rfl) rfl rfl ?_
    refine AW.getO (am_r 60 rfl) rfl klX10 (k := 13) (by omega) q1516 mb_ob rfl ?_
    refine AW.iconst (am_r 61 rfl) rfl ci_1 ?_
    refine AW.iadd (am_r 62 rfl) rfl ?_
    refine AW.putO (am_r 63 rfl) rfl klX10 (k := 13) (by omega) q1516 (Or.inl rfl) mb_ob hA rfl rfl (mbp_ob (by decide)) ?_
    refine olet_e (P := fun y => AW g MX10_advance 125 [some (.ref (b)), none] [] (mb h0 b y) Q) hs (fun S67 hs => ?_)
    exact dX10_advance_l125 hA   hs hQ
noncomputable def sX10_advance_l0_step   (a : Mem) : Option (Mem ⊕ Mem) :=
  obind (sX10_byteAt a (gi a 100 13 0)) fun r1 =>
  if r1 = (32 : Int32) then
    sX10_advance_j26 a  
  else
    obind (sX10_byteAt a (gi a 100 13 0)) fun r6 =>
    if r6 = (10 : Int32) then
      sX10_advance_j26 a  
    else
      oinr (
      olet (si a 100 17 0 (gi a 100 13 0)) fun S12 =>
      olet (sq S12 19 0 ((0 : Int64))) fun S13 =>
      obind (sX10_byteAt S13 (gi S13 100 17 0)) fun r14 =>
      if r14 = (-1 : Int32) then
        sX10_advance_j104 S13  (0 : Int32)
      else
        if (sX10_isLetter S13 r14) = 0 then
          if (sX10_isDigit S13 r14) = 0 then
            if r14 = (59 : Int32) then
              sX10_advance_j104 S13  (3 : Int32)
            else
              sX10_advance_j104 S13  (4 : Int32)
          else
            sX10_advance_j104 S13  (2 : Int32)
        else
          sX10_advance_j104 S13  (1 : Int32))
noncomputable def sX10_advance_l0   (a : Mem) : Option Mem := itw (sX10_advance_l0_step  ) a
set_option maxRecDepth 100000 in
theorem dX10_advance_l0 {g : AG} {h0 : AH} {b : Nat} {Q : AO → AH → Prop}  (hA : gB g ≤ b)  {a : Mem}  {r : Mem} (hs : sX10_advance_l0   a = some r) (hQ : Q (.ok none) (mb h0 b r)) : AW g MX10_advance 0 [some (.ref (b)), none] [] (mb h0 b a) Q := by
  refine itw_e (P := fun a => AW g MX10_advance 0 [some (.ref (b)), none] [] (mb h0 b a) Q) (Post := fun r => Q (.ok none) (mb h0 b r)) (fun a r hs hc he  => ?_) hs hQ 
  unfold sX10_advance_l0_step at hs
  refine AW.aload_n (z := 0) (am_r 0 rfl) rfl rfl ?_
  refine AW.aload_n (z := 0) (am_r 1 rfl) rfl rfl ?_
  refine AW.getO (am_r 2 rfl) rfl klX10 (k := 13) (by omega) q1516 mb_ob rfl ?_
  refine obind_e hs (fun r1 hg3 hs => ?_)
  refine AW.callV (N := MX10_byteAt) (As := [.int (gi a 100 13 0)]) (S := []) (L0 := [some (.ref (b)), some (.int (gi a 100 13 0))]) (b := b) (am_r 3 rfl) rfl ovX10_byteAt q2078 rfl rfl mb_ob rfl rfl rfl rfl (dX10_byteAt hA  hg3 (cQ_r ?_))
  refine AW.bipush (am_r 4 rfl) rfl cb_32 ?_
  refine AW.icmp_eq (tg := 26) (am_r 5 rfl) rfl rfl (fun hc4 => ?_) (fun hc4 => ?_)
  · replace hs := (if_pos hc4).symm.trans hs
    exact dX10_advance_j26 hA   hs hc he
  · replace hs := (if_neg hc4).symm.trans hs
    refine AW.aload_n (z := 0) (am_r 6 rfl) rfl rfl ?_
    refine AW.aload_n (z := 0) (am_r 7 rfl) rfl rfl ?_
    refine AW.getO (am_r 8 rfl) rfl klX10 (k := 13) (by omega) q1516 mb_ob rfl ?_
    refine obind_e hs (fun r6 hg8 hs => ?_)
    refine AW.callV (N := MX10_byteAt) (As := [.int (gi a 100 13 0)]) (S := []) (L0 := [some (.ref (b)), some (.int (gi a 100 13 0))]) (b := b) (am_r 9 rfl) rfl ovX10_byteAt q2078 rfl rfl mb_ob rfl rfl rfl rfl (dX10_byteAt hA  hg8 (cQ_r ?_))
    refine AW.bipush (am_r 10 rfl) rfl cb_10 ?_
    refine AW.icmp_ne (tg := 39) (am_r 11 rfl) rfl rfl (fun hc9 => ?_) (fun hc9 => ?_)
    · replace hs := (if_neg hc9).symm.trans hs
      refine oinr_e hs (fun z10 hz11 hs => ?_)
      have hQ := he _ hz11
      refine AW.aload_n (z := 0) (am_r 19 rfl) rfl rfl ?_
      refine AW.aload_n (z := 0) (am_r 20 rfl) rfl rfl ?_
      refine AW.getO (am_r 21 rfl) rfl klX10 (k := 13) (by omega) q1516 mb_ob rfl ?_
      refine AW.putO (am_r 22 rfl) rfl klX10 (k := 17) (by omega) q1520 (Or.inl rfl) mb_ob hA rfl rfl (mbp_ob (by decide)) ?_
      refine olet_e (P := fun y => AW g MX10_advance 47 [some (.ref (b)), none] [] (mb h0 b y) Q) hs (fun S12 hs => ?_)
      refine AW.aload_n (z := 0) (am_r 23 rfl) rfl rfl ?_
      refine AW.lconst (z := 0) (am_r 24 rfl) rfl cl_0 ?_
      refine AW.putO (am_r 25 rfl) rfl klX10 (k := 19) (by omega) q1522 (Or.inl rfl) mb_ob hA rfl rfl mbp_va ?_
      refine olet_e (P := fun y => AW g MX10_advance 52 [some (.ref (b)), none] [] (mb h0 b y) Q) hs (fun S13 hs => ?_)
      refine AW.aload_n (z := 0) (am_r 26 rfl) rfl rfl ?_
      refine AW.aload_n (z := 0) (am_r 27 rfl) rfl rfl ?_
      refine AW.getO (am_r 28 rfl) rfl klX10 (k := 17) (by omega) q1520 mb_ob rfl ?_
      refine obind_e hs (fun r14 hg16 hs => ?_)
      refine AW.callV (N := MX10_byteAt) (As := [.int (gi S13 100 17 0)]) (S := []) (L0 := [some (.ref (b)), some (.int (gi S13 100 17 0))]) (b := b) (am_r 29 rfl) rfl ovX10_byteAt q2078 rfl rfl mb_ob rfl rfl rfl rfl (dX10_byteAt hA  hg16 (cQ_r ?_))
      refine AW.istore_n (L' := [some (.ref (b)), some (.int (r14))]) (z := 1) (am_r 30 rfl) rfl (Nat.le_of_ble_eq_true rfl) rfl ?_
      refine AW.aload_n (z := 0) (am_r 31 rfl) rfl rfl ?_
      refine AW.iload_n (z := 1) (am_r 32 rfl) rfl rfl ?_
      refine AW.iconst (am_r 33 rfl) rfl ci_m1 ?_
      refine AW.icmp_ne (tg := 71) (am_r 34 rfl) rfl rfl (fun hc17 => ?_) (fun hc17 => ?_)
      · replace hs := (if_neg hc17).symm.trans hs
        refine AW.iload_n (z := 1) (am_r 37 rfl) rfl rfl ?_
        refine AW.callS (N := MX10_isLetter) (As := [.int (r14)]) (S := [(.ref (b))]) (L0 := [some (.int (r14))]) (am_r 38 rfl) rfl osX10_isLetter q2082 rfl rfl rfl rfl rfl (dX10_isLetter hA  rfl (fun hok19 => (cQ_r ?_)))
        refine AW.if_eq (tg := 82) (am_r 39 rfl) rfl rfl (fun hc20 => ?_) (fun hc20 => ?_)
        · replace hs := (if_pos hc20).symm.trans hs
          refine AW.iload_n (z := 1) (am_r 42 rfl) rfl rfl ?_
          refine AW.callS (N := MX10_isDigit) (As := [.int (r14)]) (S := [(.ref (b))]) (L0 := [some (.int (r14))]) (am_r 43 rfl) rfl osX10_isDigit q2087 rfl rfl rfl rfl rfl (dX10_isDigit hA  rfl (fun hok22 => (cQ_r ?_)))
          refine AW.if_eq (tg := 93) (am_r 44 rfl) rfl rfl (fun hc23 => ?_) (fun hc23 => ?_)
          · replace hs := (if_pos hc23).symm.trans hs
            refine AW.iload_n (z := 1) (am_r 47 rfl) rfl rfl ?_
            refine AW.bipush (am_r 48 rfl) rfl cb_59 ?_
            refine AW.icmp_ne (tg := 103) (am_r 49 rfl) rfl rfl (fun hc24 => ?_) (fun hc24 => ?_)
            · replace hs := (if_neg hc24).symm.trans hs
              refine AW.iconst (am_r 52 rfl) rfl ci_4 ?_
              refine AW.lessL (L' := [some (.ref (b)), none]) ⟨rfl, trivial⟩ ?_
              exact dX10_advance_j104 hA   hs hQ
            · replace hs := (if_pos hc24).symm.trans hs
              refine AW.iconst (am_r 50 rfl) rfl ci_3 ?_
              refine AW.goto (tg := 104) (am_r 51 rfl) rfl ?_
              refine AW.lessL (L' := [some (.ref (b)), none]) ⟨rfl, trivial⟩ ?_
              exact dX10_advance_j104 hA   hs hQ
          · replace hs := (if_neg hc23).symm.trans hs
            refine AW.iconst (am_r 45 rfl) rfl ci_2 ?_
            refine AW.goto (tg := 104) (am_r 46 rfl) rfl ?_
            refine AW.lessL (L' := [some (.ref (b)), none]) ⟨rfl, trivial⟩ ?_
            exact dX10_advance_j104 hA   hs hQ
        · replace hs := (if_neg hc20).symm.trans hs
          refine AW.iconst (am_r 40 rfl) rfl ci_1 ?_
          refine AW.goto (tg := 104) (am_r 41 rfl) rfl ?_
          refine AW.lessL (L' := [some (.ref (b)), none]) ⟨rfl, trivial⟩ ?_
          exact dX10_advance_j104 hA   hs hQ
      · replace hs := (if_pos hc17).symm.trans hs
        refine AW.iconst (am_r 35 rfl) rfl ci_0 ?_
        refine AW.goto (tg := 104) (am_r 36 rfl) rfl ?_
        refine AW.lessL (L' := [some (.ref (b)), none]) ⟨rfl, trivial⟩ ?_
        exact dX10_advance_j104 hA   hs hQ
    · replace hs := (if_pos hc9).symm.trans hs
      exact dX10_advance_j26 hA   hs hc he
noncomputable def sX10_advance (S : Mem)  : Option Mem :=
  sX10_advance_l0   S
set_option maxRecDepth 100000 in
theorem dX10_advance {g : AG} {h0 : AH} {b : Nat} {S : Mem} {Q : AO → AH → Prop}  (hA : gB g ≤ b)  {r : Mem} (hs : sX10_advance S  = some r) (hQ : Q (.ok none) (mb h0 b r)) : AW g MX10_advance 0 [some (.ref (b)), none] [] (mb h0 b S) Q := by
  unfold sX10_advance at hs
  exact dX10_advance_l0 hA   hs hQ
noncomputable def sX10_beginText (S : Mem)  : Option Mem :=
  olet (si S 100 14 0 ((0 : Int32))) fun S1 =>
  olet (si S1 100 15 0 ((-1 : Int32))) fun S2 =>
  olet (si S2 100 13 0 ((0 : Int32))) fun S3 =>
  obind (sX10_advance S3 ) fun r4 =>
  some (r4)
set_option maxRecDepth 100000 in
theorem dX10_beginText {g : AG} {h0 : AH} {b : Nat} {S : Mem} {Q : AO → AH → Prop}  (hA : gB g ≤ b)  {r : Mem} (hs : sX10_beginText S  = some r) (hQ : Q (.ok none) (mb h0 b r)) : AW g MX10_beginText 0 [some (.ref (b))] [] (mb h0 b S) Q := by
  unfold sX10_beginText at hs
  refine AW.aload_n (z := 0) (am_r 0 rfl) rfl rfl ?_
  refine AW.iconst (am_r 1 rfl) rfl ci_0 ?_
  refine AW.putO (am_r 2 rfl) rfl klX10 (k := 14) (by omega) q1517 (Or.inl rfl) mb_ob hA rfl rfl (mbp_ob (by decide)) ?_
  refine olet_e (P := fun y => AW g MX10_beginText 5 [some (.ref (b))] [] (mb h0 b y) Q) hs (fun S1 hs => ?_)
  refine AW.aload_n (z := 0) (am_r 3 rfl) rfl rfl ?_
  refine AW.iconst (am_r 4 rfl) rfl ci_m1 ?_
  refine AW.putO (am_r 5 rfl) rfl klX10 (k := 15) (by omega) q1518 (Or.inl rfl) mb_ob hA rfl rfl (mbp_ob (by decide)) ?_
  refine olet_e (P := fun y => AW g MX10_beginText 10 [some (.ref (b))] [] (mb h0 b y) Q) hs (fun S2 hs => ?_)
  refine AW.aload_n (z := 0) (am_r 6 rfl) rfl rfl ?_
  refine AW.iconst (am_r 7 rfl) rfl ci_0 ?_
  refine AW.putO (am_r 8 rfl) rfl klX10 (k := 13) (by omega) q1516 (Or.inl rfl) mb_ob hA rfl rfl (mbp_ob (by decide)) ?_
  refine olet_e (P := fun y => AW g MX10_beginText 15 [some (.ref (b))] [] (mb h0 b y) Q) hs (fun S3 hs => ?_)
  refine AW.aload_n (z := 0) (am_r 9 rfl) rfl rfl ?_
  refine obind_e hs (fun r4 hg6 hs => ?_)
  refine AW.callV (N := MX10_advance) (As := []) (S := []) (L0 := [some (.ref (b)), none]) (b := b) (am_r 10 rfl) rfl ovX10_advance q2074 rfl rfl mb_ob rfl rfl rfl rfl (dX10_advance hA  hg6 (cQ_v ?_))
  have hr := (Option.some.inj hs).symm
  subst hr
  exact AW.vret (am_r 11 rfl) rfl hQ
def sX10_fail (S : Mem) (p1 : Int32) : (Int32 × Mem) :=
  olet (si S 100 14 0 (p1)) fun S1 =>
  olet (si S1 100 15 0 (gi S1 100 17 0)) fun S2 =>
  ((0 : Int32), S2)
set_option maxRecDepth 100000 in
theorem dX10_fail {g : AG} {h0 : AH} {b : Nat} {S : Mem} {Q : AO → AH → Prop} {p1 : Int32} (hA : gB g ≤ b)  {r : (Int32 × Mem)} (hs : sX10_fail S p1 = r) (hQ : (r.1 = 0 ∨ r.1 = 1) → Q (.ok (some (.int r.1))) (mb h0 b r.2)) : AW g MX10_fail 0 [some (.ref (b)), some (.int (p1))] [] (mb h0 b S) Q := by
  unfold sX10_fail at hs
  refine AW.aload_n (z := 0) (am_r 0 rfl) rfl rfl ?_
  refine AW.iload_n (z := 1) (am_r 1 rfl) rfl rfl ?_
  refine AW.putO (am_r 2 rfl) rfl klX10 (k := 14) (by omega) q1517 (Or.inl rfl) mb_ob hA rfl rfl (mbp_ob (by decide)) ?_
  refine olet_e (P := fun y => AW g MX10_fail 5 [some (.ref (b)), some (.int (p1))] [] (mb h0 b y) Q) hs (fun S1 hs => ?_)
  refine AW.aload_n (z := 0) (am_r 3 rfl) rfl rfl ?_
  refine AW.aload_n (z := 0) (am_r 4 rfl) rfl rfl ?_
  refine AW.getO (am_r 5 rfl) rfl klX10 (k := 17) (by omega) q1520 mb_ob rfl ?_
  refine AW.putO (am_r 6 rfl) rfl klX10 (k := 15) (by omega) q1518 (Or.inl rfl) mb_ob hA rfl rfl (mbp_ob (by decide)) ?_
  refine olet_e (P := fun y => AW g MX10_fail 13 [some (.ref (b)), some (.int (p1))] [] (mb h0 b y) Q) hs (fun S2 hs => ?_)
  refine AW.iconst (am_r 7 rfl) rfl ci_0 ?_
  have hr := hs.symm
  subst hr
  exact AW.zret (am_r 8 rfl) rfl (Or.inl rfl) (hQ (Or.inl rfl))
noncomputable def sX10_readNumber (S : Mem) (p1 : Int32) (p2 : Int32) : Option (Int32 × Mem) :=
  if (gi S 100 16 0) = (2 : Int32) then
    if (sX10_inRange S (gq S 19 0) p1.toInt64 p2.toInt64) = 0 then
      olet (sX10_fail S (2 : Int32)) fun r9 =>
      some ((r9.1, r9.2))
    else
      olet (si S 100 18 0 ((gq S 19 0).toInt32)) fun S5 =>
      obind (sX10_advance S5 ) fun r6 =>
      some (((1 : Int32), r6))
  else
    olet (sX10_fail S (1 : Int32)) fun r11 =>
    some ((r11.1, r11.2))
set_option maxRecDepth 100000 in
theorem dX10_readNumber {g : AG} {h0 : AH} {b : Nat} {S : Mem} {Q : AO → AH → Prop} {p1 : Int32} {p2 : Int32} (hA : gB g ≤ b)  {r : (Int32 × Mem)} (hs : sX10_readNumber S p1 p2 = some r) (hQ : (r.1 = 0 ∨ r.1 = 1) → Q (.ok (some (.int r.1))) (mb h0 b r.2)) : AW g MX10_readNumber 0 [some (.ref (b)), some (.int (p1)), some (.int (p2))] [] (mb h0 b S) Q := by
  unfold sX10_readNumber at hs
  refine AW.aload_n (z := 0) (am_r 0 rfl) rfl rfl ?_
  refine AW.getO (am_r 1 rfl) rfl klX10 (k := 16) (by omega) q1519 mb_ob rfl ?_
  refine AW.iconst (am_r 2 rfl) rfl ci_2 ?_
  refine AW.icmp_eq (tg := 14) (am_r 3 rfl) rfl rfl (fun hc1 => ?_) (fun hc1 => ?_)
  · replace hs := (if_pos hc1).symm.trans hs
    refine AW.aload_n (z := 0) (am_r 8 rfl) rfl rfl ?_
    refine AW.getO (am_r 9 rfl) rfl klX10 (k := 19) (by omega) q1522 mb_ob rfl ?_
    refine AW.iload_n (z := 1) (am_r 10 rfl) rfl rfl ?_
    refine AW.i2l (am_r 11 rfl) rfl ?_
    refine AW.iload_n (z := 2) (am_r 12 rfl) rfl rfl ?_
    refine AW.i2l (am_r 13 rfl) rfl ?_
    refine AW.callS (N := MX10_inRange) (As := [.long (gq S 19 0), .long (p1.toInt64), .long (p2.toInt64)]) (S := []) (L0 := [some (.long (gq S 19 0)), none, some (.long (p1.toInt64)), none, some (.long (p2.toInt64)), none]) (am_r 14 rfl) rfl osX10_inRange q1592 rfl rfl rfl rfl rfl (dX10_inRange hA  rfl (fun hok3 => (cQ_r ?_)))
    refine AW.if_ne (tg := 34) (am_r 15 rfl) rfl rfl (fun hc4 => ?_) (fun hc4 => ?_)
    · replace hs := (if_neg hc4).symm.trans hs
      refine AW.aload_n (z := 0) (am_r 20 rfl) rfl rfl ?_
      refine AW.aload_n (z := 0) (am_r 21 rfl) rfl rfl ?_
      refine AW.getO (am_r 22 rfl) rfl klX10 (k := 19) (by omega) q1522 mb_ob rfl ?_
      refine AW.l2i (am_r 23 rfl) rfl ?_
      refine AW.putO (am_r 24 rfl) rfl klX10 (k := 18) (by omega) q1521 (Or.inl rfl) mb_ob hA rfl rfl (mbp_ob (by decide)) ?_
      refine olet_e (P := fun y => AW g MX10_readNumber 43 [some (.ref (b)), some (.int (p1)), some (.int (p2))] [] (mb h0 b y) Q) hs (fun S5 hs => ?_)
      refine AW.aload_n (z := 0) (am_r 25 rfl) rfl rfl ?_
      refine obind_e hs (fun r6 hg8 hs => ?_)
      refine AW.callV (N := MX10_advance) (As := []) (S := []) (L0 := [some (.ref (b)), none]) (b := b) (am_r 26 rfl) rfl ovX10_advance q2074 rfl rfl mb_ob rfl rfl rfl rfl (dX10_advance hA  hg8 (cQ_v ?_))
      refine AW.iconst (am_r 27 rfl) rfl ci_1 ?_
      have hr := (Option.some.inj hs).symm
      subst hr
      exact AW.zret (am_r 28 rfl) rfl (Or.inr rfl) (hQ (Or.inr rfl))
    · replace hs := (if_pos hc4).symm.trans hs
      refine AW.aload_n (z := 0) (am_r 16 rfl) rfl rfl ?_
      refine AW.iconst (am_r 17 rfl) rfl ci_2 ?_
      refine AW.callV (N := MX10_fail) (As := [.int ((2 : Int32))]) (S := []) (L0 := [some (.ref (b)), some (.int ((2 : Int32)))]) (b := b) (am_r 18 rfl) rfl ovX10_fail q2114 rfl rfl mb_ob rfl rfl rfl rfl (dX10_fail hA  rfl (fun hok10 => (cQ_r ?_)))
      refine olet_e (P := fun (y : (Int32 × Mem)) => (y.1 = 0 ∨ y.1 = 1) → AW g MX10_readNumber 33 [some (.ref (b)), some (.int (p1)), some (.int (p2))] [(.int (y.1))] (mb h0 b y.2) Q) hs (fun r9 hs hok10 => ?_) hok10
      have hr := (Option.some.inj hs).symm
      subst hr
      exact AW.zret (am_r 19 rfl) rfl hok10 (hQ hok10)
  · replace hs := (if_neg hc1).symm.trans hs
    refine AW.aload_n (z := 0) (am_r 4 rfl) rfl rfl ?_
    refine AW.iconst (am_r 5 rfl) rfl ci_1 ?_
    refine AW.callV (N := MX10_fail) (As := [.int ((1 : Int32))]) (S := []) (L0 := [some (.ref (b)), some (.int ((1 : Int32)))]) (b := b) (am_r 6 rfl) rfl ovX10_fail q2114 rfl rfl mb_ob rfl rfl rfl rfl (dX10_fail hA  rfl (fun hok12 => (cQ_r ?_)))
    refine olet_e (P := fun (y : (Int32 × Mem)) => (y.1 = 0 ∨ y.1 = 1) → AW g MX10_readNumber 13 [some (.ref (b)), some (.int (p1)), some (.int (p2))] [(.int (y.1))] (mb h0 b y.2) Q) hs (fun r11 hs hok12 => ?_) hok12
    have hr := (Option.some.inj hs).symm
    subst hr
    exact AW.zret (am_r 7 rfl) rfl hok12 (hQ hok12)
noncomputable def sX10_readEnd (S : Mem)  : Option (Int32 × Mem) :=
  if (gi S 100 16 0) = (3 : Int32) then
    obind (sX10_advance S ) fun r2 =>
    some (((1 : Int32), r2))
  else
    olet (sX10_fail S (1 : Int32)) fun r5 =>
    some ((r5.1, r5.2))
set_option maxRecDepth 100000 in
theorem dX10_readEnd {g : AG} {h0 : AH} {b : Nat} {S : Mem} {Q : AO → AH → Prop}  (hA : gB g ≤ b)  {r : (Int32 × Mem)} (hs : sX10_readEnd S  = some r) (hQ : (r.1 = 0 ∨ r.1 = 1) → Q (.ok (some (.int r.1))) (mb h0 b r.2)) : AW g MX10_readEnd 0 [some (.ref (b))] [] (mb h0 b S) Q := by
  unfold sX10_readEnd at hs
  refine AW.aload_n (z := 0) (am_r 0 rfl) rfl rfl ?_
  refine AW.getO (am_r 1 rfl) rfl klX10 (k := 16) (by omega) q1519 mb_ob rfl ?_
  refine AW.iconst (am_r 2 rfl) rfl ci_3 ?_
  refine AW.icmp_eq (tg := 14) (am_r 3 rfl) rfl rfl (fun hc1 => ?_) (fun hc1 => ?_)
  · replace hs := (if_pos hc1).symm.trans hs
    refine AW.aload_n (z := 0) (am_r 8 rfl) rfl rfl ?_
    refine obind_e hs (fun r2 hg4 hs => ?_)
    refine AW.callV (N := MX10_advance) (As := []) (S := []) (L0 := [some (.ref (b)), none]) (b := b) (am_r 9 rfl) rfl ovX10_advance q2074 rfl rfl mb_ob rfl rfl rfl rfl (dX10_advance hA  hg4 (cQ_v ?_))
    refine AW.iconst (am_r 10 rfl) rfl ci_1 ?_
    have hr := (Option.some.inj hs).symm
    subst hr
    exact AW.zret (am_r 11 rfl) rfl (Or.inr rfl) (hQ (Or.inr rfl))
  · replace hs := (if_neg hc1).symm.trans hs
    refine AW.aload_n (z := 0) (am_r 4 rfl) rfl rfl ?_
    refine AW.iconst (am_r 5 rfl) rfl ci_1 ?_
    refine AW.callV (N := MX10_fail) (As := [.int ((1 : Int32))]) (S := []) (L0 := [some (.ref (b)), some (.int ((1 : Int32)))]) (b := b) (am_r 6 rfl) rfl ovX10_fail q2114 rfl rfl mb_ob rfl rfl rfl rfl (dX10_fail hA  rfl (fun hok6 => (cQ_r ?_)))
    refine olet_e (P := fun (y : (Int32 × Mem)) => (y.1 = 0 ∨ y.1 = 1) → AW g MX10_readEnd 13 [some (.ref (b))] [(.int (y.1))] (mb h0 b y.2) Q) hs (fun r5 hs hok6 => ?_) hok6
    have hr := (Option.some.inj hs).symm
    subst hr
    exact AW.zret (am_r 7 rfl) rfl hok6 (hQ hok6)
def sX10_pack_j65 (S : Mem) (p1 : Int32) (p2 : Int32) (p3 : Int32) (p4 : Int32) (p5 : Int32) (p6 : Int32) (y0 : Int64) : Int64 :=
  if p6 = 0 then
    y0
  else
    ((y0 * (32 : Int64)) + p6.toInt64) - (96 : Int64)
set_option maxRecDepth 100000 in
theorem dX10_pack_j65 {g : AG} {h0 : AH} {b : Nat} {S : Mem} {Q : AO → AH → Prop} {p1 : Int32} {p2 : Int32} {p3 : Int32} {p4 : Int32} {p5 : Int32} {p6 : Int32} {y0 : Int64} (hA : gB g ≤ b)   {r : Int64} (hs : sX10_pack_j65 S p1 p2 p3 p4 p5 p6 y0 = r) (hQ : Q (.ok (some (.long r))) (mb h0 b S)) : AW g MX10_pack 65 [none, none, none, none, none, some (.int (p6)), none, none] [(.long (y0))] (mb h0 b S) Q := by
  unfold sX10_pack_j65 at hs
  refine AW.lstore (L' := [none, none, none, none, none, some (.int (p6)), some (.long (y0)), none]) (am_r 38 rfl) rfl (Nat.le_of_ble_eq_true rfl) rfl ?_
  refine AW.iload (am_r 39 rfl) rfl rfl ?_
  refine AW.if_ne (tg := 77) (am_r 40 rfl) rfl rfl (fun hc3 => ?_) (fun hc3 => ?_)
  · replace hs := (if_neg hc3).symm.trans hs
    refine AW.lload (am_r 43 rfl) rfl rfl ?_
    refine AW.ldc2 (v := (32)) (am_r 44 rfl) rfl q2092 ?_
    refine AW.lmul (am_r 45 rfl) rfl ?_
    refine AW.iload (am_r 46 rfl) rfl rfl ?_
    refine AW.i2l (am_r 47 rfl) rfl ?_
    refine AW.ladd (am_r 48 rfl) rfl ?_
    refine AW.ldc2 (v := (96)) (am_r 49 rfl) rfl q2093 ?_
    refine AW.lsub (am_r 50 rfl) rfl ?_
    have hr := hs.symm
    subst hr
    exact AW.lret (am_r 51 rfl) rfl hQ
  · replace hs := (if_pos hc3).symm.trans hs
    refine AW.lload (am_r 41 rfl) rfl rfl ?_
    refine AW.goto (tg := 91) (am_r 42 rfl) rfl ?_
    have hr := hs.symm
    subst hr
    exact AW.lret (am_r 51 rfl) rfl hQ
def sX10_pack (S : Mem) (p1 : Int32) (p2 : Int32) (p3 : Int32) (p4 : Int32) (p5 : Int32) (p6 : Int32) : Int64 :=
  olet ((((((((p1.toInt64 - (96 : Int64)) * (32 : Int64)) + p2.toInt64) - (96 : Int64)) * (1024 : Int64)) + ((p3.toInt64 - (96 : Int64)) * (32 : Int64))) + p4.toInt64) - (96 : Int64)) fun v1 =>
  if p5 = 0 then
    sX10_pack_j65 S p1 p2 p3 p4 p5 p6 v1
  else
    sX10_pack_j65 S p1 p2 p3 p4 p5 p6 (((v1 * (32 : Int64)) + p5.toInt64) - (96 : Int64))
set_option maxRecDepth 100000 in
theorem dX10_pack {g : AG} {h0 : AH} {b : Nat} {S : Mem} {Q : AO → AH → Prop} {p1 : Int32} {p2 : Int32} {p3 : Int32} {p4 : Int32} {p5 : Int32} {p6 : Int32} (hA : gB g ≤ b)  {r : Int64} (hs : sX10_pack S p1 p2 p3 p4 p5 p6 = r) (hQ : Q (.ok (some (.long r))) (mb h0 b S)) : AW g MX10_pack 0 [some (.int (p1)), some (.int (p2)), some (.int (p3)), some (.int (p4)), some (.int (p5)), some (.int (p6)), none, none] [] (mb h0 b S) Q := by
  unfold sX10_pack at hs
  refine AW.iload_n (z := 0) (am_r 0 rfl) rfl rfl ?_
  refine AW.i2l (am_r 1 rfl) rfl ?_
  refine AW.ldc2 (v := (96)) (am_r 2 rfl) rfl q2093 ?_
  refine AW.lsub (am_r 3 rfl) rfl ?_
  refine AW.ldc2 (v := (32)) (am_r 4 rfl) rfl q2092 ?_
  refine AW.lmul (am_r 5 rfl) rfl ?_
  refine AW.iload_n (z := 1) (am_r 6 rfl) rfl rfl ?_
  refine AW.i2l (am_r 7 rfl) rfl ?_
  refine AW.ladd (am_r 8 rfl) rfl ?_
  refine AW.ldc2 (v := (96)) (am_r 9 rfl) rfl q2093 ?_
  refine AW.lsub (am_r 10 rfl) rfl ?_
  refine AW.ldc2 (v := (1024)) (am_r 11 rfl) rfl q2102 ?_
  refine AW.lmul (am_r 12 rfl) rfl ?_
  refine AW.iload_n (z := 2) (am_r 13 rfl) rfl rfl ?_
  refine AW.i2l (am_r 14 rfl) rfl ?_
  refine AW.ldc2 (v := (96)) (am_r 15 rfl) rfl q2093 ?_
  refine AW.lsub (am_r 16 rfl) rfl ?_
  refine AW.ldc2 (v := (32)) (am_r 17 rfl) rfl q2092 ?_
  refine AW.lmul (am_r 18 rfl) rfl ?_
  refine AW.ladd (am_r 19 rfl) rfl ?_
  refine AW.iload_n (z := 3) (am_r 20 rfl) rfl rfl ?_
  refine AW.i2l (am_r 21 rfl) rfl ?_
  refine AW.ladd (am_r 22 rfl) rfl ?_
  refine AW.ldc2 (v := (96)) (am_r 23 rfl) rfl q2093 ?_
  refine AW.lsub (am_r 24 rfl) rfl ?_
  refine olet_e (P := fun y => AW g MX10_pack 39 [some (.int (p1)), some (.int (p2)), some (.int (p3)), some (.int (p4)), some (.int (p5)), some (.int (p6)), none, none] [(.long (y))] (mb h0 b S) Q) hs (fun v1 hs => ?_)
  refine AW.lstore (L' := [some (.int (p1)), some (.int (p2)), some (.int (p3)), some (.int (p4)), some (.int (p5)), some (.int (p6)), some (.long (v1)), none]) (am_r 25 rfl) rfl (Nat.le_of_ble_eq_true rfl) rfl ?_
  refine AW.iload (am_r 26 rfl) rfl rfl ?_
  refine AW.if_ne (tg := 51) (am_r 27 rfl) rfl rfl (fun hc2 => ?_) (fun hc2 => ?_)
  · replace hs := (if_neg hc2).symm.trans hs
    refine AW.lload (am_r 30 rfl) rfl rfl ?_
    refine AW.ldc2 (v := (32)) (am_r 31 rfl) rfl q2092 ?_
    refine AW.lmul (am_r 32 rfl) rfl ?_
    refine AW.iload (am_r 33 rfl) rfl rfl ?_
    refine AW.i2l (am_r 34 rfl) rfl ?_
    refine AW.ladd (am_r 35 rfl) rfl ?_
    refine AW.ldc2 (v := (96)) (am_r 36 rfl) rfl q2093 ?_
    refine AW.lsub (am_r 37 rfl) rfl ?_
    refine AW.lessL (L' := [none, none, none, none, none, some (.int (p6)), none, none]) ⟨rfl, trivial⟩ ?_
    exact dX10_pack_j65 hA   hs hQ
  · replace hs := (if_pos hc2).symm.trans hs
    refine AW.lload (am_r 28 rfl) rfl rfl ?_
    refine AW.goto (tg := 65) (am_r 29 rfl) rfl ?_
    refine AW.lessL (L' := [none, none, none, none, none, some (.int (p6)), none, none]) ⟨rfl, trivial⟩ ?_
    exact dX10_pack_j65 hA   hs hQ
def sX10_longer (S : Mem) (p1 : Int64) (p2 : Int32) : Int64 :=
  ((p1 * (32 : Int64)) + p2.toInt64) - (96 : Int64)
set_option maxRecDepth 100000 in
theorem dX10_longer {g : AG} {h0 : AH} {b : Nat} {S : Mem} {Q : AO → AH → Prop} {p1 : Int64} {p2 : Int32} (hA : gB g ≤ b)  {r : Int64} (hs : sX10_longer S p1 p2 = r) (hQ : Q (.ok (some (.long r))) (mb h0 b S)) : AW g MX10_longer 0 [some (.long (p1)), none, some (.int (p2))] [] (mb h0 b S) Q := by
  unfold sX10_longer at hs
  refine AW.lload_n (z := 0) (am_r 0 rfl) rfl rfl ?_
  refine AW.ldc2 (v := (32)) (am_r 1 rfl) rfl q2092 ?_
  refine AW.lmul (am_r 2 rfl) rfl ?_
  refine AW.iload_n (z := 2) (am_r 3 rfl) rfl rfl ?_
  refine AW.i2l (am_r 4 rfl) rfl ?_
  refine AW.ladd (am_r 5 rfl) rfl ?_
  refine AW.ldc2 (v := (96)) (am_r 6 rfl) rfl q2093 ?_
  refine AW.lsub (am_r 7 rfl) rfl ?_
  have hr := hs.symm
  subst hr
  exact AW.lret (am_r 8 rfl) rfl hQ
def sX10_isWord (S : Mem) (p1 : Int64) : Int32 :=
  if (gi S 100 16 0) = (1 : Int32) then
    if (lg_cmp (gq S 19 0) p1) = 0 then
      (1 : Int32)
    else
      (0 : Int32)
  else
    (0 : Int32)
set_option maxRecDepth 100000 in
theorem dX10_isWord {g : AG} {h0 : AH} {b : Nat} {S : Mem} {Q : AO → AH → Prop} {p1 : Int64} (hA : gB g ≤ b)  {r : Int32} (hs : sX10_isWord S p1 = r) (hQ : (r = 0 ∨ r = 1) → Q (.ok (some (.int r))) (mb h0 b S)) : AW g MX10_isWord 0 [some (.ref (b)), some (.long (p1)), none] [] (mb h0 b S) Q := by
  unfold sX10_isWord at hs
  refine AW.aload_n (z := 0) (am_r 0 rfl) rfl rfl ?_
  refine AW.getO (am_r 1 rfl) rfl klX10 (k := 16) (by omega) q1519 mb_ob rfl ?_
  refine AW.iconst (am_r 2 rfl) rfl ci_1 ?_
  refine AW.icmp_ne (tg := 21) (am_r 3 rfl) rfl rfl (fun hc1 => ?_) (fun hc1 => ?_)
  · replace hs := (if_neg hc1).symm.trans hs
    refine AW.iconst (am_r 11 rfl) rfl ci_0 ?_
    have hr := hs.symm
    subst hr
    exact AW.zret (am_r 12 rfl) rfl (Or.inl rfl) (hQ (Or.inl rfl))
  · replace hs := (if_pos hc1).symm.trans hs
    refine AW.aload_n (z := 0) (am_r 4 rfl) rfl rfl ?_
    refine AW.getO (am_r 5 rfl) rfl klX10 (k := 19) (by omega) q1522 mb_ob rfl ?_
    refine AW.lload_n (z := 1) (am_r 6 rfl) rfl rfl ?_
    refine AW.lcmp (am_r 7 rfl) rfl ?_
    refine AW.if_ne (tg := 21) (am_r 8 rfl) rfl rfl (fun hc2 => ?_) (fun hc2 => ?_)
    · replace hs := (if_neg hc2).symm.trans hs
      refine AW.iconst (am_r 11 rfl) rfl ci_0 ?_
      have hr := hs.symm
      subst hr
      exact AW.zret (am_r 12 rfl) rfl (Or.inl rfl) (hQ (Or.inl rfl))
    · replace hs := (if_pos hc2).symm.trans hs
      refine AW.iconst (am_r 9 rfl) rfl ci_1 ?_
      refine AW.goto (tg := 22) (am_r 10 rfl) rfl ?_
      have hr := hs.symm
      subst hr
      exact AW.zret (am_r 12 rfl) rfl (Or.inr rfl) (hQ (Or.inr rfl))
noncomputable def sX10_readInto (S : Mem) (p1 : Int32) (p2 : Int32) (p3 : Int32) : Option (Int32 × Mem) :=
  obind (sX10_readNumber S p2 p3) fun r1 =>
  if r1.1 = 0 then
    some (((0 : Int32), r1.2))
  else
    oif (inb ((129 : Int32) + p1) 258) (
    olet (si r1.2 5 ((129 : Int32) + p1).toNatClampNeg 0 (gi r1.2 100 18 0)) fun S6 =>
    some (((1 : Int32), S6)))
set_option maxRecDepth 100000 in
theorem dX10_readInto {g : AG} {h0 : AH} {b : Nat} {S : Mem} {Q : AO → AH → Prop} {p1 : Int32} {p2 : Int32} {p3 : Int32} (hA : gB g ≤ b)  {r : (Int32 × Mem)} (hs : sX10_readInto S p1 p2 p3 = some r) (hQ : (r.1 = 0 ∨ r.1 = 1) → Q (.ok (some (.int r.1))) (mb h0 b r.2)) : AW g MX10_readInto 0 [some (.ref (b)), some (.int (p1)), some (.int (p2)), some (.int (p3))] [] (mb h0 b S) Q := by
  unfold sX10_readInto at hs
  refine AW.aload_n (z := 0) (am_r 0 rfl) rfl rfl ?_
  refine AW.iload_n (z := 2) (am_r 1 rfl) rfl rfl ?_
  refine AW.iload_n (z := 3) (am_r 2 rfl) rfl rfl ?_
  refine obind_e hs (fun r1 hg3 hs => ?_)
  refine AW.callV (N := MX10_readNumber) (As := [.int (p2), .int (p3)]) (S := []) (L0 := [some (.ref (b)), some (.int (p2)), some (.int (p3))]) (b := b) (am_r 3 rfl) rfl ovX10_readNumber q2122 rfl rfl mb_ob rfl rfl rfl rfl (dX10_readNumber hA  hg3 (fun hok2 => (cQ_r ?_)))
  refine AW.if_ne (tg := 11) (am_r 4 rfl) rfl rfl (fun hc4 => ?_) (fun hc4 => ?_)
  · replace hs := (if_neg hc4).symm.trans hs
    refine AW.aload_n (z := 0) (am_r 7 rfl) rfl rfl ?_
    refine AW.getO (am_r 8 rfl) rfl klX10 (k := 5) (by omega) q1508 mb_ob rfl ?_
    refine AW.sipush (am_r 9 rfl) rfl cs_129 ?_
    refine AW.iload_n (z := 1) (am_r 10 rfl) rfl rfl ?_
    refine AW.iadd (am_r 11 rfl) rfl ?_
    refine AW.aload_n (z := 0) (am_r 12 rfl) rfl rfl ?_
    refine AW.getO (am_r 13 rfl) rfl klX10 (k := 18) (by omega) q1521 mb_ob rfl ?_
    refine oif_g hs (fun hg5 hs => ?_)
    refine AW.iast (am_r 14 rfl) rfl mb_a4 (Nat.le_trans hA (by omega)) (vp_of_inb hg5) ?_
    rw [show _ = _ from mbp_a4]
    refine olet_e (P := fun y => AW g MX10_readInto 25 [some (.ref (b)), some (.int (p1)), some (.int (p2)), some (.int (p3))] [] (mb h0 b y) Q) hs (fun S6 hs => ?_)
    refine AW.iconst (am_r 15 rfl) rfl ci_1 ?_
    have hr := (Option.some.inj hs).symm
    subst hr
    exact AW.zret (am_r 16 rfl) rfl (Or.inr rfl) (hQ (Or.inr rfl))
  · replace hs := (if_pos hc4).symm.trans hs
    refine AW.iconst (am_r 5 rfl) rfl ci_0 ?_
    have hr := (Option.some.inj hs).symm
    subst hr
    exact AW.zret (am_r 6 rfl) rfl (Or.inl rfl) (hQ (Or.inl rfl))
noncomputable def sX10_readSetting (S : Mem) (p1 : Int32) (p2 : Int32) (p3 : Int32) : Option (Int32 × Mem) :=
  if p3 = 0 then
    obind (sX10_advance S ) fun r2 =>
    obind (sX10_readInto r2 p1 (1 : Int32) p2) fun r5 =>
    if r5.1 = 0 then
      some (((0 : Int32), r5.2))
    else
      obind (sX10_readEnd r5.2 ) fun r9 =>
      if r9.1 = 0 then
        some (((0 : Int32), r9.2))
      else
        some (((1 : Int32), r9.2))
  else
    olet (sX10_fail S (3 : Int32)) fun r13 =>
    some ((r13.1, r13.2))
set_option maxRecDepth 100000 in
theorem dX10_readSetting {g : AG} {h0 : AH} {b : Nat} {S : Mem} {Q : AO → AH → Prop} {p1 : Int32} {p2 : Int32} {p3 : Int32} (hA : gB g ≤ b)  {r : (Int32 × Mem)} (hs : sX10_readSetting S p1 p2 p3 = some r) (hQ : (r.1 = 0 ∨ r.1 = 1) → Q (.ok (some (.int r.1))) (mb h0 b r.2)) : AW g MX10_readSetting 0 [some (.ref (b)), some (.int (p1)), some (.int (p2)), some (.int (p3))] [] (mb h0 b S) Q := by
  unfold sX10_readSetting at hs
  refine AW.iload_n (z := 3) (am_r 0 rfl) rfl rfl ?_
  refine AW.if_eq (tg := 10) (am_r 1 rfl) rfl rfl (fun hc1 => ?_) (fun hc1 => ?_)
  · replace hs := (if_pos hc1).symm.trans hs
    refine AW.aload_n (z := 0) (am_r 6 rfl) rfl rfl ?_
    refine obind_e hs (fun r2 hg4 hs => ?_)
    refine AW.callV (N := MX10_advance) (As := []) (S := []) (L0 := [some (.ref (b)), none]) (b := b) (am_r 7 rfl) rfl ovX10_advance q2074 rfl rfl mb_ob rfl rfl rfl rfl (dX10_advance hA  hg4 (cQ_v ?_))
    refine AW.aload_n (z := 0) (am_r 8 rfl) rfl rfl ?_
    refine AW.iload_n (z := 1) (am_r 9 rfl) rfl rfl ?_
    refine AW.iconst (am_r 10 rfl) rfl ci_1 ?_
    refine AW.iload_n (z := 2) (am_r 11 rfl) rfl rfl ?_
    refine obind_e hs (fun r5 hg7 hs => ?_)
    refine AW.callV (N := MX10_readInto) (As := [.int (p1), .int ((1 : Int32)), .int (p2)]) (S := []) (L0 := [some (.ref (b)), some (.int (p1)), some (.int ((1 : Int32))), some (.int (p2))]) (b := b) (am_r 12 rfl) rfl ovX10_readInto q2118 rfl rfl mb_ob rfl rfl rfl rfl (dX10_readInto hA  hg7 (fun hok6 => (cQ_r ?_)))
    refine AW.if_eq (tg := 35) (am_r 13 rfl) rfl rfl (fun hc8 => ?_) (fun hc8 => ?_)
    · replace hs := (if_pos hc8).symm.trans hs
      refine AW.iconst (am_r 19 rfl) rfl ci_0 ?_
      have hr := (Option.some.inj hs).symm
      subst hr
      exact AW.zret (am_r 20 rfl) rfl (Or.inl rfl) (hQ (Or.inl rfl))
    · replace hs := (if_neg hc8).symm.trans hs
      refine AW.aload_n (z := 0) (am_r 14 rfl) rfl rfl ?_
      refine obind_e hs (fun r9 hg11 hs => ?_)
      refine AW.callV (N := MX10_readEnd) (As := []) (S := []) (L0 := [some (.ref (b))]) (b := b) (am_r 15 rfl) rfl ovX10_readEnd q2126 rfl rfl mb_ob rfl rfl rfl rfl (dX10_readEnd hA  hg11 (fun hok10 => (cQ_r ?_)))
      refine AW.if_eq (tg := 35) (am_r 16 rfl) rfl rfl (fun hc12 => ?_) (fun hc12 => ?_)
      · replace hs := (if_pos hc12).symm.trans hs
        refine AW.iconst (am_r 19 rfl) rfl ci_0 ?_
        have hr := (Option.some.inj hs).symm
        subst hr
        exact AW.zret (am_r 20 rfl) rfl (Or.inl rfl) (hQ (Or.inl rfl))
      · replace hs := (if_neg hc12).symm.trans hs
        refine AW.iconst (am_r 17 rfl) rfl ci_1 ?_
        refine AW.goto (tg := 36) (am_r 18 rfl) rfl ?_
        have hr := (Option.some.inj hs).symm
        subst hr
        exact AW.zret (am_r 20 rfl) rfl (Or.inr rfl) (hQ (Or.inr rfl))
  · replace hs := (if_neg hc1).symm.trans hs
    refine AW.aload_n (z := 0) (am_r 2 rfl) rfl rfl ?_
    refine AW.iconst (am_r 3 rfl) rfl ci_3 ?_
    refine AW.callV (N := MX10_fail) (As := [.int ((3 : Int32))]) (S := []) (L0 := [some (.ref (b)), some (.int ((3 : Int32)))]) (b := b) (am_r 4 rfl) rfl ovX10_fail q2114 rfl rfl mb_ob rfl rfl rfl rfl (dX10_fail hA  rfl (fun hok14 => (cQ_r ?_)))
    refine olet_e (P := fun (y : (Int32 × Mem)) => (y.1 = 0 ∨ y.1 = 1) → AW g MX10_readSetting 9 [some (.ref (b)), some (.int (p1)), some (.int (p2)), some (.int (p3))] [(.int (y.1))] (mb h0 b y.2) Q) hs (fun r13 hs hok14 => ?_) hok14
    have hr := (Option.some.inj hs).symm
    subst hr
    exact AW.zret (am_r 5 rfl) rfl hok14 (hQ hok14)
noncomputable def sX10_beginRow (S : Mem) (p1 : Int32) (p2 : Int32) : Option (Int32 × Mem) :=
  oif (inb ((129 : Int32) + p1) 258) (
  if (gi S 5 ((129 : Int32) + p1).toNatClampNeg 0) = p2 then
    olet (sX10_fail S (4 : Int32)) fun r9 =>
    some ((r9.1, r9.2))
  else
    obind (sX10_advance S ) fun r3 =>
    oif (inb ((129 : Int32) + p1) 258) (
    oif (inb ((129 : Int32) + p1) 258) (
    olet (si r3 5 ((129 : Int32) + p1).toNatClampNeg 0 ((gi r3 5 ((129 : Int32) + p1).toNatClampNeg 0) + (1 : Int32))) fun S8 =>
    some (((1 : Int32), S8)))))
set_option maxRecDepth 100000 in
theorem dX10_beginRow {g : AG} {h0 : AH} {b : Nat} {S : Mem} {Q : AO → AH → Prop} {p1 : Int32} {p2 : Int32} (hA : gB g ≤ b)  {r : (Int32 × Mem)} (hs : sX10_beginRow S p1 p2 = some r) (hQ : (r.1 = 0 ∨ r.1 = 1) → Q (.ok (some (.int r.1))) (mb h0 b r.2)) : AW g MX10_beginRow 0 [some (.ref (b)), some (.int (p1)), some (.int (p2))] [] (mb h0 b S) Q := by
  unfold sX10_beginRow at hs
  refine AW.aload_n (z := 0) (am_r 0 rfl) rfl rfl ?_
  refine AW.getO (am_r 1 rfl) rfl klX10 (k := 5) (by omega) q1508 mb_ob rfl ?_
  refine AW.sipush (am_r 2 rfl) rfl cs_129 ?_
  refine AW.iload_n (z := 1) (am_r 3 rfl) rfl rfl ?_
  refine AW.iadd (am_r 4 rfl) rfl ?_
  refine oif_g hs (fun hg1 hs => ?_)
  refine AW.iald (am_r 5 rfl) rfl mb_a4 (vp_of_inb hg1) rfl ?_
  refine AW.iload_n (z := 2) (am_r 6 rfl) rfl rfl ?_
  refine AW.icmp_ne (tg := 20) (am_r 7 rfl) rfl rfl (fun hc2 => ?_) (fun hc2 => ?_)
  · replace hs := (if_neg hc2).symm.trans hs
    refine AW.aload_n (z := 0) (am_r 12 rfl) rfl rfl ?_
    refine obind_e hs (fun r3 hg5 hs => ?_)
    refine AW.callV (N := MX10_advance) (As := []) (S := []) (L0 := [some (.ref (b)), none]) (b := b) (am_r 13 rfl) rfl ovX10_advance q2074 rfl rfl mb_ob rfl rfl rfl rfl (dX10_advance hA  hg5 (cQ_v ?_))
    refine AW.aload_n (z := 0) (am_r 14 rfl) rfl rfl ?_
    refine AW.getO (am_r 15 rfl) rfl klX10 (k := 5) (by omega) q1508 mb_ob rfl ?_
    refine AW.sipush (am_r 16 rfl) rfl cs_129 ?_
    refine AW.iload_n (z := 1) (am_r 17 rfl) rfl rfl ?_
    refine AW.iadd (am_r 18 rfl) rfl ?_
    refine AW.dup2 (am_r 19 rfl) rfl rfl rfl ?_
    refine oif_g hs (fun hg6 hs => ?_)
    refine AW.iald (am_r 20 rfl) rfl mb_a4 (vp_of_inb hg6) rfl ?_
    refine AW.iconst (am_r 21 rfl) rfl ci_1 ?_
    refine AW.iadd (am_r 22 rfl) rfl ?_
    refine oif_g hs (fun hg7 hs => ?_)
    refine AW.iast (am_r 23 rfl) rfl mb_a4 (Nat.le_trans hA (by omega)) (vp_of_inb hg7) ?_
    rw [show _ = _ from mbp_a4]
    refine olet_e (P := fun y => AW g MX10_beginRow 38 [some (.ref (b)), some (.int (p1)), some (.int (p2))] [] (mb h0 b y) Q) hs (fun S8 hs => ?_)
    refine AW.iconst (am_r 24 rfl) rfl ci_1 ?_
    have hr := (Option.some.inj hs).symm
    subst hr
    exact AW.zret (am_r 25 rfl) rfl (Or.inr rfl) (hQ (Or.inr rfl))
  · replace hs := (if_pos hc2).symm.trans hs
    refine AW.aload_n (z := 0) (am_r 8 rfl) rfl rfl ?_
    refine AW.iconst (am_r 9 rfl) rfl ci_4 ?_
    refine AW.callV (N := MX10_fail) (As := [.int ((4 : Int32))]) (S := []) (L0 := [some (.ref (b)), some (.int ((4 : Int32)))]) (b := b) (am_r 10 rfl) rfl ovX10_fail q2114 rfl rfl mb_ob rfl rfl rfl rfl (dX10_fail hA  rfl (fun hok10 => (cQ_r ?_)))
    refine olet_e (P := fun (y : (Int32 × Mem)) => (y.1 = 0 ∨ y.1 = 1) → AW g MX10_beginRow 19 [some (.ref (b)), some (.int (p1)), some (.int (p2))] [(.int (y.1))] (mb h0 b y.2) Q) hs (fun r9 hs hok10 => ?_) hok10
    have hr := (Option.some.inj hs).symm
    subst hr
    exact AW.zret (am_r 11 rfl) rfl hok10 (hQ hok10)
noncomputable def sX10_readRecipe (S : Mem)  : Option (Int32 × Mem) :=
  olet ((11 : Int32) + ((7 : Int32) * (gi S 5 (132 : Int32).toNatClampNeg 0))) fun v1 =>
  obind (sX10_beginRow S (3 : Int32) (10 : Int32)) fun r2 =>
  if r2.1 = 0 then
    some (((0 : Int32), r2.2))
  else
    obind (sX10_readInto r2.2 (v1 + (0 : Int32)) (1 : Int32) (40 : Int32)) fun r6 =>
    if r6.1 = 0 then
      some (((0 : Int32), r6.2))
    else
      obind (sX10_readInto r6.2 (v1 + (1 : Int32)) (0 : Int32) (200 : Int32)) fun r10 =>
      if r10.1 = 0 then
        some (((0 : Int32), r10.2))
      else
        obind (sX10_readInto r10.2 (v1 + (2 : Int32)) (0 : Int32) (1 : Int32)) fun r14 =>
        if r14.1 = 0 then
          some (((0 : Int32), r14.2))
        else
          obind (sX10_readInto r14.2 (v1 + (3 : Int32)) (0 : Int32) (3 : Int32)) fun r18 =>
          if r18.1 = 0 then
            some (((0 : Int32), r18.2))
          else
            obind (sX10_readInto r18.2 (v1 + (4 : Int32)) (0 : Int32) (500 : Int32)) fun r22 =>
            if r22.1 = 0 then
              some (((0 : Int32), r22.2))
            else
              obind (sX10_readInto r22.2 (v1 + (5 : Int32)) (0 : Int32) (100 : Int32)) fun r26 =>
              if r26.1 = 0 then
                some (((0 : Int32), r26.2))
              else
                obind (sX10_readInto r26.2 (v1 + (6 : Int32)) (1 : Int32) (100000000 : Int32)) fun r30 =>
                if r30.1 = 0 then
                  some (((0 : Int32), r30.2))
                else
                  obind (sX10_readEnd r30.2 ) fun r34 =>
                  if r34.1 = 0 then
                    some (((0 : Int32), r34.2))
                  else
                    some (((1 : Int32), r34.2))
set_option maxRecDepth 100000 in
theorem dX10_readRecipe {g : AG} {h0 : AH} {b : Nat} {S : Mem} {Q : AO → AH → Prop}  (hA : gB g ≤ b)  {r : (Int32 × Mem)} (hs : sX10_readRecipe S  = some r) (hQ : (r.1 = 0 ∨ r.1 = 1) → Q (.ok (some (.int r.1))) (mb h0 b r.2)) : AW g MX10_readRecipe 0 [some (.ref (b)), none] [] (mb h0 b S) Q := by
  unfold sX10_readRecipe at hs
  refine AW.bipush (am_r 0 rfl) rfl cb_11 ?_
  refine AW.bipush (am_r 1 rfl) rfl cb_7 ?_
  refine AW.aload_n (z := 0) (am_r 2 rfl) rfl rfl ?_
  refine AW.getO (am_r 3 rfl) rfl klX10 (k := 5) (by omega) q1508 mb_ob rfl ?_
  refine AW.sipush (am_r 4 rfl) rfl cs_132 ?_
  refine AW.iald (am_r 5 rfl) rfl mb_a4 (vp_of_inb rfl) rfl ?_
  refine AW.imul (am_r 6 rfl) rfl ?_
  refine AW.iadd (am_r 7 rfl) rfl ?_
  refine olet_e (P := fun y => AW g MX10_readRecipe 14 [some (.ref (b)), none] [(.int (y))] (mb h0 b S) Q) hs (fun v1 hs => ?_)
  refine AW.istore_n (L' := [some (.ref (b)), some (.int (v1))]) (z := 1) (am_r 8 rfl) rfl (Nat.le_of_ble_eq_true rfl) rfl ?_
  refine AW.aload_n (z := 0) (am_r 9 rfl) rfl rfl ?_
  refine AW.iconst (am_r 10 rfl) rfl ci_3 ?_
  refine AW.bipush (am_r 11 rfl) rfl cb_10 ?_
  refine obind_e hs (fun r2 hg4 hs => ?_)
  refine AW.callV (N := MX10_beginRow) (As := [.int ((3 : Int32)), .int ((10 : Int32))]) (S := []) (L0 := [some (.ref (b)), some (.int ((3 : Int32))), some (.int ((10 : Int32)))]) (b := b) (am_r 12 rfl) rfl ovX10_beginRow q2130 rfl rfl mb_ob rfl rfl rfl rfl (dX10_beginRow hA  hg4 (fun hok3 => (cQ_r ?_)))
  refine AW.if_ne (tg := 27) (am_r 13 rfl) rfl rfl (fun hc5 => ?_) (fun hc5 => ?_)
  · replace hs := (if_neg hc5).symm.trans hs
    refine AW.aload_n (z := 0) (am_r 16 rfl) rfl rfl ?_
    refine AW.iload_n (z := 1) (am_r 17 rfl) rfl rfl ?_
    refine AW.iconst (am_r 18 rfl) rfl ci_0 ?_
    refine AW.iadd (am_r 19 rfl) rfl ?_
    refine AW.iconst (am_r 20 rfl) rfl ci_1 ?_
    refine AW.bipush (am_r 21 rfl) rfl cb_40 ?_
    refine obind_e hs (fun r6 hg8 hs => ?_)
    refine AW.callV (N := MX10_readInto) (As := [.int (v1 + (0 : Int32)), .int ((1 : Int32)), .int ((40 : Int32))]) (S := []) (L0 := [some (.ref (b)), some (.int (v1 + (0 : Int32))), some (.int ((1 : Int32))), some (.int ((40 : Int32)))]) (b := b) (am_r 22 rfl) rfl ovX10_readInto q2118 rfl rfl mb_ob rfl rfl rfl rfl (dX10_readInto hA  hg8 (fun hok7 => (cQ_r ?_)))
    refine AW.if_eq (tg := 131) (am_r 23 rfl) rfl rfl (fun hc9 => ?_) (fun hc9 => ?_)
    · replace hs := (if_pos hc9).symm.trans hs
      refine AW.iconst (am_r 77 rfl) rfl ci_0 ?_
      have hr := (Option.some.inj hs).symm
      subst hr
      exact AW.zret (am_r 78 rfl) rfl (Or.inl rfl) (hQ (Or.inl rfl))
    · replace hs := (if_neg hc9).symm.trans hs
      refine AW.aload_n (z := 0) (am_r 24 rfl) rfl rfl ?_
      refine AW.iload_n (z := 1) (am_r 25 rfl) rfl rfl ?_
      refine AW.iconst (am_r 26 rfl) rfl ci_1 ?_
      refine AW.iadd (am_r 27 rfl) rfl ?_
      refine AW.iconst (am_r 28 rfl) rfl ci_0 ?_
      refine AW.sipush (am_r 29 rfl) rfl cs_200 ?_
      refine obind_e hs (fun r10 hg12 hs => ?_)
      refine AW.callV (N := MX10_readInto) (As := [.int (v1 + (1 : Int32)), .int ((0 : Int32)), .int ((200 : Int32))]) (S := []) (L0 := [some (.ref (b)), some (.int (v1 + (1 : Int32))), some (.int ((0 : Int32))), some (.int ((200 : Int32)))]) (b := b) (am_r 30 rfl) rfl ovX10_readInto q2118 rfl rfl mb_ob rfl rfl rfl rfl (dX10_readInto hA  hg12 (fun hok11 => (cQ_r ?_)))
      refine AW.if_eq (tg := 131) (am_r 31 rfl) rfl rfl (fun hc13 => ?_) (fun hc13 => ?_)
      · replace hs := (if_pos hc13).symm.trans hs
        refine AW.iconst (am_r 77 rfl) rfl ci_0 ?_
        have hr := (Option.some.inj hs).symm
        subst hr
        exact AW.zret (am_r 78 rfl) rfl (Or.inl rfl) (hQ (Or.inl rfl))
      · replace hs := (if_neg hc13).symm.trans hs
        refine AW.aload_n (z := 0) (am_r 32 rfl) rfl rfl ?_
        refine AW.iload_n (z := 1) (am_r 33 rfl) rfl rfl ?_
        refine AW.iconst (am_r 34 rfl) rfl ci_2 ?_
        refine AW.iadd (am_r 35 rfl) rfl ?_
        refine AW.iconst (am_r 36 rfl) rfl ci_0 ?_
        refine AW.iconst (am_r 37 rfl) rfl ci_1 ?_
        refine obind_e hs (fun r14 hg16 hs => ?_)
        refine AW.callV (N := MX10_readInto) (As := [.int (v1 + (2 : Int32)), .int ((0 : Int32)), .int ((1 : Int32))]) (S := []) (L0 := [some (.ref (b)), some (.int (v1 + (2 : Int32))), some (.int ((0 : Int32))), some (.int ((1 : Int32)))]) (b := b) (am_r 38 rfl) rfl ovX10_readInto q2118 rfl rfl mb_ob rfl rfl rfl rfl (dX10_readInto hA  hg16 (fun hok15 => (cQ_r ?_)))
        refine AW.if_eq (tg := 131) (am_r 39 rfl) rfl rfl (fun hc17 => ?_) (fun hc17 => ?_)
        · replace hs := (if_pos hc17).symm.trans hs
          refine AW.iconst (am_r 77 rfl) rfl ci_0 ?_
          have hr := (Option.some.inj hs).symm
          subst hr
          exact AW.zret (am_r 78 rfl) rfl (Or.inl rfl) (hQ (Or.inl rfl))
        · replace hs := (if_neg hc17).symm.trans hs
          refine AW.aload_n (z := 0) (am_r 40 rfl) rfl rfl ?_
          refine AW.iload_n (z := 1) (am_r 41 rfl) rfl rfl ?_
          refine AW.iconst (am_r 42 rfl) rfl ci_3 ?_
          refine AW.iadd (am_r 43 rfl) rfl ?_
          refine AW.iconst (am_r 44 rfl) rfl ci_0 ?_
          refine AW.iconst (am_r 45 rfl) rfl ci_3 ?_
          refine obind_e hs (fun r18 hg20 hs => ?_)
          refine AW.callV (N := MX10_readInto) (As := [.int (v1 + (3 : Int32)), .int ((0 : Int32)), .int ((3 : Int32))]) (S := []) (L0 := [some (.ref (b)), some (.int (v1 + (3 : Int32))), some (.int ((0 : Int32))), some (.int ((3 : Int32)))]) (b := b) (am_r 46 rfl) rfl ovX10_readInto q2118 rfl rfl mb_ob rfl rfl rfl rfl (dX10_readInto hA  hg20 (fun hok19 => (cQ_r ?_)))
          refine AW.if_eq (tg := 131) (am_r 47 rfl) rfl rfl (fun hc21 => ?_) (fun hc21 => ?_)
          · replace hs := (if_pos hc21).symm.trans hs
            refine AW.iconst (am_r 77 rfl) rfl ci_0 ?_
            have hr := (Option.some.inj hs).symm
            subst hr
            exact AW.zret (am_r 78 rfl) rfl (Or.inl rfl) (hQ (Or.inl rfl))
          · replace hs := (if_neg hc21).symm.trans hs
            refine AW.aload_n (z := 0) (am_r 48 rfl) rfl rfl ?_
            refine AW.iload_n (z := 1) (am_r 49 rfl) rfl rfl ?_
            refine AW.iconst (am_r 50 rfl) rfl ci_4 ?_
            refine AW.iadd (am_r 51 rfl) rfl ?_
            refine AW.iconst (am_r 52 rfl) rfl ci_0 ?_
            refine AW.sipush (am_r 53 rfl) rfl cs_500 ?_
            refine obind_e hs (fun r22 hg24 hs => ?_)
            refine AW.callV (N := MX10_readInto) (As := [.int (v1 + (4 : Int32)), .int ((0 : Int32)), .int ((500 : Int32))]) (S := []) (L0 := [some (.ref (b)), some (.int (v1 + (4 : Int32))), some (.int ((0 : Int32))), some (.int ((500 : Int32)))]) (b := b) (am_r 54 rfl) rfl ovX10_readInto q2118 rfl rfl mb_ob rfl rfl rfl rfl (dX10_readInto hA  hg24 (fun hok23 => (cQ_r ?_)))
            refine AW.if_eq (tg := 131) (am_r 55 rfl) rfl rfl (fun hc25 => ?_) (fun hc25 => ?_)
            · replace hs := (if_pos hc25).symm.trans hs
              refine AW.iconst (am_r 77 rfl) rfl ci_0 ?_
              have hr := (Option.some.inj hs).symm
              subst hr
              exact AW.zret (am_r 78 rfl) rfl (Or.inl rfl) (hQ (Or.inl rfl))
            · replace hs := (if_neg hc25).symm.trans hs
              refine AW.aload_n (z := 0) (am_r 56 rfl) rfl rfl ?_
              refine AW.iload_n (z := 1) (am_r 57 rfl) rfl rfl ?_
              refine AW.iconst (am_r 58 rfl) rfl ci_5 ?_
              refine AW.iadd (am_r 59 rfl) rfl ?_
              refine AW.iconst (am_r 60 rfl) rfl ci_0 ?_
              refine AW.bipush (am_r 61 rfl) rfl cb_100 ?_
              refine obind_e hs (fun r26 hg28 hs => ?_)
              refine AW.callV (N := MX10_readInto) (As := [.int (v1 + (5 : Int32)), .int ((0 : Int32)), .int ((100 : Int32))]) (S := []) (L0 := [some (.ref (b)), some (.int (v1 + (5 : Int32))), some (.int ((0 : Int32))), some (.int ((100 : Int32)))]) (b := b) (am_r 62 rfl) rfl ovX10_readInto q2118 rfl rfl mb_ob rfl rfl rfl rfl (dX10_readInto hA  hg28 (fun hok27 => (cQ_r ?_)))
              refine AW.if_eq (tg := 131) (am_r 63 rfl) rfl rfl (fun hc29 => ?_) (fun hc29 => ?_)
              · replace hs := (if_pos hc29).symm.trans hs
                refine AW.iconst (am_r 77 rfl) rfl ci_0 ?_
                have hr := (Option.some.inj hs).symm
                subst hr
                exact AW.zret (am_r 78 rfl) rfl (Or.inl rfl) (hQ (Or.inl rfl))
              · replace hs := (if_neg hc29).symm.trans hs
                refine AW.aload_n (z := 0) (am_r 64 rfl) rfl rfl ?_
                refine AW.iload_n (z := 1) (am_r 65 rfl) rfl rfl ?_
                refine AW.bipush (am_r 66 rfl) rfl cb_6 ?_
                refine AW.iadd (am_r 67 rfl) rfl ?_
                refine AW.iconst (am_r 68 rfl) rfl ci_1 ?_
                refine AW.ldcw (v := (100000000)) (am_r 69 rfl) rfl q2138 ?_
                refine obind_e hs (fun r30 hg32 hs => ?_)
                refine AW.callV (N := MX10_readInto) (As := [.int (v1 + (6 : Int32)), .int ((1 : Int32)), .int ((100000000 : Int32))]) (S := []) (L0 := [some (.ref (b)), some (.int (v1 + (6 : Int32))), some (.int ((1 : Int32))), some (.int ((100000000 : Int32)))]) (b := b) (am_r 70 rfl) rfl ovX10_readInto q2118 rfl rfl mb_ob rfl rfl rfl rfl (dX10_readInto hA  hg32 (fun hok31 => (cQ_r ?_)))
                refine AW.if_eq (tg := 131) (am_r 71 rfl) rfl rfl (fun hc33 => ?_) (fun hc33 => ?_)
                · replace hs := (if_pos hc33).symm.trans hs
                  refine AW.iconst (am_r 77 rfl) rfl ci_0 ?_
                  have hr := (Option.some.inj hs).symm
                  subst hr
                  exact AW.zret (am_r 78 rfl) rfl (Or.inl rfl) (hQ (Or.inl rfl))
                · replace hs := (if_neg hc33).symm.trans hs
                  refine AW.aload_n (z := 0) (am_r 72 rfl) rfl rfl ?_
                  refine obind_e hs (fun r34 hg36 hs => ?_)
                  refine AW.callV (N := MX10_readEnd) (As := []) (S := []) (L0 := [some (.ref (b))]) (b := b) (am_r 73 rfl) rfl ovX10_readEnd q2126 rfl rfl mb_ob rfl rfl rfl rfl (dX10_readEnd hA  hg36 (fun hok35 => (cQ_r ?_)))
                  refine AW.if_eq (tg := 131) (am_r 74 rfl) rfl rfl (fun hc37 => ?_) (fun hc37 => ?_)
                  · replace hs := (if_pos hc37).symm.trans hs
                    refine AW.iconst (am_r 77 rfl) rfl ci_0 ?_
                    have hr := (Option.some.inj hs).symm
                    subst hr
                    exact AW.zret (am_r 78 rfl) rfl (Or.inl rfl) (hQ (Or.inl rfl))
                  · replace hs := (if_neg hc37).symm.trans hs
                    refine AW.iconst (am_r 75 rfl) rfl ci_1 ?_
                    refine AW.goto (tg := 132) (am_r 76 rfl) rfl ?_
                    have hr := (Option.some.inj hs).symm
                    subst hr
                    exact AW.zret (am_r 78 rfl) rfl (Or.inr rfl) (hQ (Or.inr rfl))
  · replace hs := (if_pos hc5).symm.trans hs
    refine AW.iconst (am_r 14 rfl) rfl ci_0 ?_
    have hr := (Option.some.inj hs).symm
    subst hr
    exact AW.zret (am_r 15 rfl) rfl (Or.inl rfl) (hQ (Or.inl rfl))
noncomputable def sX10_readStatement (S : Mem)  : Option (Int32 × Mem) :=
  if (sX10_isWord S (sX10_longer S (sX10_pack S (98 : Int32) (101 : Int32) (110 : Int32) (99 : Int32) (104 : Int32) (101 : Int32)) (115 : Int32))) = 0 then
    if (sX10_isWord S (sX10_pack S (108 : Int32) (105 : Int32) (102 : Int32) (101 : Int32) (0 : Int32) (0 : Int32))) = 0 then
      if (sX10_isWord S (sX10_pack S (112 : Int32) (114 : Int32) (101 : Int32) (115 : Int32) (115 : Int32) (0 : Int32))) = 0 then
        if (sX10_isWord S (sX10_pack S (111 : Int32) (98 : Int32) (106 : Int32) (101 : Int32) (99 : Int32) (116 : Int32))) = 0 then
          if (sX10_isWord S (sX10_pack S (114 : Int32) (101 : Int32) (99 : Int32) (105 : Int32) (112 : Int32) (101 : Int32))) = 0 then
            olet (sX10_fail S (1 : Int32)) fun r28 =>
            some ((r28.1, r28.2))
          else
            obind (sX10_readRecipe S ) fun r30 =>
            some ((r30.1, r30.2))
        else
          olet ((81 : Int32) + ((3 : Int32) * (gi S 5 (133 : Int32).toNatClampNeg 0))) fun v33 =>
          obind (sX10_beginRow S (4 : Int32) (16 : Int32)) fun r34 =>
          if r34.1 = 0 then
            some (((0 : Int32), r34.2))
          else
            obind (sX10_readInto r34.2 (v33 + (0 : Int32)) (1 : Int32) (100 : Int32)) fun r38 =>
            if r38.1 = 0 then
              some (((0 : Int32), r38.2))
            else
              obind (sX10_readInto r38.2 (v33 + (2 : Int32)) (0 : Int32) (1000 : Int32)) fun r42 =>
              if r42.1 = 0 then
                some (((0 : Int32), r42.2))
              else
                obind (sX10_readInto r42.2 (v33 + (1 : Int32)) (0 : Int32) (3 : Int32)) fun r46 =>
                if r46.1 = 0 then
                  some (((0 : Int32), r46.2))
                else
                  obind (sX10_readEnd r46.2 ) fun r50 =>
                  if r50.1 = 0 then
                    some (((0 : Int32), r50.2))
                  else
                    some (((1 : Int32), r50.2))
      else
        olet ((5 : Int32) + (gi S 5 (131 : Int32).toNatClampNeg 0)) fun v54 =>
        obind (sX10_beginRow S (2 : Int32) (6 : Int32)) fun r55 =>
        if r55.1 = 0 then
          some (((0 : Int32), r55.2))
        else
          obind (sX10_readInto r55.2 v54 (1 : Int32) (100 : Int32)) fun r59 =>
          if r59.1 = 0 then
            some (((0 : Int32), r59.2))
          else
            obind (sX10_readEnd r59.2 ) fun r63 =>
            if r63.1 = 0 then
              some (((0 : Int32), r63.2))
            else
              some (((1 : Int32), r63.2))
    else
      olet (si S 100 21 0 ((1 : Int32))) fun S67 =>
      obind (sX10_readSetting S67 (1 : Int32) (500 : Int32) (gi S 100 21 0)) fun r68 =>
      some ((r68.1, r68.2))
  else
    olet (si S 100 20 0 ((1 : Int32))) fun S71 =>
    obind (sX10_readSetting S71 (0 : Int32) (4 : Int32) (gi S 100 20 0)) fun r72 =>
    some ((r72.1, r72.2))
set_option maxRecDepth 100000 in
theorem dX10_readStatement {g : AG} {h0 : AH} {b : Nat} {S : Mem} {Q : AO → AH → Prop}  (hA : gB g ≤ b)  {r : (Int32 × Mem)} (hs : sX10_readStatement S  = some r) (hQ : (r.1 = 0 ∨ r.1 = 1) → Q (.ok (some (.int r.1))) (mb h0 b r.2)) : AW g MX10_readStatement 0 [some (.ref (b)), none] [] (mb h0 b S) Q := by
  unfold sX10_readStatement at hs
  refine AW.aload_n (z := 0) (am_r 0 rfl) rfl rfl ?_
  refine AW.bipush (am_r 1 rfl) rfl cb_98 ?_
  refine AW.bipush (am_r 2 rfl) rfl cb_101 ?_
  refine AW.bipush (am_r 3 rfl) rfl cb_110 ?_
  refine AW.bipush (am_r 4 rfl) rfl cb_99 ?_
  refine AW.bipush (am_r 5 rfl) rfl cb_104 ?_
  refine AW.bipush (am_r 6 rfl) rfl cb_101 ?_
  refine AW.callS (N := MX10_pack) (As := [.int ((98 : Int32)), .int ((101 : Int32)), .int ((110 : Int32)), .int ((99 : Int32)), .int ((104 : Int32)), .int ((101 : Int32))]) (S := [(.ref (b))]) (L0 := [some (.int ((98 : Int32))), some (.int ((101 : Int32))), some (.int ((110 : Int32))), some (.int ((99 : Int32))), some (.int ((104 : Int32))), some (.int ((101 : Int32))), none, none]) (am_r 7 rfl) rfl osX10_pack q2099 rfl rfl rfl rfl rfl (dX10_pack hA  rfl (cQ_r ?_))
  refine AW.bipush (am_r 8 rfl) rfl cb_115 ?_
  refine AW.callS (N := MX10_longer) (As := [.long (sX10_pack S (98 : Int32) (101 : Int32) (110 : Int32) (99 : Int32) (104 : Int32) (101 : Int32)), .int ((115 : Int32))]) (S := [(.ref (b))]) (L0 := [some (.long (sX10_pack S (98 : Int32) (101 : Int32) (110 : Int32) (99 : Int32) (104 : Int32) (101 : Int32))), none, some (.int ((115 : Int32)))]) (am_r 9 rfl) rfl osX10_longer q2103 rfl rfl rfl rfl rfl (dX10_longer hA  rfl (cQ_r ?_))
  refine AW.callV (N := MX10_isWord) (As := [.long (sX10_longer S (sX10_pack S (98 : Int32) (101 : Int32) (110 : Int32) (99 : Int32) (104 : Int32) (101 : Int32)) (115 : Int32))]) (S := []) (L0 := [some (.ref (b)), some (.long (sX10_longer S (sX10_pack S (98 : Int32) (101 : Int32) (110 : Int32) (99 : Int32) (104 : Int32) (101 : Int32)) (115 : Int32))), none]) (b := b) (am_r 10 rfl) rfl ovX10_isWord q2106 rfl rfl mb_ob rfl rfl rfl rfl (dX10_isWord hA  rfl (fun hok6 => (cQ_r ?_)))
  refine AW.if_eq (tg := 45) (am_r 11 rfl) rfl rfl (fun hc7 => ?_) (fun hc7 => ?_)
  · replace hs := (if_pos hc7).symm.trans hs
    refine AW.aload_n (z := 0) (am_r 24 rfl) rfl rfl ?_
    refine AW.bipush (am_r 25 rfl) rfl cb_108 ?_
    refine AW.bipush (am_r 26 rfl) rfl cb_105 ?_
    refine AW.bipush (am_r 27 rfl) rfl cb_102 ?_
    refine AW.bipush (am_r 28 rfl) rfl cb_101 ?_
    refine AW.iconst (am_r 29 rfl) rfl ci_0 ?_
    refine AW.iconst (am_r 30 rfl) rfl ci_0 ?_
    refine AW.callS (N := MX10_pack) (As := [.int ((108 : Int32)), .int ((105 : Int32)), .int ((102 : Int32)), .int ((101 : Int32)), .int ((0 : Int32)), .int ((0 : Int32))]) (S := [(.ref (b))]) (L0 := [some (.int ((108 : Int32))), some (.int ((105 : Int32))), some (.int ((102 : Int32))), some (.int ((101 : Int32))), some (.int ((0 : Int32))), some (.int ((0 : Int32))), none, none]) (am_r 31 rfl) rfl osX10_pack q2099 rfl rfl rfl rfl rfl (dX10_pack hA  rfl (cQ_r ?_))
    refine AW.callV (N := MX10_isWord) (As := [.long (sX10_pack S (108 : Int32) (105 : Int32) (102 : Int32) (101 : Int32) (0 : Int32) (0 : Int32))]) (S := []) (L0 := [some (.ref (b)), some (.long (sX10_pack S (108 : Int32) (105 : Int32) (102 : Int32) (101 : Int32) (0 : Int32) (0 : Int32))), none]) (b := b) (am_r 32 rfl) rfl ovX10_isWord q2106 rfl rfl mb_ob rfl rfl rfl rfl (dX10_isWord hA  rfl (fun hok11 => (cQ_r ?_)))
    refine AW.if_eq (tg := 85) (am_r 33 rfl) rfl rfl (fun hc12 => ?_) (fun hc12 => ?_)
    · replace hs := (if_pos hc12).symm.trans hs
      refine AW.aload_n (z := 0) (am_r 46 rfl) rfl rfl ?_
      refine AW.bipush (am_r 47 rfl) rfl cb_112 ?_
      refine AW.bipush (am_r 48 rfl) rfl cb_114 ?_
      refine AW.bipush (am_r 49 rfl) rfl cb_101 ?_
      refine AW.bipush (am_r 50 rfl) rfl cb_115 ?_
      refine AW.bipush (am_r 51 rfl) rfl cb_115 ?_
      refine AW.iconst (am_r 52 rfl) rfl ci_0 ?_
      refine AW.callS (N := MX10_pack) (As := [.int ((112 : Int32)), .int ((114 : Int32)), .int ((101 : Int32)), .int ((115 : Int32)), .int ((115 : Int32)), .int ((0 : Int32))]) (S := [(.ref (b))]) (L0 := [some (.int ((112 : Int32))), some (.int ((114 : Int32))), some (.int ((101 : Int32))), some (.int ((115 : Int32))), some (.int ((115 : Int32))), some (.int ((0 : Int32))), none, none]) (am_r 53 rfl) rfl osX10_pack q2099 rfl rfl rfl rfl rfl (dX10_pack hA  rfl (cQ_r ?_))
      refine AW.callV (N := MX10_isWord) (As := [.long (sX10_pack S (112 : Int32) (114 : Int32) (101 : Int32) (115 : Int32) (115 : Int32) (0 : Int32))]) (S := []) (L0 := [some (.ref (b)), some (.long (sX10_pack S (112 : Int32) (114 : Int32) (101 : Int32) (115 : Int32) (115 : Int32) (0 : Int32))), none]) (b := b) (am_r 54 rfl) rfl ovX10_isWord q2106 rfl rfl mb_ob rfl rfl rfl rfl (dX10_isWord hA  rfl (fun hok16 => (cQ_r ?_)))
      refine AW.if_eq (tg := 151) (am_r 55 rfl) rfl rfl (fun hc17 => ?_) (fun hc17 => ?_)
      · replace hs := (if_pos hc17).symm.trans hs
        refine AW.aload_n (z := 0) (am_r 81 rfl) rfl rfl ?_
        refine AW.bipush (am_r 82 rfl) rfl cb_111 ?_
        refine AW.bipush (am_r 83 rfl) rfl cb_98 ?_
        refine AW.bipush (am_r 84 rfl) rfl cb_106 ?_
        refine AW.bipush (am_r 85 rfl) rfl cb_101 ?_
        refine AW.bipush (am_r 86 rfl) rfl cb_99 ?_
        refine AW.bipush (am_r 87 rfl) rfl cb_116 ?_
        refine AW.callS (N := MX10_pack) (As := [.int ((111 : Int32)), .int ((98 : Int32)), .int ((106 : Int32)), .int ((101 : Int32)), .int ((99 : Int32)), .int ((116 : Int32))]) (S := [(.ref (b))]) (L0 := [some (.int ((111 : Int32))), some (.int ((98 : Int32))), some (.int ((106 : Int32))), some (.int ((101 : Int32))), some (.int ((99 : Int32))), some (.int ((116 : Int32))), none, none]) (am_r 88 rfl) rfl osX10_pack q2099 rfl rfl rfl rfl rfl (dX10_pack hA  rfl (cQ_r ?_))
        refine AW.callV (N := MX10_isWord) (As := [.long (sX10_pack S (111 : Int32) (98 : Int32) (106 : Int32) (101 : Int32) (99 : Int32) (116 : Int32))]) (S := []) (L0 := [some (.ref (b)), some (.long (sX10_pack S (111 : Int32) (98 : Int32) (106 : Int32) (101 : Int32) (99 : Int32) (116 : Int32))), none]) (b := b) (am_r 89 rfl) rfl ovX10_isWord q2106 rfl rfl mb_ob rfl rfl rfl rfl (dX10_isWord hA  rfl (fun hok21 => (cQ_r ?_)))
        refine AW.if_eq (tg := 249) (am_r 90 rfl) rfl rfl (fun hc22 => ?_) (fun hc22 => ?_)
        · replace hs := (if_pos hc22).symm.trans hs
          refine AW.aload_n (z := 0) (am_r 136 rfl) rfl rfl ?_
          refine AW.bipush (am_r 137 rfl) rfl cb_114 ?_
          refine AW.bipush (am_r 138 rfl) rfl cb_101 ?_
          refine AW.bipush (am_r 139 rfl) rfl cb_99 ?_
          refine AW.bipush (am_r 140 rfl) rfl cb_105 ?_
          refine AW.bipush (am_r 141 rfl) rfl cb_112 ?_
          refine AW.bipush (am_r 142 rfl) rfl cb_101 ?_
          refine AW.callS (N := MX10_pack) (As := [.int ((114 : Int32)), .int ((101 : Int32)), .int ((99 : Int32)), .int ((105 : Int32)), .int ((112 : Int32)), .int ((101 : Int32))]) (S := [(.ref (b))]) (L0 := [some (.int ((114 : Int32))), some (.int ((101 : Int32))), some (.int ((99 : Int32))), some (.int ((105 : Int32))), some (.int ((112 : Int32))), some (.int ((101 : Int32))), none, none]) (am_r 143 rfl) rfl osX10_pack q2099 rfl rfl rfl rfl rfl (dX10_pack hA  rfl (cQ_r ?_))
          refine AW.callV (N := MX10_isWord) (As := [.long (sX10_pack S (114 : Int32) (101 : Int32) (99 : Int32) (105 : Int32) (112 : Int32) (101 : Int32))]) (S := []) (L0 := [some (.ref (b)), some (.long (sX10_pack S (114 : Int32) (101 : Int32) (99 : Int32) (105 : Int32) (112 : Int32) (101 : Int32))), none]) (b := b) (am_r 144 rfl) rfl ovX10_isWord q2106 rfl rfl mb_ob rfl rfl rfl rfl (dX10_isWord hA  rfl (fun hok26 => (cQ_r ?_)))
          refine AW.if_eq (tg := 278) (am_r 145 rfl) rfl rfl (fun hc27 => ?_) (fun hc27 => ?_)
          · replace hs := (if_pos hc27).symm.trans hs
            refine AW.aload_n (z := 0) (am_r 149 rfl) rfl rfl ?_
            refine AW.iconst (am_r 150 rfl) rfl ci_1 ?_
            refine AW.callV (N := MX10_fail) (As := [.int ((1 : Int32))]) (S := []) (L0 := [some (.ref (b)), some (.int ((1 : Int32)))]) (b := b) (am_r 151 rfl) rfl ovX10_fail q2114 rfl rfl mb_ob rfl rfl rfl rfl (dX10_fail hA  rfl (fun hok29 => (cQ_r ?_)))
            refine olet_e (P := fun (y : (Int32 × Mem)) => (y.1 = 0 ∨ y.1 = 1) → AW g MX10_readStatement 283 [some (.ref (b)), none] [(.int (y.1))] (mb h0 b y.2) Q) hs (fun r28 hs hok29 => ?_) hok29
            have hr := (Option.some.inj hs).symm
            subst hr
            exact AW.zret (am_r 152 rfl) rfl hok29 (hQ hok29)
          · replace hs := (if_neg hc27).symm.trans hs
            refine AW.aload_n (z := 0) (am_r 146 rfl) rfl rfl ?_
            refine obind_e hs (fun r30 hg32 hs => ?_)
            refine AW.callV (N := MX10_readRecipe) (As := []) (S := []) (L0 := [some (.ref (b)), none]) (b := b) (am_r 147 rfl) rfl ovX10_readRecipe q2134 rfl rfl mb_ob rfl rfl rfl rfl (dX10_readRecipe hA  hg32 (fun hok31 => (cQ_r ?_)))
            refine AW.goto (tg := 283) (am_r 148 rfl) rfl ?_
            have hr := (Option.some.inj hs).symm
            subst hr
            exact AW.zret (am_r 152 rfl) rfl hok31 (hQ hok31)
        · replace hs := (if_neg hc22).symm.trans hs
          refine AW.bipush (am_r 91 rfl) rfl cb_81 ?_
          refine AW.iconst (am_r 92 rfl) rfl ci_3 ?_
          refine AW.aload_n (z := 0) (am_r 93 rfl) rfl rfl ?_
          refine AW.getO (am_r 94 rfl) rfl klX10 (k := 5) (by omega) q1508 mb_ob rfl ?_
          refine AW.sipush (am_r 95 rfl) rfl cs_133 ?_
          refine AW.iald (am_r 96 rfl) rfl mb_a4 (vp_of_inb rfl) rfl ?_
          refine AW.imul (am_r 97 rfl) rfl ?_
          refine AW.iadd (am_r 98 rfl) rfl ?_
          refine olet_e (P := fun y => AW g MX10_readStatement 186 [some (.ref (b)), none] [(.int (y))] (mb h0 b S) Q) hs (fun v33 hs => ?_)
          refine AW.istore_n (L' := [some (.ref (b)), some (.int (v33))]) (z := 1) (am_r 99 rfl) rfl (Nat.le_of_ble_eq_true rfl) rfl ?_
          refine AW.aload_n (z := 0) (am_r 100 rfl) rfl rfl ?_
          refine AW.iconst (am_r 101 rfl) rfl ci_4 ?_
          refine AW.bipush (am_r 102 rfl) rfl cb_16 ?_
          refine obind_e hs (fun r34 hg36 hs => ?_)
          refine AW.callV (N := MX10_beginRow) (As := [.int ((4 : Int32)), .int ((16 : Int32))]) (S := []) (L0 := [some (.ref (b)), some (.int ((4 : Int32))), some (.int ((16 : Int32)))]) (b := b) (am_r 103 rfl) rfl ovX10_beginRow q2130 rfl rfl mb_ob rfl rfl rfl rfl (dX10_beginRow hA  hg36 (fun hok35 => (cQ_r ?_)))
          refine AW.if_eq (tg := 247) (am_r 104 rfl) rfl rfl (fun hc37 => ?_) (fun hc37 => ?_)
          · replace hs := (if_pos hc37).symm.trans hs
            refine AW.iconst (am_r 134 rfl) rfl ci_0 ?_
            have hr := (Option.some.inj hs).symm
            subst hr
            exact AW.zret (am_r 135 rfl) rfl (Or.inl rfl) (hQ (Or.inl rfl))
          · replace hs := (if_neg hc37).symm.trans hs
            refine AW.aload_n (z := 0) (am_r 105 rfl) rfl rfl ?_
            refine AW.iload_n (z := 1) (am_r 106 rfl) rfl rfl ?_
            refine AW.iconst (am_r 107 rfl) rfl ci_0 ?_
            refine AW.iadd (am_r 108 rfl) rfl ?_
            refine AW.iconst (am_r 109 rfl) rfl ci_1 ?_
            refine AW.bipush (am_r 110 rfl) rfl cb_100 ?_
            refine obind_e hs (fun r38 hg40 hs => ?_)
            refine AW.callV (N := MX10_readInto) (As := [.int (v33 + (0 : Int32)), .int ((1 : Int32)), .int ((100 : Int32))]) (S := []) (L0 := [some (.ref (b)), some (.int (v33 + (0 : Int32))), some (.int ((1 : Int32))), some (.int ((100 : Int32)))]) (b := b) (am_r 111 rfl) rfl ovX10_readInto q2118 rfl rfl mb_ob rfl rfl rfl rfl (dX10_readInto hA  hg40 (fun hok39 => (cQ_r ?_)))
            refine AW.if_eq (tg := 247) (am_r 112 rfl) rfl rfl (fun hc41 => ?_) (fun hc41 => ?_)
            · replace hs := (if_pos hc41).symm.trans hs
              refine AW.iconst (am_r 134 rfl) rfl ci_0 ?_
              have hr := (Option.some.inj hs).symm
              subst hr
              exact AW.zret (am_r 135 rfl) rfl (Or.inl rfl) (hQ (Or.inl rfl))
            · replace hs := (if_neg hc41).symm.trans hs
              refine AW.aload_n (z := 0) (am_r 113 rfl) rfl rfl ?_
              refine AW.iload_n (z := 1) (am_r 114 rfl) rfl rfl ?_
              refine AW.iconst (am_r 115 rfl) rfl ci_2 ?_
              refine AW.iadd (am_r 116 rfl) rfl ?_
              refine AW.iconst (am_r 117 rfl) rfl ci_0 ?_
              refine AW.sipush (am_r 118 rfl) rfl cs_1000 ?_
              refine obind_e hs (fun r42 hg44 hs => ?_)
              refine AW.callV (N := MX10_readInto) (As := [.int (v33 + (2 : Int32)), .int ((0 : Int32)), .int ((1000 : Int32))]) (S := []) (L0 := [some (.ref (b)), some (.int (v33 + (2 : Int32))), some (.int ((0 : Int32))), some (.int ((1000 : Int32)))]) (b := b) (am_r 119 rfl) rfl ovX10_readInto q2118 rfl rfl mb_ob rfl rfl rfl rfl (dX10_readInto hA  hg44 (fun hok43 => (cQ_r ?_)))
              refine AW.if_eq (tg := 247) (am_r 120 rfl) rfl rfl (fun hc45 => ?_) (fun hc45 => ?_)
              · replace hs := (if_pos hc45).symm.trans hs
                refine AW.iconst (am_r 134 rfl) rfl ci_0 ?_
                have hr := (Option.some.inj hs).symm
                subst hr
                exact AW.zret (am_r 135 rfl) rfl (Or.inl rfl) (hQ (Or.inl rfl))
              · replace hs := (if_neg hc45).symm.trans hs
                refine AW.aload_n (z := 0) (am_r 121 rfl) rfl rfl ?_
                refine AW.iload_n (z := 1) (am_r 122 rfl) rfl rfl ?_
                refine AW.iconst (am_r 123 rfl) rfl ci_1 ?_
                refine AW.iadd (am_r 124 rfl) rfl ?_
                refine AW.iconst (am_r 125 rfl) rfl ci_0 ?_
                refine AW.iconst (am_r 126 rfl) rfl ci_3 ?_
                refine obind_e hs (fun r46 hg48 hs => ?_)
                refine AW.callV (N := MX10_readInto) (As := [.int (v33 + (1 : Int32)), .int ((0 : Int32)), .int ((3 : Int32))]) (S := []) (L0 := [some (.ref (b)), some (.int (v33 + (1 : Int32))), some (.int ((0 : Int32))), some (.int ((3 : Int32)))]) (b := b) (am_r 127 rfl) rfl ovX10_readInto q2118 rfl rfl mb_ob rfl rfl rfl rfl (dX10_readInto hA  hg48 (fun hok47 => (cQ_r ?_)))
                refine AW.if_eq (tg := 247) (am_r 128 rfl) rfl rfl (fun hc49 => ?_) (fun hc49 => ?_)
                · replace hs := (if_pos hc49).symm.trans hs
                  refine AW.iconst (am_r 134 rfl) rfl ci_0 ?_
                  have hr := (Option.some.inj hs).symm
                  subst hr
                  exact AW.zret (am_r 135 rfl) rfl (Or.inl rfl) (hQ (Or.inl rfl))
                · replace hs := (if_neg hc49).symm.trans hs
                  refine AW.aload_n (z := 0) (am_r 129 rfl) rfl rfl ?_
                  refine obind_e hs (fun r50 hg52 hs => ?_)
                  refine AW.callV (N := MX10_readEnd) (As := []) (S := []) (L0 := [some (.ref (b))]) (b := b) (am_r 130 rfl) rfl ovX10_readEnd q2126 rfl rfl mb_ob rfl rfl rfl rfl (dX10_readEnd hA  hg52 (fun hok51 => (cQ_r ?_)))
                  refine AW.if_eq (tg := 247) (am_r 131 rfl) rfl rfl (fun hc53 => ?_) (fun hc53 => ?_)
                  · replace hs := (if_pos hc53).symm.trans hs
                    refine AW.iconst (am_r 134 rfl) rfl ci_0 ?_
                    have hr := (Option.some.inj hs).symm
                    subst hr
                    exact AW.zret (am_r 135 rfl) rfl (Or.inl rfl) (hQ (Or.inl rfl))
                  · replace hs := (if_neg hc53).symm.trans hs
                    refine AW.iconst (am_r 132 rfl) rfl ci_1 ?_
                    refine AW.goto (tg := 248) (am_r 133 rfl) rfl ?_
                    have hr := (Option.some.inj hs).symm
                    subst hr
                    exact AW.zret (am_r 135 rfl) rfl (Or.inr rfl) (hQ (Or.inr rfl))
      · replace hs := (if_neg hc17).symm.trans hs
        refine AW.iconst (am_r 56 rfl) rfl ci_5 ?_
        refine AW.aload_n (z := 0) (am_r 57 rfl) rfl rfl ?_
        refine AW.getO (am_r 58 rfl) rfl klX10 (k := 5) (by omega) q1508 mb_ob rfl ?_
        refine AW.sipush (am_r 59 rfl) rfl cs_131 ?_
        refine AW.iald (am_r 60 rfl) rfl mb_a4 (vp_of_inb rfl) rfl ?_
        refine AW.iadd (am_r 61 rfl) rfl ?_
        refine olet_e (P := fun y => AW g MX10_readStatement 116 [some (.ref (b)), none] [(.int (y))] (mb h0 b S) Q) hs (fun v54 hs => ?_)
        refine AW.istore_n (L' := [some (.ref (b)), some (.int (v54))]) (z := 1) (am_r 62 rfl) rfl (Nat.le_of_ble_eq_true rfl) rfl ?_
        refine AW.aload_n (z := 0) (am_r 63 rfl) rfl rfl ?_
        refine AW.iconst (am_r 64 rfl) rfl ci_2 ?_
        refine AW.bipush (am_r 65 rfl) rfl cb_6 ?_
        refine obind_e hs (fun r55 hg57 hs => ?_)
        refine AW.callV (N := MX10_beginRow) (As := [.int ((2 : Int32)), .int ((6 : Int32))]) (S := []) (L0 := [some (.ref (b)), some (.int ((2 : Int32))), some (.int ((6 : Int32)))]) (b := b) (am_r 66 rfl) rfl ovX10_beginRow q2130 rfl rfl mb_ob rfl rfl rfl rfl (dX10_beginRow hA  hg57 (fun hok56 => (cQ_r ?_)))
        refine AW.if_eq (tg := 149) (am_r 67 rfl) rfl rfl (fun hc58 => ?_) (fun hc58 => ?_)
        · replace hs := (if_pos hc58).symm.trans hs
          refine AW.iconst (am_r 79 rfl) rfl ci_0 ?_
          have hr := (Option.some.inj hs).symm
          subst hr
          exact AW.zret (am_r 80 rfl) rfl (Or.inl rfl) (hQ (Or.inl rfl))
        · replace hs := (if_neg hc58).symm.trans hs
          refine AW.aload_n (z := 0) (am_r 68 rfl) rfl rfl ?_
          refine AW.iload_n (z := 1) (am_r 69 rfl) rfl rfl ?_
          refine AW.iconst (am_r 70 rfl) rfl ci_1 ?_
          refine AW.bipush (am_r 71 rfl) rfl cb_100 ?_
          refine obind_e hs (fun r59 hg61 hs => ?_)
          refine AW.callV (N := MX10_readInto) (As := [.int (v54), .int ((1 : Int32)), .int ((100 : Int32))]) (S := []) (L0 := [some (.ref (b)), some (.int (v54)), some (.int ((1 : Int32))), some (.int ((100 : Int32)))]) (b := b) (am_r 72 rfl) rfl ovX10_readInto q2118 rfl rfl mb_ob rfl rfl rfl rfl (dX10_readInto hA  hg61 (fun hok60 => (cQ_r ?_)))
          refine AW.if_eq (tg := 149) (am_r 73 rfl) rfl rfl (fun hc62 => ?_) (fun hc62 => ?_)
          · replace hs := (if_pos hc62).symm.trans hs
            refine AW.iconst (am_r 79 rfl) rfl ci_0 ?_
            have hr := (Option.some.inj hs).symm
            subst hr
            exact AW.zret (am_r 80 rfl) rfl (Or.inl rfl) (hQ (Or.inl rfl))
          · replace hs := (if_neg hc62).symm.trans hs
            refine AW.aload_n (z := 0) (am_r 74 rfl) rfl rfl ?_
            refine obind_e hs (fun r63 hg65 hs => ?_)
            refine AW.callV (N := MX10_readEnd) (As := []) (S := []) (L0 := [some (.ref (b))]) (b := b) (am_r 75 rfl) rfl ovX10_readEnd q2126 rfl rfl mb_ob rfl rfl rfl rfl (dX10_readEnd hA  hg65 (fun hok64 => (cQ_r ?_)))
            refine AW.if_eq (tg := 149) (am_r 76 rfl) rfl rfl (fun hc66 => ?_) (fun hc66 => ?_)
            · replace hs := (if_pos hc66).symm.trans hs
              refine AW.iconst (am_r 79 rfl) rfl ci_0 ?_
              have hr := (Option.some.inj hs).symm
              subst hr
              exact AW.zret (am_r 80 rfl) rfl (Or.inl rfl) (hQ (Or.inl rfl))
            · replace hs := (if_neg hc66).symm.trans hs
              refine AW.iconst (am_r 77 rfl) rfl ci_1 ?_
              refine AW.goto (tg := 150) (am_r 78 rfl) rfl ?_
              have hr := (Option.some.inj hs).symm
              subst hr
              exact AW.zret (am_r 80 rfl) rfl (Or.inr rfl) (hQ (Or.inr rfl))
    · replace hs := (if_neg hc12).symm.trans hs
      refine AW.aload_n (z := 0) (am_r 34 rfl) rfl rfl ?_
      refine AW.getO (am_r 35 rfl) rfl klX10 (k := 21) (by omega) q1524 mb_ob rfl ?_
      refine AW.istore_n (L' := [some (.ref (b)), some (.int (gi S 100 21 0))]) (z := 1) (am_r 36 rfl) rfl (Nat.le_of_ble_eq_true rfl) rfl ?_
      refine AW.aload_n (z := 0) (am_r 37 rfl) rfl rfl ?_
      refine AW.iconst (am_r 38 rfl) rfl ci_1 ?_
      refine AW.putO (am_r 39 rfl) rfl klX10 (k := 21) (by omega) q1524 (Or.inl rfl) mb_ob hA (nar_b (Or.inr rfl)) rfl (mbp_ob (by decide)) ?_
      refine olet_e (P := fun y => AW g MX10_readStatement 75 [some (.ref (b)), some (.int (gi S 100 21 0))] [] (mb h0 b y) Q) hs (fun S67 hs => ?_)
      refine AW.aload_n (z := 0) (am_r 40 rfl) rfl rfl ?_
      refine AW.iconst (am_r 41 rfl) rfl ci_1 ?_
      refine AW.sipush (am_r 42 rfl) rfl cs_500 ?_
      refine AW.iload_n (z := 1) (am_r 43 rfl) rfl rfl ?_
      refine obind_e hs (fun r68 hg70 hs => ?_)
      refine AW.callV (N := MX10_readSetting) (As := [.int ((1 : Int32)), .int ((500 : Int32)), .int (gi S 100 21 0)]) (S := []) (L0 := [some (.ref (b)), some (.int ((1 : Int32))), some (.int ((500 : Int32))), some (.int (gi S 100 21 0))]) (b := b) (am_r 44 rfl) rfl ovX10_readSetting q2110 rfl rfl mb_ob rfl rfl rfl rfl (dX10_readSetting hA  hg70 (fun hok69 => (cQ_r ?_)))
      have hr := (Option.some.inj hs).symm
      subst hr
      exact AW.zret (am_r 45 rfl) rfl hok69 (hQ hok69)
  · replace hs := (if_neg hc7).symm.trans hs
    refine AW.aload_n (z := 0) (am_r 12 rfl) rfl rfl ?_
    refine AW.getO (am_r 13 rfl) rfl klX10 (k := 20) (by omega) q1523 mb_ob rfl ?_
    refine AW.istore_n (L' := [some (.ref (b)), some (.int (gi S 100 20 0))]) (z := 1) (am_r 14 rfl) rfl (Nat.le_of_ble_eq_true rfl) rfl ?_
    refine AW.aload_n (z := 0) (am_r 15 rfl) rfl rfl ?_
    refine AW.iconst (am_r 16 rfl) rfl ci_1 ?_
    refine AW.putO (am_r 17 rfl) rfl klX10 (k := 20) (by omega) q1523 (Or.inl rfl) mb_ob hA (nar_b (Or.inr rfl)) rfl (mbp_ob (by decide)) ?_
    refine olet_e (P := fun y => AW g MX10_readStatement 37 [some (.ref (b)), some (.int (gi S 100 20 0))] [] (mb h0 b y) Q) hs (fun S71 hs => ?_)
    refine AW.aload_n (z := 0) (am_r 18 rfl) rfl rfl ?_
    refine AW.iconst (am_r 19 rfl) rfl ci_0 ?_
    refine AW.iconst (am_r 20 rfl) rfl ci_4 ?_
    refine AW.iload_n (z := 1) (am_r 21 rfl) rfl rfl ?_
    refine obind_e hs (fun r72 hg74 hs => ?_)
    refine AW.callV (N := MX10_readSetting) (As := [.int ((0 : Int32)), .int ((4 : Int32)), .int (gi S 100 20 0)]) (S := []) (L0 := [some (.ref (b)), some (.int ((0 : Int32))), some (.int ((4 : Int32))), some (.int (gi S 100 20 0))]) (b := b) (am_r 22 rfl) rfl ovX10_readSetting q2110 rfl rfl mb_ob rfl rfl rfl rfl (dX10_readSetting hA  hg74 (fun hok73 => (cQ_r ?_)))
    have hr := (Option.some.inj hs).symm
    subst hr
    exact AW.zret (am_r 23 rfl) rfl hok73 (hQ hok73)
noncomputable def sX10_load_l114_step   (a : (Int32 × Mem)) : Option ((Int32 × Mem) ⊕ (Int32 × Mem)) :=
  if (16 : Int32) ≤ a.1 then
    oinr (
    olet (si a.2 100 4 0 ((0 : Int32))) fun S24 =>
    olet (si S24 2 (0 : Int32).toNatClampNeg 0 ((0 : Int32))) fun S25 =>
    olet (si S25 2 (1 : Int32).toNatClampNeg 0 ((0 : Int32))) fun S26 =>
    some ((gi S26 5 (4 : Int32).toNatClampNeg 0, S26)))
  else
    oif (inb a.1 224) (
    olet (sq a.2 1 a.1.toNatClampNeg ((0 : Int64))) fun S28 =>
    obind (sX10_ofThing S28 a.1 (2 : Int32)) fun r29 =>
    obind (sX10_set S28 a.1 (0 : Int32) r29) fun r32 =>
    obind (sX10_set r32 a.1 (4 : Int32) (-1 : Int32)) fun r35 =>
    obind (sX10_set r35 a.1 (8 : Int32) (-1 : Int32)) fun r38 =>
    obind (sX10_shelve r38 a.1) fun r41 =>
    some (.inl (a.1 + (1 : Int32), r41)))
noncomputable def sX10_load_l114   (a : (Int32 × Mem)) : Option (Int32 × Mem) := itw (sX10_load_l114_step  ) a
set_option maxRecDepth 100000 in
theorem dX10_load_l114 {g : AG} {h0 : AH} {b : Nat} {Q : AO → AH → Prop}  (hA : gB g ≤ b)  {a : (Int32 × Mem)}  {r : (Int32 × Mem)} (hs : sX10_load_l114   a = some r) (hQ : Q (.ok (some (.int r.1))) (mb h0 b r.2)) : AW g MX10_load 114 [some (.ref (b)), none, some (.int (a.1))] [] (mb h0 b a.2) Q := by
  refine itw_e (P := fun a => AW g MX10_load 114 [some (.ref (b)), none, some (.int (a.1))] [] (mb h0 b a.2) Q) (Post := fun r => Q (.ok (some (.int r.1))) (mb h0 b r.2)) (fun a r hs hc he  => ?_) hs hQ 
  unfold sX10_load_l114_step at hs
  refine AW.iload_n (z := 2) (am_r 63 rfl) rfl rfl ?_
  refine AW.bipush (am_r 64 rfl) rfl cb_16 ?_
  refine AW.icmp_ge (tg := 165) (am_r 65 rfl) rfl rfl (fun hc21 => ?_) (fun hc21 => ?_)
  · replace hs := (if_pos hc21).symm.trans hs
    refine oinr_e hs (fun z22 hz23 hs => ?_)
    have hQ := he _ hz23
    refine AW.aload_n (z := 0) (am_r 94 rfl) rfl rfl ?_
    refine AW.iconst (am_r 95 rfl) rfl ci_0 ?_
    refine AW.putO (am_r 96 rfl) rfl klX10 (k := 4) (by omega) q1507 (Or.inl rfl) mb_ob hA rfl rfl (mbp_ob (by decide)) ?_
    refine olet_e (P := fun y => AW g MX10_load 170 [some (.ref (b)), none, some (.int (a.1))] [] (mb h0 b y) Q) hs (fun S24 hs => ?_)
    refine AW.aload_n (z := 0) (am_r 97 rfl) rfl rfl ?_
    refine AW.getO (am_r 98 rfl) rfl klX10 (k := 2) (by omega) q1505 mb_ob rfl ?_
    refine AW.iconst (am_r 99 rfl) rfl ci_0 ?_
    refine AW.iconst (am_r 100 rfl) rfl ci_0 ?_
    refine AW.zast (am_r 101 rfl) rfl mb_a3 (Nat.le_trans hA (by omega)) (vp_of_inb rfl) (nar_b (Or.inl rfl)) ?_
    rw [show _ = _ from mbp_a3]
    refine olet_e (P := fun y => AW g MX10_load 177 [some (.ref (b)), none, some (.int (a.1))] [] (mb h0 b y) Q) hs (fun S25 hs => ?_)
    refine AW.aload_n (z := 0) (am_r 102 rfl) rfl rfl ?_
    refine AW.getO (am_r 103 rfl) rfl klX10 (k := 2) (by omega) q1505 mb_ob rfl ?_
    refine AW.iconst (am_r 104 rfl) rfl ci_1 ?_
    refine AW.iconst (am_r 105 rfl) rfl ci_0 ?_
    refine AW.zast (am_r 106 rfl) rfl mb_a3 (Nat.le_trans hA (by omega)) (vp_of_inb rfl) (nar_b (Or.inl rfl)) ?_
    rw [show _ = _ from mbp_a3]
    refine olet_e (P := fun y => AW g MX10_load 184 [some (.ref (b)), none, some (.int (a.1))] [] (mb h0 b y) Q) hs (fun S26 hs => ?_)
    refine AW.aload_n (z := 0) (am_r 107 rfl) rfl rfl ?_
    refine AW.getO (am_r 108 rfl) rfl klX10 (k := 5) (by omega) q1508 mb_ob rfl ?_
    refine AW.iconst (am_r 109 rfl) rfl ci_4 ?_
    refine AW.iald (am_r 110 rfl) rfl mb_a4 (vp_of_inb rfl) rfl ?_
    have hr := (Option.some.inj hs).symm
    subst hr
    exact AW.iret (am_r 111 rfl) rfl hQ
  · replace hs := (if_neg hc21).symm.trans hs
    refine AW.aload_n (z := 0) (am_r 66 rfl) rfl rfl ?_
    refine AW.getO (am_r 67 rfl) rfl klX10 (k := 1) (by omega) q1504 mb_ob rfl ?_
    refine AW.iload_n (z := 2) (am_r 68 rfl) rfl rfl ?_
    refine AW.lconst (z := 0) (am_r 69 rfl) rfl cl_0 ?_
    refine oif_g hs (fun hg27 hs => ?_)
    refine AW.last (am_r 70 rfl) rfl mb_a2 (Nat.le_trans hA (by omega)) (vp_of_inb hg27) ?_
    rw [show _ = _ from mbp_a2]
    refine olet_e (P := fun y => AW g MX10_load 127 [some (.ref (b)), none, some (.int (a.1))] [] (mb h0 b y) Q) hs (fun S28 hs => ?_)
    refine AW.aload_n (z := 0) (am_r 71 rfl) rfl rfl ?_
    refine AW.iload_n (z := 2) (am_r 72 rfl) rfl rfl ?_
    refine AW.iconst (am_r 73 rfl) rfl ci_0 ?_
    refine AW.aload_n (z := 0) (am_r 74 rfl) rfl rfl ?_
    refine AW.iload_n (z := 2) (am_r 75 rfl) rfl rfl ?_
    refine AW.iconst (am_r 76 rfl) rfl ci_2 ?_
    refine obind_e hs (fun r29 hg31 hs => ?_)
    refine AW.callV (N := MX10_ofThing) (As := [.int (a.1), .int ((2 : Int32))]) (S := [(.int ((0 : Int32))), (.int (a.1)), (.ref (b))]) (L0 := [some (.ref (b)), some (.int (a.1)), some (.int ((2 : Int32)))]) (b := b) (am_r 77 rfl) rfl ovX10_ofThing q1675 rfl rfl mb_ob rfl rfl rfl rfl (dX10_ofThing hA  hg31 (cQ_r ?_))
    refine obind_e hs (fun r32 hg34 hs => ?_)
    refine AW.callV (N := MX10_set) (As := [.int (a.1), .int ((0 : Int32)), .int (r29)]) (S := []) (L0 := [some (.ref (b)), some (.int (a.1)), some (.int ((0 : Int32))), some (.int (r29))]) (b := b) (am_r 78 rfl) rfl ovX10_set q1623 rfl rfl mb_ob rfl rfl rfl rfl (dX10_set hA  hg34 (cQ_v ?_))
    refine AW.aload_n (z := 0) (am_r 79 rfl) rfl rfl ?_
    refine AW.iload_n (z := 2) (am_r 80 rfl) rfl rfl ?_
    refine AW.iconst (am_r 81 rfl) rfl ci_4 ?_
    refine AW.iconst (am_r 82 rfl) rfl ci_m1 ?_
    refine obind_e hs (fun r35 hg37 hs => ?_)
    refine AW.callV (N := MX10_set) (As := [.int (a.1), .int ((4 : Int32)), .int ((-1 : Int32))]) (S := []) (L0 := [some (.ref (b)), some (.int (a.1)), some (.int ((4 : Int32))), some (.int ((-1 : Int32)))]) (b := b) (am_r 83 rfl) rfl ovX10_set q1623 rfl rfl mb_ob rfl rfl rfl rfl (dX10_set hA  hg37 (cQ_v ?_))
    refine AW.aload_n (z := 0) (am_r 84 rfl) rfl rfl ?_
    refine AW.iload_n (z := 2) (am_r 85 rfl) rfl rfl ?_
    refine AW.bipush (am_r 86 rfl) rfl cb_8 ?_
    refine AW.iconst (am_r 87 rfl) rfl ci_m1 ?_
    refine obind_e hs (fun r38 hg40 hs => ?_)
    refine AW.callV (N := MX10_set) (As := [.int (a.1), .int ((8 : Int32)), .int ((-1 : Int32))]) (S := []) (L0 := [some (.ref (b)), some (.int (a.1)), some (.int ((8 : Int32))), some (.int ((-1 : Int32)))]) (b := b) (am_r 88 rfl) rfl ovX10_set q1623 rfl rfl mb_ob rfl rfl rfl rfl (dX10_set hA  hg40 (cQ_v ?_))
    refine AW.aload_n (z := 0) (am_r 89 rfl) rfl rfl ?_
    refine AW.iload_n (z := 2) (am_r 90 rfl) rfl rfl ?_
    refine obind_e hs (fun r41 hg43 hs => ?_)
    refine AW.callV (N := MX10_shelve) (As := [.int (a.1)]) (S := []) (L0 := [some (.ref (b)), some (.int (a.1))]) (b := b) (am_r 91 rfl) rfl ovX10_shelve q1733 rfl rfl mb_ob rfl rfl rfl rfl (dX10_shelve hA  hg43 (cQ_v ?_))
    refine AW.iinc (v := a.1 + (1 : Int32)) (L' := [some (.ref (b)), none, some (.int (a.1 + (1 : Int32)))]) (am_r 92 rfl) rfl (Nat.le_of_ble_eq_true rfl) rfl (congrArg (fun z => a.1 + z) ci_1) rfl ?_
    refine AW.goto (tg := 114) (am_r 93 rfl) rfl ?_
    have hr := (Option.some.inj hs).symm
    exact hc (a.1 + (1 : Int32), r41) hr 
noncomputable def sX10_load_l92_step   (a : (Int32 × Mem)) : Option ((Int32 × Mem) ⊕ (Int32 × Mem)) :=
  if (958 : Int32) ≤ a.1 then
    oinr (
    sX10_load_l114   ((0 : Int32), a.2))
  else
    oif (inb a.1 13412) (
    olet (si a.2 0 a.1.toNatClampNeg 0 ((0 : Int32))) fun S45 =>
    some (.inl (a.1 + (1 : Int32), S45)))
noncomputable def sX10_load_l92   (a : (Int32 × Mem)) : Option (Int32 × Mem) := itw (sX10_load_l92_step  ) a
set_option maxRecDepth 100000 in
theorem dX10_load_l92 {g : AG} {h0 : AH} {b : Nat} {Q : AO → AH → Prop}  (hA : gB g ≤ b)  {a : (Int32 × Mem)}  {r : (Int32 × Mem)} (hs : sX10_load_l92   a = some r) (hQ : Q (.ok (some (.int r.1))) (mb h0 b r.2)) : AW g MX10_load 92 [some (.ref (b)), none, some (.int (a.1))] [] (mb h0 b a.2) Q := by
  refine itw_e (P := fun a => AW g MX10_load 92 [some (.ref (b)), none, some (.int (a.1))] [] (mb h0 b a.2) Q) (Post := fun r => Q (.ok (some (.int r.1))) (mb h0 b r.2)) (fun a r hs hc he  => ?_) hs hQ 
  unfold sX10_load_l92_step at hs
  refine AW.iload_n (z := 2) (am_r 51 rfl) rfl rfl ?_
  refine AW.sipush (am_r 52 rfl) rfl cs_958 ?_
  refine AW.icmp_ge (tg := 112) (am_r 53 rfl) rfl rfl (fun hc18 => ?_) (fun hc18 => ?_)
  · replace hs := (if_pos hc18).symm.trans hs
    refine oinr_e hs (fun z19 hz20 hs => ?_)
    have hQ := he _ hz20
    refine AW.iconst (am_r 61 rfl) rfl ci_0 ?_
    refine AW.istore_n (L' := [some (.ref (b)), none, some (.int ((0 : Int32)))]) (z := 2) (am_r 62 rfl) rfl (Nat.le_of_ble_eq_true rfl) rfl ?_
    exact dX10_load_l114 hA   hs hQ
  · replace hs := (if_neg hc18).symm.trans hs
    refine AW.aload_n (z := 0) (am_r 54 rfl) rfl rfl ?_
    refine AW.getO (am_r 55 rfl) rfl klX10 (k := 0) (by omega) q1503 mb_ob rfl ?_
    refine AW.iload_n (z := 2) (am_r 56 rfl) rfl rfl ?_
    refine AW.iconst (am_r 57 rfl) rfl ci_0 ?_
    refine oif_g hs (fun hg44 hs => ?_)
    refine AW.iast (am_r 58 rfl) rfl mb_a1 (Nat.le_trans hA (by omega)) (vp_of_inb hg44) ?_
    rw [show _ = _ from mbp_a1]
    refine olet_e (P := fun y => AW g MX10_load 106 [some (.ref (b)), none, some (.int (a.1))] [] (mb h0 b y) Q) hs (fun S45 hs => ?_)
    refine AW.iinc (v := a.1 + (1 : Int32)) (L' := [some (.ref (b)), none, some (.int (a.1 + (1 : Int32)))]) (am_r 59 rfl) rfl (Nat.le_of_ble_eq_true rfl) rfl (congrArg (fun z => a.1 + z) ci_1) rfl ?_
    refine AW.goto (tg := 92) (am_r 60 rfl) rfl ?_
    have hr := (Option.some.inj hs).symm
    exact hc (a.1 + (1 : Int32), S45) hr 
noncomputable def sX10_load_l61_step   (a : (Int32 × Mem)) : Option ((Int32 × Mem) ⊕ (Int32 × Mem)) :=
  if (129 : Int32) ≤ a.1 then
    oinr (
    sX10_load_l92   ((0 : Int32), a.2))
  else
    oif (inb ((129 : Int32) + a.1) 258) (
    oif (inb a.1 258) (
    olet (si a.2 5 a.1.toNatClampNeg 0 (gi a.2 5 ((129 : Int32) + a.1).toNatClampNeg 0)) fun S48 =>
    some (.inl (a.1 + (1 : Int32), S48))))
noncomputable def sX10_load_l61   (a : (Int32 × Mem)) : Option (Int32 × Mem) := itw (sX10_load_l61_step  ) a
set_option maxRecDepth 100000 in
theorem dX10_load_l61 {g : AG} {h0 : AH} {b : Nat} {Q : AO → AH → Prop}  (hA : gB g ≤ b)  {a : (Int32 × Mem)}  {r : (Int32 × Mem)} (hs : sX10_load_l61   a = some r) (hQ : Q (.ok (some (.int r.1))) (mb h0 b r.2)) : AW g MX10_load 61 [some (.ref (b)), none, some (.int (a.1))] [] (mb h0 b a.2) Q := by
  refine itw_e (P := fun a => AW g MX10_load 61 [some (.ref (b)), none, some (.int (a.1))] [] (mb h0 b a.2) Q) (Post := fun r => Q (.ok (some (.int r.1))) (mb h0 b r.2)) (fun a r hs hc he  => ?_) hs hQ 
  unfold sX10_load_l61_step at hs
  refine AW.iload_n (z := 2) (am_r 34 rfl) rfl rfl ?_
  refine AW.sipush (am_r 35 rfl) rfl cs_129 ?_
  refine AW.icmp_ge (tg := 90) (am_r 36 rfl) rfl rfl (fun hc15 => ?_) (fun hc15 => ?_)
  · replace hs := (if_pos hc15).symm.trans hs
    refine oinr_e hs (fun z16 hz17 hs => ?_)
    have hQ := he _ hz17
    refine AW.iconst (am_r 49 rfl) rfl ci_0 ?_
    refine AW.istore_n (L' := [some (.ref (b)), none, some (.int ((0 : Int32)))]) (z := 2) (am_r 50 rfl) rfl (Nat.le_of_ble_eq_true rfl) rfl ?_
    exact dX10_load_l92 hA   hs hQ
  · replace hs := (if_neg hc15).symm.trans hs
    refine AW.aload_n (z := 0) (am_r 37 rfl) rfl rfl ?_
    refine AW.getO (am_r 38 rfl) rfl klX10 (k := 5) (by omega) q1508 mb_ob rfl ?_
    refine AW.iload_n (z := 2) (am_r 39 rfl) rfl rfl ?_
    refine AW.aload_n (z := 0) (am_r 40 rfl) rfl rfl ?_
    refine AW.getO (am_r 41 rfl) rfl klX10 (k := 5) (by omega) q1508 mb_ob rfl ?_
    refine AW.sipush (am_r 42 rfl) rfl cs_129 ?_
    refine AW.iload_n (z := 2) (am_r 43 rfl) rfl rfl ?_
    refine AW.iadd (am_r 44 rfl) rfl ?_
    refine oif_g hs (fun hg46 hs => ?_)
    refine AW.iald (am_r 45 rfl) rfl mb_a4 (vp_of_inb hg46) rfl ?_
    refine oif_g hs (fun hg47 hs => ?_)
    refine AW.iast (am_r 46 rfl) rfl mb_a4 (Nat.le_trans hA (by omega)) (vp_of_inb hg47) ?_
    rw [show _ = _ from mbp_a4]
    refine olet_e (P := fun y => AW g MX10_load 84 [some (.ref (b)), none, some (.int (a.1))] [] (mb h0 b y) Q) hs (fun S48 hs => ?_)
    refine AW.iinc (v := a.1 + (1 : Int32)) (L' := [some (.ref (b)), none, some (.int (a.1 + (1 : Int32)))]) (am_r 47 rfl) rfl (Nat.le_of_ble_eq_true rfl) rfl (congrArg (fun z => a.1 + z) ci_1) rfl ?_
    refine AW.goto (tg := 61) (am_r 48 rfl) rfl ?_
    have hr := (Option.some.inj hs).symm
    exact hc (a.1 + (1 : Int32), S48) hr 
noncomputable def sX10_load_j47 (S : Mem)  (y0 : Int32) : Option (Int32 × Mem) :=
  olet (si S 100 12 0 ((0 : Int32))) fun S13 =>
  if y0 = 0 then
    some (((-3 : Int32), S13))
  else
    sX10_load_l61   ((0 : Int32), S13)
set_option maxRecDepth 100000 in
theorem dX10_load_j47 {g : AG} {h0 : AH} {b : Nat} {S : Mem} {Q : AO → AH → Prop}  {y0 : Int32} (hA : gB g ≤ b)   {r : (Int32 × Mem)} (hs : sX10_load_j47 S  y0 = some r) (hQ : Q (.ok (some (.int r.1))) (mb h0 b r.2)) : AW g MX10_load 47 [some (.ref (b)), some (.int (y0)), none] [] (mb h0 b S) Q := by
  unfold sX10_load_j47 at hs
  refine AW.aload_n (z := 0) (am_r 25 rfl) rfl rfl ?_
  refine AW.iconst (am_r 26 rfl) rfl ci_0 ?_
  refine AW.putO (am_r 27 rfl) rfl klX10 (k := 12) (by omega) q1515 (Or.inl rfl) mb_ob hA rfl rfl (mbp_ob (by decide)) ?_
  refine olet_e (P := fun y => AW g MX10_load 52 [some (.ref (b)), some (.int (y0)), none] [] (mb h0 b y) Q) hs (fun S13 hs => ?_)
  refine AW.iload_n (z := 1) (am_r 28 rfl) rfl rfl ?_
  refine AW.if_ne (tg := 59) (am_r 29 rfl) rfl rfl (fun hc14 => ?_) (fun hc14 => ?_)
  · replace hs := (if_neg hc14).symm.trans hs
    refine AW.iconst (am_r 32 rfl) rfl ci_0 ?_
    refine AW.istore_n (L' := [some (.ref (b)), some (.int (y0)), some (.int ((0 : Int32)))]) (z := 2) (am_r 33 rfl) rfl (Nat.le_of_ble_eq_true rfl) rfl ?_
    refine AW.lessL (L' := [some (.ref (b)), none, some (.int ((0 : Int32)))]) ⟨rfl, rfl, trivial⟩ ?_
    exact dX10_load_l61 hA   hs hQ
  · replace hs := (if_pos hc14).symm.trans hs
    refine AW.bipush (am_r 30 rfl) rfl cb_m3 ?_
    have hr := (Option.some.inj hs).symm
    subst hr
    exact AW.iret (am_r 31 rfl) rfl hQ
noncomputable def sX10_load_l28_step   (a : (Int32 × Mem)) : Option ((Int32 × Mem) ⊕ (Int32 × Mem)) :=
  if a.1 = 0 then
    oinr (
    sX10_load_j47 a.2  a.1)
  else
    if (gi a.2 100 16 0) = 0 then
      oinr (
      sX10_load_j47 a.2  a.1)
    else
      obind (sX10_readStatement a.2 ) fun r52 =>
      some (.inl (r52.1, r52.2))
noncomputable def sX10_load_l28   (a : (Int32 × Mem)) : Option (Int32 × Mem) := itw (sX10_load_l28_step  ) a
set_option maxRecDepth 100000 in
theorem dX10_load_l28 {g : AG} {h0 : AH} {b : Nat} {Q : AO → AH → Prop}  (hA : gB g ≤ b)  {a : (Int32 × Mem)}  {r : (Int32 × Mem)} (hs : sX10_load_l28   a = some r) (hQ : Q (.ok (some (.int r.1))) (mb h0 b r.2)) : AW g MX10_load 28 [some (.ref (b)), some (.int (a.1)), none] [] (mb h0 b a.2) Q := by
  refine itw_e (P := fun a => AW g MX10_load 28 [some (.ref (b)), some (.int (a.1)), none] [] (mb h0 b a.2) Q) (Post := fun r => Q (.ok (some (.int r.1))) (mb h0 b r.2)) (fun a r hs hc he  => ?_) hs hQ 
  unfold sX10_load_l28_step at hs
  refine AW.iload_n (z := 1) (am_r 16 rfl) rfl rfl ?_
  refine AW.if_eq (tg := 47) (am_r 17 rfl) rfl rfl (fun hc10 => ?_) (fun hc10 => ?_)
  · replace hs := (if_pos hc10).symm.trans hs
    refine oinr_e hs (fun z11 hz12 hs => ?_)
    have hQ := he _ hz12
    exact dX10_load_j47 hA   hs hQ
  · replace hs := (if_neg hc10).symm.trans hs
    refine AW.aload_n (z := 0) (am_r 18 rfl) rfl rfl ?_
    refine AW.getO (am_r 19 rfl) rfl klX10 (k := 16) (by omega) q1519 mb_ob rfl ?_
    refine AW.if_eq (tg := 47) (am_r 20 rfl) rfl rfl (fun hc49 => ?_) (fun hc49 => ?_)
    · replace hs := (if_pos hc49).symm.trans hs
      refine oinr_e hs (fun z50 hz51 hs => ?_)
      have hQ := he _ hz51
      exact dX10_load_j47 hA   hs hQ
    · replace hs := (if_neg hc49).symm.trans hs
      refine AW.aload_n (z := 0) (am_r 21 rfl) rfl rfl ?_
      refine obind_e hs (fun r52 hg54 hs => ?_)
      refine AW.callV (N := MX10_readStatement) (As := []) (S := []) (L0 := [some (.ref (b)), none]) (b := b) (am_r 22 rfl) rfl ovX10_readStatement q2095 rfl rfl mb_ob rfl rfl rfl rfl (dX10_readStatement hA  hg54 (fun hok53 => (cQ_r ?_)))
      refine AW.istore_n (L' := [some (.ref (b)), some (.int (r52.1)), none]) (z := 1) (am_r 23 rfl) rfl (Nat.le_of_ble_eq_true rfl) rfl ?_
      refine AW.goto (tg := 28) (am_r 24 rfl) rfl ?_
      have hr := (Option.some.inj hs).symm
      exact hc (r52.1, r52.2) hr 
noncomputable def sX10_load (S : Mem)  : Option (Int32 × Mem) :=
  olet (si S 100 6 0 ((0 : Int32))) fun S1 =>
  obind (sX10_clearStudio S1 (129 : Int32)) fun r2 =>
  olet (si r2 100 20 0 ((0 : Int32))) fun S5 =>
  olet (si S5 100 21 0 ((0 : Int32))) fun S6 =>
  obind (sX10_beginText S6 ) fun r7 =>
  sX10_load_l28   ((1 : Int32), r7)
set_option maxRecDepth 100000 in
theorem dX10_load {g : AG} {h0 : AH} {b : Nat} {S : Mem} {Q : AO → AH → Prop}  (hA : gB g ≤ b)  {r : (Int32 × Mem)} (hs : sX10_load S  = some r) (hQ : Q (.ok (some (.int r.1))) (mb h0 b r.2)) : AW g MX10_load 0 [some (.ref (b)), none, none] [] (mb h0 b S) Q := by
  unfold sX10_load at hs
  refine AW.aload_n (z := 0) (am_r 0 rfl) rfl rfl ?_
  refine AW.iconst (am_r 1 rfl) rfl ci_0 ?_
  refine AW.putO (am_r 2 rfl) rfl klX10 (k := 6) (by omega) q1509 (Or.inl rfl) mb_ob hA rfl rfl (mbp_ob (by decide)) ?_
  refine olet_e (P := fun y => AW g MX10_load 5 [some (.ref (b)), none, none] [] (mb h0 b y) Q) hs (fun S1 hs => ?_)
  refine AW.aload_n (z := 0) (am_r 3 rfl) rfl rfl ?_
  refine AW.sipush (am_r 4 rfl) rfl cs_129 ?_
  refine obind_e hs (fun r2 hg4 hs => ?_)
  refine AW.callV (N := MX10_clearStudio) (As := [.int ((129 : Int32))]) (S := []) (L0 := [some (.ref (b)), some (.int ((129 : Int32))), none]) (b := b) (am_r 5 rfl) rfl ovX10_clearStudio q1499 rfl rfl mb_ob rfl rfl rfl rfl (dX10_clearStudio hA  hg4 (cQ_v ?_))
  refine AW.aload_n (z := 0) (am_r 6 rfl) rfl rfl ?_
  refine AW.iconst (am_r 7 rfl) rfl ci_0 ?_
  refine AW.putO (am_r 8 rfl) rfl klX10 (k := 20) (by omega) q1523 (Or.inl rfl) mb_ob hA (nar_b (Or.inl rfl)) rfl (mbp_ob (by decide)) ?_
  refine olet_e (P := fun y => AW g MX10_load 17 [some (.ref (b)), none, none] [] (mb h0 b y) Q) hs (fun S5 hs => ?_)
  refine AW.aload_n (z := 0) (am_r 9 rfl) rfl rfl ?_
  refine AW.iconst (am_r 10 rfl) rfl ci_0 ?_
  refine AW.putO (am_r 11 rfl) rfl klX10 (k := 21) (by omega) q1524 (Or.inl rfl) mb_ob hA (nar_b (Or.inl rfl)) rfl (mbp_ob (by decide)) ?_
  refine olet_e (P := fun y => AW g MX10_load 22 [some (.ref (b)), none, none] [] (mb h0 b y) Q) hs (fun S6 hs => ?_)
  refine AW.aload_n (z := 0) (am_r 12 rfl) rfl rfl ?_
  refine obind_e hs (fun r7 hg9 hs => ?_)
  refine AW.callV (N := MX10_beginText) (As := []) (S := []) (L0 := [some (.ref (b))]) (b := b) (am_r 13 rfl) rfl ovX10_beginText q2070 rfl rfl mb_ob rfl rfl rfl rfl (dX10_beginText hA  hg9 (cQ_v ?_))
  refine AW.iconst (am_r 14 rfl) rfl ci_1 ?_
  refine AW.istore_n (L' := [some (.ref (b)), some (.int ((1 : Int32))), none]) (z := 1) (am_r 15 rfl) rfl (Nat.le_of_ble_eq_true rfl) rfl ?_
  exact dX10_load_l28 hA   hs hQ
def sX10_commandHere (S : Mem)  : Int32 :=
  if (sX10_isWord S (sX10_pack S (112 : Int32) (108 : Int32) (97 : Int32) (110 : Int32) (0 : Int32) (0 : Int32))) = 0 then
    if (sX10_isWord S (sX10_pack S (99 : Int32) (97 : Int32) (110 : Int32) (99 : Int32) (101 : Int32) (108 : Int32))) = 0 then
      if (sX10_isWord S (sX10_longer S (sX10_pack S (97 : Int32) (112 : Int32) (112 : Int32) (114 : Int32) (111 : Int32) (118 : Int32)) (101 : Int32))) = 0 then
        if (sX10_isWord S (sX10_pack S (108 : Int32) (101 : Int32) (110 : Int32) (100 : Int32) (0 : Int32) (0 : Int32))) = 0 then
          if (sX10_isWord S (sX10_pack S (114 : Int32) (101 : Int32) (99 : Int32) (97 : Int32) (108 : Int32) (108 : Int32))) = 0 then
            if (sX10_isWord S (sX10_pack S (116 : Int32) (105 : Int32) (99 : Int32) (107 : Int32) (0 : Int32) (0 : Int32))) = 0 then
              (-1 : Int32)
            else
              (5 : Int32)
          else
            (4 : Int32)
        else
          (3 : Int32)
      else
        (2 : Int32)
    else
      (1 : Int32)
  else
    (0 : Int32)
set_option maxRecDepth 100000 in
theorem dX10_commandHere {g : AG} {h0 : AH} {b : Nat} {S : Mem} {Q : AO → AH → Prop}  (hA : gB g ≤ b)  {r : Int32} (hs : sX10_commandHere S  = r) (hQ : Q (.ok (some (.int r))) (mb h0 b S)) : AW g MX10_commandHere 0 [some (.ref (b))] [] (mb h0 b S) Q := by
  unfold sX10_commandHere at hs
  refine AW.aload_n (z := 0) (am_r 0 rfl) rfl rfl ?_
  refine AW.bipush (am_r 1 rfl) rfl cb_112 ?_
  refine AW.bipush (am_r 2 rfl) rfl cb_108 ?_
  refine AW.bipush (am_r 3 rfl) rfl cb_97 ?_
  refine AW.bipush (am_r 4 rfl) rfl cb_110 ?_
  refine AW.iconst (am_r 5 rfl) rfl ci_0 ?_
  refine AW.iconst (am_r 6 rfl) rfl ci_0 ?_
  refine AW.callS (N := MX10_pack) (As := [.int ((112 : Int32)), .int ((108 : Int32)), .int ((97 : Int32)), .int ((110 : Int32)), .int ((0 : Int32)), .int ((0 : Int32))]) (S := [(.ref (b))]) (L0 := [some (.int ((112 : Int32))), some (.int ((108 : Int32))), some (.int ((97 : Int32))), some (.int ((110 : Int32))), some (.int ((0 : Int32))), some (.int ((0 : Int32))), none, none]) (am_r 7 rfl) rfl osX10_pack q2099 rfl rfl rfl rfl rfl (dX10_pack hA  rfl (cQ_r ?_))
  refine AW.callV (N := MX10_isWord) (As := [.long (sX10_pack S (112 : Int32) (108 : Int32) (97 : Int32) (110 : Int32) (0 : Int32) (0 : Int32))]) (S := []) (L0 := [some (.ref (b)), some (.long (sX10_pack S (112 : Int32) (108 : Int32) (97 : Int32) (110 : Int32) (0 : Int32) (0 : Int32))), none]) (b := b) (am_r 8 rfl) rfl ovX10_isWord q2106 rfl rfl mb_ob rfl rfl rfl rfl (dX10_isWord hA  rfl (fun hok4 => (cQ_r ?_)))
  refine AW.if_eq (tg := 22) (am_r 9 rfl) rfl rfl (fun hc5 => ?_) (fun hc5 => ?_)
  · replace hs := (if_pos hc5).symm.trans hs
    refine AW.aload_n (z := 0) (am_r 12 rfl) rfl rfl ?_
    refine AW.bipush (am_r 13 rfl) rfl cb_99 ?_
    refine AW.bipush (am_r 14 rfl) rfl cb_97 ?_
    refine AW.bipush (am_r 15 rfl) rfl cb_110 ?_
    refine AW.bipush (am_r 16 rfl) rfl cb_99 ?_
    refine AW.bipush (am_r 17 rfl) rfl cb_101 ?_
    refine AW.bipush (am_r 18 rfl) rfl cb_108 ?_
    refine AW.callS (N := MX10_pack) (As := [.int ((99 : Int32)), .int ((97 : Int32)), .int ((110 : Int32)), .int ((99 : Int32)), .int ((101 : Int32)), .int ((108 : Int32))]) (S := [(.ref (b))]) (L0 := [some (.int ((99 : Int32))), some (.int ((97 : Int32))), some (.int ((110 : Int32))), some (.int ((99 : Int32))), some (.int ((101 : Int32))), some (.int ((108 : Int32))), none, none]) (am_r 19 rfl) rfl osX10_pack q2099 rfl rfl rfl rfl rfl (dX10_pack hA  rfl (cQ_r ?_))
    refine AW.callV (N := MX10_isWord) (As := [.long (sX10_pack S (99 : Int32) (97 : Int32) (110 : Int32) (99 : Int32) (101 : Int32) (108 : Int32))]) (S := []) (L0 := [some (.ref (b)), some (.long (sX10_pack S (99 : Int32) (97 : Int32) (110 : Int32) (99 : Int32) (101 : Int32) (108 : Int32))), none]) (b := b) (am_r 20 rfl) rfl ovX10_isWord q2106 rfl rfl mb_ob rfl rfl rfl rfl (dX10_isWord hA  rfl (fun hok9 => (cQ_r ?_)))
    refine AW.if_eq (tg := 46) (am_r 21 rfl) rfl rfl (fun hc10 => ?_) (fun hc10 => ?_)
    · replace hs := (if_pos hc10).symm.trans hs
      refine AW.aload_n (z := 0) (am_r 24 rfl) rfl rfl ?_
      refine AW.bipush (am_r 25 rfl) rfl cb_97 ?_
      refine AW.bipush (am_r 26 rfl) rfl cb_112 ?_
      refine AW.bipush (am_r 27 rfl) rfl cb_112 ?_
      refine AW.bipush (am_r 28 rfl) rfl cb_114 ?_
      refine AW.bipush (am_r 29 rfl) rfl cb_111 ?_
      refine AW.bipush (am_r 30 rfl) rfl cb_118 ?_
      refine AW.callS (N := MX10_pack) (As := [.int ((97 : Int32)), .int ((112 : Int32)), .int ((112 : Int32)), .int ((114 : Int32)), .int ((111 : Int32)), .int ((118 : Int32))]) (S := [(.ref (b))]) (L0 := [some (.int ((97 : Int32))), some (.int ((112 : Int32))), some (.int ((112 : Int32))), some (.int ((114 : Int32))), some (.int ((111 : Int32))), some (.int ((118 : Int32))), none, none]) (am_r 31 rfl) rfl osX10_pack q2099 rfl rfl rfl rfl rfl (dX10_pack hA  rfl (cQ_r ?_))
      refine AW.bipush (am_r 32 rfl) rfl cb_101 ?_
      refine AW.callS (N := MX10_longer) (As := [.long (sX10_pack S (97 : Int32) (112 : Int32) (112 : Int32) (114 : Int32) (111 : Int32) (118 : Int32)), .int ((101 : Int32))]) (S := [(.ref (b))]) (L0 := [some (.long (sX10_pack S (97 : Int32) (112 : Int32) (112 : Int32) (114 : Int32) (111 : Int32) (118 : Int32))), none, some (.int ((101 : Int32)))]) (am_r 33 rfl) rfl osX10_longer q2103 rfl rfl rfl rfl rfl (dX10_longer hA  rfl (cQ_r ?_))
      refine AW.callV (N := MX10_isWord) (As := [.long (sX10_longer S (sX10_pack S (97 : Int32) (112 : Int32) (112 : Int32) (114 : Int32) (111 : Int32) (118 : Int32)) (101 : Int32))]) (S := []) (L0 := [some (.ref (b)), some (.long (sX10_longer S (sX10_pack S (97 : Int32) (112 : Int32) (112 : Int32) (114 : Int32) (111 : Int32) (118 : Int32)) (101 : Int32))), none]) (b := b) (am_r 34 rfl) rfl ovX10_isWord q2106 rfl rfl mb_ob rfl rfl rfl rfl (dX10_isWord hA  rfl (fun hok16 => (cQ_r ?_)))
      refine AW.if_eq (tg := 75) (am_r 35 rfl) rfl rfl (fun hc17 => ?_) (fun hc17 => ?_)
      · replace hs := (if_pos hc17).symm.trans hs
        refine AW.aload_n (z := 0) (am_r 38 rfl) rfl rfl ?_
        refine AW.bipush (am_r 39 rfl) rfl cb_108 ?_
        refine AW.bipush (am_r 40 rfl) rfl cb_101 ?_
        refine AW.bipush (am_r 41 rfl) rfl cb_110 ?_
        refine AW.bipush (am_r 42 rfl) rfl cb_100 ?_
        refine AW.iconst (am_r 43 rfl) rfl ci_0 ?_
        refine AW.iconst (am_r 44 rfl) rfl ci_0 ?_
        refine AW.callS (N := MX10_pack) (As := [.int ((108 : Int32)), .int ((101 : Int32)), .int ((110 : Int32)), .int ((100 : Int32)), .int ((0 : Int32)), .int ((0 : Int32))]) (S := [(.ref (b))]) (L0 := [some (.int ((108 : Int32))), some (.int ((101 : Int32))), some (.int ((110 : Int32))), some (.int ((100 : Int32))), some (.int ((0 : Int32))), some (.int ((0 : Int32))), none, none]) (am_r 45 rfl) rfl osX10_pack q2099 rfl rfl rfl rfl rfl (dX10_pack hA  rfl (cQ_r ?_))
        refine AW.callV (N := MX10_isWord) (As := [.long (sX10_pack S (108 : Int32) (101 : Int32) (110 : Int32) (100 : Int32) (0 : Int32) (0 : Int32))]) (S := []) (L0 := [some (.ref (b)), some (.long (sX10_pack S (108 : Int32) (101 : Int32) (110 : Int32) (100 : Int32) (0 : Int32) (0 : Int32))), none]) (b := b) (am_r 46 rfl) rfl ovX10_isWord q2106 rfl rfl mb_ob rfl rfl rfl rfl (dX10_isWord hA  rfl (fun hok21 => (cQ_r ?_)))
        refine AW.if_eq (tg := 97) (am_r 47 rfl) rfl rfl (fun hc22 => ?_) (fun hc22 => ?_)
        · replace hs := (if_pos hc22).symm.trans hs
          refine AW.aload_n (z := 0) (am_r 50 rfl) rfl rfl ?_
          refine AW.bipush (am_r 51 rfl) rfl cb_114 ?_
          refine AW.bipush (am_r 52 rfl) rfl cb_101 ?_
          refine AW.bipush (am_r 53 rfl) rfl cb_99 ?_
          refine AW.bipush (am_r 54 rfl) rfl cb_97 ?_
          refine AW.bipush (am_r 55 rfl) rfl cb_108 ?_
          refine AW.bipush (am_r 56 rfl) rfl cb_108 ?_
          refine AW.callS (N := MX10_pack) (As := [.int ((114 : Int32)), .int ((101 : Int32)), .int ((99 : Int32)), .int ((97 : Int32)), .int ((108 : Int32)), .int ((108 : Int32))]) (S := [(.ref (b))]) (L0 := [some (.int ((114 : Int32))), some (.int ((101 : Int32))), some (.int ((99 : Int32))), some (.int ((97 : Int32))), some (.int ((108 : Int32))), some (.int ((108 : Int32))), none, none]) (am_r 57 rfl) rfl osX10_pack q2099 rfl rfl rfl rfl rfl (dX10_pack hA  rfl (cQ_r ?_))
          refine AW.callV (N := MX10_isWord) (As := [.long (sX10_pack S (114 : Int32) (101 : Int32) (99 : Int32) (97 : Int32) (108 : Int32) (108 : Int32))]) (S := []) (L0 := [some (.ref (b)), some (.long (sX10_pack S (114 : Int32) (101 : Int32) (99 : Int32) (97 : Int32) (108 : Int32) (108 : Int32))), none]) (b := b) (am_r 58 rfl) rfl ovX10_isWord q2106 rfl rfl mb_ob rfl rfl rfl rfl (dX10_isWord hA  rfl (fun hok26 => (cQ_r ?_)))
          refine AW.if_eq (tg := 121) (am_r 59 rfl) rfl rfl (fun hc27 => ?_) (fun hc27 => ?_)
          · replace hs := (if_pos hc27).symm.trans hs
            refine AW.aload_n (z := 0) (am_r 62 rfl) rfl rfl ?_
            refine AW.bipush (am_r 63 rfl) rfl cb_116 ?_
            refine AW.bipush (am_r 64 rfl) rfl cb_105 ?_
            refine AW.bipush (am_r 65 rfl) rfl cb_99 ?_
            refine AW.bipush (am_r 66 rfl) rfl cb_107 ?_
            refine AW.iconst (am_r 67 rfl) rfl ci_0 ?_
            refine AW.iconst (am_r 68 rfl) rfl ci_0 ?_
            refine AW.callS (N := MX10_pack) (As := [.int ((116 : Int32)), .int ((105 : Int32)), .int ((99 : Int32)), .int ((107 : Int32)), .int ((0 : Int32)), .int ((0 : Int32))]) (S := [(.ref (b))]) (L0 := [some (.int ((116 : Int32))), some (.int ((105 : Int32))), some (.int ((99 : Int32))), some (.int ((107 : Int32))), some (.int ((0 : Int32))), some (.int ((0 : Int32))), none, none]) (am_r 69 rfl) rfl osX10_pack q2099 rfl rfl rfl rfl rfl (dX10_pack hA  rfl (cQ_r ?_))
            refine AW.callV (N := MX10_isWord) (As := [.long (sX10_pack S (116 : Int32) (105 : Int32) (99 : Int32) (107 : Int32) (0 : Int32) (0 : Int32))]) (S := []) (L0 := [some (.ref (b)), some (.long (sX10_pack S (116 : Int32) (105 : Int32) (99 : Int32) (107 : Int32) (0 : Int32) (0 : Int32))), none]) (b := b) (am_r 70 rfl) rfl ovX10_isWord q2106 rfl rfl mb_ob rfl rfl rfl rfl (dX10_isWord hA  rfl (fun hok31 => (cQ_r ?_)))
            refine AW.if_eq (tg := 145) (am_r 71 rfl) rfl rfl (fun hc32 => ?_) (fun hc32 => ?_)
            · replace hs := (if_pos hc32).symm.trans hs
              refine AW.iconst (am_r 74 rfl) rfl ci_m1 ?_
              have hr := hs.symm
              subst hr
              exact AW.iret (am_r 75 rfl) rfl hQ
            · replace hs := (if_neg hc32).symm.trans hs
              refine AW.iconst (am_r 72 rfl) rfl ci_5 ?_
              refine AW.goto (tg := 146) (am_r 73 rfl) rfl ?_
              have hr := hs.symm
              subst hr
              exact AW.iret (am_r 75 rfl) rfl hQ
          · replace hs := (if_neg hc27).symm.trans hs
            refine AW.iconst (am_r 60 rfl) rfl ci_4 ?_
            have hr := hs.symm
            subst hr
            exact AW.iret (am_r 61 rfl) rfl hQ
        · replace hs := (if_neg hc22).symm.trans hs
          refine AW.iconst (am_r 48 rfl) rfl ci_3 ?_
          have hr := hs.symm
          subst hr
          exact AW.iret (am_r 49 rfl) rfl hQ
      · replace hs := (if_neg hc17).symm.trans hs
        refine AW.iconst (am_r 36 rfl) rfl ci_2 ?_
        have hr := hs.symm
        subst hr
        exact AW.iret (am_r 37 rfl) rfl hQ
    · replace hs := (if_neg hc10).symm.trans hs
      refine AW.iconst (am_r 22 rfl) rfl ci_1 ?_
      have hr := hs.symm
      subst hr
      exact AW.iret (am_r 23 rfl) rfl hQ
  · replace hs := (if_neg hc5).symm.trans hs
    refine AW.iconst (am_r 10 rfl) rfl ci_0 ?_
    have hr := hs.symm
    subst hr
    exact AW.iret (am_r 11 rfl) rfl hQ
noncomputable def sX10_readNumberOf (S : Mem) (p1 : Int32) (p2 : Int32) (p3 : Int32) : Option (Int32 × Mem) :=
  obind (sX10_readNumber S p2 p3) fun r1 =>
  if r1.1 = 0 then
    some (((0 : Int32), r1.2))
  else
    oif (inb (((5 : Int32) * (gi r1.2 100 23 0)) + p1) 200) (
    olet (si r1.2 22 (((5 : Int32) * (gi r1.2 100 23 0)) + p1).toNatClampNeg 0 (gi r1.2 100 18 0)) fun S6 =>
    some (((1 : Int32), S6)))
set_option maxRecDepth 100000 in
theorem dX10_readNumberOf {g : AG} {h0 : AH} {b : Nat} {S : Mem} {Q : AO → AH → Prop} {p1 : Int32} {p2 : Int32} {p3 : Int32} (hA : gB g ≤ b)  {r : (Int32 × Mem)} (hs : sX10_readNumberOf S p1 p2 p3 = some r) (hQ : (r.1 = 0 ∨ r.1 = 1) → Q (.ok (some (.int r.1))) (mb h0 b r.2)) : AW g MX10_readNumberOf 0 [some (.ref (b)), some (.int (p1)), some (.int (p2)), some (.int (p3))] [] (mb h0 b S) Q := by
  unfold sX10_readNumberOf at hs
  refine AW.aload_n (z := 0) (am_r 0 rfl) rfl rfl ?_
  refine AW.iload_n (z := 2) (am_r 1 rfl) rfl rfl ?_
  refine AW.iload_n (z := 3) (am_r 2 rfl) rfl rfl ?_
  refine obind_e hs (fun r1 hg3 hs => ?_)
  refine AW.callV (N := MX10_readNumber) (As := [.int (p2), .int (p3)]) (S := []) (L0 := [some (.ref (b)), some (.int (p2)), some (.int (p3))]) (b := b) (am_r 3 rfl) rfl ovX10_readNumber q2122 rfl rfl mb_ob rfl rfl rfl rfl (dX10_readNumber hA  hg3 (fun hok2 => (cQ_r ?_)))
  refine AW.if_ne (tg := 11) (am_r 4 rfl) rfl rfl (fun hc4 => ?_) (fun hc4 => ?_)
  · replace hs := (if_neg hc4).symm.trans hs
    refine AW.aload_n (z := 0) (am_r 7 rfl) rfl rfl ?_
    refine AW.getO (am_r 8 rfl) rfl klX10 (k := 22) (by omega) q1525 mb_ob rfl ?_
    refine AW.iconst (am_r 9 rfl) rfl ci_5 ?_
    refine AW.aload_n (z := 0) (am_r 10 rfl) rfl rfl ?_
    refine AW.getO (am_r 11 rfl) rfl klX10 (k := 23) (by omega) q1526 mb_ob rfl ?_
    refine AW.imul (am_r 12 rfl) rfl ?_
    refine AW.iload_n (z := 1) (am_r 13 rfl) rfl rfl ?_
    refine AW.iadd (am_r 14 rfl) rfl ?_
    refine AW.aload_n (z := 0) (am_r 15 rfl) rfl rfl ?_
    refine AW.getO (am_r 16 rfl) rfl klX10 (k := 18) (by omega) q1521 mb_ob rfl ?_
    refine oif_g hs (fun hg5 hs => ?_)
    refine AW.iast (am_r 17 rfl) rfl mb_a9 (Nat.le_trans hA (by omega)) (vp_of_inb hg5) ?_
    rw [show _ = _ from mbp_a9]
    refine olet_e (P := fun y => AW g MX10_readNumberOf 28 [some (.ref (b)), some (.int (p1)), some (.int (p2)), some (.int (p3))] [] (mb h0 b y) Q) hs (fun S6 hs => ?_)
    refine AW.iconst (am_r 18 rfl) rfl ci_1 ?_
    have hr := (Option.some.inj hs).symm
    subst hr
    exact AW.zret (am_r 19 rfl) rfl (Or.inr rfl) (hQ (Or.inr rfl))
  · replace hs := (if_pos hc4).symm.trans hs
    refine AW.iconst (am_r 5 rfl) rfl ci_0 ?_
    have hr := (Option.some.inj hs).symm
    subst hr
    exact AW.zret (am_r 6 rfl) rfl (Or.inl rfl) (hQ (Or.inl rfl))
noncomputable def sX10_readArguments (S : Mem) (p1 : Int32) : Option (Int32 × Mem) :=
  if p1 = (5 : Int32) then
    obind (sX10_readNumberOf S (1 : Int32) (1 : Int32) (1000 : Int32)) fun r23 =>
    some ((r23.1, r23.2))
  else
    obind (sX10_readNumberOf S (1 : Int32) (0 : Int32) (15 : Int32)) fun r2 =>
    if r2.1 = 0 then
      some (((0 : Int32), r2.2))
    else
      if p1 = 0 then
        obind (sX10_readNumberOf r2.2 (2 : Int32) (0 : Int32) (9 : Int32)) fun r20 =>
        some ((r20.1, r20.2))
      else
        if p1 = (3 : Int32) then
          obind (sX10_readNumberOf r2.2 (2 : Int32) (0 : Int32) (20000 : Int32)) fun r8 =>
          if r8.1 = 0 then
            some (((0 : Int32), r8.2))
          else
            obind (sX10_readNumberOf r8.2 (3 : Int32) (0 : Int32) (1000 : Int32)) fun r12 =>
            if r12.1 = 0 then
              some (((0 : Int32), r12.2))
            else
              obind (sX10_readNumberOf r12.2 (4 : Int32) (1 : Int32) (500 : Int32)) fun r16 =>
              if r16.1 = 0 then
                some (((0 : Int32), r16.2))
              else
                some (((1 : Int32), r16.2))
        else
          some (((1 : Int32), r2.2))
set_option maxRecDepth 100000 in
theorem dX10_readArguments {g : AG} {h0 : AH} {b : Nat} {S : Mem} {Q : AO → AH → Prop} {p1 : Int32} (hA : gB g ≤ b)  {r : (Int32 × Mem)} (hs : sX10_readArguments S p1 = some r) (hQ : (r.1 = 0 ∨ r.1 = 1) → Q (.ok (some (.int r.1))) (mb h0 b r.2)) : AW g MX10_readArguments 0 [some (.ref (b)), some (.int (p1))] [] (mb h0 b S) Q := by
  unfold sX10_readArguments at hs
  refine AW.iload_n (z := 1) (am_r 0 rfl) rfl rfl ?_
  refine AW.iconst (am_r 1 rfl) rfl ci_5 ?_
  refine AW.icmp_ne (tg := 15) (am_r 2 rfl) rfl rfl (fun hc1 => ?_) (fun hc1 => ?_)
  · replace hs := (if_neg hc1).symm.trans hs
    refine AW.aload_n (z := 0) (am_r 9 rfl) rfl rfl ?_
    refine AW.iconst (am_r 10 rfl) rfl ci_1 ?_
    refine AW.iconst (am_r 11 rfl) rfl ci_0 ?_
    refine AW.bipush (am_r 12 rfl) rfl cb_15 ?_
    refine obind_e hs (fun r2 hg4 hs => ?_)
    refine AW.callV (N := MX10_readNumberOf) (As := [.int ((1 : Int32)), .int ((0 : Int32)), .int ((15 : Int32))]) (S := []) (L0 := [some (.ref (b)), some (.int ((1 : Int32))), some (.int ((0 : Int32))), some (.int ((15 : Int32)))]) (b := b) (am_r 13 rfl) rfl ovX10_readNumberOf q2155 rfl rfl mb_ob rfl rfl rfl rfl (dX10_readNumberOf hA  hg4 (fun hok3 => (cQ_r ?_)))
    refine AW.if_ne (tg := 28) (am_r 14 rfl) rfl rfl (fun hc5 => ?_) (fun hc5 => ?_)
    · replace hs := (if_neg hc5).symm.trans hs
      refine AW.iload_n (z := 1) (am_r 17 rfl) rfl rfl ?_
      refine AW.if_ne (tg := 41) (am_r 18 rfl) rfl rfl (fun hc6 => ?_) (fun hc6 => ?_)
      · replace hs := (if_neg hc6).symm.trans hs
        refine AW.iload_n (z := 1) (am_r 25 rfl) rfl rfl ?_
        refine AW.iconst (am_r 26 rfl) rfl ci_3 ?_
        refine AW.icmp_ne (tg := 82) (am_r 27 rfl) rfl rfl (fun hc7 => ?_) (fun hc7 => ?_)
        · replace hs := (if_neg hc7).symm.trans hs
          refine AW.iconst (am_r 46 rfl) rfl ci_1 ?_
          refine AW.goto (tg := 87) (am_r 47 rfl) rfl ?_
          have hr := (Option.some.inj hs).symm
          subst hr
          exact AW.zret (am_r 49 rfl) rfl (Or.inr rfl) (hQ (Or.inr rfl))
        · replace hs := (if_pos hc7).symm.trans hs
          refine AW.aload_n (z := 0) (am_r 28 rfl) rfl rfl ?_
          refine AW.iconst (am_r 29 rfl) rfl ci_2 ?_
          refine AW.iconst (am_r 30 rfl) rfl ci_0 ?_
          refine AW.sipush (am_r 31 rfl) rfl cs_20000 ?_
          refine obind_e hs (fun r8 hg10 hs => ?_)
          refine AW.callV (N := MX10_readNumberOf) (As := [.int ((2 : Int32)), .int ((0 : Int32)), .int ((20000 : Int32))]) (S := []) (L0 := [some (.ref (b)), some (.int ((2 : Int32))), some (.int ((0 : Int32))), some (.int ((20000 : Int32)))]) (b := b) (am_r 32 rfl) rfl ovX10_readNumberOf q2155 rfl rfl mb_ob rfl rfl rfl rfl (dX10_readNumberOf hA  hg10 (fun hok9 => (cQ_r ?_)))
          refine AW.if_eq (tg := 86) (am_r 33 rfl) rfl rfl (fun hc11 => ?_) (fun hc11 => ?_)
          · replace hs := (if_pos hc11).symm.trans hs
            refine AW.iconst (am_r 48 rfl) rfl ci_0 ?_
            have hr := (Option.some.inj hs).symm
            subst hr
            exact AW.zret (am_r 49 rfl) rfl (Or.inl rfl) (hQ (Or.inl rfl))
          · replace hs := (if_neg hc11).symm.trans hs
            refine AW.aload_n (z := 0) (am_r 34 rfl) rfl rfl ?_
            refine AW.iconst (am_r 35 rfl) rfl ci_3 ?_
            refine AW.iconst (am_r 36 rfl) rfl ci_0 ?_
            refine AW.sipush (am_r 37 rfl) rfl cs_1000 ?_
            refine obind_e hs (fun r12 hg14 hs => ?_)
            refine AW.callV (N := MX10_readNumberOf) (As := [.int ((3 : Int32)), .int ((0 : Int32)), .int ((1000 : Int32))]) (S := []) (L0 := [some (.ref (b)), some (.int ((3 : Int32))), some (.int ((0 : Int32))), some (.int ((1000 : Int32)))]) (b := b) (am_r 38 rfl) rfl ovX10_readNumberOf q2155 rfl rfl mb_ob rfl rfl rfl rfl (dX10_readNumberOf hA  hg14 (fun hok13 => (cQ_r ?_)))
            refine AW.if_eq (tg := 86) (am_r 39 rfl) rfl rfl (fun hc15 => ?_) (fun hc15 => ?_)
            · replace hs := (if_pos hc15).symm.trans hs
              refine AW.iconst (am_r 48 rfl) rfl ci_0 ?_
              have hr := (Option.some.inj hs).symm
              subst hr
              exact AW.zret (am_r 49 rfl) rfl (Or.inl rfl) (hQ (Or.inl rfl))
            · replace hs := (if_neg hc15).symm.trans hs
              refine AW.aload_n (z := 0) (am_r 40 rfl) rfl rfl ?_
              refine AW.iconst (am_r 41 rfl) rfl ci_4 ?_
              refine AW.iconst (am_r 42 rfl) rfl ci_1 ?_
              refine AW.sipush (am_r 43 rfl) rfl cs_500 ?_
              refine obind_e hs (fun r16 hg18 hs => ?_)
              refine AW.callV (N := MX10_readNumberOf) (As := [.int ((4 : Int32)), .int ((1 : Int32)), .int ((500 : Int32))]) (S := []) (L0 := [some (.ref (b)), some (.int ((4 : Int32))), some (.int ((1 : Int32))), some (.int ((500 : Int32)))]) (b := b) (am_r 44 rfl) rfl ovX10_readNumberOf q2155 rfl rfl mb_ob rfl rfl rfl rfl (dX10_readNumberOf hA  hg18 (fun hok17 => (cQ_r ?_)))
              refine AW.if_eq (tg := 86) (am_r 45 rfl) rfl rfl (fun hc19 => ?_) (fun hc19 => ?_)
              · replace hs := (if_pos hc19).symm.trans hs
                refine AW.iconst (am_r 48 rfl) rfl ci_0 ?_
                have hr := (Option.some.inj hs).symm
                subst hr
                exact AW.zret (am_r 49 rfl) rfl (Or.inl rfl) (hQ (Or.inl rfl))
              · replace hs := (if_neg hc19).symm.trans hs
                refine AW.iconst (am_r 46 rfl) rfl ci_1 ?_
                refine AW.goto (tg := 87) (am_r 47 rfl) rfl ?_
                have hr := (Option.some.inj hs).symm
                subst hr
                exact AW.zret (am_r 49 rfl) rfl (Or.inr rfl) (hQ (Or.inr rfl))
      · replace hs := (if_pos hc6).symm.trans hs
        refine AW.aload_n (z := 0) (am_r 19 rfl) rfl rfl ?_
        refine AW.iconst (am_r 20 rfl) rfl ci_2 ?_
        refine AW.iconst (am_r 21 rfl) rfl ci_0 ?_
        refine AW.bipush (am_r 22 rfl) rfl cb_9 ?_
        refine obind_e hs (fun r20 hg22 hs => ?_)
        refine AW.callV (N := MX10_readNumberOf) (As := [.int ((2 : Int32)), .int ((0 : Int32)), .int ((9 : Int32))]) (S := []) (L0 := [some (.ref (b)), some (.int ((2 : Int32))), some (.int ((0 : Int32))), some (.int ((9 : Int32)))]) (b := b) (am_r 23 rfl) rfl ovX10_readNumberOf q2155 rfl rfl mb_ob rfl rfl rfl rfl (dX10_readNumberOf hA  hg22 (fun hok21 => (cQ_r ?_)))
        have hr := (Option.some.inj hs).symm
        subst hr
        exact AW.zret (am_r 24 rfl) rfl hok21 (hQ hok21)
    · replace hs := (if_pos hc5).symm.trans hs
      refine AW.iconst (am_r 15 rfl) rfl ci_0 ?_
      have hr := (Option.some.inj hs).symm
      subst hr
      exact AW.zret (am_r 16 rfl) rfl (Or.inl rfl) (hQ (Or.inl rfl))
  · replace hs := (if_pos hc1).symm.trans hs
    refine AW.aload_n (z := 0) (am_r 3 rfl) rfl rfl ?_
    refine AW.iconst (am_r 4 rfl) rfl ci_1 ?_
    refine AW.iconst (am_r 5 rfl) rfl ci_1 ?_
    refine AW.sipush (am_r 6 rfl) rfl cs_1000 ?_
    refine obind_e hs (fun r23 hg25 hs => ?_)
    refine AW.callV (N := MX10_readNumberOf) (As := [.int ((1 : Int32)), .int ((1 : Int32)), .int ((1000 : Int32))]) (S := []) (L0 := [some (.ref (b)), some (.int ((1 : Int32))), some (.int ((1 : Int32))), some (.int ((1000 : Int32)))]) (b := b) (am_r 7 rfl) rfl ovX10_readNumberOf q2155 rfl rfl mb_ob rfl rfl rfl rfl (dX10_readNumberOf hA  hg25 (fun hok24 => (cQ_r ?_)))
    have hr := (Option.some.inj hs).symm
    subst hr
    exact AW.zret (am_r 8 rfl) rfl hok24 (hQ hok24)
noncomputable def sX10_readCommand (S : Mem)  : Option (Int32 × Mem) :=
  olet (sX10_commandHere S ) fun v3 =>
  if v3 = (-1 : Int32) then
    olet (sX10_fail S (1 : Int32)) fun r21 =>
    some ((r21.1, r21.2))
  else
    if (gi S 100 23 0) = (40 : Int32) then
      olet (sX10_fail S (4 : Int32)) fun r19 =>
      some ((r19.1, r19.2))
    else
      obind (sX10_advance S ) fun r6 =>
      oif (inb ((5 : Int32) * (gi r6 100 23 0)) 200) (
      olet (si r6 22 ((5 : Int32) * (gi r6 100 23 0)).toNatClampNeg 0 (v3)) fun S10 =>
      obind (sX10_readArguments S10 v3) fun r11 =>
      if r11.1 = 0 then
        some (((0 : Int32), r11.2))
      else
        olet (si r11.2 100 23 0 ((gi r11.2 100 23 0) + (1 : Int32))) fun S15 =>
        obind (sX10_readEnd S15 ) fun r16 =>
        some ((r16.1, r16.2)))
set_option maxRecDepth 100000 in
theorem dX10_readCommand {g : AG} {h0 : AH} {b : Nat} {S : Mem} {Q : AO → AH → Prop}  (hA : gB g ≤ b)  {r : (Int32 × Mem)} (hs : sX10_readCommand S  = some r) (hQ : (r.1 = 0 ∨ r.1 = 1) → Q (.ok (some (.int r.1))) (mb h0 b r.2)) : AW g MX10_readCommand 0 [some (.ref (b)), none] [] (mb h0 b S) Q := by
  unfold sX10_readCommand at hs
  refine AW.aload_n (z := 0) (am_r 0 rfl) rfl rfl ?_
  refine AW.callV (N := MX10_commandHere) (As := []) (S := []) (L0 := [some (.ref (b))]) (b := b) (am_r 1 rfl) rfl ovX10_commandHere q2147 rfl rfl mb_ob rfl rfl rfl rfl (dX10_commandHere hA  rfl (cQ_r ?_))
  refine olet_e (P := fun y => AW g MX10_readCommand 4 [some (.ref (b)), none] [(.int (y))] (mb h0 b S) Q) hs (fun v3 hs => ?_)
  refine AW.istore_n (L' := [some (.ref (b)), some (.int (v3))]) (z := 1) (am_r 2 rfl) rfl (Nat.le_of_ble_eq_true rfl) rfl ?_
  refine AW.iload_n (z := 1) (am_r 3 rfl) rfl rfl ?_
  refine AW.iconst (am_r 4 rfl) rfl ci_m1 ?_
  refine AW.icmp_ne (tg := 16) (am_r 5 rfl) rfl rfl (fun hc4 => ?_) (fun hc4 => ?_)
  · replace hs := (if_neg hc4).symm.trans hs
    refine AW.aload_n (z := 0) (am_r 10 rfl) rfl rfl ?_
    refine AW.getO (am_r 11 rfl) rfl klX10 (k := 23) (by omega) q1526 mb_ob rfl ?_
    refine AW.bipush (am_r 12 rfl) rfl cb_40 ?_
    refine AW.icmp_ne (tg := 31) (am_r 13 rfl) rfl rfl (fun hc5 => ?_) (fun hc5 => ?_)
    · replace hs := (if_neg hc5).symm.trans hs
      refine AW.aload_n (z := 0) (am_r 18 rfl) rfl rfl ?_
      refine obind_e hs (fun r6 hg8 hs => ?_)
      refine AW.callV (N := MX10_advance) (As := []) (S := []) (L0 := [some (.ref (b)), none]) (b := b) (am_r 19 rfl) rfl ovX10_advance q2074 rfl rfl mb_ob rfl rfl rfl rfl (dX10_advance hA  hg8 (cQ_v ?_))
      refine AW.aload_n (z := 0) (am_r 20 rfl) rfl rfl ?_
      refine AW.getO (am_r 21 rfl) rfl klX10 (k := 22) (by omega) q1525 mb_ob rfl ?_
      refine AW.iconst (am_r 22 rfl) rfl ci_5 ?_
      refine AW.aload_n (z := 0) (am_r 23 rfl) rfl rfl ?_
      refine AW.getO (am_r 24 rfl) rfl klX10 (k := 23) (by omega) q1526 mb_ob rfl ?_
      refine AW.imul (am_r 25 rfl) rfl ?_
      refine AW.iload_n (z := 1) (am_r 26 rfl) rfl rfl ?_
      refine oif_g hs (fun hg9 hs => ?_)
      refine AW.iast (am_r 27 rfl) rfl mb_a9 (Nat.le_trans hA (by omega)) (vp_of_inb hg9) ?_
      rw [show _ = _ from mbp_a9]
      refine olet_e (P := fun y => AW g MX10_readCommand 47 [some (.ref (b)), some (.int (v3))] [] (mb h0 b y) Q) hs (fun S10 hs => ?_)
      refine AW.aload_n (z := 0) (am_r 28 rfl) rfl rfl ?_
      refine AW.iload_n (z := 1) (am_r 29 rfl) rfl rfl ?_
      refine obind_e hs (fun r11 hg13 hs => ?_)
      refine AW.callV (N := MX10_readArguments) (As := [.int (v3)]) (S := []) (L0 := [some (.ref (b)), some (.int (v3))]) (b := b) (am_r 30 rfl) rfl ovX10_readArguments q2151 rfl rfl mb_ob rfl rfl rfl rfl (dX10_readArguments hA  hg13 (fun hok12 => (cQ_r ?_)))
      refine AW.if_ne (tg := 57) (am_r 31 rfl) rfl rfl (fun hc14 => ?_) (fun hc14 => ?_)
      · replace hs := (if_neg hc14).symm.trans hs
        refine AW.aload_n (z := 0) (am_r 34 rfl) rfl rfl ?_
        refine AW.dup (am_r 35 rfl) rfl rfl ?_
        refine AW.getO (am_r 36 rfl) rfl klX10 (k := 23) (by omega) q1526 mb_ob rfl ?_
        refine AW.iconst (am_r 37 rfl) rfl ci_1 ?_
        refine AW.iadd (am_r 38 rfl) rfl ?_
        refine AW.putO (am_r 39 rfl) rfl klX10 (k := 23) (by omega) q1526 (Or.inl rfl) mb_ob hA rfl rfl (mbp_ob (by decide)) ?_
        refine olet_e (P := fun y => AW g MX10_readCommand 67 [some (.ref (b)), some (.int (v3))] [] (mb h0 b y) Q) hs (fun S15 hs => ?_)
        refine AW.aload_n (z := 0) (am_r 40 rfl) rfl rfl ?_
        refine obind_e hs (fun r16 hg18 hs => ?_)
        refine AW.callV (N := MX10_readEnd) (As := []) (S := []) (L0 := [some (.ref (b))]) (b := b) (am_r 41 rfl) rfl ovX10_readEnd q2126 rfl rfl mb_ob rfl rfl rfl rfl (dX10_readEnd hA  hg18 (fun hok17 => (cQ_r ?_)))
        have hr := (Option.some.inj hs).symm
        subst hr
        exact AW.zret (am_r 42 rfl) rfl hok17 (hQ hok17)
      · replace hs := (if_pos hc14).symm.trans hs
        refine AW.iconst (am_r 32 rfl) rfl ci_0 ?_
        have hr := (Option.some.inj hs).symm
        subst hr
        exact AW.zret (am_r 33 rfl) rfl (Or.inl rfl) (hQ (Or.inl rfl))
    · replace hs := (if_pos hc5).symm.trans hs
      refine AW.aload_n (z := 0) (am_r 14 rfl) rfl rfl ?_
      refine AW.iconst (am_r 15 rfl) rfl ci_4 ?_
      refine AW.callV (N := MX10_fail) (As := [.int ((4 : Int32))]) (S := []) (L0 := [some (.ref (b)), some (.int ((4 : Int32)))]) (b := b) (am_r 16 rfl) rfl ovX10_fail q2114 rfl rfl mb_ob rfl rfl rfl rfl (dX10_fail hA  rfl (fun hok20 => (cQ_r ?_)))
      refine olet_e (P := fun (y : (Int32 × Mem)) => (y.1 = 0 ∨ y.1 = 1) → AW g MX10_readCommand 30 [some (.ref (b)), some (.int (v3))] [(.int (y.1))] (mb h0 b y.2) Q) hs (fun r19 hs hok20 => ?_) hok20
      have hr := (Option.some.inj hs).symm
      subst hr
      exact AW.zret (am_r 17 rfl) rfl hok20 (hQ hok20)
  · replace hs := (if_pos hc4).symm.trans hs
    refine AW.aload_n (z := 0) (am_r 6 rfl) rfl rfl ?_
    refine AW.iconst (am_r 7 rfl) rfl ci_1 ?_
    refine AW.callV (N := MX10_fail) (As := [.int ((1 : Int32))]) (S := []) (L0 := [some (.ref (b)), some (.int ((1 : Int32)))]) (b := b) (am_r 8 rfl) rfl ovX10_fail q2114 rfl rfl mb_ob rfl rfl rfl rfl (dX10_fail hA  rfl (fun hok22 => (cQ_r ?_)))
    refine olet_e (P := fun (y : (Int32 × Mem)) => (y.1 = 0 ∨ y.1 = 1) → AW g MX10_readCommand 15 [some (.ref (b)), some (.int (v3))] [(.int (y.1))] (mb h0 b y.2) Q) hs (fun r21 hs hok22 => ?_) hok22
    have hr := (Option.some.inj hs).symm
    subst hr
    exact AW.zret (am_r 9 rfl) rfl hok22 (hQ hok22)
noncomputable def sX10_isDone (S : Mem) (p1 : Int32) : Option (Int32 × Mem) :=
  oif (inb (p1 + (1 : Int32)) 200) (
  olet (gi S 22 (p1 + (1 : Int32)).toNatClampNeg 0) fun v2 =>
  oif (inb p1 200) (
  if (gi S 22 p1.toNatClampNeg 0) = (5 : Int32) then
    obind (sX10_tickNow S v2) fun r41 =>
    if r41.1 < 0 then
      some (((0 : Int32), r41.2))
    else
      some (((1 : Int32), r41.2))
  else
    if (sX10_isObject S v2) = 0 then
      some (((0 : Int32), S))
    else
      oif (inb p1 200) (
      if (gi S 22 p1.toNatClampNeg 0) = (0 : Int32) then
        oif (inb (p1 + (2 : Int32)) 200) (
        if (sX10_isRecipe S (gi S 22 (p1 + (2 : Int32)).toNatClampNeg 0)) = 0 then
          some (((0 : Int32), S))
        else
          oif (inb (p1 + (2 : Int32)) 200) (
          obind (sX10_planNow S v2 (gi S 22 (p1 + (2 : Int32)).toNatClampNeg 0)) fun r15 =>
          if r15.1 < 0 then
            some (((0 : Int32), r15.2))
          else
            some (((1 : Int32), r15.2))))
      else
      if (gi S 22 p1.toNatClampNeg 0) = (1 : Int32) then
        obind (sX10_cancelNow S v2) fun r20 =>
        if r20.1 < 0 then
          some (((0 : Int32), r20.2))
        else
          some (((1 : Int32), r20.2))
      else
      if (gi S 22 p1.toNatClampNeg 0) = (2 : Int32) then
        obind (sX10_approveNow S v2) fun r25 =>
        if r25.1 < 0 then
          some (((0 : Int32), r25.2))
        else
          some (((1 : Int32), r25.2))
      else
      if (gi S 22 p1.toNatClampNeg 0) = (3 : Int32) then
        oif (inb (p1 + (2 : Int32)) 200) (
        oif (inb (p1 + (3 : Int32)) 200) (
        oif (inb (p1 + (4 : Int32)) 200) (
        obind (sX10_lendNow S v2 (gi S 22 (p1 + (2 : Int32)).toNatClampNeg 0) (gi S 22 (p1 + (3 : Int32)).toNatClampNeg 0) (gi S 22 (p1 + (4 : Int32)).toNatClampNeg 0)) fun r33 =>
        if r33.1 < 0 then
          some (((0 : Int32), r33.2))
        else
          some (((1 : Int32), r33.2)))))
      else
      obind (sX10_recallNow S v2) fun r37 =>
      if r37.1 < 0 then
        some (((0 : Int32), r37.2))
      else
        some (((1 : Int32), r37.2)))))
set_option maxRecDepth 100000 in
theorem dX10_isDone {g : AG} {h0 : AH} {b : Nat} {S : Mem} {Q : AO → AH → Prop} {p1 : Int32} (hA : gB g ≤ b)  {r : (Int32 × Mem)} (hs : sX10_isDone S p1 = some r) (hQ : (r.1 = 0 ∨ r.1 = 1) → Q (.ok (some (.int r.1))) (mb h0 b r.2)) : AW g MX10_isDone 0 [some (.ref (b)), some (.int (p1)), none] [] (mb h0 b S) Q := by
  unfold sX10_isDone at hs
  refine AW.aload_n (z := 0) (am_r 0 rfl) rfl rfl ?_
  refine AW.getO (am_r 1 rfl) rfl klX10 (k := 22) (by omega) q1525 mb_ob rfl ?_
  refine AW.iload_n (z := 1) (am_r 2 rfl) rfl rfl ?_
  refine AW.iconst (am_r 3 rfl) rfl ci_1 ?_
  refine AW.iadd (am_r 4 rfl) rfl ?_
  refine oif_g hs (fun hg1 hs => ?_)
  refine AW.iald (am_r 5 rfl) rfl mb_a9 (vp_of_inb hg1) rfl ?_
  refine olet_e (P := fun y => AW g MX10_isDone 8 [some (.ref (b)), some (.int (p1)), none] [(.int (y))] (mb h0 b S) Q) hs (fun v2 hs => ?_)
  refine AW.istore_n (L' := [some (.ref (b)), some (.int (p1)), some (.int (v2))]) (z := 2) (am_r 6 rfl) rfl (Nat.le_of_ble_eq_true rfl) rfl ?_
  refine AW.aload_n (z := 0) (am_r 7 rfl) rfl rfl ?_
  refine AW.getO (am_r 8 rfl) rfl klX10 (k := 22) (by omega) q1525 mb_ob rfl ?_
  refine AW.iload_n (z := 1) (am_r 9 rfl) rfl rfl ?_
  refine oif_g hs (fun hg3 hs => ?_)
  refine AW.iald (am_r 10 rfl) rfl mb_a9 (vp_of_inb hg3) rfl ?_
  refine AW.iconst (am_r 11 rfl) rfl ci_5 ?_
  refine AW.icmp_ne (tg := 33) (am_r 12 rfl) rfl rfl (fun hc4 => ?_) (fun hc4 => ?_)
  · replace hs := (if_neg hc4).symm.trans hs
    refine AW.aload_n (z := 0) (am_r 21 rfl) rfl rfl ?_
    refine AW.iload_n (z := 2) (am_r 22 rfl) rfl rfl ?_
    refine AW.callV (N := MX10_isObject) (As := [.int (v2)]) (S := []) (L0 := [some (.ref (b)), some (.int (v2))]) (b := b) (am_r 23 rfl) rfl ovX10_isObject q1603 rfl rfl mb_ob rfl rfl rfl rfl (dX10_isObject hA  rfl (fun hok6 => (cQ_r ?_)))
    refine AW.if_ne (tg := 43) (am_r 24 rfl) rfl rfl (fun hc7 => ?_) (fun hc7 => ?_)
    · replace hs := (if_neg hc7).symm.trans hs
      refine AW.aload_n (z := 0) (am_r 27 rfl) rfl rfl ?_
      refine AW.getO (am_r 28 rfl) rfl klX10 (k := 22) (by omega) q1525 mb_ob rfl ?_
      refine AW.iload_n (z := 1) (am_r 29 rfl) rfl rfl ?_
      refine oif_g hs (fun hg8 hs => ?_)
      refine AW.iald (am_r 30 rfl) rfl mb_a9 (vp_of_inb hg8) rfl ?_
      by_cases hw9 : (gi S 22 p1.toNatClampNeg 0) = (0 : Int32)
      · replace hs := (if_pos hw9).symm.trans hs
        refine AW.tabsw_at (tg := 80) (i := 0) (am_r 31 rfl) hw9 rfl rfl rfl (by decide) ?_
        refine AW.aload_n (z := 0) (am_r 32 rfl) rfl rfl ?_
        refine AW.aload_n (z := 0) (am_r 33 rfl) rfl rfl ?_
        refine AW.getO (am_r 34 rfl) rfl klX10 (k := 22) (by omega) q1525 mb_ob rfl ?_
        refine AW.iload_n (z := 1) (am_r 35 rfl) rfl rfl ?_
        refine AW.iconst (am_r 36 rfl) rfl ci_2 ?_
        refine AW.iadd (am_r 37 rfl) rfl ?_
        refine oif_g hs (fun hg10 hs => ?_)
        refine AW.iald (am_r 38 rfl) rfl mb_a9 (vp_of_inb hg10) rfl ?_
        refine AW.callV (N := MX10_isRecipe) (As := [.int (gi S 22 (p1 + (2 : Int32)).toNatClampNeg 0)]) (S := []) (L0 := [some (.ref (b)), some (.int (gi S 22 (p1 + (2 : Int32)).toNatClampNeg 0))]) (b := b) (am_r 39 rfl) rfl ovX10_isRecipe q1639 rfl rfl mb_ob rfl rfl rfl rfl (dX10_isRecipe hA  rfl (fun hok12 => (cQ_r ?_)))
        refine AW.if_eq (tg := 115) (am_r 40 rfl) rfl rfl (fun hc13 => ?_) (fun hc13 => ?_)
        · replace hs := (if_pos hc13).symm.trans hs
          refine AW.iconst (am_r 53 rfl) rfl ci_0 ?_
          have hr := (Option.some.inj hs).symm
          subst hr
          exact AW.zret (am_r 54 rfl) rfl (Or.inl rfl) (hQ (Or.inl rfl))
        · replace hs := (if_neg hc13).symm.trans hs
          refine AW.aload_n (z := 0) (am_r 41 rfl) rfl rfl ?_
          refine AW.iload_n (z := 2) (am_r 42 rfl) rfl rfl ?_
          refine AW.aload_n (z := 0) (am_r 43 rfl) rfl rfl ?_
          refine AW.getO (am_r 44 rfl) rfl klX10 (k := 22) (by omega) q1525 mb_ob rfl ?_
          refine AW.iload_n (z := 1) (am_r 45 rfl) rfl rfl ?_
          refine AW.iconst (am_r 46 rfl) rfl ci_2 ?_
          refine AW.iadd (am_r 47 rfl) rfl ?_
          refine oif_g hs (fun hg14 hs => ?_)
          refine AW.iald (am_r 48 rfl) rfl mb_a9 (vp_of_inb hg14) rfl ?_
          refine obind_e hs (fun r15 hg17 hs => ?_)
          refine AW.callV (N := MX10_planNow) (As := [.int (v2), .int (gi S 22 (p1 + (2 : Int32)).toNatClampNeg 0)]) (S := []) (L0 := [some (.ref (b)), some (.int (v2)), some (.int (gi S 22 (p1 + (2 : Int32)).toNatClampNeg 0))]) (b := b) (am_r 49 rfl) rfl ovX10_planNow q1643 rfl rfl mb_ob rfl rfl rfl rfl (dX10_planNow hA  hg17 (cQ_r ?_))
          refine AW.if_lt (tg := 115) (am_r 50 rfl) rfl rfl (fun hc18 => ?_) (fun hc18 => ?_)
          · replace hs := (if_pos hc18).symm.trans hs
            refine AW.iconst (am_r 53 rfl) rfl ci_0 ?_
            have hr := (Option.some.inj hs).symm
            subst hr
            exact AW.zret (am_r 54 rfl) rfl (Or.inl rfl) (hQ (Or.inl rfl))
          · replace hs := (if_neg hc18).symm.trans hs
            refine AW.iconst (am_r 51 rfl) rfl ci_1 ?_
            refine AW.goto (tg := 116) (am_r 52 rfl) rfl ?_
            have hr := (Option.some.inj hs).symm
            subst hr
            exact AW.zret (am_r 54 rfl) rfl (Or.inr rfl) (hQ (Or.inr rfl))
      replace hs := (if_neg hw9).symm.trans hs
      by_cases hw19 : (gi S 22 p1.toNatClampNeg 0) = (1 : Int32)
      · replace hs := (if_pos hw19).symm.trans hs
        refine AW.tabsw_at (tg := 117) (i := 1) (am_r 31 rfl) hw19 rfl rfl rfl (by decide) ?_
        refine AW.aload_n (z := 0) (am_r 55 rfl) rfl rfl ?_
        refine AW.iload_n (z := 2) (am_r 56 rfl) rfl rfl ?_
        refine obind_e hs (fun r20 hg22 hs => ?_)
        refine AW.callV (N := MX10_cancelNow) (As := [.int (v2)]) (S := []) (L0 := [some (.ref (b)), some (.int (v2))]) (b := b) (am_r 57 rfl) rfl ovX10_cancelNow q1655 rfl rfl mb_ob rfl rfl rfl rfl (dX10_cancelNow hA  hg22 (cQ_r ?_))
        refine AW.if_lt (tg := 129) (am_r 58 rfl) rfl rfl (fun hc23 => ?_) (fun hc23 => ?_)
        · replace hs := (if_pos hc23).symm.trans hs
          refine AW.iconst (am_r 61 rfl) rfl ci_0 ?_
          have hr := (Option.some.inj hs).symm
          subst hr
          exact AW.zret (am_r 62 rfl) rfl (Or.inl rfl) (hQ (Or.inl rfl))
        · replace hs := (if_neg hc23).symm.trans hs
          refine AW.iconst (am_r 59 rfl) rfl ci_1 ?_
          refine AW.goto (tg := 130) (am_r 60 rfl) rfl ?_
          have hr := (Option.some.inj hs).symm
          subst hr
          exact AW.zret (am_r 62 rfl) rfl (Or.inr rfl) (hQ (Or.inr rfl))
      replace hs := (if_neg hw19).symm.trans hs
      by_cases hw24 : (gi S 22 p1.toNatClampNeg 0) = (2 : Int32)
      · replace hs := (if_pos hw24).symm.trans hs
        refine AW.tabsw_at (tg := 131) (i := 2) (am_r 31 rfl) hw24 rfl rfl rfl (by decide) ?_
        refine AW.aload_n (z := 0) (am_r 63 rfl) rfl rfl ?_
        refine AW.iload_n (z := 2) (am_r 64 rfl) rfl rfl ?_
        refine obind_e hs (fun r25 hg27 hs => ?_)
        refine AW.callV (N := MX10_approveNow) (As := [.int (v2)]) (S := []) (L0 := [some (.ref (b)), some (.int (v2))]) (b := b) (am_r 65 rfl) rfl ovX10_approveNow q1663 rfl rfl mb_ob rfl rfl rfl rfl (dX10_approveNow hA  hg27 (cQ_r ?_))
        refine AW.if_lt (tg := 143) (am_r 66 rfl) rfl rfl (fun hc28 => ?_) (fun hc28 => ?_)
        · replace hs := (if_pos hc28).symm.trans hs
          refine AW.iconst (am_r 69 rfl) rfl ci_0 ?_
          have hr := (Option.some.inj hs).symm
          subst hr
          exact AW.zret (am_r 70 rfl) rfl (Or.inl rfl) (hQ (Or.inl rfl))
        · replace hs := (if_neg hc28).symm.trans hs
          refine AW.iconst (am_r 67 rfl) rfl ci_1 ?_
          refine AW.goto (tg := 144) (am_r 68 rfl) rfl ?_
          have hr := (Option.some.inj hs).symm
          subst hr
          exact AW.zret (am_r 70 rfl) rfl (Or.inr rfl) (hQ (Or.inr rfl))
      replace hs := (if_neg hw24).symm.trans hs
      by_cases hw29 : (gi S 22 p1.toNatClampNeg 0) = (3 : Int32)
      · replace hs := (if_pos hw29).symm.trans hs
        refine AW.tabsw_at (tg := 145) (i := 3) (am_r 31 rfl) hw29 rfl rfl rfl (by decide) ?_
        refine AW.aload_n (z := 0) (am_r 71 rfl) rfl rfl ?_
        refine AW.iload_n (z := 2) (am_r 72 rfl) rfl rfl ?_
        refine AW.aload_n (z := 0) (am_r 73 rfl) rfl rfl ?_
        refine AW.getO (am_r 74 rfl) rfl klX10 (k := 22) (by omega) q1525 mb_ob rfl ?_
        refine AW.iload_n (z := 1) (am_r 75 rfl) rfl rfl ?_
        refine AW.iconst (am_r 76 rfl) rfl ci_2 ?_
        refine AW.iadd (am_r 77 rfl) rfl ?_
        refine oif_g hs (fun hg30 hs => ?_)
        refine AW.iald (am_r 78 rfl) rfl mb_a9 (vp_of_inb hg30) rfl ?_
        refine AW.aload_n (z := 0) (am_r 79 rfl) rfl rfl ?_
        refine AW.getO (am_r 80 rfl) rfl klX10 (k := 22) (by omega) q1525 mb_ob rfl ?_
        refine AW.iload_n (z := 1) (am_r 81 rfl) rfl rfl ?_
        refine AW.iconst (am_r 82 rfl) rfl ci_3 ?_
        refine AW.iadd (am_r 83 rfl) rfl ?_
        refine oif_g hs (fun hg31 hs => ?_)
        refine AW.iald (am_r 84 rfl) rfl mb_a9 (vp_of_inb hg31) rfl ?_
        refine AW.aload_n (z := 0) (am_r 85 rfl) rfl rfl ?_
        refine AW.getO (am_r 86 rfl) rfl klX10 (k := 22) (by omega) q1525 mb_ob rfl ?_
        refine AW.iload_n (z := 1) (am_r 87 rfl) rfl rfl ?_
        refine AW.iconst (am_r 88 rfl) rfl ci_4 ?_
        refine AW.iadd (am_r 89 rfl) rfl ?_
        refine oif_g hs (fun hg32 hs => ?_)
        refine AW.iald (am_r 90 rfl) rfl mb_a9 (vp_of_inb hg32) rfl ?_
        refine obind_e hs (fun r33 hg35 hs => ?_)
        refine AW.callV (N := MX10_lendNow) (As := [.int (v2), .int (gi S 22 (p1 + (2 : Int32)).toNatClampNeg 0), .int (gi S 22 (p1 + (3 : Int32)).toNatClampNeg 0), .int (gi S 22 (p1 + (4 : Int32)).toNatClampNeg 0)]) (S := []) (L0 := [some (.ref (b)), some (.int (v2)), some (.int (gi S 22 (p1 + (2 : Int32)).toNatClampNeg 0)), some (.int (gi S 22 (p1 + (3 : Int32)).toNatClampNeg 0)), some (.int (gi S 22 (p1 + (4 : Int32)).toNatClampNeg 0))]) (b := b) (am_r 91 rfl) rfl ovX10_lendNow q1686 rfl rfl mb_ob rfl rfl rfl rfl (dX10_lendNow hA  hg35 (cQ_r ?_))
        refine AW.if_lt (tg := 181) (am_r 92 rfl) rfl rfl (fun hc36 => ?_) (fun hc36 => ?_)
        · replace hs := (if_pos hc36).symm.trans hs
          refine AW.iconst (am_r 95 rfl) rfl ci_0 ?_
          have hr := (Option.some.inj hs).symm
          subst hr
          exact AW.zret (am_r 96 rfl) rfl (Or.inl rfl) (hQ (Or.inl rfl))
        · replace hs := (if_neg hc36).symm.trans hs
          refine AW.iconst (am_r 93 rfl) rfl ci_1 ?_
          refine AW.goto (tg := 182) (am_r 94 rfl) rfl ?_
          have hr := (Option.some.inj hs).symm
          subst hr
          exact AW.zret (am_r 96 rfl) rfl (Or.inr rfl) (hQ (Or.inr rfl))
      replace hs := (if_neg hw29).symm.trans hs
      refine AW.tabsw_d (tg := 183) [0, 1, 2, 3] (am_r 31 rfl) rfl (by decide) (by decide) (List.forall_mem_cons.mpr ⟨hw9, List.forall_mem_cons.mpr ⟨hw19, List.forall_mem_cons.mpr ⟨hw24, List.forall_mem_cons.mpr ⟨hw29, fun _ h => nomatch h⟩⟩⟩⟩) ?_
      refine AW.aload_n (z := 0) (am_r 97 rfl) rfl rfl ?_
      refine AW.iload_n (z := 2) (am_r 98 rfl) rfl rfl ?_
      refine obind_e hs (fun r37 hg39 hs => ?_)
      refine AW.callV (N := MX10_recallNow) (As := [.int (v2)]) (S := []) (L0 := [some (.ref (b)), some (.int (v2)), none]) (b := b) (am_r 99 rfl) rfl ovX10_recallNow q1694 rfl rfl mb_ob rfl rfl rfl rfl (dX10_recallNow hA  hg39 (cQ_r ?_))
      refine AW.if_lt (tg := 195) (am_r 100 rfl) rfl rfl (fun hc40 => ?_) (fun hc40 => ?_)
      · replace hs := (if_pos hc40).symm.trans hs
        refine AW.iconst (am_r 103 rfl) rfl ci_0 ?_
        have hr := (Option.some.inj hs).symm
        subst hr
        exact AW.zret (am_r 104 rfl) rfl (Or.inl rfl) (hQ (Or.inl rfl))
      · replace hs := (if_neg hc40).symm.trans hs
        refine AW.iconst (am_r 101 rfl) rfl ci_1 ?_
        refine AW.goto (tg := 196) (am_r 102 rfl) rfl ?_
        have hr := (Option.some.inj hs).symm
        subst hr
        exact AW.zret (am_r 104 rfl) rfl (Or.inr rfl) (hQ (Or.inr rfl))
    · replace hs := (if_pos hc7).symm.trans hs
      refine AW.iconst (am_r 25 rfl) rfl ci_0 ?_
      have hr := (Option.some.inj hs).symm
      subst hr
      exact AW.zret (am_r 26 rfl) rfl (Or.inl rfl) (hQ (Or.inl rfl))
  · replace hs := (if_pos hc4).symm.trans hs
    refine AW.aload_n (z := 0) (am_r 13 rfl) rfl rfl ?_
    refine AW.iload_n (z := 2) (am_r 14 rfl) rfl rfl ?_
    refine obind_e hs (fun r41 hg43 hs => ?_)
    refine AW.callV (N := MX10_tickNow) (As := [.int (v2)]) (S := []) (L0 := [some (.ref (b)), some (.int (v2))]) (b := b) (am_r 15 rfl) rfl ovX10_tickNow q1702 rfl rfl mb_ob rfl rfl rfl rfl (dX10_tickNow hA  hg43 (cQ_r ?_))
    refine AW.if_lt (tg := 31) (am_r 16 rfl) rfl rfl (fun hc44 => ?_) (fun hc44 => ?_)
    · replace hs := (if_pos hc44).symm.trans hs
      refine AW.iconst (am_r 19 rfl) rfl ci_0 ?_
      have hr := (Option.some.inj hs).symm
      subst hr
      exact AW.zret (am_r 20 rfl) rfl (Or.inl rfl) (hQ (Or.inl rfl))
    · replace hs := (if_neg hc44).symm.trans hs
      refine AW.iconst (am_r 17 rfl) rfl ci_1 ?_
      refine AW.goto (tg := 32) (am_r 18 rfl) rfl ?_
      have hr := (Option.some.inj hs).symm
      subst hr
      exact AW.zret (am_r 20 rfl) rfl (Or.inr rfl) (hQ (Or.inr rfl))
noncomputable def sX10_play_l49_step   (a : (Int32 × Mem)) : Option ((Int32 × Mem) ⊕ (Int32 × Mem)) :=
  if (gi a.2 100 23 0) ≤ a.1 then
    oinr (
    some ((a.1, a.2)))
  else
    obind (sX10_isDone a.2 ((5 : Int32) * a.1)) fun r14 =>
    if r14.1 = 0 then
      oinr (
      some ((a.1, r14.2)))
    else
      some (.inl (a.1 + (1 : Int32), r14.2))
noncomputable def sX10_play_l49   (a : (Int32 × Mem)) : Option (Int32 × Mem) := itw (sX10_play_l49_step  ) a
set_option maxRecDepth 100000 in
theorem dX10_play_l49 {g : AG} {h0 : AH} {b : Nat} {Q : AO → AH → Prop}  (hA : gB g ≤ b)  {a : (Int32 × Mem)}  {r : (Int32 × Mem)} (hs : sX10_play_l49   a = some r) (hQ : Q (.ok (some (.int r.1))) (mb h0 b r.2)) : AW g MX10_play 49 [some (.ref (b)), none, some (.int (a.1))] [] (mb h0 b a.2) Q := by
  refine itw_e (P := fun a => AW g MX10_play 49 [some (.ref (b)), none, some (.int (a.1))] [] (mb h0 b a.2) Q) (Post := fun r => Q (.ok (some (.int r.1))) (mb h0 b r.2)) (fun a r hs hc he  => ?_) hs hQ 
  unfold sX10_play_l49_step at hs
  refine AW.iload_n (z := 2) (am_r 28 rfl) rfl rfl ?_
  refine AW.aload_n (z := 0) (am_r 29 rfl) rfl rfl ?_
  refine AW.getO (am_r 30 rfl) rfl klX10 (k := 23) (by omega) q1526 mb_ob rfl ?_
  refine AW.icmp_ge (tg := 73) (am_r 31 rfl) rfl rfl (fun hc11 => ?_) (fun hc11 => ?_)
  · replace hs := (if_pos hc11).symm.trans hs
    refine oinr_e hs (fun z12 hz13 hs => ?_)
    have hQ := he _ hz13
    refine AW.iload_n (z := 2) (am_r 40 rfl) rfl rfl ?_
    have hr := (Option.some.inj hs).symm
    subst hr
    exact AW.iret (am_r 41 rfl) rfl hQ
  · replace hs := (if_neg hc11).symm.trans hs
    refine AW.aload_n (z := 0) (am_r 32 rfl) rfl rfl ?_
    refine AW.iconst (am_r 33 rfl) rfl ci_5 ?_
    refine AW.iload_n (z := 2) (am_r 34 rfl) rfl rfl ?_
    refine AW.imul (am_r 35 rfl) rfl ?_
    refine obind_e hs (fun r14 hg16 hs => ?_)
    refine AW.callV (N := MX10_isDone) (As := [.int ((5 : Int32) * a.1)]) (S := []) (L0 := [some (.ref (b)), some (.int ((5 : Int32) * a.1)), none]) (b := b) (am_r 36 rfl) rfl ovX10_isDone q2159 rfl rfl mb_ob rfl rfl rfl rfl (dX10_isDone hA  hg16 (fun hok15 => (cQ_r ?_)))
    refine AW.if_eq (tg := 73) (am_r 37 rfl) rfl rfl (fun hc17 => ?_) (fun hc17 => ?_)
    · replace hs := (if_pos hc17).symm.trans hs
      refine oinr_e hs (fun z18 hz19 hs => ?_)
      have hQ := he _ hz19
      refine AW.iload_n (z := 2) (am_r 40 rfl) rfl rfl ?_
      have hr := (Option.some.inj hs).symm
      subst hr
      exact AW.iret (am_r 41 rfl) rfl hQ
    · replace hs := (if_neg hc17).symm.trans hs
      refine AW.iinc (v := a.1 + (1 : Int32)) (L' := [some (.ref (b)), none, some (.int (a.1 + (1 : Int32)))]) (am_r 38 rfl) rfl (Nat.le_of_ble_eq_true rfl) rfl (congrArg (fun z => a.1 + z) ci_1) rfl ?_
      refine AW.goto (tg := 49) (am_r 39 rfl) rfl ?_
      have hr := (Option.some.inj hs).symm
      exact hc (a.1 + (1 : Int32), r14.2) hr 
noncomputable def sX10_play_j35 (S : Mem)  (y0 : Int32) : Option (Int32 × Mem) :=
  olet (si S 100 12 0 ((0 : Int32))) fun S9 =>
  if y0 = 0 then
    some (((-3 : Int32), S9))
  else
    sX10_play_l49   ((0 : Int32), S9)
set_option maxRecDepth 100000 in
theorem dX10_play_j35 {g : AG} {h0 : AH} {b : Nat} {S : Mem} {Q : AO → AH → Prop}  {y0 : Int32} (hA : gB g ≤ b)   {r : (Int32 × Mem)} (hs : sX10_play_j35 S  y0 = some r) (hQ : Q (.ok (some (.int r.1))) (mb h0 b r.2)) : AW g MX10_play 35 [some (.ref (b)), some (.int (y0)), none] [] (mb h0 b S) Q := by
  unfold sX10_play_j35 at hs
  refine AW.aload_n (z := 0) (am_r 19 rfl) rfl rfl ?_
  refine AW.iconst (am_r 20 rfl) rfl ci_0 ?_
  refine AW.putO (am_r 21 rfl) rfl klX10 (k := 12) (by omega) q1515 (Or.inl rfl) mb_ob hA rfl rfl (mbp_ob (by decide)) ?_
  refine olet_e (P := fun y => AW g MX10_play 40 [some (.ref (b)), some (.int (y0)), none] [] (mb h0 b y) Q) hs (fun S9 hs => ?_)
  refine AW.iload_n (z := 1) (am_r 22 rfl) rfl rfl ?_
  refine AW.if_ne (tg := 47) (am_r 23 rfl) rfl rfl (fun hc10 => ?_) (fun hc10 => ?_)
  · replace hs := (if_neg hc10).symm.trans hs
    refine AW.iconst (am_r 26 rfl) rfl ci_0 ?_
    refine AW.istore_n (L' := [some (.ref (b)), some (.int (y0)), some (.int ((0 : Int32)))]) (z := 2) (am_r 27 rfl) rfl (Nat.le_of_ble_eq_true rfl) rfl ?_
    refine AW.lessL (L' := [some (.ref (b)), none, some (.int ((0 : Int32)))]) ⟨rfl, rfl, trivial⟩ ?_
    exact dX10_play_l49 hA   hs hQ
  · replace hs := (if_pos hc10).symm.trans hs
    refine AW.bipush (am_r 24 rfl) rfl cb_m3 ?_
    have hr := (Option.some.inj hs).symm
    subst hr
    exact AW.iret (am_r 25 rfl) rfl hQ
noncomputable def sX10_play_l16_step   (a : (Int32 × Mem)) : Option ((Int32 × Mem) ⊕ (Int32 × Mem)) :=
  if a.1 = 0 then
    oinr (
    sX10_play_j35 a.2  a.1)
  else
    if (gi a.2 100 16 0) = 0 then
      oinr (
      sX10_play_j35 a.2  a.1)
    else
      obind (sX10_readCommand a.2 ) fun r23 =>
      some (.inl (r23.1, r23.2))
noncomputable def sX10_play_l16   (a : (Int32 × Mem)) : Option (Int32 × Mem) := itw (sX10_play_l16_step  ) a
set_option maxRecDepth 100000 in
theorem dX10_play_l16 {g : AG} {h0 : AH} {b : Nat} {Q : AO → AH → Prop}  (hA : gB g ≤ b)  {a : (Int32 × Mem)}  {r : (Int32 × Mem)} (hs : sX10_play_l16   a = some r) (hQ : Q (.ok (some (.int r.1))) (mb h0 b r.2)) : AW g MX10_play 16 [some (.ref (b)), some (.int (a.1)), none] [] (mb h0 b a.2) Q := by
  refine itw_e (P := fun a => AW g MX10_play 16 [some (.ref (b)), some (.int (a.1)), none] [] (mb h0 b a.2) Q) (Post := fun r => Q (.ok (some (.int r.1))) (mb h0 b r.2)) (fun a r hs hc he  => ?_) hs hQ 
  unfold sX10_play_l16_step at hs
  refine AW.iload_n (z := 1) (am_r 10 rfl) rfl rfl ?_
  refine AW.if_eq (tg := 35) (am_r 11 rfl) rfl rfl (fun hc6 => ?_) (fun hc6 => ?_)
  · replace hs := (if_pos hc6).symm.trans hs
    refine oinr_e hs (fun z7 hz8 hs => ?_)
    have hQ := he _ hz8
    exact dX10_play_j35 hA   hs hQ
  · replace hs := (if_neg hc6).symm.trans hs
    refine AW.aload_n (z := 0) (am_r 12 rfl) rfl rfl ?_
    refine AW.getO (am_r 13 rfl) rfl klX10 (k := 16) (by omega) q1519 mb_ob rfl ?_
    refine AW.if_eq (tg := 35) (am_r 14 rfl) rfl rfl (fun hc20 => ?_) (fun hc20 => ?_)
    · replace hs := (if_pos hc20).symm.trans hs
      refine oinr_e hs (fun z21 hz22 hs => ?_)
      have hQ := he _ hz22
      exact dX10_play_j35 hA   hs hQ
    · replace hs := (if_neg hc20).symm.trans hs
      refine AW.aload_n (z := 0) (am_r 15 rfl) rfl rfl ?_
      refine obind_e hs (fun r23 hg25 hs => ?_)
      refine AW.callV (N := MX10_readCommand) (As := []) (S := []) (L0 := [some (.ref (b)), none]) (b := b) (am_r 16 rfl) rfl ovX10_readCommand q2143 rfl rfl mb_ob rfl rfl rfl rfl (dX10_readCommand hA  hg25 (fun hok24 => (cQ_r ?_)))
      refine AW.istore_n (L' := [some (.ref (b)), some (.int (r23.1)), none]) (z := 1) (am_r 17 rfl) rfl (Nat.le_of_ble_eq_true rfl) rfl ?_
      refine AW.goto (tg := 16) (am_r 18 rfl) rfl ?_
      have hr := (Option.some.inj hs).symm
      exact hc (r23.1, r23.2) hr 
noncomputable def sX10_play (S : Mem)  : Option (Int32 × Mem) :=
  olet (si S 100 6 0 ((0 : Int32))) fun S1 =>
  olet (si S1 100 23 0 ((0 : Int32))) fun S2 =>
  obind (sX10_beginText S2 ) fun r3 =>
  sX10_play_l16   ((1 : Int32), r3)
set_option maxRecDepth 100000 in
theorem dX10_play {g : AG} {h0 : AH} {b : Nat} {S : Mem} {Q : AO → AH → Prop}  (hA : gB g ≤ b)  {r : (Int32 × Mem)} (hs : sX10_play S  = some r) (hQ : Q (.ok (some (.int r.1))) (mb h0 b r.2)) : AW g MX10_play 0 [some (.ref (b)), none, none] [] (mb h0 b S) Q := by
  unfold sX10_play at hs
  refine AW.aload_n (z := 0) (am_r 0 rfl) rfl rfl ?_
  refine AW.iconst (am_r 1 rfl) rfl ci_0 ?_
  refine AW.putO (am_r 2 rfl) rfl klX10 (k := 6) (by omega) q1509 (Or.inl rfl) mb_ob hA rfl rfl (mbp_ob (by decide)) ?_
  refine olet_e (P := fun y => AW g MX10_play 5 [some (.ref (b)), none, none] [] (mb h0 b y) Q) hs (fun S1 hs => ?_)
  refine AW.aload_n (z := 0) (am_r 3 rfl) rfl rfl ?_
  refine AW.iconst (am_r 4 rfl) rfl ci_0 ?_
  refine AW.putO (am_r 5 rfl) rfl klX10 (k := 23) (by omega) q1526 (Or.inl rfl) mb_ob hA rfl rfl (mbp_ob (by decide)) ?_
  refine olet_e (P := fun y => AW g MX10_play 10 [some (.ref (b)), none, none] [] (mb h0 b y) Q) hs (fun S2 hs => ?_)
  refine AW.aload_n (z := 0) (am_r 6 rfl) rfl rfl ?_
  refine obind_e hs (fun r3 hg5 hs => ?_)
  refine AW.callV (N := MX10_beginText) (As := []) (S := []) (L0 := [some (.ref (b))]) (b := b) (am_r 7 rfl) rfl ovX10_beginText q2070 rfl rfl mb_ob rfl rfl rfl rfl (dX10_beginText hA  hg5 (cQ_v ?_))
  refine AW.iconst (am_r 8 rfl) rfl ci_1 ?_
  refine AW.istore_n (L' := [some (.ref (b)), some (.int ((1 : Int32))), none]) (z := 1) (am_r 9 rfl) rfl (Nat.le_of_ble_eq_true rfl) rfl ?_
  exact dX10_play_l16 hA   hs hQ
