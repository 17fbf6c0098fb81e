/-! ===== THE MODEL'S METHODS, DECOMPILED (laid by a program) ===== -/
noncomputable def sX10_object_j19 (S : Mem) (p1 : Int32) (p2 : Int32) (y0 : Int32) : Option (Int32 × Mem) :=
  olet (sX10_throwsIf S y0 (1 : Int32)) fun r5 =>
  if r5.1 = 0 then
    if p2 = (0 : Int32) then
      obind (sX10_ofThing r5.2 p1 (0 : Int32)) fun r9 =>
      some ((r9, r5.2))
    else
    if p2 = (1 : Int32) then
      obind (sX10_of r5.2 p1 (0 : Int32)) fun r13 =>
      some ((r13, r5.2))
    else
    if p2 = (2 : Int32) then
      obind (sX10_ofThing r5.2 p1 (1 : Int32)) fun r17 =>
      some ((r17, r5.2))
    else
    if p2 = (3 : Int32) then
      obind (sX10_of r5.2 p1 (1 : Int32)) fun r21 =>
      some ((r21, r5.2))
    else
    if p2 = (4 : Int32) then
      obind (sX10_of r5.2 p1 (2 : Int32)) fun r25 =>
      some ((r25, r5.2))
    else
    if p2 = (5 : Int32) then
      obind (sX10_of r5.2 p1 (3 : Int32)) fun r29 =>
      some ((r29, r5.2))
    else
    if p2 = (6 : Int32) then
      obind (sX10_of r5.2 p1 (4 : Int32)) fun r33 =>
      some ((r33, r5.2))
    else
    if p2 = (7 : Int32) then
      obind (sX10_of r5.2 p1 (5 : Int32)) fun r37 =>
      some ((r37, r5.2))
    else
    if p2 = (8 : Int32) then
      obind (sX10_of r5.2 p1 (6 : Int32)) fun r41 =>
      some ((r41, r5.2))
    else
    if p2 = (9 : Int32) then
      obind (sX10_of r5.2 p1 (7 : Int32)) fun r45 =>
      some ((r45, r5.2))
    else
    if p2 = (10 : Int32) then
      obind (sX10_urgency r5.2 p1) fun r49 =>
      some ((r49, r5.2))
    else
    some (((-1 : Int32), r5.2))
  else
    some (((0 : Int32), r5.2))
set_option maxRecDepth 100000 in
theorem dX10_object_j19 {g : AG} {h0 : AH} {b : Nat} {S : Mem} {Q : AO → AH → Prop} {p1 : Int32} {p2 : Int32} {y0 : Int32} (hA : gB g ≤ b)  (hk0 : y0 = 0 ∨ y0 = 1) {r : (Int32 × Mem)} (hs : sX10_object_j19 S p1 p2 y0 = some r) (hQ : Q (.ok (some (.int r.1))) (mb h0 b r.2)) : AW g MX10_object 19 [some (.ref (b)), some (.int (p1)), some (.int (p2))] [(.int (y0)), (.ref (b))] (mb h0 b S) Q := by
  unfold sX10_object_j19 at hs
  refine AW.iconst (am_r 11 rfl) rfl ci_1 ?_
  refine AW.callV (N := MX10_throwsIf) (As := [.int (y0), .int ((1 : Int32))]) (S := []) (L0 := [some (.ref (b)), some (.int (y0)), some (.int ((1 : Int32)))]) (b := b) (am_r 12 rfl) rfl ovX10_throwsIf q1607 rfl rfl mb_ob rfl rfl rfl rfl (dX10_throwsIf hA hk0 rfl (fun hok6 => (cQ_r ?_)))
  refine olet_e (P := fun (y : (Int32 × Mem)) => (y.1 = 0 ∨ y.1 = 1) → AW g MX10_object 23 [some (.ref (b)), some (.int (p1)), some (.int (p2))] [(.int (y.1))] (mb h0 b y.2) Q) hs (fun r5 hs hok6 => ?_) hok6
  refine AW.if_eq (tg := 28) (am_r 13 rfl) rfl rfl (fun hc7 => ?_) (fun hc7 => ?_)
  · replace hs := (if_pos hc7).symm.trans hs
    refine AW.iload_n (z := 2) (am_r 16 rfl) rfl rfl ?_
    by_cases hw8 : p2 = (0 : Int32)
    · replace hs := (if_pos hw8).symm.trans hs
      refine AW.tabsw_at (tg := 88) (i := 0) (am_r 17 rfl) hw8 rfl rfl rfl (by decide) ?_
      refine AW.aload_n (z := 0) (am_r 18 rfl) rfl rfl ?_
      refine AW.iload_n (z := 1) (am_r 19 rfl) rfl rfl ?_
      refine AW.iconst (am_r 20 rfl) rfl ci_0 ?_
      refine obind_e hs (fun r9 hg11 hs => ?_)
      refine AW.callV (N := MX10_ofThing) (As := [.int (p1), .int ((0 : Int32))]) (S := []) (L0 := [some (.ref (b)), some (.int (p1)), some (.int ((0 : Int32)))]) (b := b) (am_r 21 rfl) rfl ovX10_ofThing q1675 rfl rfl mb_ob rfl rfl rfl rfl (dX10_ofThing hA  hg11 (cQ_r ?_))
      have hr := (Option.some.inj hs).symm
      subst hr
      exact AW.iret (am_r 22 rfl) rfl hQ
    replace hs := (if_neg hw8).symm.trans hs
    by_cases hw12 : p2 = (1 : Int32)
    · replace hs := (if_pos hw12).symm.trans hs
      refine AW.tabsw_at (tg := 95) (i := 1) (am_r 17 rfl) hw12 rfl rfl rfl (by decide) ?_
      refine AW.aload_n (z := 0) (am_r 23 rfl) rfl rfl ?_
      refine AW.iload_n (z := 1) (am_r 24 rfl) rfl rfl ?_
      refine AW.iconst (am_r 25 rfl) rfl ci_0 ?_
      refine obind_e hs (fun r13 hg15 hs => ?_)
      refine AW.callV (N := MX10_of) (As := [.int (p1), .int ((0 : Int32))]) (S := []) (L0 := [some (.ref (b)), some (.int (p1)), some (.int ((0 : Int32)))]) (b := b) (am_r 26 rfl) rfl ovX10_of q1615 rfl rfl mb_ob rfl rfl rfl rfl (dX10_of hA  hg15 (cQ_r ?_))
      have hr := (Option.some.inj hs).symm
      subst hr
      exact AW.iret (am_r 27 rfl) rfl hQ
    replace hs := (if_neg hw12).symm.trans hs
    by_cases hw16 : p2 = (2 : Int32)
    · replace hs := (if_pos hw16).symm.trans hs
      refine AW.tabsw_at (tg := 102) (i := 2) (am_r 17 rfl) hw16 rfl rfl rfl (by decide) ?_
      refine AW.aload_n (z := 0) (am_r 28 rfl) rfl rfl ?_
      refine AW.iload_n (z := 1) (am_r 29 rfl) rfl rfl ?_
      refine AW.iconst (am_r 30 rfl) rfl ci_1 ?_
      refine obind_e hs (fun r17 hg19 hs => ?_)
      refine AW.callV (N := MX10_ofThing) (As := [.int (p1), .int ((1 : Int32))]) (S := []) (L0 := [some (.ref (b)), some (.int (p1)), some (.int ((1 : Int32)))]) (b := b) (am_r 31 rfl) rfl ovX10_ofThing q1675 rfl rfl mb_ob rfl rfl rfl rfl (dX10_ofThing hA  hg19 (cQ_r ?_))
      have hr := (Option.some.inj hs).symm
      subst hr
      exact AW.iret (am_r 32 rfl) rfl hQ
    replace hs := (if_neg hw16).symm.trans hs
    by_cases hw20 : p2 = (3 : Int32)
    · replace hs := (if_pos hw20).symm.trans hs
      refine AW.tabsw_at (tg := 109) (i := 3) (am_r 17 rfl) hw20 rfl rfl rfl (by decide) ?_
      refine AW.aload_n (z := 0) (am_r 33 rfl) rfl rfl ?_
      refine AW.iload_n (z := 1) (am_r 34 rfl) rfl rfl ?_
      refine AW.iconst (am_r 35 rfl) rfl ci_1 ?_
      refine obind_e hs (fun r21 hg23 hs => ?_)
      refine AW.callV (N := MX10_of) (As := [.int (p1), .int ((1 : Int32))]) (S := []) (L0 := [some (.ref (b)), some (.int (p1)), some (.int ((1 : Int32)))]) (b := b) (am_r 36 rfl) rfl ovX10_of q1615 rfl rfl mb_ob rfl rfl rfl rfl (dX10_of hA  hg23 (cQ_r ?_))
      have hr := (Option.some.inj hs).symm
      subst hr
      exact AW.iret (am_r 37 rfl) rfl hQ
    replace hs := (if_neg hw20).symm.trans hs
    by_cases hw24 : p2 = (4 : Int32)
    · replace hs := (if_pos hw24).symm.trans hs
      refine AW.tabsw_at (tg := 116) (i := 4) (am_r 17 rfl) hw24 rfl rfl rfl (by decide) ?_
      refine AW.aload_n (z := 0) (am_r 38 rfl) rfl rfl ?_
      refine AW.iload_n (z := 1) (am_r 39 rfl) rfl rfl ?_
      refine AW.iconst (am_r 40 rfl) rfl ci_2 ?_
      refine obind_e hs (fun r25 hg27 hs => ?_)
      refine AW.callV (N := MX10_of) (As := [.int (p1), .int ((2 : Int32))]) (S := []) (L0 := [some (.ref (b)), some (.int (p1)), some (.int ((2 : Int32)))]) (b := b) (am_r 41 rfl) rfl ovX10_of q1615 rfl rfl mb_ob rfl rfl rfl rfl (dX10_of hA  hg27 (cQ_r ?_))
      have hr := (Option.some.inj hs).symm
      subst hr
      exact AW.iret (am_r 42 rfl) rfl hQ
    replace hs := (if_neg hw24).symm.trans hs
    by_cases hw28 : p2 = (5 : Int32)
    · replace hs := (if_pos hw28).symm.trans hs
      refine AW.tabsw_at (tg := 123) (i := 5) (am_r 17 rfl) hw28 rfl rfl rfl (by decide) ?_
      refine AW.aload_n (z := 0) (am_r 43 rfl) rfl rfl ?_
      refine AW.iload_n (z := 1) (am_r 44 rfl) rfl rfl ?_
      refine AW.iconst (am_r 45 rfl) rfl ci_3 ?_
      refine obind_e hs (fun r29 hg31 hs => ?_)
      refine AW.callV (N := MX10_of) (As := [.int (p1), .int ((3 : Int32))]) (S := []) (L0 := [some (.ref (b)), some (.int (p1)), some (.int ((3 : Int32)))]) (b := b) (am_r 46 rfl) rfl ovX10_of q1615 rfl rfl mb_ob rfl rfl rfl rfl (dX10_of hA  hg31 (cQ_r ?_))
      have hr := (Option.some.inj hs).symm
      subst hr
      exact AW.iret (am_r 47 rfl) rfl hQ
    replace hs := (if_neg hw28).symm.trans hs
    by_cases hw32 : p2 = (6 : Int32)
    · replace hs := (if_pos hw32).symm.trans hs
      refine AW.tabsw_at (tg := 130) (i := 6) (am_r 17 rfl) hw32 rfl rfl rfl (by decide) ?_
      refine AW.aload_n (z := 0) (am_r 48 rfl) rfl rfl ?_
      refine AW.iload_n (z := 1) (am_r 49 rfl) rfl rfl ?_
      refine AW.iconst (am_r 50 rfl) rfl ci_4 ?_
      refine obind_e hs (fun r33 hg35 hs => ?_)
      refine AW.callV (N := MX10_of) (As := [.int (p1), .int ((4 : Int32))]) (S := []) (L0 := [some (.ref (b)), some (.int (p1)), some (.int ((4 : Int32)))]) (b := b) (am_r 51 rfl) rfl ovX10_of q1615 rfl rfl mb_ob rfl rfl rfl rfl (dX10_of hA  hg35 (cQ_r ?_))
      have hr := (Option.some.inj hs).symm
      subst hr
      exact AW.iret (am_r 52 rfl) rfl hQ
    replace hs := (if_neg hw32).symm.trans hs
    by_cases hw36 : p2 = (7 : Int32)
    · replace hs := (if_pos hw36).symm.trans hs
      refine AW.tabsw_at (tg := 137) (i := 7) (am_r 17 rfl) hw36 rfl rfl rfl (by decide) ?_
      refine AW.aload_n (z := 0) (am_r 53 rfl) rfl rfl ?_
      refine AW.iload_n (z := 1) (am_r 54 rfl) rfl rfl ?_
      refine AW.iconst (am_r 55 rfl) rfl ci_5 ?_
      refine obind_e hs (fun r37 hg39 hs => ?_)
      refine AW.callV (N := MX10_of) (As := [.int (p1), .int ((5 : Int32))]) (S := []) (L0 := [some (.ref (b)), some (.int (p1)), some (.int ((5 : Int32)))]) (b := b) (am_r 56 rfl) rfl ovX10_of q1615 rfl rfl mb_ob rfl rfl rfl rfl (dX10_of hA  hg39 (cQ_r ?_))
      have hr := (Option.some.inj hs).symm
      subst hr
      exact AW.iret (am_r 57 rfl) rfl hQ
    replace hs := (if_neg hw36).symm.trans hs
    by_cases hw40 : p2 = (8 : Int32)
    · replace hs := (if_pos hw40).symm.trans hs
      refine AW.tabsw_at (tg := 144) (i := 8) (am_r 17 rfl) hw40 rfl rfl rfl (by decide) ?_
      refine AW.aload_n (z := 0) (am_r 58 rfl) rfl rfl ?_
      refine AW.iload_n (z := 1) (am_r 59 rfl) rfl rfl ?_
      refine AW.bipush (am_r 60 rfl) rfl cb_6 ?_
      refine obind_e hs (fun r41 hg43 hs => ?_)
      refine AW.callV (N := MX10_of) (As := [.int (p1), .int ((6 : Int32))]) (S := []) (L0 := [some (.ref (b)), some (.int (p1)), some (.int ((6 : Int32)))]) (b := b) (am_r 61 rfl) rfl ovX10_of q1615 rfl rfl mb_ob rfl rfl rfl rfl (dX10_of hA  hg43 (cQ_r ?_))
      have hr := (Option.some.inj hs).symm
      subst hr
      exact AW.iret (am_r 62 rfl) rfl hQ
    replace hs := (if_neg hw40).symm.trans hs
    by_cases hw44 : p2 = (9 : Int32)
    · replace hs := (if_pos hw44).symm.trans hs
      refine AW.tabsw_at (tg := 152) (i := 9) (am_r 17 rfl) hw44 rfl rfl rfl (by decide) ?_
      refine AW.aload_n (z := 0) (am_r 63 rfl) rfl rfl ?_
      refine AW.iload_n (z := 1) (am_r 64 rfl) rfl rfl ?_
      refine AW.bipush (am_r 65 rfl) rfl cb_7 ?_
      refine obind_e hs (fun r45 hg47 hs => ?_)
      refine AW.callV (N := MX10_of) (As := [.int (p1), .int ((7 : Int32))]) (S := []) (L0 := [some (.ref (b)), some (.int (p1)), some (.int ((7 : Int32)))]) (b := b) (am_r 66 rfl) rfl ovX10_of q1615 rfl rfl mb_ob rfl rfl rfl rfl (dX10_of hA  hg47 (cQ_r ?_))
      have hr := (Option.some.inj hs).symm
      subst hr
      exact AW.iret (am_r 67 rfl) rfl hQ
    replace hs := (if_neg hw44).symm.trans hs
    by_cases hw48 : p2 = (10 : Int32)
    · replace hs := (if_pos hw48).symm.trans hs
      refine AW.tabsw_at (tg := 160) (i := 10) (am_r 17 rfl) hw48 rfl rfl rfl (by decide) ?_
      refine AW.aload_n (z := 0) (am_r 68 rfl) rfl rfl ?_
      refine AW.iload_n (z := 1) (am_r 69 rfl) rfl rfl ?_
      refine obind_e hs (fun r49 hg51 hs => ?_)
      refine AW.callV (N := MX10_urgency) (As := [.int (p1)]) (S := []) (L0 := [some (.ref (b)), some (.int (p1))]) (b := b) (am_r 70 rfl) rfl ovX10_urgency q1787 rfl rfl mb_ob rfl rfl rfl rfl (dX10_urgency hA  hg51 (cQ_r ?_))
      have hr := (Option.some.inj hs).symm
      subst hr
      exact AW.iret (am_r 71 rfl) rfl hQ
    replace hs := (if_neg hw48).symm.trans hs
    refine AW.tabsw_d (tg := 166) [0, 1, 2, 3, 4, 5, 6, 7, 8, 9, 10] (am_r 17 rfl) rfl (by decide) (by decide) (List.forall_mem_cons.mpr ⟨hw8, List.forall_mem_cons.mpr ⟨hw12, List.forall_mem_cons.mpr ⟨hw16, List.forall_mem_cons.mpr ⟨hw20, List.forall_mem_cons.mpr ⟨hw24, List.forall_mem_cons.mpr ⟨hw28, List.forall_mem_cons.mpr ⟨hw32, List.forall_mem_cons.mpr ⟨hw36, List.forall_mem_cons.mpr ⟨hw40, List.forall_mem_cons.mpr ⟨hw44, List.forall_mem_cons.mpr ⟨hw48, fun _ h => nomatch h⟩⟩⟩⟩⟩⟩⟩⟩⟩⟩⟩) ?_
    refine AW.iconst (am_r 72 rfl) rfl ci_m1 ?_
    have hr := (Option.some.inj hs).symm
    subst hr
    exact AW.iret (am_r 73 rfl) rfl hQ
  · replace hs := (if_neg hc7).symm.trans hs
    refine AW.iconst (am_r 14 rfl) rfl ci_0 ?_
    have hr := (Option.some.inj hs).symm
    subst hr
    exact AW.iret (am_r 15 rfl) rfl hQ
noncomputable def sX10_object (S : Mem) (p1 : Int32) (p2 : Int32) : Option (Int32 × Mem) :=
  olet (si S 100 6 0 ((0 : Int32))) fun S1 =>
  if (sX10_isObject S1 p1) = 0 then
    sX10_object_j19 S1 p1 p2 (1 : Int32)
  else
    sX10_object_j19 S1 p1 p2 (0 : Int32)
set_option maxRecDepth 100000 in
theorem dX10_object {g : AG} {h0 : AH} {b : Nat} {S : Mem} {Q : AO → AH → Prop} {p1 : Int32} {p2 : Int32} (hA : gB g ≤ b)  {r : (Int32 × Mem)} (hs : sX10_object S p1 p2 = some r) (hQ : Q (.ok (some (.int r.1))) (mb h0 b r.2)) : AW g MX10_object 0 [some (.ref (b)), some (.int (p1)), some (.int (p2))] [] (mb h0 b S) Q := by
  unfold sX10_object at hs
  refine AW.aload_n (z := 0) (am_r 0 rfl) rfl rfl ?_
  refine AW.iconst (am_r 1 rfl) rfl ci_0 ?_
  refine AW.putO (am_r 2 rfl) rfl klX10 (k := 6) (by omega) q1509 (Or.inl rfl) mb_ob hA rfl rfl (mbp_ob (by decide)) ?_
  refine olet_e (P := fun y => AW g MX10_object 5 [some (.ref (b)), some (.int (p1)), some (.int (p2))] [] (mb h0 b y) Q) hs (fun S1 hs => ?_)
  refine AW.aload_n (z := 0) (am_r 3 rfl) rfl rfl ?_
  refine AW.aload_n (z := 0) (am_r 4 rfl) rfl rfl ?_
  refine AW.iload_n (z := 1) (am_r 5 rfl) rfl rfl ?_
  refine AW.callV (N := MX10_isObject) (As := [.int (p1)]) (S := [(.ref (b))]) (L0 := [some (.ref (b)), some (.int (p1))]) (b := b) (am_r 6 rfl) rfl ovX10_isObject q1603 rfl rfl mb_ob rfl rfl rfl rfl (dX10_isObject hA  rfl (fun hok3 => (cQ_r ?_)))
  refine AW.if_ne (tg := 18) (am_r 7 rfl) rfl rfl (fun hc4 => ?_) (fun hc4 => ?_)
  · replace hs := (if_neg hc4).symm.trans hs
    refine AW.iconst (am_r 10 rfl) rfl ci_0 ?_
    exact dX10_object_j19 hA  (Or.inl rfl) hs hQ
  · replace hs := (if_pos hc4).symm.trans hs
    refine AW.iconst (am_r 8 rfl) rfl ci_1 ?_
    refine AW.goto (tg := 19) (am_r 9 rfl) rfl ?_
    exact dX10_object_j19 hA  (Or.inr rfl) hs hQ
noncomputable def sX10_queued_j19 (S : Mem) (p1 : Int32) (p2 : Int32) (y0 : Int32) : Option (Int32 × Mem) :=
  olet (sX10_throwsIf S y0 (1 : Int32)) fun r5 =>
  if r5.1 = 0 then
    obind (sX10_of r5.2 p1 (3 : Int32)) fun r8 =>
    if (sX10_inRange r5.2 p2.toInt64 (0 : Int64) ((r8 - (1 : Int32)).toInt64)) = 0 then
      some (((-1 : Int32), r5.2))
    else
      obind (sX10_of r5.2 p1 ((13 : Int32) + p2)) fun r14 =>
      some ((r14, r5.2))
  else
    some (((0 : Int32), r5.2))
set_option maxRecDepth 100000 in
theorem dX10_queued_j19 {g : AG} {h0 : AH} {b : Nat} {S : Mem} {Q : AO → AH → Prop} {p1 : Int32} {p2 : Int32} {y0 : Int32} (hA : gB g ≤ b)  (hk0 : y0 = 0 ∨ y0 = 1) {r : (Int32 × Mem)} (hs : sX10_queued_j19 S p1 p2 y0 = some r) (hQ : Q (.ok (some (.int r.1))) (mb h0 b r.2)) : AW g MX10_queued 19 [some (.ref (b)), some (.int (p1)), some (.int (p2))] [(.int (y0)), (.ref (b))] (mb h0 b S) Q := by
  unfold sX10_queued_j19 at hs
  refine AW.iconst (am_r 11 rfl) rfl ci_1 ?_
  refine AW.callV (N := MX10_throwsIf) (As := [.int (y0), .int ((1 : Int32))]) (S := []) (L0 := [some (.ref (b)), some (.int (y0)), some (.int ((1 : Int32)))]) (b := b) (am_r 12 rfl) rfl ovX10_throwsIf q1607 rfl rfl mb_ob rfl rfl rfl rfl (dX10_throwsIf hA hk0 rfl (fun hok6 => (cQ_r ?_)))
  refine olet_e (P := fun (y : (Int32 × Mem)) => (y.1 = 0 ∨ y.1 = 1) → AW g MX10_queued 23 [some (.ref (b)), some (.int (p1)), some (.int (p2))] [(.int (y.1))] (mb h0 b y.2) Q) hs (fun r5 hs hok6 => ?_) hok6
  refine AW.if_eq (tg := 30) (am_r 13 rfl) rfl rfl (fun hc7 => ?_) (fun hc7 => ?_)
  · replace hs := (if_pos hc7).symm.trans hs
    refine AW.iload_n (z := 2) (am_r 16 rfl) rfl rfl ?_
    refine AW.i2l (am_r 17 rfl) rfl ?_
    refine AW.lconst (z := 0) (am_r 18 rfl) rfl cl_0 ?_
    refine AW.aload_n (z := 0) (am_r 19 rfl) rfl rfl ?_
    refine AW.iload_n (z := 1) (am_r 20 rfl) rfl rfl ?_
    refine AW.iconst (am_r 21 rfl) rfl ci_3 ?_
    refine obind_e hs (fun r8 hg10 hs => ?_)
    refine AW.callV (N := MX10_of) (As := [.int (p1), .int ((3 : Int32))]) (S := [(.long ((0 : Int64))), (.long (p2.toInt64))]) (L0 := [some (.ref (b)), some (.int (p1)), some (.int ((3 : Int32)))]) (b := b) (am_r 22 rfl) rfl ovX10_of q1615 rfl rfl mb_ob rfl rfl rfl rfl (dX10_of hA  hg10 (cQ_r ?_))
    refine AW.iconst (am_r 23 rfl) rfl ci_1 ?_
    refine AW.isub (am_r 24 rfl) rfl ?_
    refine AW.i2l (am_r 25 rfl) rfl ?_
    refine AW.callS (N := MX10_inRange) (As := [.long (p2.toInt64), .long ((0 : Int64)), .long ((r8 - (1 : Int32)).toInt64)]) (S := []) (L0 := [some (.long (p2.toInt64)), none, some (.long ((0 : Int64))), none, some (.long ((r8 - (1 : Int32)).toInt64)), none]) (am_r 26 rfl) rfl osX10_inRange q1592 rfl rfl rfl rfl rfl (dX10_inRange hA  rfl (fun hok12 => (cQ_r ?_)))
    refine AW.if_eq (tg := 60) (am_r 27 rfl) rfl rfl (fun hc13 => ?_) (fun hc13 => ?_)
    · replace hs := (if_pos hc13).symm.trans hs
      refine AW.iconst (am_r 35 rfl) rfl ci_m1 ?_
      have hr := (Option.some.inj hs).symm
      subst hr
      exact AW.iret (am_r 36 rfl) rfl hQ
    · replace hs := (if_neg hc13).symm.trans hs
      refine AW.aload_n (z := 0) (am_r 28 rfl) rfl rfl ?_
      refine AW.iload_n (z := 1) (am_r 29 rfl) rfl rfl ?_
      refine AW.bipush (am_r 30 rfl) rfl cb_13 ?_
      refine AW.iload_n (z := 2) (am_r 31 rfl) rfl rfl ?_
      refine AW.iadd (am_r 32 rfl) rfl ?_
      refine obind_e hs (fun r14 hg16 hs => ?_)
      refine AW.callV (N := MX10_of) (As := [.int (p1), .int ((13 : Int32) + p2)]) (S := []) (L0 := [some (.ref (b)), some (.int (p1)), some (.int ((13 : Int32) + p2))]) (b := b) (am_r 33 rfl) rfl ovX10_of q1615 rfl rfl mb_ob rfl rfl rfl rfl (dX10_of hA  hg16 (cQ_r ?_))
      refine AW.goto (tg := 61) (am_r 34 rfl) rfl ?_
      have hr := (Option.some.inj hs).symm
      subst hr
      exact AW.iret (am_r 36 rfl) rfl hQ
  · replace hs := (if_neg hc7).symm.trans hs
    refine AW.iconst (am_r 14 rfl) rfl ci_0 ?_
    refine AW.goto (tg := 61) (am_r 15 rfl) rfl ?_
    have hr := (Option.some.inj hs).symm
    subst hr
    exact AW.iret (am_r 36 rfl) rfl hQ
noncomputable def sX10_queued (S : Mem) (p1 : Int32) (p2 : Int32) : Option (Int32 × Mem) :=
  olet (si S 100 6 0 ((0 : Int32))) fun S1 =>
  if (sX10_isObject S1 p1) = 0 then
    sX10_queued_j19 S1 p1 p2 (1 : Int32)
  else
    sX10_queued_j19 S1 p1 p2 (0 : Int32)
set_option maxRecDepth 100000 in
theorem dX10_queued {g : AG} {h0 : AH} {b : Nat} {S : Mem} {Q : AO → AH → Prop} {p1 : Int32} {p2 : Int32} (hA : gB g ≤ b)  {r : (Int32 × Mem)} (hs : sX10_queued S p1 p2 = some r) (hQ : Q (.ok (some (.int r.1))) (mb h0 b r.2)) : AW g MX10_queued 0 [some (.ref (b)), some (.int (p1)), some (.int (p2))] [] (mb h0 b S) Q := by
  unfold sX10_queued at hs
  refine AW.aload_n (z := 0) (am_r 0 rfl) rfl rfl ?_
  refine AW.iconst (am_r 1 rfl) rfl ci_0 ?_
  refine AW.putO (am_r 2 rfl) rfl klX10 (k := 6) (by omega) q1509 (Or.inl rfl) mb_ob hA rfl rfl (mbp_ob (by decide)) ?_
  refine olet_e (P := fun y => AW g MX10_queued 5 [some (.ref (b)), some (.int (p1)), some (.int (p2))] [] (mb h0 b y) Q) hs (fun S1 hs => ?_)
  refine AW.aload_n (z := 0) (am_r 3 rfl) rfl rfl ?_
  refine AW.aload_n (z := 0) (am_r 4 rfl) rfl rfl ?_
  refine AW.iload_n (z := 1) (am_r 5 rfl) rfl rfl ?_
  refine AW.callV (N := MX10_isObject) (As := [.int (p1)]) (S := [(.ref (b))]) (L0 := [some (.ref (b)), some (.int (p1))]) (b := b) (am_r 6 rfl) rfl ovX10_isObject q1603 rfl rfl mb_ob rfl rfl rfl rfl (dX10_isObject hA  rfl (fun hok3 => (cQ_r ?_)))
  refine AW.if_ne (tg := 18) (am_r 7 rfl) rfl rfl (fun hc4 => ?_) (fun hc4 => ?_)
  · replace hs := (if_neg hc4).symm.trans hs
    refine AW.iconst (am_r 10 rfl) rfl ci_0 ?_
    exact dX10_queued_j19 hA  (Or.inl rfl) hs hQ
  · replace hs := (if_pos hc4).symm.trans hs
    refine AW.iconst (am_r 8 rfl) rfl ci_1 ?_
    refine AW.goto (tg := 19) (am_r 9 rfl) rfl ?_
    exact dX10_queued_j19 hA  (Or.inr rfl) hs hQ
noncomputable def sX10_loan_j19 (S : Mem) (p1 : Int32) (p2 : Int32) (y0 : Int32) : Option (Int32 × Mem) :=
  olet (sX10_throwsIf S y0 (1 : Int32)) fun r5 =>
  if r5.1 = 0 then
    obind (sX10_of r5.2 p1 (8 : Int32)) fun r8 =>
    if r8 = (-1 : Int32) then
      some (((-1 : Int32), r5.2))
    else
      if (sX10_inRange r5.2 p2.toInt64 (0 : Int64) (2 : Int64)) = 0 then
        some (((-1 : Int32), r5.2))
      else
        obind (sX10_of r5.2 p1 ((8 : Int32) + p2)) fun r15 =>
        some ((r15, r5.2))
  else
    some (((0 : Int32), r5.2))
set_option maxRecDepth 100000 in
theorem dX10_loan_j19 {g : AG} {h0 : AH} {b : Nat} {S : Mem} {Q : AO → AH → Prop} {p1 : Int32} {p2 : Int32} {y0 : Int32} (hA : gB g ≤ b)  (hk0 : y0 = 0 ∨ y0 = 1) {r : (Int32 × Mem)} (hs : sX10_loan_j19 S p1 p2 y0 = some r) (hQ : Q (.ok (some (.int r.1))) (mb h0 b r.2)) : AW g MX10_loan 19 [some (.ref (b)), some (.int (p1)), some (.int (p2))] [(.int (y0)), (.ref (b))] (mb h0 b S) Q := by
  unfold sX10_loan_j19 at hs
  refine AW.iconst (am_r 11 rfl) rfl ci_1 ?_
  refine AW.callV (N := MX10_throwsIf) (As := [.int (y0), .int ((1 : Int32))]) (S := []) (L0 := [some (.ref (b)), some (.int (y0)), some (.int ((1 : Int32)))]) (b := b) (am_r 12 rfl) rfl ovX10_throwsIf q1607 rfl rfl mb_ob rfl rfl rfl rfl (dX10_throwsIf hA hk0 rfl (fun hok6 => (cQ_r ?_)))
  refine olet_e (P := fun (y : (Int32 × Mem)) => (y.1 = 0 ∨ y.1 = 1) → AW g MX10_loan 23 [some (.ref (b)), some (.int (p1)), some (.int (p2))] [(.int (y.1))] (mb h0 b y.2) Q) hs (fun r5 hs hok6 => ?_) hok6
  refine AW.if_eq (tg := 30) (am_r 13 rfl) rfl rfl (fun hc7 => ?_) (fun hc7 => ?_)
  · replace hs := (if_pos hc7).symm.trans hs
    refine AW.aload_n (z := 0) (am_r 16 rfl) rfl rfl ?_
    refine AW.iload_n (z := 1) (am_r 17 rfl) rfl rfl ?_
    refine AW.bipush (am_r 18 rfl) rfl cb_8 ?_
    refine obind_e hs (fun r8 hg10 hs => ?_)
    refine AW.callV (N := MX10_of) (As := [.int (p1), .int ((8 : Int32))]) (S := []) (L0 := [some (.ref (b)), some (.int (p1)), some (.int ((8 : Int32)))]) (b := b) (am_r 19 rfl) rfl ovX10_of q1615 rfl rfl mb_ob rfl rfl rfl rfl (dX10_of hA  hg10 (cQ_r ?_))
    refine AW.iconst (am_r 20 rfl) rfl ci_m1 ?_
    refine AW.icmp_eq (tg := 65) (am_r 21 rfl) rfl rfl (fun hc11 => ?_) (fun hc11 => ?_)
    · replace hs := (if_pos hc11).symm.trans hs
      refine AW.iconst (am_r 35 rfl) rfl ci_m1 ?_
      have hr := (Option.some.inj hs).symm
      subst hr
      exact AW.iret (am_r 36 rfl) rfl hQ
    · replace hs := (if_neg hc11).symm.trans hs
      refine AW.iload_n (z := 2) (am_r 22 rfl) rfl rfl ?_
      refine AW.i2l (am_r 23 rfl) rfl ?_
      refine AW.lconst (z := 0) (am_r 24 rfl) rfl cl_0 ?_
      refine AW.ldc2 (v := (2)) (am_r 25 rfl) rfl q1832 ?_
      refine AW.callS (N := MX10_inRange) (As := [.long (p2.toInt64), .long ((0 : Int64)), .long ((2 : Int64))]) (S := []) (L0 := [some (.long (p2.toInt64)), none, some (.long ((0 : Int64))), none, some (.long ((2 : Int64))), none]) (am_r 26 rfl) rfl osX10_inRange q1592 rfl rfl rfl rfl rfl (dX10_inRange hA  rfl (fun hok13 => (cQ_r ?_)))
      refine AW.if_eq (tg := 65) (am_r 27 rfl) rfl rfl (fun hc14 => ?_) (fun hc14 => ?_)
      · replace hs := (if_pos hc14).symm.trans hs
        refine AW.iconst (am_r 35 rfl) rfl ci_m1 ?_
        have hr := (Option.some.inj hs).symm
        subst hr
        exact AW.iret (am_r 36 rfl) rfl hQ
      · replace hs := (if_neg hc14).symm.trans hs
        refine AW.aload_n (z := 0) (am_r 28 rfl) rfl rfl ?_
        refine AW.iload_n (z := 1) (am_r 29 rfl) rfl rfl ?_
        refine AW.bipush (am_r 30 rfl) rfl cb_8 ?_
        refine AW.iload_n (z := 2) (am_r 31 rfl) rfl rfl ?_
        refine AW.iadd (am_r 32 rfl) rfl ?_
        refine obind_e hs (fun r15 hg17 hs => ?_)
        refine AW.callV (N := MX10_of) (As := [.int (p1), .int ((8 : Int32) + p2)]) (S := []) (L0 := [some (.ref (b)), some (.int (p1)), some (.int ((8 : Int32) + p2))]) (b := b) (am_r 33 rfl) rfl ovX10_of q1615 rfl rfl mb_ob rfl rfl rfl rfl (dX10_of hA  hg17 (cQ_r ?_))
        refine AW.goto (tg := 66) (am_r 34 rfl) rfl ?_
        have hr := (Option.some.inj hs).symm
        subst hr
        exact AW.iret (am_r 36 rfl) rfl hQ
  · replace hs := (if_neg hc7).symm.trans hs
    refine AW.iconst (am_r 14 rfl) rfl ci_0 ?_
    refine AW.goto (tg := 66) (am_r 15 rfl) rfl ?_
    have hr := (Option.some.inj hs).symm
    subst hr
    exact AW.iret (am_r 36 rfl) rfl hQ
noncomputable def sX10_loan (S : Mem) (p1 : Int32) (p2 : Int32) : Option (Int32 × Mem) :=
  olet (si S 100 6 0 ((0 : Int32))) fun S1 =>
  if (sX10_isObject S1 p1) = 0 then
    sX10_loan_j19 S1 p1 p2 (1 : Int32)
  else
    sX10_loan_j19 S1 p1 p2 (0 : Int32)
set_option maxRecDepth 100000 in
theorem dX10_loan {g : AG} {h0 : AH} {b : Nat} {S : Mem} {Q : AO → AH → Prop} {p1 : Int32} {p2 : Int32} (hA : gB g ≤ b)  {r : (Int32 × Mem)} (hs : sX10_loan S p1 p2 = some r) (hQ : Q (.ok (some (.int r.1))) (mb h0 b r.2)) : AW g MX10_loan 0 [some (.ref (b)), some (.int (p1)), some (.int (p2))] [] (mb h0 b S) Q := by
  unfold sX10_loan at hs
  refine AW.aload_n (z := 0) (am_r 0 rfl) rfl rfl ?_
  refine AW.iconst (am_r 1 rfl) rfl ci_0 ?_
  refine AW.putO (am_r 2 rfl) rfl klX10 (k := 6) (by omega) q1509 (Or.inl rfl) mb_ob hA rfl rfl (mbp_ob (by decide)) ?_
  refine olet_e (P := fun y => AW g MX10_loan 5 [some (.ref (b)), some (.int (p1)), some (.int (p2))] [] (mb h0 b y) Q) hs (fun S1 hs => ?_)
  refine AW.aload_n (z := 0) (am_r 3 rfl) rfl rfl ?_
  refine AW.aload_n (z := 0) (am_r 4 rfl) rfl rfl ?_
  refine AW.iload_n (z := 1) (am_r 5 rfl) rfl rfl ?_
  refine AW.callV (N := MX10_isObject) (As := [.int (p1)]) (S := [(.ref (b))]) (L0 := [some (.ref (b)), some (.int (p1))]) (b := b) (am_r 6 rfl) rfl ovX10_isObject q1603 rfl rfl mb_ob rfl rfl rfl rfl (dX10_isObject hA  rfl (fun hok3 => (cQ_r ?_)))
  refine AW.if_ne (tg := 18) (am_r 7 rfl) rfl rfl (fun hc4 => ?_) (fun hc4 => ?_)
  · replace hs := (if_neg hc4).symm.trans hs
    refine AW.iconst (am_r 10 rfl) rfl ci_0 ?_
    exact dX10_loan_j19 hA  (Or.inl rfl) hs hQ
  · replace hs := (if_pos hc4).symm.trans hs
    refine AW.iconst (am_r 8 rfl) rfl ci_1 ?_
    refine AW.goto (tg := 19) (am_r 9 rfl) rfl ?_
    exact dX10_loan_j19 hA  (Or.inr rfl) hs hQ
noncomputable def sX10_reason_j19 (S : Mem) (p1 : Int32) (y0 : Int32) : Option (Int32 × Mem) :=
  olet (sX10_throwsIf S y0 (1 : Int32)) fun r5 =>
  if r5.1 = 0 then
    obind (sX10_reasonOf r5.2 p1) fun r8 =>
    some ((r8, r5.2))
  else
    some (((0 : Int32), r5.2))
set_option maxRecDepth 100000 in
theorem dX10_reason_j19 {g : AG} {h0 : AH} {b : Nat} {S : Mem} {Q : AO → AH → Prop} {p1 : Int32} {y0 : Int32} (hA : gB g ≤ b)  (hk0 : y0 = 0 ∨ y0 = 1) {r : (Int32 × Mem)} (hs : sX10_reason_j19 S p1 y0 = some r) (hQ : Q (.ok (some (.int r.1))) (mb h0 b r.2)) : AW g MX10_reason 19 [some (.ref (b)), some (.int (p1))] [(.int (y0)), (.ref (b))] (mb h0 b S) Q := by
  unfold sX10_reason_j19 at hs
  refine AW.iconst (am_r 11 rfl) rfl ci_1 ?_
  refine AW.callV (N := MX10_throwsIf) (As := [.int (y0), .int ((1 : Int32))]) (S := []) (L0 := [some (.ref (b)), some (.int (y0)), some (.int ((1 : Int32)))]) (b := b) (am_r 12 rfl) rfl ovX10_throwsIf q1607 rfl rfl mb_ob rfl rfl rfl rfl (dX10_throwsIf hA hk0 rfl (fun hok6 => (cQ_r ?_)))
  refine olet_e (P := fun (y : (Int32 × Mem)) => (y.1 = 0 ∨ y.1 = 1) → AW g MX10_reason 23 [some (.ref (b)), some (.int (p1))] [(.int (y.1))] (mb h0 b y.2) Q) hs (fun r5 hs hok6 => ?_) hok6
  refine AW.if_eq (tg := 30) (am_r 13 rfl) rfl rfl (fun hc7 => ?_) (fun hc7 => ?_)
  · replace hs := (if_pos hc7).symm.trans hs
    refine AW.aload_n (z := 0) (am_r 16 rfl) rfl rfl ?_
    refine AW.iload_n (z := 1) (am_r 17 rfl) rfl rfl ?_
    refine obind_e hs (fun r8 hg10 hs => ?_)
    refine AW.callV (N := MX10_reasonOf) (As := [.int (p1)]) (S := []) (L0 := [some (.ref (b)), some (.int (p1)), none, none]) (b := b) (am_r 18 rfl) rfl ovX10_reasonOf q1772 rfl rfl mb_ob rfl rfl rfl rfl (dX10_reasonOf hA  hg10 (cQ_r ?_))
    have hr := (Option.some.inj hs).symm
    subst hr
    exact AW.iret (am_r 19 rfl) rfl hQ
  · replace hs := (if_neg hc7).symm.trans hs
    refine AW.iconst (am_r 14 rfl) rfl ci_0 ?_
    refine AW.goto (tg := 35) (am_r 15 rfl) rfl ?_
    have hr := (Option.some.inj hs).symm
    subst hr
    exact AW.iret (am_r 19 rfl) rfl hQ
noncomputable def sX10_reason (S : Mem) (p1 : Int32) : Option (Int32 × Mem) :=
  olet (si S 100 6 0 ((0 : Int32))) fun S1 =>
  if (sX10_isObject S1 p1) = 0 then
    sX10_reason_j19 S1 p1 (1 : Int32)
  else
    sX10_reason_j19 S1 p1 (0 : Int32)
set_option maxRecDepth 100000 in
theorem dX10_reason {g : AG} {h0 : AH} {b : Nat} {S : Mem} {Q : AO → AH → Prop} {p1 : Int32} (hA : gB g ≤ b)  {r : (Int32 × Mem)} (hs : sX10_reason S p1 = some r) (hQ : Q (.ok (some (.int r.1))) (mb h0 b r.2)) : AW g MX10_reason 0 [some (.ref (b)), some (.int (p1))] [] (mb h0 b S) Q := by
  unfold sX10_reason at hs
  refine AW.aload_n (z := 0) (am_r 0 rfl) rfl rfl ?_
  refine AW.iconst (am_r 1 rfl) rfl ci_0 ?_
  refine AW.putO (am_r 2 rfl) rfl klX10 (k := 6) (by omega) q1509 (Or.inl rfl) mb_ob hA rfl rfl (mbp_ob (by decide)) ?_
  refine olet_e (P := fun y => AW g MX10_reason 5 [some (.ref (b)), some (.int (p1))] [] (mb h0 b y) Q) hs (fun S1 hs => ?_)
  refine AW.aload_n (z := 0) (am_r 3 rfl) rfl rfl ?_
  refine AW.aload_n (z := 0) (am_r 4 rfl) rfl rfl ?_
  refine AW.iload_n (z := 1) (am_r 5 rfl) rfl rfl ?_
  refine AW.callV (N := MX10_isObject) (As := [.int (p1)]) (S := [(.ref (b))]) (L0 := [some (.ref (b)), some (.int (p1))]) (b := b) (am_r 6 rfl) rfl ovX10_isObject q1603 rfl rfl mb_ob rfl rfl rfl rfl (dX10_isObject hA  rfl (fun hok3 => (cQ_r ?_)))
  refine AW.if_ne (tg := 18) (am_r 7 rfl) rfl rfl (fun hc4 => ?_) (fun hc4 => ?_)
  · replace hs := (if_neg hc4).symm.trans hs
    refine AW.iconst (am_r 10 rfl) rfl ci_0 ?_
    exact dX10_reason_j19 hA  (Or.inl rfl) hs hQ
  · replace hs := (if_pos hc4).symm.trans hs
    refine AW.iconst (am_r 8 rfl) rfl ci_1 ?_
    refine AW.goto (tg := 19) (am_r 9 rfl) rfl ?_
    exact dX10_reason_j19 hA  (Or.inr rfl) hs hQ
noncomputable def sX10_greatestPress_l4_step (S : Mem)  (a : (Int32 × Int32)) : Option ((Int32 × Int32) ⊕ Int32) :=
  if (gi S 5 (2 : Int32).toNatClampNeg 0) ≤ a.2 then
    oinr (
    some (a.1))
  else
    obind (sX10_pressSize S a.2) fun r4 =>
    olet (sX10_max S a.1 r4) fun v9 =>
    some (.inl (v9, a.2 + (1 : Int32)))
noncomputable def sX10_greatestPress_l4 (S : Mem)  (a : (Int32 × Int32)) : Option Int32 := itw (sX10_greatestPress_l4_step S ) a
set_option maxRecDepth 100000 in
theorem dX10_greatestPress_l4 {g : AG} {h0 : AH} {b : Nat} {S : Mem} {Q : AO → AH → Prop}  (hA : gB g ≤ b)  {a : (Int32 × Int32)}  {r : Int32} (hs : sX10_greatestPress_l4 S  a = some r) (hQ : Q (.ok (some (.int r))) (mb h0 b S)) : AW g MX10_greatestPress 4 [some (.ref (b)), some (.int (a.1)), some (.int (a.2))] [] (mb h0 b S) Q := by
  refine itw_e (P := fun a => AW g MX10_greatestPress 4 [some (.ref (b)), some (.int (a.1)), some (.int (a.2))] [] (mb h0 b S) Q) (Post := fun r => Q (.ok (some (.int r))) (mb h0 b S)) (fun a r hs hc he  => ?_) hs hQ 
  unfold sX10_greatestPress_l4_step at hs
  refine AW.iload_n (z := 2) (am_r 4 rfl) rfl rfl ?_
  refine AW.aload_n (z := 0) (am_r 5 rfl) rfl rfl ?_
  refine AW.getO (am_r 6 rfl) rfl klX10 (k := 5) (by omega) q1508 mb_ob rfl ?_
  refine AW.iconst (am_r 7 rfl) rfl ci_2 ?_
  refine AW.iald (am_r 8 rfl) rfl mb_a4 (vp_of_inb rfl) rfl ?_
  refine AW.icmp_ge (tg := 30) (am_r 9 rfl) rfl rfl (fun hc1 => ?_) (fun hc1 => ?_)
  · replace hs := (if_pos hc1).symm.trans hs
    refine oinr_e hs (fun z2 hz3 hs => ?_)
    have hQ := he _ hz3
    refine AW.iload_n (z := 1) (am_r 18 rfl) rfl rfl ?_
    have hr := (Option.some.inj hs).symm
    subst hr
    exact AW.iret (am_r 19 rfl) rfl hQ
  · replace hs := (if_neg hc1).symm.trans hs
    refine AW.iload_n (z := 1) (am_r 10 rfl) rfl rfl ?_
    refine AW.aload_n (z := 0) (am_r 11 rfl) rfl rfl ?_
    refine AW.iload_n (z := 2) (am_r 12 rfl) rfl rfl ?_
    refine obind_e hs (fun r4 hg6 hs => ?_)
    refine AW.callV (N := MX10_pressSize) (As := [.int (a.2)]) (S := [(.int (a.1))]) (L0 := [some (.ref (b)), some (.int (a.2))]) (b := b) (am_r 13 rfl) rfl ovX10_pressSize q1756 rfl rfl mb_ob rfl rfl rfl rfl (dX10_pressSize hA  hg6 (cQ_r ?_))
    refine AW.callS (N := MX10_max) (As := [.int (a.1), .int (r4)]) (S := []) (L0 := [some (.int (a.1)), some (.int (r4))]) (am_r 14 rfl) rfl osX10_max q1741 rfl rfl rfl rfl rfl (dX10_max hA  rfl (cQ_r ?_))
    refine olet_e (P := fun y => AW g MX10_greatestPress 23 [some (.ref (b)), some (.int (a.1)), some (.int (a.2))] [(.int (y))] (mb h0 b S) Q) hs (fun v9 hs => ?_)
    refine AW.istore_n (L' := [some (.ref (b)), some (.int (v9)), some (.int (a.2))]) (z := 1) (am_r 15 rfl) rfl (Nat.le_of_ble_eq_true rfl) rfl ?_
    refine AW.iinc (v := a.2 + (1 : Int32)) (L' := [some (.ref (b)), some (.int (v9)), some (.int (a.2 + (1 : Int32)))]) (am_r 16 rfl) rfl (Nat.le_of_ble_eq_true rfl) rfl (congrArg (fun z => a.2 + z) ci_1) rfl ?_
    refine AW.goto (tg := 4) (am_r 17 rfl) rfl ?_
    have hr := (Option.some.inj hs).symm
    exact hc (v9, a.2 + (1 : Int32)) hr 
noncomputable def sX10_greatestPress (S : Mem)  : Option Int32 :=
  sX10_greatestPress_l4 S  ((0 : Int32), (0 : Int32))
set_option maxRecDepth 100000 in
theorem dX10_greatestPress {g : AG} {h0 : AH} {b : Nat} {S : Mem} {Q : AO → AH → Prop}  (hA : gB g ≤ b)  {r : Int32} (hs : sX10_greatestPress S  = some r) (hQ : Q (.ok (some (.int r))) (mb h0 b S)) : AW g MX10_greatestPress 0 [some (.ref (b)), none, none] [] (mb h0 b S) Q := by
  unfold sX10_greatestPress at hs
  refine AW.iconst (am_r 0 rfl) rfl ci_0 ?_
  refine AW.istore_n (L' := [some (.ref (b)), some (.int ((0 : Int32))), none]) (z := 1) (am_r 1 rfl) rfl (Nat.le_of_ble_eq_true rfl) rfl ?_
  refine AW.iconst (am_r 2 rfl) rfl ci_0 ?_
  refine AW.istore_n (L' := [some (.ref (b)), some (.int ((0 : Int32))), some (.int ((0 : Int32)))]) (z := 2) (am_r 3 rfl) rfl (Nat.le_of_ble_eq_true rfl) rfl ?_
  exact dX10_greatestPress_l4 hA   hs hQ
noncomputable def sX10_cause_j19 (S : Mem) (p1 : Int32) (y0 : Int32) : Option (Int32 × Mem) :=
  olet (sX10_throwsIf S y0 (1 : Int32)) fun r5 =>
  if r5.1 = 0 then
    obind (sX10_reasonOf r5.2 p1) fun r8 =>
    if r8 = (1 : Int32) then
      obind (sX10_of r5.2 p1 (1 : Int32)) fun r20 =>
      some ((r20, r5.2))
    else
      if r8 = (3 : Int32) then
        obind (sX10_greatestPress r5.2 ) fun r17 =>
        some ((r17, r5.2))
      else
        if r8 = (5 : Int32) then
          obind (sX10_of r5.2 p1 (4 : Int32)) fun r14 =>
          some ((r14, r5.2))
        else
          some (((-1 : Int32), r5.2))
  else
    some (((0 : Int32), r5.2))
set_option maxRecDepth 100000 in
theorem dX10_cause_j19 {g : AG} {h0 : AH} {b : Nat} {S : Mem} {Q : AO → AH → Prop} {p1 : Int32} {y0 : Int32} (hA : gB g ≤ b)  (hk0 : y0 = 0 ∨ y0 = 1) {r : (Int32 × Mem)} (hs : sX10_cause_j19 S p1 y0 = some r) (hQ : Q (.ok (some (.int r.1))) (mb h0 b r.2)) : AW g MX10_cause 19 [some (.ref (b)), some (.int (p1)), none] [(.int (y0)), (.ref (b))] (mb h0 b S) Q := by
  unfold sX10_cause_j19 at hs
  refine AW.iconst (am_r 11 rfl) rfl ci_1 ?_
  refine AW.callV (N := MX10_throwsIf) (As := [.int (y0), .int ((1 : Int32))]) (S := []) (L0 := [some (.ref (b)), some (.int (y0)), some (.int ((1 : Int32)))]) (b := b) (am_r 12 rfl) rfl ovX10_throwsIf q1607 rfl rfl mb_ob rfl rfl rfl rfl (dX10_throwsIf hA hk0 rfl (fun hok6 => (cQ_r ?_)))
  refine olet_e (P := fun (y : (Int32 × Mem)) => (y.1 = 0 ∨ y.1 = 1) → AW g MX10_cause 23 [some (.ref (b)), some (.int (p1)), none] [(.int (y.1))] (mb h0 b y.2) Q) hs (fun r5 hs hok6 => ?_) hok6
  refine AW.if_eq (tg := 28) (am_r 13 rfl) rfl rfl (fun hc7 => ?_) (fun hc7 => ?_)
  · replace hs := (if_pos hc7).symm.trans hs
    refine AW.aload_n (z := 0) (am_r 16 rfl) rfl rfl ?_
    refine AW.iload_n (z := 1) (am_r 17 rfl) rfl rfl ?_
    refine obind_e hs (fun r8 hg10 hs => ?_)
    refine AW.callV (N := MX10_reasonOf) (As := [.int (p1)]) (S := []) (L0 := [some (.ref (b)), some (.int (p1)), none, none]) (b := b) (am_r 18 rfl) rfl ovX10_reasonOf q1772 rfl rfl mb_ob rfl rfl rfl rfl (dX10_reasonOf hA  hg10 (cQ_r ?_))
    refine AW.istore_n (L' := [some (.ref (b)), some (.int (p1)), some (.int (r8))]) (z := 2) (am_r 19 rfl) rfl (Nat.le_of_ble_eq_true rfl) rfl ?_
    refine AW.iload_n (z := 2) (am_r 20 rfl) rfl rfl ?_
    refine AW.iconst (am_r 21 rfl) rfl ci_1 ?_
    refine AW.icmp_ne (tg := 48) (am_r 22 rfl) rfl rfl (fun hc11 => ?_) (fun hc11 => ?_)
    · replace hs := (if_neg hc11).symm.trans hs
      refine AW.iload_n (z := 2) (am_r 28 rfl) rfl rfl ?_
      refine AW.iconst (am_r 29 rfl) rfl ci_3 ?_
      refine AW.icmp_ne (tg := 60) (am_r 30 rfl) rfl rfl (fun hc12 => ?_) (fun hc12 => ?_)
      · replace hs := (if_neg hc12).symm.trans hs
        refine AW.iload_n (z := 2) (am_r 34 rfl) rfl rfl ?_
        refine AW.iconst (am_r 35 rfl) rfl ci_5 ?_
        refine AW.icmp_ne (tg := 74) (am_r 36 rfl) rfl rfl (fun hc13 => ?_) (fun hc13 => ?_)
        · replace hs := (if_neg hc13).symm.trans hs
          refine AW.iconst (am_r 42 rfl) rfl ci_m1 ?_
          have hr := (Option.some.inj hs).symm
          subst hr
          exact AW.iret (am_r 43 rfl) rfl hQ
        · replace hs := (if_pos hc13).symm.trans hs
          refine AW.aload_n (z := 0) (am_r 37 rfl) rfl rfl ?_
          refine AW.iload_n (z := 1) (am_r 38 rfl) rfl rfl ?_
          refine AW.iconst (am_r 39 rfl) rfl ci_4 ?_
          refine obind_e hs (fun r14 hg16 hs => ?_)
          refine AW.callV (N := MX10_of) (As := [.int (p1), .int ((4 : Int32))]) (S := []) (L0 := [some (.ref (b)), some (.int (p1)), some (.int ((4 : Int32)))]) (b := b) (am_r 40 rfl) rfl ovX10_of q1615 rfl rfl mb_ob rfl rfl rfl rfl (dX10_of hA  hg16 (cQ_r ?_))
          refine AW.goto (tg := 75) (am_r 41 rfl) rfl ?_
          have hr := (Option.some.inj hs).symm
          subst hr
          exact AW.iret (am_r 43 rfl) rfl hQ
      · replace hs := (if_pos hc12).symm.trans hs
        refine AW.aload_n (z := 0) (am_r 31 rfl) rfl rfl ?_
        refine obind_e hs (fun r17 hg19 hs => ?_)
        refine AW.callV (N := MX10_greatestPress) (As := []) (S := []) (L0 := [some (.ref (b)), none, none]) (b := b) (am_r 32 rfl) rfl ovX10_greatestPress q1841 rfl rfl mb_ob rfl rfl rfl rfl (dX10_greatestPress hA  hg19 (cQ_r ?_))
        refine AW.goto (tg := 75) (am_r 33 rfl) rfl ?_
        have hr := (Option.some.inj hs).symm
        subst hr
        exact AW.iret (am_r 43 rfl) rfl hQ
    · replace hs := (if_pos hc11).symm.trans hs
      refine AW.aload_n (z := 0) (am_r 23 rfl) rfl rfl ?_
      refine AW.iload_n (z := 1) (am_r 24 rfl) rfl rfl ?_
      refine AW.iconst (am_r 25 rfl) rfl ci_1 ?_
      refine obind_e hs (fun r20 hg22 hs => ?_)
      refine AW.callV (N := MX10_of) (As := [.int (p1), .int ((1 : Int32))]) (S := []) (L0 := [some (.ref (b)), some (.int (p1)), some (.int ((1 : Int32)))]) (b := b) (am_r 26 rfl) rfl ovX10_of q1615 rfl rfl mb_ob rfl rfl rfl rfl (dX10_of hA  hg22 (cQ_r ?_))
      refine AW.goto (tg := 75) (am_r 27 rfl) rfl ?_
      have hr := (Option.some.inj hs).symm
      subst hr
      exact AW.iret (am_r 43 rfl) rfl hQ
  · replace hs := (if_neg hc7).symm.trans hs
    refine AW.iconst (am_r 14 rfl) rfl ci_0 ?_
    have hr := (Option.some.inj hs).symm
    subst hr
    exact AW.iret (am_r 15 rfl) rfl hQ
noncomputable def sX10_cause (S : Mem) (p1 : Int32) : Option (Int32 × Mem) :=
  olet (si S 100 6 0 ((0 : Int32))) fun S1 =>
  if (sX10_isObject S1 p1) = 0 then
    sX10_cause_j19 S1 p1 (1 : Int32)
  else
    sX10_cause_j19 S1 p1 (0 : Int32)
set_option maxRecDepth 100000 in
theorem dX10_cause {g : AG} {h0 : AH} {b : Nat} {S : Mem} {Q : AO → AH → Prop} {p1 : Int32} (hA : gB g ≤ b)  {r : (Int32 × Mem)} (hs : sX10_cause S p1 = some r) (hQ : Q (.ok (some (.int r.1))) (mb h0 b r.2)) : AW g MX10_cause 0 [some (.ref (b)), some (.int (p1)), none] [] (mb h0 b S) Q := by
  unfold sX10_cause at hs
  refine AW.aload_n (z := 0) (am_r 0 rfl) rfl rfl ?_
  refine AW.iconst (am_r 1 rfl) rfl ci_0 ?_
  refine AW.putO (am_r 2 rfl) rfl klX10 (k := 6) (by omega) q1509 (Or.inl rfl) mb_ob hA rfl rfl (mbp_ob (by decide)) ?_
  refine olet_e (P := fun y => AW g MX10_cause 5 [some (.ref (b)), some (.int (p1)), none] [] (mb h0 b y) Q) hs (fun S1 hs => ?_)
  refine AW.aload_n (z := 0) (am_r 3 rfl) rfl rfl ?_
  refine AW.aload_n (z := 0) (am_r 4 rfl) rfl rfl ?_
  refine AW.iload_n (z := 1) (am_r 5 rfl) rfl rfl ?_
  refine AW.callV (N := MX10_isObject) (As := [.int (p1)]) (S := [(.ref (b))]) (L0 := [some (.ref (b)), some (.int (p1))]) (b := b) (am_r 6 rfl) rfl ovX10_isObject q1603 rfl rfl mb_ob rfl rfl rfl rfl (dX10_isObject hA  rfl (fun hok3 => (cQ_r ?_)))
  refine AW.if_ne (tg := 18) (am_r 7 rfl) rfl rfl (fun hc4 => ?_) (fun hc4 => ?_)
  · replace hs := (if_neg hc4).symm.trans hs
    refine AW.iconst (am_r 10 rfl) rfl ci_0 ?_
    exact dX10_cause_j19 hA  (Or.inl rfl) hs hQ
  · replace hs := (if_pos hc4).symm.trans hs
    refine AW.iconst (am_r 8 rfl) rfl ci_1 ?_
    refine AW.goto (tg := 19) (am_r 9 rfl) rfl ?_
    exact dX10_cause_j19 hA  (Or.inr rfl) hs hQ
noncomputable def sX10_objectsWith_l36_step  (p1 : Int32) (a : (Int32 × Int32 × Mem)) : Option ((Int32 × Int32 × Mem) ⊕ (Int32 × Mem)) :=
  if (gi a.2.2 5 (4 : Int32).toNatClampNeg 0) ≤ a.2.1 then
    oinr (
    some ((a.1, a.2.2)))
  else
    obind (sX10_reasonOf a.2.2 a.2.1) fun r11 =>
    if r11 = p1 then
      olet (a.1 ||| ((1 : Int32) <<< (a.2.1 &&& 31))) fun v16 =>
      some (.inl (v16, a.2.1 + (1 : Int32), a.2.2))
    else
      olet (a.1 ||| (0 : Int32)) fun v15 =>
      some (.inl (v15, a.2.1 + (1 : Int32), a.2.2))
noncomputable def sX10_objectsWith_l36  (p1 : Int32) (a : (Int32 × Int32 × Mem)) : Option (Int32 × Mem) := itw (sX10_objectsWith_l36_step  p1) a
set_option maxRecDepth 100000 in
theorem dX10_objectsWith_l36 {g : AG} {h0 : AH} {b : Nat} {Q : AO → AH → Prop} {p1 : Int32} (hA : gB g ≤ b)  {a : (Int32 × Int32 × Mem)}  {r : (Int32 × Mem)} (hs : sX10_objectsWith_l36  p1 a = some r) (hQ : Q (.ok (some (.int r.1))) (mb h0 b r.2)) : AW g MX10_objectsWith 36 [some (.ref (b)), some (.int (p1)), some (.int (a.1)), some (.int (a.2.1))] [] (mb h0 b a.2.2) Q := by
  refine itw_e (P := fun a => AW g MX10_objectsWith 36 [some (.ref (b)), some (.int (p1)), some (.int (a.1)), some (.int (a.2.1))] [] (mb h0 b a.2.2) Q) (Post := fun r => Q (.ok (some (.int r.1))) (mb h0 b r.2)) (fun a r hs hc he  => ?_) hs hQ 
  unfold sX10_objectsWith_l36_step at hs
  refine AW.iload_n (z := 3) (am_r 22 rfl) rfl rfl ?_
  refine AW.aload_n (z := 0) (am_r 23 rfl) rfl rfl ?_
  refine AW.getO (am_r 24 rfl) rfl klX10 (k := 5) (by omega) q1508 mb_ob rfl ?_
  refine AW.iconst (am_r 25 rfl) rfl ci_4 ?_
  refine AW.iald (am_r 26 rfl) rfl mb_a4 (vp_of_inb rfl) rfl ?_
  refine AW.icmp_ge (tg := 71) (am_r 27 rfl) rfl rfl (fun hc8 => ?_) (fun hc8 => ?_)
  · replace hs := (if_pos hc8).symm.trans hs
    refine oinr_e hs (fun z9 hz10 hs => ?_)
    have hQ := he _ hz10
    refine AW.iload_n (z := 2) (am_r 43 rfl) rfl rfl ?_
    have hr := (Option.some.inj hs).symm
    subst hr
    exact AW.iret (am_r 44 rfl) rfl hQ
  · replace hs := (if_neg hc8).symm.trans hs
    refine AW.iload_n (z := 2) (am_r 28 rfl) rfl rfl ?_
    refine AW.aload_n (z := 0) (am_r 29 rfl) rfl rfl ?_
    refine AW.iload_n (z := 3) (am_r 30 rfl) rfl rfl ?_
    refine obind_e hs (fun r11 hg13 hs => ?_)
    refine AW.callV (N := MX10_reasonOf) (As := [.int (a.2.1)]) (S := [(.int (a.1))]) (L0 := [some (.ref (b)), some (.int (a.2.1)), none, none]) (b := b) (am_r 31 rfl) rfl ovX10_reasonOf q1772 rfl rfl mb_ob rfl rfl rfl rfl (dX10_reasonOf hA  hg13 (cQ_r ?_))
    refine AW.iload_n (z := 1) (am_r 32 rfl) rfl rfl ?_
    refine AW.icmp_ne (tg := 62) (am_r 33 rfl) rfl rfl (fun hc14 => ?_) (fun hc14 => ?_)
    · replace hs := (if_neg hc14).symm.trans hs
      refine AW.iconst (am_r 38 rfl) rfl ci_0 ?_
      refine AW.ior (am_r 39 rfl) rfl ?_
      refine olet_e (P := fun y => AW g MX10_objectsWith 64 [some (.ref (b)), some (.int (p1)), some (.int (a.1)), some (.int (a.2.1))] [(.int (y))] (mb h0 b a.2.2) Q) hs (fun v15 hs => ?_)
      refine AW.istore_n (L' := [some (.ref (b)), some (.int (p1)), some (.int (v15)), some (.int (a.2.1))]) (z := 2) (am_r 40 rfl) rfl (Nat.le_of_ble_eq_true rfl) rfl ?_
      refine AW.iinc (v := a.2.1 + (1 : Int32)) (L' := [some (.ref (b)), some (.int (p1)), some (.int (v15)), some (.int (a.2.1 + (1 : Int32)))]) (am_r 41 rfl) rfl (Nat.le_of_ble_eq_true rfl) rfl (congrArg (fun z => a.2.1 + z) ci_1) rfl ?_
      refine AW.goto (tg := 36) (am_r 42 rfl) rfl ?_
      have hr := (Option.some.inj hs).symm
      exact hc (v15, a.2.1 + (1 : Int32), a.2.2) hr 
    · replace hs := (if_pos hc14).symm.trans hs
      refine AW.iconst (am_r 34 rfl) rfl ci_1 ?_
      refine AW.iload_n (z := 3) (am_r 35 rfl) rfl rfl ?_
      refine AW.ishl (am_r 36 rfl) rfl ?_
      refine AW.goto (tg := 63) (am_r 37 rfl) rfl ?_
      refine AW.ior (am_r 39 rfl) rfl ?_
      refine olet_e (P := fun y => AW g MX10_objectsWith 64 [some (.ref (b)), some (.int (p1)), some (.int (a.1)), some (.int (a.2.1))] [(.int (y))] (mb h0 b a.2.2) Q) hs (fun v16 hs => ?_)
      refine AW.istore_n (L' := [some (.ref (b)), some (.int (p1)), some (.int (v16)), some (.int (a.2.1))]) (z := 2) (am_r 40 rfl) rfl (Nat.le_of_ble_eq_true rfl) rfl ?_
      refine AW.iinc (v := a.2.1 + (1 : Int32)) (L' := [some (.ref (b)), some (.int (p1)), some (.int (v16)), some (.int (a.2.1 + (1 : Int32)))]) (am_r 41 rfl) rfl (Nat.le_of_ble_eq_true rfl) rfl (congrArg (fun z => a.2.1 + z) ci_1) rfl ?_
      refine AW.goto (tg := 36) (am_r 42 rfl) rfl ?_
      have hr := (Option.some.inj hs).symm
      exact hc (v16, a.2.1 + (1 : Int32), a.2.2) hr 
noncomputable def sX10_objectsWith_j23 (S : Mem) (p1 : Int32) (y0 : Int32) : Option (Int32 × Mem) :=
  olet (sX10_throwsIf S y0 (1 : Int32)) fun r5 =>
  if r5.1 = 0 then
    sX10_objectsWith_l36  p1 ((0 : Int32), (0 : Int32), r5.2)
  else
    some (((0 : Int32), r5.2))
set_option maxRecDepth 100000 in
theorem dX10_objectsWith_j23 {g : AG} {h0 : AH} {b : Nat} {S : Mem} {Q : AO → AH → Prop} {p1 : Int32} {y0 : Int32} (hA : gB g ≤ b)  (hk0 : y0 = 0 ∨ y0 = 1) {r : (Int32 × Mem)} (hs : sX10_objectsWith_j23 S p1 y0 = some r) (hQ : Q (.ok (some (.int r.1))) (mb h0 b r.2)) : AW g MX10_objectsWith 23 [some (.ref (b)), some (.int (p1)), none, none] [(.int (y0)), (.ref (b))] (mb h0 b S) Q := by
  unfold sX10_objectsWith_j23 at hs
  refine AW.iconst (am_r 13 rfl) rfl ci_1 ?_
  refine AW.callV (N := MX10_throwsIf) (As := [.int (y0), .int ((1 : Int32))]) (S := []) (L0 := [some (.ref (b)), some (.int (y0)), some (.int ((1 : Int32)))]) (b := b) (am_r 14 rfl) rfl ovX10_throwsIf q1607 rfl rfl mb_ob rfl rfl rfl rfl (dX10_throwsIf hA hk0 rfl (fun hok6 => (cQ_r ?_)))
  refine olet_e (P := fun (y : (Int32 × Mem)) => (y.1 = 0 ∨ y.1 = 1) → AW g MX10_objectsWith 27 [some (.ref (b)), some (.int (p1)), none, none] [(.int (y.1))] (mb h0 b y.2) Q) hs (fun r5 hs hok6 => ?_) hok6
  refine AW.if_eq (tg := 32) (am_r 15 rfl) rfl rfl (fun hc7 => ?_) (fun hc7 => ?_)
  · replace hs := (if_pos hc7).symm.trans hs
    refine AW.iconst (am_r 18 rfl) rfl ci_0 ?_
    refine AW.istore_n (L' := [some (.ref (b)), some (.int (p1)), some (.int ((0 : Int32))), none]) (z := 2) (am_r 19 rfl) rfl (Nat.le_of_ble_eq_true rfl) rfl ?_
    refine AW.iconst (am_r 20 rfl) rfl ci_0 ?_
    refine AW.istore_n (L' := [some (.ref (b)), some (.int (p1)), some (.int ((0 : Int32))), some (.int ((0 : Int32)))]) (z := 3) (am_r 21 rfl) rfl (Nat.le_of_ble_eq_true rfl) rfl ?_
    exact dX10_objectsWith_l36 hA   hs hQ
  · replace hs := (if_neg hc7).symm.trans hs
    refine AW.iconst (am_r 16 rfl) rfl ci_0 ?_
    have hr := (Option.some.inj hs).symm
    subst hr
    exact AW.iret (am_r 17 rfl) rfl hQ
noncomputable def sX10_objectsWith (S : Mem) (p1 : Int32) : Option (Int32 × Mem) :=
  olet (si S 100 6 0 ((0 : Int32))) fun S1 =>
  if (sX10_inRange S1 p1.toInt64 (0 : Int64) (6 : Int64)) = 0 then
    sX10_objectsWith_j23 S1 p1 (1 : Int32)
  else
    sX10_objectsWith_j23 S1 p1 (0 : Int32)
set_option maxRecDepth 100000 in
theorem dX10_objectsWith {g : AG} {h0 : AH} {b : Nat} {S : Mem} {Q : AO → AH → Prop} {p1 : Int32} (hA : gB g ≤ b)  {r : (Int32 × Mem)} (hs : sX10_objectsWith S p1 = some r) (hQ : Q (.ok (some (.int r.1))) (mb h0 b r.2)) : AW g MX10_objectsWith 0 [some (.ref (b)), some (.int (p1)), none, none] [] (mb h0 b S) Q := by
  unfold sX10_objectsWith at hs
  refine AW.aload_n (z := 0) (am_r 0 rfl) rfl rfl ?_
  refine AW.iconst (am_r 1 rfl) rfl ci_0 ?_
  refine AW.putO (am_r 2 rfl) rfl klX10 (k := 6) (by omega) q1509 (Or.inl rfl) mb_ob hA rfl rfl (mbp_ob (by decide)) ?_
  refine olet_e (P := fun y => AW g MX10_objectsWith 5 [some (.ref (b)), some (.int (p1)), none, none] [] (mb h0 b y) Q) hs (fun S1 hs => ?_)
  refine AW.aload_n (z := 0) (am_r 3 rfl) rfl rfl ?_
  refine AW.iload_n (z := 1) (am_r 4 rfl) rfl rfl ?_
  refine AW.i2l (am_r 5 rfl) rfl ?_
  refine AW.lconst (z := 0) (am_r 6 rfl) rfl cl_0 ?_
  refine AW.ldc2 (v := (6)) (am_r 7 rfl) rfl q1819 ?_
  refine AW.callS (N := MX10_inRange) (As := [.long (p1.toInt64), .long ((0 : Int64)), .long ((6 : Int64))]) (S := [(.ref (b))]) (L0 := [some (.long (p1.toInt64)), none, some (.long ((0 : Int64))), none, some (.long ((6 : Int64))), none]) (am_r 8 rfl) rfl osX10_inRange q1592 rfl rfl rfl rfl rfl (dX10_inRange hA  rfl (fun hok3 => (cQ_r ?_)))
  refine AW.if_ne (tg := 22) (am_r 9 rfl) rfl rfl (fun hc4 => ?_) (fun hc4 => ?_)
  · replace hs := (if_neg hc4).symm.trans hs
    refine AW.iconst (am_r 12 rfl) rfl ci_0 ?_
    exact dX10_objectsWith_j23 hA  (Or.inl rfl) hs hQ
  · replace hs := (if_pos hc4).symm.trans hs
    refine AW.iconst (am_r 10 rfl) rfl ci_1 ?_
    refine AW.goto (tg := 23) (am_r 11 rfl) rfl ?_
    exact dX10_objectsWith_j23 hA  (Or.inr rfl) hs hQ
noncomputable def sX10_next (S : Mem)  : Option (Int32 × Mem) :=
  olet (si S 100 6 0 ((0 : Int32))) fun S1 =>
  obind (sX10_nextObject S1 ) fun r2 =>
  some ((r2, S1))
set_option maxRecDepth 100000 in
theorem dX10_next {g : AG} {h0 : AH} {b : Nat} {S : Mem} {Q : AO → AH → Prop}  (hA : gB g ≤ b)  {r : (Int32 × Mem)} (hs : sX10_next S  = some r) (hQ : Q (.ok (some (.int r.1))) (mb h0 b r.2)) : AW g MX10_next 0 [some (.ref (b))] [] (mb h0 b S) Q := by
  unfold sX10_next at hs
  refine AW.aload_n (z := 0) (am_r 0 rfl) rfl rfl ?_
  refine AW.iconst (am_r 1 rfl) rfl ci_0 ?_
  refine AW.putO (am_r 2 rfl) rfl klX10 (k := 6) (by omega) q1509 (Or.inl rfl) mb_ob hA rfl rfl (mbp_ob (by decide)) ?_
  refine olet_e (P := fun y => AW g MX10_next 5 [some (.ref (b))] [] (mb h0 b y) Q) hs (fun S1 hs => ?_)
  refine AW.aload_n (z := 0) (am_r 3 rfl) rfl rfl ?_
  refine obind_e hs (fun r2 hg4 hs => ?_)
  refine AW.callV (N := MX10_nextObject) (As := []) (S := []) (L0 := [some (.ref (b)), none, none]) (b := b) (am_r 4 rfl) rfl ovX10_nextObject q1768 rfl rfl mb_ob rfl rfl rfl rfl (dX10_nextObject hA  hg4 (cQ_r ?_))
  have hr := (Option.some.inj hs).symm
  subst hr
  exact AW.iret (am_r 5 rfl) rfl hQ
noncomputable def sX10_needsApproval_j27 (S : Mem) (p1 : Int32) (p2 : Int32) (y0 : Int32) : Option (Int32 × Mem) :=
  olet (sX10_throwsIf S y0 (1 : Int32)) fun r5 =>
  if r5.1 = 0 then
    obind (sX10_isApprovable r5.2 p1 p2) fun r8 =>
    if r8 = 0 then
      some (((0 : Int32), r5.2))
    else
      some (((1 : Int32), r5.2))
  else
    some (((0 : Int32), r5.2))
set_option maxRecDepth 100000 in
theorem dX10_needsApproval_j27 {g : AG} {h0 : AH} {b : Nat} {S : Mem} {Q : AO → AH → Prop} {p1 : Int32} {p2 : Int32} {y0 : Int32} (hA : gB g ≤ b)  (hk0 : y0 = 0 ∨ y0 = 1) {r : (Int32 × Mem)} (hs : sX10_needsApproval_j27 S p1 p2 y0 = some r) (hQ : (r.1 = 0 ∨ r.1 = 1) → Q (.ok (some (.int r.1))) (mb h0 b r.2)) : AW g MX10_needsApproval 27 [some (.ref (b)), some (.int (p1)), some (.int (p2))] [(.int (y0)), (.ref (b))] (mb h0 b S) Q := by
  unfold sX10_needsApproval_j27 at hs
  refine AW.iconst (am_r 15 rfl) rfl ci_1 ?_
  refine AW.callV (N := MX10_throwsIf) (As := [.int (y0), .int ((1 : Int32))]) (S := []) (L0 := [some (.ref (b)), some (.int (y0)), some (.int ((1 : Int32)))]) (b := b) (am_r 16 rfl) rfl ovX10_throwsIf q1607 rfl rfl mb_ob rfl rfl rfl rfl (dX10_throwsIf hA hk0 rfl (fun hok6 => (cQ_r ?_)))
  refine olet_e (P := fun (y : (Int32 × Mem)) => (y.1 = 0 ∨ y.1 = 1) → AW g MX10_needsApproval 31 [some (.ref (b)), some (.int (p1)), some (.int (p2))] [(.int (y.1))] (mb h0 b y.2) Q) hs (fun r5 hs hok6 => ?_) hok6
  refine AW.if_ne (tg := 47) (am_r 17 rfl) rfl rfl (fun hc7 => ?_) (fun hc7 => ?_)
  · replace hs := (if_neg hc7).symm.trans hs
    refine AW.iconst (am_r 25 rfl) rfl ci_0 ?_
    have hr := (Option.some.inj hs).symm
    subst hr
    exact AW.zret (am_r 26 rfl) rfl (Or.inl rfl) (hQ (Or.inl rfl))
  · replace hs := (if_pos hc7).symm.trans hs
    refine AW.aload_n (z := 0) (am_r 18 rfl) rfl rfl ?_
    refine AW.iload_n (z := 1) (am_r 19 rfl) rfl rfl ?_
    refine AW.iload_n (z := 2) (am_r 20 rfl) rfl rfl ?_
    refine obind_e hs (fun r8 hg10 hs => ?_)
    refine AW.callV (N := MX10_isApprovable) (As := [.int (p1), .int (p2)]) (S := []) (L0 := [some (.ref (b)), some (.int (p1)), some (.int (p2))]) (b := b) (am_r 21 rfl) rfl ovX10_isApprovable q1667 rfl rfl mb_ob rfl rfl rfl rfl (dX10_isApprovable hA  hg10 (fun hok9 => (cQ_r ?_)))
    refine AW.if_eq (tg := 47) (am_r 22 rfl) rfl rfl (fun hc11 => ?_) (fun hc11 => ?_)
    · replace hs := (if_pos hc11).symm.trans hs
      refine AW.iconst (am_r 25 rfl) rfl ci_0 ?_
      have hr := (Option.some.inj hs).symm
      subst hr
      exact AW.zret (am_r 26 rfl) rfl (Or.inl rfl) (hQ (Or.inl rfl))
    · replace hs := (if_neg hc11).symm.trans hs
      refine AW.iconst (am_r 23 rfl) rfl ci_1 ?_
      refine AW.goto (tg := 48) (am_r 24 rfl) rfl ?_
      have hr := (Option.some.inj hs).symm
      subst hr
      exact AW.zret (am_r 26 rfl) rfl (Or.inr rfl) (hQ (Or.inr rfl))
noncomputable def sX10_needsApproval_j22 (S : Mem) (p1 : Int32) (p2 : Int32)  : Option (Int32 × Mem) :=
  sX10_needsApproval_j27 S p1 p2 (1 : Int32)
set_option maxRecDepth 100000 in
theorem dX10_needsApproval_j22 {g : AG} {h0 : AH} {b : Nat} {S : Mem} {Q : AO → AH → Prop} {p1 : Int32} {p2 : Int32}  (hA : gB g ≤ b)   {r : (Int32 × Mem)} (hs : sX10_needsApproval_j22 S p1 p2  = some r) (hQ : (r.1 = 0 ∨ r.1 = 1) → Q (.ok (some (.int r.1))) (mb h0 b r.2)) : AW g MX10_needsApproval 22 [some (.ref (b)), some (.int (p1)), some (.int (p2))] [(.ref (b))] (mb h0 b S) Q := by
  unfold sX10_needsApproval_j22 at hs
  refine AW.iconst (am_r 12 rfl) rfl ci_1 ?_
  refine AW.goto (tg := 27) (am_r 13 rfl) rfl ?_
  exact dX10_needsApproval_j27 hA  (Or.inr rfl) hs hQ
noncomputable def sX10_needsApproval (S : Mem) (p1 : Int32) (p2 : Int32) : Option (Int32 × Mem) :=
  olet (si S 100 6 0 ((0 : Int32))) fun S1 =>
  if (sX10_isObject S1 p1) = 0 then
    sX10_needsApproval_j22 S1 p1 p2 
  else
    if (sX10_isRecipe S1 p2) = 0 then
      sX10_needsApproval_j22 S1 p1 p2 
    else
      sX10_needsApproval_j27 S1 p1 p2 (0 : Int32)
set_option maxRecDepth 100000 in
theorem dX10_needsApproval {g : AG} {h0 : AH} {b : Nat} {S : Mem} {Q : AO → AH → Prop} {p1 : Int32} {p2 : Int32} (hA : gB g ≤ b)  {r : (Int32 × Mem)} (hs : sX10_needsApproval S p1 p2 = some r) (hQ : (r.1 = 0 ∨ r.1 = 1) → Q (.ok (some (.int r.1))) (mb h0 b r.2)) : AW g MX10_needsApproval 0 [some (.ref (b)), some (.int (p1)), some (.int (p2))] [] (mb h0 b S) Q := by
  unfold sX10_needsApproval at hs
  refine AW.aload_n (z := 0) (am_r 0 rfl) rfl rfl ?_
  refine AW.iconst (am_r 1 rfl) rfl ci_0 ?_
  refine AW.putO (am_r 2 rfl) rfl klX10 (k := 6) (by omega) q1509 (Or.inl rfl) mb_ob hA rfl rfl (mbp_ob (by decide)) ?_
  refine olet_e (P := fun y => AW g MX10_needsApproval 5 [some (.ref (b)), some (.int (p1)), some (.int (p2))] [] (mb h0 b y) Q) hs (fun S1 hs => ?_)
  refine AW.aload_n (z := 0) (am_r 3 rfl) rfl rfl ?_
  refine AW.aload_n (z := 0) (am_r 4 rfl) rfl rfl ?_
  refine AW.iload_n (z := 1) (am_r 5 rfl) rfl rfl ?_
  refine AW.callV (N := MX10_isObject) (As := [.int (p1)]) (S := [(.ref (b))]) (L0 := [some (.ref (b)), some (.int (p1))]) (b := b) (am_r 6 rfl) rfl ovX10_isObject q1603 rfl rfl mb_ob rfl rfl rfl rfl (dX10_isObject hA  rfl (fun hok3 => (cQ_r ?_)))
  refine AW.if_eq (tg := 22) (am_r 7 rfl) rfl rfl (fun hc4 => ?_) (fun hc4 => ?_)
  · replace hs := (if_pos hc4).symm.trans hs
    exact dX10_needsApproval_j22 hA   hs hQ
  · replace hs := (if_neg hc4).symm.trans hs
    refine AW.aload_n (z := 0) (am_r 8 rfl) rfl rfl ?_
    refine AW.iload_n (z := 2) (am_r 9 rfl) rfl rfl ?_
    refine AW.callV (N := MX10_isRecipe) (As := [.int (p2)]) (S := [(.ref (b))]) (L0 := [some (.ref (b)), some (.int (p2))]) (b := b) (am_r 10 rfl) rfl ovX10_isRecipe q1639 rfl rfl mb_ob rfl rfl rfl rfl (dX10_isRecipe hA  rfl (fun hok13 => (cQ_r ?_)))
    refine AW.if_ne (tg := 26) (am_r 11 rfl) rfl rfl (fun hc14 => ?_) (fun hc14 => ?_)
    · replace hs := (if_neg hc14).symm.trans hs
      refine AW.iconst (am_r 14 rfl) rfl ci_0 ?_
      exact dX10_needsApproval_j27 hA  (Or.inl rfl) hs hQ
    · replace hs := (if_pos hc14).symm.trans hs
      exact dX10_needsApproval_j22 hA   hs hQ
noncomputable def sX10_approvalsAhead_l32_step  (p1 : Int32) (a : (Int32 × Int32 × Mem)) : Option ((Int32 × Int32 × Mem) ⊕ (Int32 × Mem)) :=
  obind (sX10_of a.2.2 p1 (3 : Int32)) fun r8 =>
  if r8 ≤ a.2.1 then
    oinr (
    some ((a.1, a.2.2)))
  else
    obind (sX10_of a.2.2 p1 ((13 : Int32) + a.2.1)) fun r14 =>
    obind (sX10_isApprovable a.2.2 p1 r14) fun r17 =>
    if r17 = 0 then
      olet (a.1 + (0 : Int32)) fun v21 =>
      some (.inl (v21, a.2.1 + (1 : Int32), a.2.2))
    else
      olet (a.1 + (1 : Int32)) fun v22 =>
      some (.inl (v22, a.2.1 + (1 : Int32), a.2.2))
noncomputable def sX10_approvalsAhead_l32  (p1 : Int32) (a : (Int32 × Int32 × Mem)) : Option (Int32 × Mem) := itw (sX10_approvalsAhead_l32_step  p1) a
set_option maxRecDepth 100000 in
theorem dX10_approvalsAhead_l32 {g : AG} {h0 : AH} {b : Nat} {Q : AO → AH → Prop} {p1 : Int32} (hA : gB g ≤ b)  {a : (Int32 × Int32 × Mem)}  {r : (Int32 × Mem)} (hs : sX10_approvalsAhead_l32  p1 a = some r) (hQ : Q (.ok (some (.int r.1))) (mb h0 b r.2)) : AW g MX10_approvalsAhead 32 [some (.ref (b)), some (.int (p1)), some (.int (a.1)), some (.int (a.2.1))] [] (mb h0 b a.2.2) Q := by
  refine itw_e (P := fun a => AW g MX10_approvalsAhead 32 [some (.ref (b)), some (.int (p1)), some (.int (a.1)), some (.int (a.2.1))] [] (mb h0 b a.2.2) Q) (Post := fun r => Q (.ok (some (.int r.1))) (mb h0 b r.2)) (fun a r hs hc he  => ?_) hs hQ 
  unfold sX10_approvalsAhead_l32_step at hs
  refine AW.iload_n (z := 3) (am_r 20 rfl) rfl rfl ?_
  refine AW.aload_n (z := 0) (am_r 21 rfl) rfl rfl ?_
  refine AW.iload_n (z := 1) (am_r 22 rfl) rfl rfl ?_
  refine AW.iconst (am_r 23 rfl) rfl ci_3 ?_
  refine obind_e hs (fun r8 hg10 hs => ?_)
  refine AW.callV (N := MX10_of) (As := [.int (p1), .int ((3 : Int32))]) (S := [(.int (a.2.1))]) (L0 := [some (.ref (b)), some (.int (p1)), some (.int ((3 : Int32)))]) (b := b) (am_r 24 rfl) rfl ovX10_of q1615 rfl rfl mb_ob rfl rfl rfl rfl (dX10_of hA  hg10 (cQ_r ?_))
  refine AW.icmp_ge (tg := 73) (am_r 25 rfl) rfl rfl (fun hc11 => ?_) (fun hc11 => ?_)
  · replace hs := (if_pos hc11).symm.trans hs
    refine oinr_e hs (fun z12 hz13 hs => ?_)
    have hQ := he _ hz13
    refine AW.iload_n (z := 2) (am_r 44 rfl) rfl rfl ?_
    have hr := (Option.some.inj hs).symm
    subst hr
    exact AW.iret (am_r 45 rfl) rfl hQ
  · replace hs := (if_neg hc11).symm.trans hs
    refine AW.iload_n (z := 2) (am_r 26 rfl) rfl rfl ?_
    refine AW.aload_n (z := 0) (am_r 27 rfl) rfl rfl ?_
    refine AW.iload_n (z := 1) (am_r 28 rfl) rfl rfl ?_
    refine AW.aload_n (z := 0) (am_r 29 rfl) rfl rfl ?_
    refine AW.iload_n (z := 1) (am_r 30 rfl) rfl rfl ?_
    refine AW.bipush (am_r 31 rfl) rfl cb_13 ?_
    refine AW.iload_n (z := 3) (am_r 32 rfl) rfl rfl ?_
    refine AW.iadd (am_r 33 rfl) rfl ?_
    refine obind_e hs (fun r14 hg16 hs => ?_)
    refine AW.callV (N := MX10_of) (As := [.int (p1), .int ((13 : Int32) + a.2.1)]) (S := [(.int (p1)), (.ref (b)), (.int (a.1))]) (L0 := [some (.ref (b)), some (.int (p1)), some (.int ((13 : Int32) + a.2.1))]) (b := b) (am_r 34 rfl) rfl ovX10_of q1615 rfl rfl mb_ob rfl rfl rfl rfl (dX10_of hA  hg16 (cQ_r ?_))
    refine obind_e hs (fun r17 hg19 hs => ?_)
    refine AW.callV (N := MX10_isApprovable) (As := [.int (p1), .int (r14)]) (S := [(.int (a.1))]) (L0 := [some (.ref (b)), some (.int (p1)), some (.int (r14))]) (b := b) (am_r 35 rfl) rfl ovX10_isApprovable q1667 rfl rfl mb_ob rfl rfl rfl rfl (dX10_isApprovable hA  hg19 (fun hok18 => (cQ_r ?_)))
    refine AW.if_eq (tg := 64) (am_r 36 rfl) rfl rfl (fun hc20 => ?_) (fun hc20 => ?_)
    · replace hs := (if_pos hc20).symm.trans hs
      refine AW.iconst (am_r 39 rfl) rfl ci_0 ?_
      refine AW.iadd (am_r 40 rfl) rfl ?_
      refine olet_e (P := fun y => AW g MX10_approvalsAhead 66 [some (.ref (b)), some (.int (p1)), some (.int (a.1)), some (.int (a.2.1))] [(.int (y))] (mb h0 b a.2.2) Q) hs (fun v21 hs => ?_)
      refine AW.istore_n (L' := [some (.ref (b)), some (.int (p1)), some (.int (v21)), some (.int (a.2.1))]) (z := 2) (am_r 41 rfl) rfl (Nat.le_of_ble_eq_true rfl) rfl ?_
      refine AW.iinc (v := a.2.1 + (1 : Int32)) (L' := [some (.ref (b)), some (.int (p1)), some (.int (v21)), some (.int (a.2.1 + (1 : Int32)))]) (am_r 42 rfl) rfl (Nat.le_of_ble_eq_true rfl) rfl (congrArg (fun z => a.2.1 + z) ci_1) rfl ?_
      refine AW.goto (tg := 32) (am_r 43 rfl) rfl ?_
      have hr := (Option.some.inj hs).symm
      exact hc (v21, a.2.1 + (1 : Int32), a.2.2) hr 
    · replace hs := (if_neg hc20).symm.trans hs
      refine AW.iconst (am_r 37 rfl) rfl ci_1 ?_
      refine AW.goto (tg := 65) (am_r 38 rfl) rfl ?_
      refine AW.iadd (am_r 40 rfl) rfl ?_
      refine olet_e (P := fun y => AW g MX10_approvalsAhead 66 [some (.ref (b)), some (.int (p1)), some (.int (a.1)), some (.int (a.2.1))] [(.int (y))] (mb h0 b a.2.2) Q) hs (fun v22 hs => ?_)
      refine AW.istore_n (L' := [some (.ref (b)), some (.int (p1)), some (.int (v22)), some (.int (a.2.1))]) (z := 2) (am_r 41 rfl) rfl (Nat.le_of_ble_eq_true rfl) rfl ?_
      refine AW.iinc (v := a.2.1 + (1 : Int32)) (L' := [some (.ref (b)), some (.int (p1)), some (.int (v22)), some (.int (a.2.1 + (1 : Int32)))]) (am_r 42 rfl) rfl (Nat.le_of_ble_eq_true rfl) rfl (congrArg (fun z => a.2.1 + z) ci_1) rfl ?_
      refine AW.goto (tg := 32) (am_r 43 rfl) rfl ?_
      have hr := (Option.some.inj hs).symm
      exact hc (v22, a.2.1 + (1 : Int32), a.2.2) hr 
noncomputable def sX10_approvalsAhead_j19 (S : Mem) (p1 : Int32) (y0 : Int32) : Option (Int32 × Mem) :=
  olet (sX10_throwsIf S y0 (1 : Int32)) fun r5 =>
  if r5.1 = 0 then
    sX10_approvalsAhead_l32  p1 ((0 : Int32), (0 : Int32), r5.2)
  else
    some (((0 : Int32), r5.2))
set_option maxRecDepth 100000 in
theorem dX10_approvalsAhead_j19 {g : AG} {h0 : AH} {b : Nat} {S : Mem} {Q : AO → AH → Prop} {p1 : Int32} {y0 : Int32} (hA : gB g ≤ b)  (hk0 : y0 = 0 ∨ y0 = 1) {r : (Int32 × Mem)} (hs : sX10_approvalsAhead_j19 S p1 y0 = some r) (hQ : Q (.ok (some (.int r.1))) (mb h0 b r.2)) : AW g MX10_approvalsAhead 19 [some (.ref (b)), some (.int (p1)), none, none] [(.int (y0)), (.ref (b))] (mb h0 b S) Q := by
  unfold sX10_approvalsAhead_j19 at hs
  refine AW.iconst (am_r 11 rfl) rfl ci_1 ?_
  refine AW.callV (N := MX10_throwsIf) (As := [.int (y0), .int ((1 : Int32))]) (S := []) (L0 := [some (.ref (b)), some (.int (y0)), some (.int ((1 : Int32)))]) (b := b) (am_r 12 rfl) rfl ovX10_throwsIf q1607 rfl rfl mb_ob rfl rfl rfl rfl (dX10_throwsIf hA hk0 rfl (fun hok6 => (cQ_r ?_)))
  refine olet_e (P := fun (y : (Int32 × Mem)) => (y.1 = 0 ∨ y.1 = 1) → AW g MX10_approvalsAhead 23 [some (.ref (b)), some (.int (p1)), none, none] [(.int (y.1))] (mb h0 b y.2) Q) hs (fun r5 hs hok6 => ?_) hok6
  refine AW.if_eq (tg := 28) (am_r 13 rfl) rfl rfl (fun hc7 => ?_) (fun hc7 => ?_)
  · replace hs := (if_pos hc7).symm.trans hs
    refine AW.iconst (am_r 16 rfl) rfl ci_0 ?_
    refine AW.istore_n (L' := [some (.ref (b)), some (.int (p1)), some (.int ((0 : Int32))), none]) (z := 2) (am_r 17 rfl) rfl (Nat.le_of_ble_eq_true rfl) rfl ?_
    refine AW.iconst (am_r 18 rfl) rfl ci_0 ?_
    refine AW.istore_n (L' := [some (.ref (b)), some (.int (p1)), some (.int ((0 : Int32))), some (.int ((0 : Int32)))]) (z := 3) (am_r 19 rfl) rfl (Nat.le_of_ble_eq_true rfl) rfl ?_
    exact dX10_approvalsAhead_l32 hA   hs hQ
  · replace hs := (if_neg hc7).symm.trans hs
    refine AW.iconst (am_r 14 rfl) rfl ci_0 ?_
    have hr := (Option.some.inj hs).symm
    subst hr
    exact AW.iret (am_r 15 rfl) rfl hQ
noncomputable def sX10_approvalsAhead (S : Mem) (p1 : Int32) : Option (Int32 × Mem) :=
  olet (si S 100 6 0 ((0 : Int32))) fun S1 =>
  if (sX10_isObject S1 p1) = 0 then
    sX10_approvalsAhead_j19 S1 p1 (1 : Int32)
  else
    sX10_approvalsAhead_j19 S1 p1 (0 : Int32)
set_option maxRecDepth 100000 in
theorem dX10_approvalsAhead {g : AG} {h0 : AH} {b : Nat} {S : Mem} {Q : AO → AH → Prop} {p1 : Int32} (hA : gB g ≤ b)  {r : (Int32 × Mem)} (hs : sX10_approvalsAhead S p1 = some r) (hQ : Q (.ok (some (.int r.1))) (mb h0 b r.2)) : AW g MX10_approvalsAhead 0 [some (.ref (b)), some (.int (p1)), none, none] [] (mb h0 b S) Q := by
  unfold sX10_approvalsAhead at hs
  refine AW.aload_n (z := 0) (am_r 0 rfl) rfl rfl ?_
  refine AW.iconst (am_r 1 rfl) rfl ci_0 ?_
  refine AW.putO (am_r 2 rfl) rfl klX10 (k := 6) (by omega) q1509 (Or.inl rfl) mb_ob hA rfl rfl (mbp_ob (by decide)) ?_
  refine olet_e (P := fun y => AW g MX10_approvalsAhead 5 [some (.ref (b)), some (.int (p1)), none, none] [] (mb h0 b y) Q) hs (fun S1 hs => ?_)
  refine AW.aload_n (z := 0) (am_r 3 rfl) rfl rfl ?_
  refine AW.aload_n (z := 0) (am_r 4 rfl) rfl rfl ?_
  refine AW.iload_n (z := 1) (am_r 5 rfl) rfl rfl ?_
  refine AW.callV (N := MX10_isObject) (As := [.int (p1)]) (S := [(.ref (b))]) (L0 := [some (.ref (b)), some (.int (p1))]) (b := b) (am_r 6 rfl) rfl ovX10_isObject q1603 rfl rfl mb_ob rfl rfl rfl rfl (dX10_isObject hA  rfl (fun hok3 => (cQ_r ?_)))
  refine AW.if_ne (tg := 18) (am_r 7 rfl) rfl rfl (fun hc4 => ?_) (fun hc4 => ?_)
  · replace hs := (if_neg hc4).symm.trans hs
    refine AW.iconst (am_r 10 rfl) rfl ci_0 ?_
    exact dX10_approvalsAhead_j19 hA  (Or.inl rfl) hs hQ
  · replace hs := (if_pos hc4).symm.trans hs
    refine AW.iconst (am_r 8 rfl) rfl ci_1 ?_
    refine AW.goto (tg := 19) (am_r 9 rfl) rfl ?_
    exact dX10_approvalsAhead_j19 hA  (Or.inr rfl) hs hQ
noncomputable def sX10_pressFor_j19 (S : Mem) (p1 : Int32) (y0 : Int32) : Option (Int32 × Mem) :=
  olet (sX10_throwsIf S y0 (1 : Int32)) fun r5 =>
  if r5.1 = 0 then
    obind (sX10_bestPress r5.2 p1 (0 : Int32)) fun r8 =>
    some ((r8, r5.2))
  else
    some (((0 : Int32), r5.2))
set_option maxRecDepth 100000 in
theorem dX10_pressFor_j19 {g : AG} {h0 : AH} {b : Nat} {S : Mem} {Q : AO → AH → Prop} {p1 : Int32} {y0 : Int32} (hA : gB g ≤ b)  (hk0 : y0 = 0 ∨ y0 = 1) {r : (Int32 × Mem)} (hs : sX10_pressFor_j19 S p1 y0 = some r) (hQ : Q (.ok (some (.int r.1))) (mb h0 b r.2)) : AW g MX10_pressFor 19 [some (.ref (b)), some (.int (p1))] [(.int (y0)), (.ref (b))] (mb h0 b S) Q := by
  unfold sX10_pressFor_j19 at hs
  refine AW.iconst (am_r 11 rfl) rfl ci_1 ?_
  refine AW.callV (N := MX10_throwsIf) (As := [.int (y0), .int ((1 : Int32))]) (S := []) (L0 := [some (.ref (b)), some (.int (y0)), some (.int ((1 : Int32)))]) (b := b) (am_r 12 rfl) rfl ovX10_throwsIf q1607 rfl rfl mb_ob rfl rfl rfl rfl (dX10_throwsIf hA hk0 rfl (fun hok6 => (cQ_r ?_)))
  refine olet_e (P := fun (y : (Int32 × Mem)) => (y.1 = 0 ∨ y.1 = 1) → AW g MX10_pressFor 23 [some (.ref (b)), some (.int (p1))] [(.int (y.1))] (mb h0 b y.2) Q) hs (fun r5 hs hok6 => ?_) hok6
  refine AW.if_eq (tg := 30) (am_r 13 rfl) rfl rfl (fun hc7 => ?_) (fun hc7 => ?_)
  · replace hs := (if_pos hc7).symm.trans hs
    refine AW.aload_n (z := 0) (am_r 16 rfl) rfl rfl ?_
    refine AW.iload_n (z := 1) (am_r 17 rfl) rfl rfl ?_
    refine AW.iconst (am_r 18 rfl) rfl ci_0 ?_
    refine obind_e hs (fun r8 hg10 hs => ?_)
    refine AW.callV (N := MX10_bestPress) (As := [.int (p1), .int ((0 : Int32))]) (S := []) (L0 := [some (.ref (b)), some (.int (p1)), some (.int ((0 : Int32))), none, none]) (b := b) (am_r 19 rfl) rfl ovX10_bestPress q1752 rfl rfl mb_ob rfl rfl rfl rfl (dX10_bestPress hA  hg10 (cQ_r ?_))
    have hr := (Option.some.inj hs).symm
    subst hr
    exact AW.iret (am_r 20 rfl) rfl hQ
  · replace hs := (if_neg hc7).symm.trans hs
    refine AW.iconst (am_r 14 rfl) rfl ci_0 ?_
    refine AW.goto (tg := 36) (am_r 15 rfl) rfl ?_
    have hr := (Option.some.inj hs).symm
    subst hr
    exact AW.iret (am_r 20 rfl) rfl hQ
noncomputable def sX10_pressFor (S : Mem) (p1 : Int32) : Option (Int32 × Mem) :=
  olet (si S 100 6 0 ((0 : Int32))) fun S1 =>
  if (sX10_isObject S1 p1) = 0 then
    sX10_pressFor_j19 S1 p1 (1 : Int32)
  else
    sX10_pressFor_j19 S1 p1 (0 : Int32)
set_option maxRecDepth 100000 in
theorem dX10_pressFor {g : AG} {h0 : AH} {b : Nat} {S : Mem} {Q : AO → AH → Prop} {p1 : Int32} (hA : gB g ≤ b)  {r : (Int32 × Mem)} (hs : sX10_pressFor S p1 = some r) (hQ : Q (.ok (some (.int r.1))) (mb h0 b r.2)) : AW g MX10_pressFor 0 [some (.ref (b)), some (.int (p1))] [] (mb h0 b S) Q := by
  unfold sX10_pressFor at hs
  refine AW.aload_n (z := 0) (am_r 0 rfl) rfl rfl ?_
  refine AW.iconst (am_r 1 rfl) rfl ci_0 ?_
  refine AW.putO (am_r 2 rfl) rfl klX10 (k := 6) (by omega) q1509 (Or.inl rfl) mb_ob hA rfl rfl (mbp_ob (by decide)) ?_
  refine olet_e (P := fun y => AW g MX10_pressFor 5 [some (.ref (b)), some (.int (p1))] [] (mb h0 b y) Q) hs (fun S1 hs => ?_)
  refine AW.aload_n (z := 0) (am_r 3 rfl) rfl rfl ?_
  refine AW.aload_n (z := 0) (am_r 4 rfl) rfl rfl ?_
  refine AW.iload_n (z := 1) (am_r 5 rfl) rfl rfl ?_
  refine AW.callV (N := MX10_isObject) (As := [.int (p1)]) (S := [(.ref (b))]) (L0 := [some (.ref (b)), some (.int (p1))]) (b := b) (am_r 6 rfl) rfl ovX10_isObject q1603 rfl rfl mb_ob rfl rfl rfl rfl (dX10_isObject hA  rfl (fun hok3 => (cQ_r ?_)))
  refine AW.if_ne (tg := 18) (am_r 7 rfl) rfl rfl (fun hc4 => ?_) (fun hc4 => ?_)
  · replace hs := (if_neg hc4).symm.trans hs
    refine AW.iconst (am_r 10 rfl) rfl ci_0 ?_
    exact dX10_pressFor_j19 hA  (Or.inl rfl) hs hQ
  · replace hs := (if_pos hc4).symm.trans hs
    refine AW.iconst (am_r 8 rfl) rfl ci_1 ?_
    refine AW.goto (tg := 19) (am_r 9 rfl) rfl ?_
    exact dX10_pressFor_j19 hA  (Or.inr rfl) hs hQ
noncomputable def sX10_scoreAfter_j27 (S : Mem) (p1 : Int32) (p2 : Int32) (y0 : Int32) : Option (Int32 × Mem) :=
  olet (sX10_throwsIf S y0 (1 : Int32)) fun r5 =>
  if r5.1 = 0 then
    obind (sX10_of r5.2 p1 (0 : Int32)) fun r8 =>
    obind (sX10_behind r5.2 r8 p2) fun r11 =>
    some ((r11, r5.2))
  else
    some (((0 : Int32), r5.2))
set_option maxRecDepth 100000 in
theorem dX10_scoreAfter_j27 {g : AG} {h0 : AH} {b : Nat} {S : Mem} {Q : AO → AH → Prop} {p1 : Int32} {p2 : Int32} {y0 : Int32} (hA : gB g ≤ b)  (hk0 : y0 = 0 ∨ y0 = 1) {r : (Int32 × Mem)} (hs : sX10_scoreAfter_j27 S p1 p2 y0 = some r) (hQ : Q (.ok (some (.int r.1))) (mb h0 b r.2)) : AW g MX10_scoreAfter 27 [some (.ref (b)), some (.int (p1)), some (.int (p2))] [(.int (y0)), (.ref (b))] (mb h0 b S) Q := by
  unfold sX10_scoreAfter_j27 at hs
  refine AW.iconst (am_r 15 rfl) rfl ci_1 ?_
  refine AW.callV (N := MX10_throwsIf) (As := [.int (y0), .int ((1 : Int32))]) (S := []) (L0 := [some (.ref (b)), some (.int (y0)), some (.int ((1 : Int32)))]) (b := b) (am_r 16 rfl) rfl ovX10_throwsIf q1607 rfl rfl mb_ob rfl rfl rfl rfl (dX10_throwsIf hA hk0 rfl (fun hok6 => (cQ_r ?_)))
  refine olet_e (P := fun (y : (Int32 × Mem)) => (y.1 = 0 ∨ y.1 = 1) → AW g MX10_scoreAfter 31 [some (.ref (b)), some (.int (p1)), some (.int (p2))] [(.int (y.1))] (mb h0 b y.2) Q) hs (fun r5 hs hok6 => ?_) hok6
  refine AW.if_eq (tg := 38) (am_r 17 rfl) rfl rfl (fun hc7 => ?_) (fun hc7 => ?_)
  · replace hs := (if_pos hc7).symm.trans hs
    refine AW.aload_n (z := 0) (am_r 20 rfl) rfl rfl ?_
    refine AW.aload_n (z := 0) (am_r 21 rfl) rfl rfl ?_
    refine AW.iload_n (z := 1) (am_r 22 rfl) rfl rfl ?_
    refine AW.iconst (am_r 23 rfl) rfl ci_0 ?_
    refine obind_e hs (fun r8 hg10 hs => ?_)
    refine AW.callV (N := MX10_of) (As := [.int (p1), .int ((0 : Int32))]) (S := [(.ref (b))]) (L0 := [some (.ref (b)), some (.int (p1)), some (.int ((0 : Int32)))]) (b := b) (am_r 24 rfl) rfl ovX10_of q1615 rfl rfl mb_ob rfl rfl rfl rfl (dX10_of hA  hg10 (cQ_r ?_))
    refine AW.iload_n (z := 2) (am_r 25 rfl) rfl rfl ?_
    refine obind_e hs (fun r11 hg13 hs => ?_)
    refine AW.callV (N := MX10_behind) (As := [.int (r8), .int (p2)]) (S := []) (L0 := [some (.ref (b)), some (.int (r8)), some (.int (p2))]) (b := b) (am_r 26 rfl) rfl ovX10_behind q1725 rfl rfl mb_ob rfl rfl rfl rfl (dX10_behind hA  hg13 (cQ_r ?_))
    have hr := (Option.some.inj hs).symm
    subst hr
    exact AW.iret (am_r 27 rfl) rfl hQ
  · replace hs := (if_neg hc7).symm.trans hs
    refine AW.iconst (am_r 18 rfl) rfl ci_0 ?_
    refine AW.goto (tg := 49) (am_r 19 rfl) rfl ?_
    have hr := (Option.some.inj hs).symm
    subst hr
    exact AW.iret (am_r 27 rfl) rfl hQ
noncomputable def sX10_scoreAfter_j22 (S : Mem) (p1 : Int32) (p2 : Int32)  : Option (Int32 × Mem) :=
  sX10_scoreAfter_j27 S p1 p2 (1 : Int32)
set_option maxRecDepth 100000 in
theorem dX10_scoreAfter_j22 {g : AG} {h0 : AH} {b : Nat} {S : Mem} {Q : AO → AH → Prop} {p1 : Int32} {p2 : Int32}  (hA : gB g ≤ b)   {r : (Int32 × Mem)} (hs : sX10_scoreAfter_j22 S p1 p2  = some r) (hQ : Q (.ok (some (.int r.1))) (mb h0 b r.2)) : AW g MX10_scoreAfter 22 [some (.ref (b)), some (.int (p1)), some (.int (p2))] [(.ref (b))] (mb h0 b S) Q := by
  unfold sX10_scoreAfter_j22 at hs
  refine AW.iconst (am_r 12 rfl) rfl ci_1 ?_
  refine AW.goto (tg := 27) (am_r 13 rfl) rfl ?_
  exact dX10_scoreAfter_j27 hA  (Or.inr rfl) hs hQ
noncomputable def sX10_scoreAfter (S : Mem) (p1 : Int32) (p2 : Int32) : Option (Int32 × Mem) :=
  olet (si S 100 6 0 ((0 : Int32))) fun S1 =>
  if (sX10_isObject S1 p1) = 0 then
    sX10_scoreAfter_j22 S1 p1 p2 
  else
    if (sX10_isRecipe S1 p2) = 0 then
      sX10_scoreAfter_j22 S1 p1 p2 
    else
      sX10_scoreAfter_j27 S1 p1 p2 (0 : Int32)
set_option maxRecDepth 100000 in
theorem dX10_scoreAfter {g : AG} {h0 : AH} {b : Nat} {S : Mem} {Q : AO → AH → Prop} {p1 : Int32} {p2 : Int32} (hA : gB g ≤ b)  {r : (Int32 × Mem)} (hs : sX10_scoreAfter S p1 p2 = some r) (hQ : Q (.ok (some (.int r.1))) (mb h0 b r.2)) : AW g MX10_scoreAfter 0 [some (.ref (b)), some (.int (p1)), some (.int (p2))] [] (mb h0 b S) Q := by
  unfold sX10_scoreAfter at hs
  refine AW.aload_n (z := 0) (am_r 0 rfl) rfl rfl ?_
  refine AW.iconst (am_r 1 rfl) rfl ci_0 ?_
  refine AW.putO (am_r 2 rfl) rfl klX10 (k := 6) (by omega) q1509 (Or.inl rfl) mb_ob hA rfl rfl (mbp_ob (by decide)) ?_
  refine olet_e (P := fun y => AW g MX10_scoreAfter 5 [some (.ref (b)), some (.int (p1)), some (.int (p2))] [] (mb h0 b y) Q) hs (fun S1 hs => ?_)
  refine AW.aload_n (z := 0) (am_r 3 rfl) rfl rfl ?_
  refine AW.aload_n (z := 0) (am_r 4 rfl) rfl rfl ?_
  refine AW.iload_n (z := 1) (am_r 5 rfl) rfl rfl ?_
  refine AW.callV (N := MX10_isObject) (As := [.int (p1)]) (S := [(.ref (b))]) (L0 := [some (.ref (b)), some (.int (p1))]) (b := b) (am_r 6 rfl) rfl ovX10_isObject q1603 rfl rfl mb_ob rfl rfl rfl rfl (dX10_isObject hA  rfl (fun hok3 => (cQ_r ?_)))
  refine AW.if_eq (tg := 22) (am_r 7 rfl) rfl rfl (fun hc4 => ?_) (fun hc4 => ?_)
  · replace hs := (if_pos hc4).symm.trans hs
    exact dX10_scoreAfter_j22 hA   hs hQ
  · replace hs := (if_neg hc4).symm.trans hs
    refine AW.aload_n (z := 0) (am_r 8 rfl) rfl rfl ?_
    refine AW.iload_n (z := 2) (am_r 9 rfl) rfl rfl ?_
    refine AW.callV (N := MX10_isRecipe) (As := [.int (p2)]) (S := [(.ref (b))]) (L0 := [some (.ref (b)), some (.int (p2))]) (b := b) (am_r 10 rfl) rfl ovX10_isRecipe q1639 rfl rfl mb_ob rfl rfl rfl rfl (dX10_isRecipe hA  rfl (fun hok15 => (cQ_r ?_)))
    refine AW.if_ne (tg := 26) (am_r 11 rfl) rfl rfl (fun hc16 => ?_) (fun hc16 => ?_)
    · replace hs := (if_neg hc16).symm.trans hs
      refine AW.iconst (am_r 14 rfl) rfl ci_0 ?_
      exact dX10_scoreAfter_j27 hA  (Or.inl rfl) hs hQ
    · replace hs := (if_pos hc16).symm.trans hs
      exact dX10_scoreAfter_j22 hA   hs hQ
noncomputable def sX10_scoreAhead_l37_step  (p1 : Int32) (a : (Int32 × Int32 × Mem)) : Option ((Int32 × Int32 × Mem) ⊕ (Int32 × Mem)) :=
  obind (sX10_of a.2.2 p1 (3 : Int32)) fun r11 =>
  if r11 ≤ a.2.1 then
    oinr (
    some ((a.1, a.2.2)))
  else
    obind (sX10_of a.2.2 p1 ((13 : Int32) + a.2.1)) fun r17 =>
    obind (sX10_behind a.2.2 a.1 r17) fun r20 =>
    some (.inl (r20, a.2.1 + (1 : Int32), a.2.2))
noncomputable def sX10_scoreAhead_l37  (p1 : Int32) (a : (Int32 × Int32 × Mem)) : Option (Int32 × Mem) := itw (sX10_scoreAhead_l37_step  p1) a
set_option maxRecDepth 100000 in
theorem dX10_scoreAhead_l37 {g : AG} {h0 : AH} {b : Nat} {Q : AO → AH → Prop} {p1 : Int32} (hA : gB g ≤ b)  {a : (Int32 × Int32 × Mem)}  {r : (Int32 × Mem)} (hs : sX10_scoreAhead_l37  p1 a = some r) (hQ : Q (.ok (some (.int r.1))) (mb h0 b r.2)) : AW g MX10_scoreAhead 37 [some (.ref (b)), some (.int (p1)), some (.int (a.1)), some (.int (a.2.1))] [] (mb h0 b a.2.2) Q := by
  refine itw_e (P := fun a => AW g MX10_scoreAhead 37 [some (.ref (b)), some (.int (p1)), some (.int (a.1)), some (.int (a.2.1))] [] (mb h0 b a.2.2) Q) (Post := fun r => Q (.ok (some (.int r.1))) (mb h0 b r.2)) (fun a r hs hc he  => ?_) hs hQ 
  unfold sX10_scoreAhead_l37_step at hs
  refine AW.iload_n (z := 3) (am_r 23 rfl) rfl rfl ?_
  refine AW.aload_n (z := 0) (am_r 24 rfl) rfl rfl ?_
  refine AW.iload_n (z := 1) (am_r 25 rfl) rfl rfl ?_
  refine AW.iconst (am_r 26 rfl) rfl ci_3 ?_
  refine obind_e hs (fun r11 hg13 hs => ?_)
  refine AW.callV (N := MX10_of) (As := [.int (p1), .int ((3 : Int32))]) (S := [(.int (a.2.1))]) (L0 := [some (.ref (b)), some (.int (p1)), some (.int ((3 : Int32)))]) (b := b) (am_r 27 rfl) rfl ovX10_of q1615 rfl rfl mb_ob rfl rfl rfl rfl (dX10_of hA  hg13 (cQ_r ?_))
  refine AW.icmp_ge (tg := 68) (am_r 28 rfl) rfl rfl (fun hc14 => ?_) (fun hc14 => ?_)
  · replace hs := (if_pos hc14).symm.trans hs
    refine oinr_e hs (fun z15 hz16 hs => ?_)
    have hQ := he _ hz16
    refine AW.iload_n (z := 2) (am_r 41 rfl) rfl rfl ?_
    have hr := (Option.some.inj hs).symm
    subst hr
    exact AW.iret (am_r 42 rfl) rfl hQ
  · replace hs := (if_neg hc14).symm.trans hs
    refine AW.aload_n (z := 0) (am_r 29 rfl) rfl rfl ?_
    refine AW.iload_n (z := 2) (am_r 30 rfl) rfl rfl ?_
    refine AW.aload_n (z := 0) (am_r 31 rfl) rfl rfl ?_
    refine AW.iload_n (z := 1) (am_r 32 rfl) rfl rfl ?_
    refine AW.bipush (am_r 33 rfl) rfl cb_13 ?_
    refine AW.iload_n (z := 3) (am_r 34 rfl) rfl rfl ?_
    refine AW.iadd (am_r 35 rfl) rfl ?_
    refine obind_e hs (fun r17 hg19 hs => ?_)
    refine AW.callV (N := MX10_of) (As := [.int (p1), .int ((13 : Int32) + a.2.1)]) (S := [(.int (a.1)), (.ref (b))]) (L0 := [some (.ref (b)), some (.int (p1)), some (.int ((13 : Int32) + a.2.1))]) (b := b) (am_r 36 rfl) rfl ovX10_of q1615 rfl rfl mb_ob rfl rfl rfl rfl (dX10_of hA  hg19 (cQ_r ?_))
    refine obind_e hs (fun r20 hg22 hs => ?_)
    refine AW.callV (N := MX10_behind) (As := [.int (a.1), .int (r17)]) (S := []) (L0 := [some (.ref (b)), some (.int (a.1)), some (.int (r17))]) (b := b) (am_r 37 rfl) rfl ovX10_behind q1725 rfl rfl mb_ob rfl rfl rfl rfl (dX10_behind hA  hg22 (cQ_r ?_))
    refine AW.istore_n (L' := [some (.ref (b)), some (.int (p1)), some (.int (r20)), some (.int (a.2.1))]) (z := 2) (am_r 38 rfl) rfl (Nat.le_of_ble_eq_true rfl) rfl ?_
    refine AW.iinc (v := a.2.1 + (1 : Int32)) (L' := [some (.ref (b)), some (.int (p1)), some (.int (r20)), some (.int (a.2.1 + (1 : Int32)))]) (am_r 39 rfl) rfl (Nat.le_of_ble_eq_true rfl) rfl (congrArg (fun z => a.2.1 + z) ci_1) rfl ?_
    refine AW.goto (tg := 37) (am_r 40 rfl) rfl ?_
    have hr := (Option.some.inj hs).symm
    exact hc (r20, a.2.1 + (1 : Int32), a.2.2) hr 
noncomputable def sX10_scoreAhead_j19 (S : Mem) (p1 : Int32) (y0 : Int32) : Option (Int32 × Mem) :=
  olet (sX10_throwsIf S y0 (1 : Int32)) fun r5 =>
  if r5.1 = 0 then
    obind (sX10_of r5.2 p1 (0 : Int32)) fun r8 =>
    sX10_scoreAhead_l37  p1 (r8, (0 : Int32), r5.2)
  else
    some (((0 : Int32), r5.2))
set_option maxRecDepth 100000 in
theorem dX10_scoreAhead_j19 {g : AG} {h0 : AH} {b : Nat} {S : Mem} {Q : AO → AH → Prop} {p1 : Int32} {y0 : Int32} (hA : gB g ≤ b)  (hk0 : y0 = 0 ∨ y0 = 1) {r : (Int32 × Mem)} (hs : sX10_scoreAhead_j19 S p1 y0 = some r) (hQ : Q (.ok (some (.int r.1))) (mb h0 b r.2)) : AW g MX10_scoreAhead 19 [some (.ref (b)), some (.int (p1)), none, none] [(.int (y0)), (.ref (b))] (mb h0 b S) Q := by
  unfold sX10_scoreAhead_j19 at hs
  refine AW.iconst (am_r 11 rfl) rfl ci_1 ?_
  refine AW.callV (N := MX10_throwsIf) (As := [.int (y0), .int ((1 : Int32))]) (S := []) (L0 := [some (.ref (b)), some (.int (y0)), some (.int ((1 : Int32)))]) (b := b) (am_r 12 rfl) rfl ovX10_throwsIf q1607 rfl rfl mb_ob rfl rfl rfl rfl (dX10_throwsIf hA hk0 rfl (fun hok6 => (cQ_r ?_)))
  refine olet_e (P := fun (y : (Int32 × Mem)) => (y.1 = 0 ∨ y.1 = 1) → AW g MX10_scoreAhead 23 [some (.ref (b)), some (.int (p1)), none, none] [(.int (y.1))] (mb h0 b y.2) Q) hs (fun r5 hs hok6 => ?_) hok6
  refine AW.if_eq (tg := 28) (am_r 13 rfl) rfl rfl (fun hc7 => ?_) (fun hc7 => ?_)
  · replace hs := (if_pos hc7).symm.trans hs
    refine AW.aload_n (z := 0) (am_r 16 rfl) rfl rfl ?_
    refine AW.iload_n (z := 1) (am_r 17 rfl) rfl rfl ?_
    refine AW.iconst (am_r 18 rfl) rfl ci_0 ?_
    refine obind_e hs (fun r8 hg10 hs => ?_)
    refine AW.callV (N := MX10_of) (As := [.int (p1), .int ((0 : Int32))]) (S := []) (L0 := [some (.ref (b)), some (.int (p1)), some (.int ((0 : Int32)))]) (b := b) (am_r 19 rfl) rfl ovX10_of q1615 rfl rfl mb_ob rfl rfl rfl rfl (dX10_of hA  hg10 (cQ_r ?_))
    refine AW.istore_n (L' := [some (.ref (b)), some (.int (p1)), some (.int (r8)), none]) (z := 2) (am_r 20 rfl) rfl (Nat.le_of_ble_eq_true rfl) rfl ?_
    refine AW.iconst (am_r 21 rfl) rfl ci_0 ?_
    refine AW.istore_n (L' := [some (.ref (b)), some (.int (p1)), some (.int (r8)), some (.int ((0 : Int32)))]) (z := 3) (am_r 22 rfl) rfl (Nat.le_of_ble_eq_true rfl) rfl ?_
    exact dX10_scoreAhead_l37 hA   hs hQ
  · replace hs := (if_neg hc7).symm.trans hs
    refine AW.iconst (am_r 14 rfl) rfl ci_0 ?_
    have hr := (Option.some.inj hs).symm
    subst hr
    exact AW.iret (am_r 15 rfl) rfl hQ
noncomputable def sX10_scoreAhead (S : Mem) (p1 : Int32) : Option (Int32 × Mem) :=
  olet (si S 100 6 0 ((0 : Int32))) fun S1 =>
  if (sX10_isObject S1 p1) = 0 then
    sX10_scoreAhead_j19 S1 p1 (1 : Int32)
  else
    sX10_scoreAhead_j19 S1 p1 (0 : Int32)
set_option maxRecDepth 100000 in
theorem dX10_scoreAhead {g : AG} {h0 : AH} {b : Nat} {S : Mem} {Q : AO → AH → Prop} {p1 : Int32} (hA : gB g ≤ b)  {r : (Int32 × Mem)} (hs : sX10_scoreAhead S p1 = some r) (hQ : Q (.ok (some (.int r.1))) (mb h0 b r.2)) : AW g MX10_scoreAhead 0 [some (.ref (b)), some (.int (p1)), none, none] [] (mb h0 b S) Q := by
  unfold sX10_scoreAhead at hs
  refine AW.aload_n (z := 0) (am_r 0 rfl) rfl rfl ?_
  refine AW.iconst (am_r 1 rfl) rfl ci_0 ?_
  refine AW.putO (am_r 2 rfl) rfl klX10 (k := 6) (by omega) q1509 (Or.inl rfl) mb_ob hA rfl rfl (mbp_ob (by decide)) ?_
  refine olet_e (P := fun y => AW g MX10_scoreAhead 5 [some (.ref (b)), some (.int (p1)), none, none] [] (mb h0 b y) Q) hs (fun S1 hs => ?_)
  refine AW.aload_n (z := 0) (am_r 3 rfl) rfl rfl ?_
  refine AW.aload_n (z := 0) (am_r 4 rfl) rfl rfl ?_
  refine AW.iload_n (z := 1) (am_r 5 rfl) rfl rfl ?_
  refine AW.callV (N := MX10_isObject) (As := [.int (p1)]) (S := [(.ref (b))]) (L0 := [some (.ref (b)), some (.int (p1))]) (b := b) (am_r 6 rfl) rfl ovX10_isObject q1603 rfl rfl mb_ob rfl rfl rfl rfl (dX10_isObject hA  rfl (fun hok3 => (cQ_r ?_)))
  refine AW.if_ne (tg := 18) (am_r 7 rfl) rfl rfl (fun hc4 => ?_) (fun hc4 => ?_)
  · replace hs := (if_neg hc4).symm.trans hs
    refine AW.iconst (am_r 10 rfl) rfl ci_0 ?_
    exact dX10_scoreAhead_j19 hA  (Or.inl rfl) hs hQ
  · replace hs := (if_pos hc4).symm.trans hs
    refine AW.iconst (am_r 8 rfl) rfl ci_1 ?_
    refine AW.goto (tg := 19) (am_r 9 rfl) rfl ?_
    exact dX10_scoreAhead_j19 hA  (Or.inr rfl) hs hQ
noncomputable def sX10_lasting (S : Mem) (p1 : Int32) : Option Int32 :=
  obind (sX10_ofRecipe S p1 (0 : Int32)) fun r1 =>
  obind (sX10_ofRecipe S p1 (1 : Int32)) fun r4 =>
  some (r1 + r4)
set_option maxRecDepth 100000 in
theorem dX10_lasting {g : AG} {h0 : AH} {b : Nat} {S : Mem} {Q : AO → AH → Prop} {p1 : Int32} (hA : gB g ≤ b)  {r : Int32} (hs : sX10_lasting S p1 = some r) (hQ : Q (.ok (some (.int r))) (mb h0 b S)) : AW g MX10_lasting 0 [some (.ref (b)), some (.int (p1))] [] (mb h0 b S) Q := by
  unfold sX10_lasting at hs
  refine AW.aload_n (z := 0) (am_r 0 rfl) rfl rfl ?_
  refine AW.iload_n (z := 1) (am_r 1 rfl) rfl rfl ?_
  refine AW.iconst (am_r 2 rfl) rfl ci_0 ?_
  refine obind_e hs (fun r1 hg3 hs => ?_)
  refine AW.callV (N := MX10_ofRecipe) (As := [.int (p1), .int ((0 : Int32))]) (S := []) (L0 := [some (.ref (b)), some (.int (p1)), some (.int ((0 : Int32)))]) (b := b) (am_r 3 rfl) rfl ovX10_ofRecipe q1671 rfl rfl mb_ob rfl rfl rfl rfl (dX10_ofRecipe hA  hg3 (cQ_r ?_))
  refine AW.aload_n (z := 0) (am_r 4 rfl) rfl rfl ?_
  refine AW.iload_n (z := 1) (am_r 5 rfl) rfl rfl ?_
  refine AW.iconst (am_r 6 rfl) rfl ci_1 ?_
  refine obind_e hs (fun r4 hg6 hs => ?_)
  refine AW.callV (N := MX10_ofRecipe) (As := [.int (p1), .int ((1 : Int32))]) (S := [(.int (r1))]) (L0 := [some (.ref (b)), some (.int (p1)), some (.int ((1 : Int32)))]) (b := b) (am_r 7 rfl) rfl ovX10_ofRecipe q1671 rfl rfl mb_ob rfl rfl rfl rfl (dX10_ofRecipe hA  hg6 (cQ_r ?_))
  refine AW.iadd (am_r 8 rfl) rfl ?_
  have hr := (Option.some.inj hs).symm
  subst hr
  exact AW.iret (am_r 9 rfl) rfl hQ
noncomputable def sX10_leastTo_j219 (S : Mem) (p1 : Int32) (p2 : Int32) (p3 : Int32) (y0 : Int64) (y1 : Int32) (y2 : Int32) (y3 : Int32) (y4 : Int64) : Option ((Int64 × Int32 × Int32 × Mem) ⊕ ((Int64 × Int32 × Mem) ⊕ (Int64 × Mem))) :=
  oif (inb y3 1001) (
  olet (sq S 8 y3.toNatClampNeg (y4)) fun S39 =>
  some (.inl (y0, y1, y2 + (1 : Int32), S39)))
set_option maxRecDepth 100000 in
theorem dX10_leastTo_j219 {g : AG} {h0 : AH} {b : Nat} {S : Mem} {Q : AO → AH → Prop} {p1 : Int32} {p2 : Int32} {p3 : Int32} {y0 : Int64} {y1 : Int32} {y2 : Int32} {y3 : Int32} {y4 : Int64} (hA : gB g ≤ b)   {r : ((Int64 × Int32 × Int32 × Mem) ⊕ ((Int64 × Int32 × Mem) ⊕ (Int64 × Mem)))} (hs : sX10_leastTo_j219 S p1 p2 p3 y0 y1 y2 y3 y4 = some r) (hc : ∀ a : (Int64 × Int32 × Int32 × Mem), r = .inl a → AW g MX10_leastTo 118 [some (.ref (b)), none, some (.int (p2)), some (.int (p3)), some (.long (a.1)), none, some (.int (a.2.1)), some (.int (a.2.2.1)), none, none, none] [] (mb h0 b a.2.2.2) Q) (he : ∀ z : ((Int64 × Int32 × Mem) ⊕ (Int64 × Mem)), r = .inr z → (∀ a : (Int64 × Int32 × Mem), z = .inl a → AW g MX10_leastTo 52 [some (.ref (b)), none, some (.int (p2)), some (.int (p3)), some (.long (a.1)), none, some (.int (a.2.1)), none, none, none, none] [] (mb h0 b a.2.2) Q) ∧ (∀ y : (Int64 × Mem), z = .inr y → Q (.ok (some (.long y.1))) (mb h0 b y.2))) : AW g MX10_leastTo 219 [some (.ref (b)), none, some (.int (p2)), some (.int (p3)), some (.long (y0)), none, some (.int (y1)), some (.int (y2)), some (.int (y3)), some (.long (y4)), none] [] (mb h0 b S) Q := by
  unfold sX10_leastTo_j219 at hs
  refine AW.aload_n (z := 0) (am_r 116 rfl) rfl rfl ?_
  refine AW.getO (am_r 117 rfl) rfl klX10 (k := 8) (by omega) q1511 mb_ob rfl ?_
  refine AW.iload (am_r 118 rfl) rfl rfl ?_
  refine AW.lload (am_r 119 rfl) rfl rfl ?_
  refine oif_g hs (fun hg38 hs => ?_)
  refine AW.last (am_r 120 rfl) rfl mb_a6 (Nat.le_trans hA (by omega)) (vp_of_inb hg38) ?_
  rw [show _ = _ from mbp_a6]
  refine olet_e (P := fun y => AW g MX10_leastTo 228 [some (.ref (b)), none, some (.int (p2)), some (.int (p3)), some (.long (y0)), none, some (.int (y1)), some (.int (y2)), some (.int (y3)), some (.long (y4)), none] [] (mb h0 b y) Q) hs (fun S39 hs => ?_)
  refine AW.iinc (v := y2 + (1 : Int32)) (L' := [some (.ref (b)), none, some (.int (p2)), some (.int (p3)), some (.long (y0)), none, some (.int (y1)), some (.int (y2 + (1 : Int32))), some (.int (y3)), some (.long (y4)), none]) (am_r 121 rfl) rfl (Nat.le_of_ble_eq_true rfl) rfl (congrArg (fun z => y2 + z) ci_1) rfl ?_
  refine AW.goto (tg := 118) (am_r 122 rfl) rfl ?_
  refine AW.lessL (L' := [some (.ref (b)), none, some (.int (p2)), some (.int (p3)), some (.long (y0)), none, some (.int (y1)), some (.int (y2 + (1 : Int32))), none, none, none]) ⟨rfl, rfl, rfl, rfl, rfl, rfl, trivial⟩ ?_
  have hr := (Option.some.inj hs).symm
  exact hc (y0, y1, y2 + (1 : Int32), S39) hr 
noncomputable def sX10_leastTo_j184 (S : Mem) (p1 : Int32) (p2 : Int32) (p3 : Int32) (y0 : Int64) (y1 : Int32) (y2 : Int32) (y3 : Int32) (y4 : Int64) (y5 : Int64) : Option ((Int64 × Int32 × Int32 × Mem) ⊕ ((Int64 × Int32 × Mem) ⊕ (Int64 × Mem))) :=
  if y3 ≤ y1 then
    some (.inl (y0, y1, y2 + (1 : Int32), S))
  else
    oif (inb y3 1001) (
    if (lg_cmp (gq S 8 y3.toNatClampNeg) (0 : Int64)) < 0 then
      sX10_leastTo_j219 S p1 p2 p3 y0 y1 y2 y3 (y5 + y4)
    else
      oif (inb y3 1001) (
      if 0 ≤ (lg_cmp (y5 + y4) (gq S 8 y3.toNatClampNeg)) then
        some (.inl (y0, y1, y2 + (1 : Int32), S))
      else
        sX10_leastTo_j219 S p1 p2 p3 y0 y1 y2 y3 (y5 + y4)))
set_option maxRecDepth 100000 in
theorem dX10_leastTo_j184 {g : AG} {h0 : AH} {b : Nat} {S : Mem} {Q : AO → AH → Prop} {p1 : Int32} {p2 : Int32} {p3 : Int32} {y0 : Int64} {y1 : Int32} {y2 : Int32} {y3 : Int32} {y4 : Int64} {y5 : Int64} (hA : gB g ≤ b)   {r : ((Int64 × Int32 × Int32 × Mem) ⊕ ((Int64 × Int32 × Mem) ⊕ (Int64 × Mem)))} (hs : sX10_leastTo_j184 S p1 p2 p3 y0 y1 y2 y3 y4 y5 = some r) (hc : ∀ a : (Int64 × Int32 × Int32 × Mem), r = .inl a → AW g MX10_leastTo 118 [some (.ref (b)), none, some (.int (p2)), some (.int (p3)), some (.long (a.1)), none, some (.int (a.2.1)), some (.int (a.2.2.1)), none, none, none] [] (mb h0 b a.2.2.2) Q) (he : ∀ z : ((Int64 × Int32 × Mem) ⊕ (Int64 × Mem)), r = .inr z → (∀ a : (Int64 × Int32 × Mem), z = .inl a → AW g MX10_leastTo 52 [some (.ref (b)), none, some (.int (p2)), some (.int (p3)), some (.long (a.1)), none, some (.int (a.2.1)), none, none, none, none] [] (mb h0 b a.2.2) Q) ∧ (∀ y : (Int64 × Mem), z = .inr y → Q (.ok (some (.long y.1))) (mb h0 b y.2))) : AW g MX10_leastTo 184 [some (.ref (b)), none, some (.int (p2)), some (.int (p3)), some (.long (y0)), none, some (.int (y1)), some (.int (y2)), some (.int (y3)), none, none] [(.long (y4)), (.long (y5))] (mb h0 b S) Q := by
  unfold sX10_leastTo_j184 at hs
  refine AW.ladd (am_r 97 rfl) rfl ?_
  refine AW.lstore (L' := [some (.ref (b)), none, some (.int (p2)), some (.int (p3)), some (.long (y0)), none, some (.int (y1)), some (.int (y2)), some (.int (y3)), some (.long (y5 + y4)), none]) (am_r 98 rfl) rfl (Nat.le_of_ble_eq_true rfl) rfl ?_
  refine AW.iload (am_r 99 rfl) rfl rfl ?_
  refine AW.iload (am_r 100 rfl) rfl rfl ?_
  refine AW.icmp_le (tg := 228) (am_r 101 rfl) rfl rfl (fun hc35 => ?_) (fun hc35 => ?_)
  · replace hs := (if_pos hc35).symm.trans hs
    refine AW.iinc (v := y2 + (1 : Int32)) (L' := [some (.ref (b)), none, some (.int (p2)), some (.int (p3)), some (.long (y0)), none, some (.int (y1)), some (.int (y2 + (1 : Int32))), some (.int (y3)), some (.long (y5 + y4)), none]) (am_r 121 rfl) rfl (Nat.le_of_ble_eq_true rfl) rfl (congrArg (fun z => y2 + z) ci_1) rfl ?_
    refine AW.goto (tg := 118) (am_r 122 rfl) rfl ?_
    refine AW.lessL (L' := [some (.ref (b)), none, some (.int (p2)), some (.int (p3)), some (.long (y0)), none, some (.int (y1)), some (.int (y2 + (1 : Int32))), none, none, none]) ⟨rfl, rfl, rfl, rfl, rfl, rfl, trivial⟩ ?_
    have hr := (Option.some.inj hs).symm
    exact hc (y0, y1, y2 + (1 : Int32), S) hr 
  · replace hs := (if_neg hc35).symm.trans hs
    refine AW.aload_n (z := 0) (am_r 102 rfl) rfl rfl ?_
    refine AW.getO (am_r 103 rfl) rfl klX10 (k := 8) (by omega) q1511 mb_ob rfl ?_
    refine AW.iload (am_r 104 rfl) rfl rfl ?_
    refine oif_g hs (fun hg36 hs => ?_)
    refine AW.lald (am_r 105 rfl) rfl mb_a6 (vp_of_inb hg36) rfl ?_
    refine AW.lconst (z := 0) (am_r 106 rfl) rfl cl_0 ?_
    refine AW.lcmp (am_r 107 rfl) rfl ?_
    refine AW.if_lt (tg := 219) (am_r 108 rfl) rfl rfl (fun hc37 => ?_) (fun hc37 => ?_)
    · replace hs := (if_pos hc37).symm.trans hs
      exact dX10_leastTo_j219 hA   hs hc he
    · replace hs := (if_neg hc37).symm.trans hs
      refine AW.lload (am_r 109 rfl) rfl rfl ?_
      refine AW.aload_n (z := 0) (am_r 110 rfl) rfl rfl ?_
      refine AW.getO (am_r 111 rfl) rfl klX10 (k := 8) (by omega) q1511 mb_ob rfl ?_
      refine AW.iload (am_r 112 rfl) rfl rfl ?_
      refine oif_g hs (fun hg40 hs => ?_)
      refine AW.lald (am_r 113 rfl) rfl mb_a6 (vp_of_inb hg40) rfl ?_
      refine AW.lcmp (am_r 114 rfl) rfl ?_
      refine AW.if_ge (tg := 228) (am_r 115 rfl) rfl rfl (fun hc41 => ?_) (fun hc41 => ?_)
      · replace hs := (if_pos hc41).symm.trans hs
        refine AW.iinc (v := y2 + (1 : Int32)) (L' := [some (.ref (b)), none, some (.int (p2)), some (.int (p3)), some (.long (y0)), none, some (.int (y1)), some (.int (y2 + (1 : Int32))), some (.int (y3)), some (.long (y5 + y4)), none]) (am_r 121 rfl) rfl (Nat.le_of_ble_eq_true rfl) rfl (congrArg (fun z => y2 + z) ci_1) rfl ?_
        refine AW.goto (tg := 118) (am_r 122 rfl) rfl ?_
        refine AW.lessL (L' := [some (.ref (b)), none, some (.int (p2)), some (.int (p3)), some (.long (y0)), none, some (.int (y1)), some (.int (y2 + (1 : Int32))), none, none, none]) ⟨rfl, rfl, rfl, rfl, rfl, rfl, trivial⟩ ?_
        have hr := (Option.some.inj hs).symm
        exact hc (y0, y1, y2 + (1 : Int32), S) hr 
      · replace hs := (if_neg hc41).symm.trans hs
        exact dX10_leastTo_j219 hA   hs hc he
noncomputable def sX10_leastTo_l118_step  (p1 : Int32) (p2 : Int32) (p3 : Int32) (a : (Int64 × Int32 × Int32 × Mem)) : Option ((Int64 × Int32 × Int32 × Mem) ⊕ ((Int64 × Int32 × Mem) ⊕ (Int64 × Mem))) :=
  if (gi a.2.2.2 5 (3 : Int32).toNatClampNeg 0) ≤ a.2.2.1 then
    oinr (
    some (.inl (a.1, a.2.1 + (1 : Int32), a.2.2.2)))
  else
    if p2 ≤ a.2.1 then
      oinr (
      some (.inl (a.1, a.2.1 + (1 : Int32), a.2.2.2)))
    else
      obind (sX10_behind a.2.2.2 a.2.1 a.2.2.1) fun r24 =>
      oif (inb a.2.1 1001) (
      if p3 = 0 then
        obind (sX10_ofRecipe a.2.2.2 a.2.2.1 (0 : Int32)) fun r29 =>
        obind (sX10_ofRecipe a.2.2.2 a.2.2.1 (6 : Int32)) fun r32 =>
        sX10_leastTo_j184 a.2.2.2 p1 p2 p3 a.1 a.2.1 a.2.2.1 r24 (r29.toInt64 * r32.toInt64) (gq a.2.2.2 8 a.2.1.toNatClampNeg)
      else
        obind (sX10_lasting a.2.2.2 a.2.2.1) fun r42 =>
        sX10_leastTo_j184 a.2.2.2 p1 p2 p3 a.1 a.2.1 a.2.2.1 r24 r42.toInt64 (gq a.2.2.2 8 a.2.1.toNatClampNeg))
noncomputable def sX10_leastTo_l118  (p1 : Int32) (p2 : Int32) (p3 : Int32) (a : (Int64 × Int32 × Int32 × Mem)) : Option ((Int64 × Int32 × Mem) ⊕ (Int64 × Mem)) := itw (sX10_leastTo_l118_step  p1 p2 p3) a
set_option maxRecDepth 100000 in
theorem dX10_leastTo_l118 {g : AG} {h0 : AH} {b : Nat} {Q : AO → AH → Prop} {p1 : Int32} {p2 : Int32} {p3 : Int32} (hA : gB g ≤ b)  {a : (Int64 × Int32 × Int32 × Mem)}  {r : ((Int64 × Int32 × Mem) ⊕ (Int64 × Mem))} (hs : sX10_leastTo_l118  p1 p2 p3 a = some r) (hc : ∀ a : (Int64 × Int32 × Mem), r = .inl a → AW g MX10_leastTo 52 [some (.ref (b)), none, some (.int (p2)), some (.int (p3)), some (.long (a.1)), none, some (.int (a.2.1)), none, none, none, none] [] (mb h0 b a.2.2) Q) (he : ∀ z : (Int64 × Mem), r = .inr z → Q (.ok (some (.long z.1))) (mb h0 b z.2)) : AW g MX10_leastTo 118 [some (.ref (b)), none, some (.int (p2)), some (.int (p3)), some (.long (a.1)), none, some (.int (a.2.1)), some (.int (a.2.2.1)), none, none, none] [] (mb h0 b a.2.2.2) Q := by
  refine itw_e (P := fun a => AW g MX10_leastTo 118 [some (.ref (b)), none, some (.int (p2)), some (.int (p3)), some (.long (a.1)), none, some (.int (a.2.1)), some (.int (a.2.2.1)), none, none, none] [] (mb h0 b a.2.2.2) Q) (Post := fun r => (∀ a : (Int64 × Int32 × Mem), r = .inl a → AW g MX10_leastTo 52 [some (.ref (b)), none, some (.int (p2)), some (.int (p3)), some (.long (a.1)), none, some (.int (a.2.1)), none, none, none, none] [] (mb h0 b a.2.2) Q) ∧ (∀ z : (Int64 × Mem), r = .inr z → Q (.ok (some (.long z.1))) (mb h0 b z.2))) (fun a r hs hc he  => ?_) hs ⟨hc, he⟩ 
  unfold sX10_leastTo_l118_step at hs
  refine AW.iload (am_r 61 rfl) rfl rfl ?_
  refine AW.aload_n (z := 0) (am_r 62 rfl) rfl rfl ?_
  refine AW.getO (am_r 63 rfl) rfl klX10 (k := 5) (by omega) q1508 mb_ob rfl ?_
  refine AW.iconst (am_r 64 rfl) rfl ci_3 ?_
  refine AW.iald (am_r 65 rfl) rfl mb_a4 (vp_of_inb rfl) rfl ?_
  refine AW.icmp_ge (tg := 234) (am_r 66 rfl) rfl rfl (fun hc18 => ?_) (fun hc18 => ?_)
  · replace hs := (if_pos hc18).symm.trans hs
    refine oinr_e hs (fun z19 hz20 hs => ?_)
    obtain ⟨hc, he⟩ := he _ hz20
    refine AW.iinc (v := a.2.1 + (1 : Int32)) (L' := [some (.ref (b)), none, some (.int (p2)), some (.int (p3)), some (.long (a.1)), none, some (.int (a.2.1 + (1 : Int32))), some (.int (a.2.2.1)), none, none, none]) (am_r 123 rfl) rfl (Nat.le_of_ble_eq_true rfl) rfl (congrArg (fun z => a.2.1 + z) ci_1) rfl ?_
    refine AW.goto (tg := 52) (am_r 124 rfl) rfl ?_
    refine AW.lessL (L' := [some (.ref (b)), none, some (.int (p2)), some (.int (p3)), some (.long (a.1)), none, some (.int (a.2.1 + (1 : Int32))), none, none, none, none]) ⟨rfl, rfl, rfl, rfl, rfl, trivial⟩ ?_
    have hr := (Option.some.inj hs).symm
    exact hc (a.1, a.2.1 + (1 : Int32), a.2.2.2) hr 
  · replace hs := (if_neg hc18).symm.trans hs
    refine AW.iload (am_r 67 rfl) rfl rfl ?_
    refine AW.iload_n (z := 2) (am_r 68 rfl) rfl rfl ?_
    refine AW.icmp_ge (tg := 234) (am_r 69 rfl) rfl rfl (fun hc21 => ?_) (fun hc21 => ?_)
    · replace hs := (if_pos hc21).symm.trans hs
      refine oinr_e hs (fun z22 hz23 hs => ?_)
      obtain ⟨hc, he⟩ := he _ hz23
      refine AW.iinc (v := a.2.1 + (1 : Int32)) (L' := [some (.ref (b)), none, some (.int (p2)), some (.int (p3)), some (.long (a.1)), none, some (.int (a.2.1 + (1 : Int32))), some (.int (a.2.2.1)), none, none, none]) (am_r 123 rfl) rfl (Nat.le_of_ble_eq_true rfl) rfl (congrArg (fun z => a.2.1 + z) ci_1) rfl ?_
      refine AW.goto (tg := 52) (am_r 124 rfl) rfl ?_
      refine AW.lessL (L' := [some (.ref (b)), none, some (.int (p2)), some (.int (p3)), some (.long (a.1)), none, some (.int (a.2.1 + (1 : Int32))), none, none, none, none]) ⟨rfl, rfl, rfl, rfl, rfl, trivial⟩ ?_
      have hr := (Option.some.inj hs).symm
      exact hc (a.1, a.2.1 + (1 : Int32), a.2.2.2) hr 
    · replace hs := (if_neg hc21).symm.trans hs
      refine AW.aload_n (z := 0) (am_r 70 rfl) rfl rfl ?_
      refine AW.iload (am_r 71 rfl) rfl rfl ?_
      refine AW.iload (am_r 72 rfl) rfl rfl ?_
      refine obind_e hs (fun r24 hg26 hs => ?_)
      refine AW.callV (N := MX10_behind) (As := [.int (a.2.1), .int (a.2.2.1)]) (S := []) (L0 := [some (.ref (b)), some (.int (a.2.1)), some (.int (a.2.2.1))]) (b := b) (am_r 73 rfl) rfl ovX10_behind q1725 rfl rfl mb_ob rfl rfl rfl rfl (dX10_behind hA  hg26 (cQ_r ?_))
      refine AW.istore (L' := [some (.ref (b)), none, some (.int (p2)), some (.int (p3)), some (.long (a.1)), none, some (.int (a.2.1)), some (.int (a.2.2.1)), some (.int (r24)), none, none]) (am_r 74 rfl) rfl (Nat.le_of_ble_eq_true rfl) rfl ?_
      refine AW.aload_n (z := 0) (am_r 75 rfl) rfl rfl ?_
      refine AW.getO (am_r 76 rfl) rfl klX10 (k := 8) (by omega) q1511 mb_ob rfl ?_
      refine AW.iload (am_r 77 rfl) rfl rfl ?_
      refine oif_g hs (fun hg27 hs => ?_)
      refine AW.lald (am_r 78 rfl) rfl mb_a6 (vp_of_inb hg27) rfl ?_
      refine AW.iload_n (z := 3) (am_r 79 rfl) rfl rfl ?_
      refine AW.if_eq (tg := 166) (am_r 80 rfl) rfl rfl (fun hc28 => ?_) (fun hc28 => ?_)
      · replace hs := (if_pos hc28).symm.trans hs
        refine AW.aload_n (z := 0) (am_r 86 rfl) rfl rfl ?_
        refine AW.iload (am_r 87 rfl) rfl rfl ?_
        refine AW.iconst (am_r 88 rfl) rfl ci_0 ?_
        refine obind_e hs (fun r29 hg31 hs => ?_)
        refine AW.callV (N := MX10_ofRecipe) (As := [.int (a.2.2.1), .int ((0 : Int32))]) (S := [(.long (gq a.2.2.2 8 a.2.1.toNatClampNeg))]) (L0 := [some (.ref (b)), some (.int (a.2.2.1)), some (.int ((0 : Int32)))]) (b := b) (am_r 89 rfl) rfl ovX10_ofRecipe q1671 rfl rfl mb_ob rfl rfl rfl rfl (dX10_ofRecipe hA  hg31 (cQ_r ?_))
        refine AW.i2l (am_r 90 rfl) rfl ?_
        refine AW.aload_n (z := 0) (am_r 91 rfl) rfl rfl ?_
        refine AW.iload (am_r 92 rfl) rfl rfl ?_
        refine AW.bipush (am_r 93 rfl) rfl cb_6 ?_
        refine obind_e hs (fun r32 hg34 hs => ?_)
        refine AW.callV (N := MX10_ofRecipe) (As := [.int (a.2.2.1), .int ((6 : Int32))]) (S := [(.long (r29.toInt64)), (.long (gq a.2.2.2 8 a.2.1.toNatClampNeg))]) (L0 := [some (.ref (b)), some (.int (a.2.2.1)), some (.int ((6 : Int32)))]) (b := b) (am_r 94 rfl) rfl ovX10_ofRecipe q1671 rfl rfl mb_ob rfl rfl rfl rfl (dX10_ofRecipe hA  hg34 (cQ_r ?_))
        refine AW.i2l (am_r 95 rfl) rfl ?_
        refine AW.lmul (am_r 96 rfl) rfl ?_
        exact dX10_leastTo_j184 hA   hs hc he
      · replace hs := (if_neg hc28).symm.trans hs
        refine AW.aload_n (z := 0) (am_r 81 rfl) rfl rfl ?_
        refine AW.iload (am_r 82 rfl) rfl rfl ?_
        refine obind_e hs (fun r42 hg44 hs => ?_)
        refine AW.callV (N := MX10_lasting) (As := [.int (a.2.2.1)]) (S := [(.long (gq a.2.2.2 8 a.2.1.toNatClampNeg))]) (L0 := [some (.ref (b)), some (.int (a.2.2.1))]) (b := b) (am_r 83 rfl) rfl ovX10_lasting q1882 rfl rfl mb_ob rfl rfl rfl rfl (dX10_lasting hA  hg44 (cQ_r ?_))
        refine AW.i2l (am_r 84 rfl) rfl ?_
        refine AW.goto (tg := 184) (am_r 85 rfl) rfl ?_
        exact dX10_leastTo_j184 hA   hs hc he
noncomputable def sX10_leastTo_j101 (S : Mem) (p1 : Int32) (p2 : Int32) (p3 : Int32) (y0 : Int32) : Option ((Int64 × Int32 × Mem) ⊕ (Int64 × Mem)) :=
  oif (inb y0 1001) (
  olet (gq S 8 y0.toNatClampNeg) fun v47 =>
  sX10_leastTo_l118  p1 p2 p3 (v47, y0, (0 : Int32), S))
set_option maxRecDepth 100000 in
theorem dX10_leastTo_j101 {g : AG} {h0 : AH} {b : Nat} {S : Mem} {Q : AO → AH → Prop} {p1 : Int32} {p2 : Int32} {p3 : Int32} {y0 : Int32} (hA : gB g ≤ b)   {r : ((Int64 × Int32 × Mem) ⊕ (Int64 × Mem))} (hs : sX10_leastTo_j101 S p1 p2 p3 y0 = some r) (hc : ∀ a : (Int64 × Int32 × Mem), r = .inl a → AW g MX10_leastTo 52 [some (.ref (b)), none, some (.int (p2)), some (.int (p3)), some (.long (a.1)), none, some (.int (a.2.1)), none, none, none, none] [] (mb h0 b a.2.2) Q) (he : ∀ z : (Int64 × Mem), r = .inr z → Q (.ok (some (.long z.1))) (mb h0 b z.2)) : AW g MX10_leastTo 101 [some (.ref (b)), none, some (.int (p2)), some (.int (p3)), none, none, some (.int (y0)), none, none, none, none] [] (mb h0 b S) Q := by
  unfold sX10_leastTo_j101 at hs
  refine AW.aload_n (z := 0) (am_r 52 rfl) rfl rfl ?_
  refine AW.getO (am_r 53 rfl) rfl klX10 (k := 8) (by omega) q1511 mb_ob rfl ?_
  refine AW.iload (am_r 54 rfl) rfl rfl ?_
  refine oif_g hs (fun hg46 hs => ?_)
  refine AW.lald (am_r 55 rfl) rfl mb_a6 (vp_of_inb hg46) rfl ?_
  refine AW.goto (tg := 113) (am_r 56 rfl) rfl ?_
  refine olet_e (P := fun y => AW g MX10_leastTo 113 [some (.ref (b)), none, some (.int (p2)), some (.int (p3)), none, none, some (.int (y0)), none, none, none, none] [(.long (y))] (mb h0 b S) Q) hs (fun v47 hs => ?_)
  refine AW.lstore (L' := [some (.ref (b)), none, some (.int (p2)), some (.int (p3)), some (.long (v47)), none, some (.int (y0)), none, none, none, none]) (am_r 58 rfl) rfl (Nat.le_of_ble_eq_true rfl) rfl ?_
  refine AW.iconst (am_r 59 rfl) rfl ci_0 ?_
  refine AW.istore (L' := [some (.ref (b)), none, some (.int (p2)), some (.int (p3)), some (.long (v47)), none, some (.int (y0)), some (.int ((0 : Int32))), none, none, none]) (am_r 60 rfl) rfl (Nat.le_of_ble_eq_true rfl) rfl ?_
  exact dX10_leastTo_l118 hA   hs hc he
noncomputable def sX10_leastTo_l52_step  (p1 : Int32) (p2 : Int32) (p3 : Int32) (a : (Int64 × Int32 × Mem)) : Option ((Int64 × Int32 × Mem) ⊕ (Int64 × Mem)) :=
  if (1000 : Int32) < a.2.1 then
    oinr (
    some ((a.1, a.2.2)))
  else
    oif (inb a.2.1 1001) (
    if 0 ≤ (lg_cmp (gq a.2.2 8 a.2.1.toNatClampNeg) (0 : Int64)) then
      if a.2.1 < p2 then
        sX10_leastTo_l118  p1 p2 p3 (a.1, a.2.1, (0 : Int32), a.2.2)
      else
        if (lg_cmp a.1 (0 : Int64)) < 0 then
          sX10_leastTo_j101 a.2.2 p1 p2 p3 a.2.1
        else
          oif (inb a.2.1 1001) (
          if 0 ≤ (lg_cmp (gq a.2.2 8 a.2.1.toNatClampNeg) a.1) then
            sX10_leastTo_l118  p1 p2 p3 (a.1, a.2.1, (0 : Int32), a.2.2)
          else
            sX10_leastTo_j101 a.2.2 p1 p2 p3 a.2.1)
    else
      some (.inl (a.1, a.2.1 + (1 : Int32), a.2.2)))
noncomputable def sX10_leastTo_l52  (p1 : Int32) (p2 : Int32) (p3 : Int32) (a : (Int64 × Int32 × Mem)) : Option (Int64 × Mem) := itw (sX10_leastTo_l52_step  p1 p2 p3) a
set_option maxRecDepth 100000 in
theorem dX10_leastTo_l52 {g : AG} {h0 : AH} {b : Nat} {Q : AO → AH → Prop} {p1 : Int32} {p2 : Int32} {p3 : Int32} (hA : gB g ≤ b)  {a : (Int64 × Int32 × Mem)}  {r : (Int64 × Mem)} (hs : sX10_leastTo_l52  p1 p2 p3 a = some r) (hQ : Q (.ok (some (.long r.1))) (mb h0 b r.2)) : AW g MX10_leastTo 52 [some (.ref (b)), none, some (.int (p2)), some (.int (p3)), some (.long (a.1)), none, some (.int (a.2.1)), none, none, none, none] [] (mb h0 b a.2.2) Q := by
  refine itw_e (P := fun a => AW g MX10_leastTo 52 [some (.ref (b)), none, some (.int (p2)), some (.int (p3)), some (.long (a.1)), none, some (.int (a.2.1)), none, none, none, none] [] (mb h0 b a.2.2) Q) (Post := fun r => Q (.ok (some (.long r.1))) (mb h0 b r.2)) (fun a r hs hc he  => ?_) hs hQ 
  unfold sX10_leastTo_l52_step at hs
  refine AW.iload (am_r 27 rfl) rfl rfl ?_
  refine AW.sipush (am_r 28 rfl) rfl cs_1000 ?_
  refine AW.icmp_gt (tg := 240) (am_r 29 rfl) rfl rfl (fun hc12 => ?_) (fun hc12 => ?_)
  · replace hs := (if_pos hc12).symm.trans hs
    refine oinr_e hs (fun z13 hz14 hs => ?_)
    have hQ := he _ hz14
    refine AW.lload (am_r 125 rfl) rfl rfl ?_
    have hr := (Option.some.inj hs).symm
    subst hr
    exact AW.lret (am_r 126 rfl) rfl hQ
  · replace hs := (if_neg hc12).symm.trans hs
    refine AW.aload_n (z := 0) (am_r 30 rfl) rfl rfl ?_
    refine AW.getO (am_r 31 rfl) rfl klX10 (k := 8) (by omega) q1511 mb_ob rfl ?_
    refine AW.iload (am_r 32 rfl) rfl rfl ?_
    refine oif_g hs (fun hg15 hs => ?_)
    refine AW.lald (am_r 33 rfl) rfl mb_a6 (vp_of_inb hg15) rfl ?_
    refine AW.lconst (z := 0) (am_r 34 rfl) rfl cl_0 ?_
    refine AW.lcmp (am_r 35 rfl) rfl ?_
    refine AW.if_ge (tg := 75) (am_r 36 rfl) rfl rfl (fun hc16 => ?_) (fun hc16 => ?_)
    · replace hs := (if_pos hc16).symm.trans hs
      refine AW.iload (am_r 38 rfl) rfl rfl ?_
      refine AW.iload_n (z := 2) (am_r 39 rfl) rfl rfl ?_
      refine AW.icmp_lt (tg := 115) (am_r 40 rfl) rfl rfl (fun hc17 => ?_) (fun hc17 => ?_)
      · replace hs := (if_pos hc17).symm.trans hs
        refine AW.iconst (am_r 59 rfl) rfl ci_0 ?_
        refine AW.istore (L' := [some (.ref (b)), none, some (.int (p2)), some (.int (p3)), some (.long (a.1)), none, some (.int (a.2.1)), some (.int ((0 : Int32))), none, none, none]) (am_r 60 rfl) rfl (Nat.le_of_ble_eq_true rfl) rfl ?_
        exact dX10_leastTo_l118 hA   hs hc he
      · replace hs := (if_neg hc17).symm.trans hs
        refine AW.lload (am_r 41 rfl) rfl rfl ?_
        refine AW.lconst (z := 0) (am_r 42 rfl) rfl cl_0 ?_
        refine AW.lcmp (am_r 43 rfl) rfl ?_
        refine AW.if_lt (tg := 101) (am_r 44 rfl) rfl rfl (fun hc45 => ?_) (fun hc45 => ?_)
        · replace hs := (if_pos hc45).symm.trans hs
          refine AW.lessL (L' := [some (.ref (b)), none, some (.int (p2)), some (.int (p3)), none, none, some (.int (a.2.1)), none, none, none, none]) ⟨rfl, rfl, rfl, rfl, trivial⟩ ?_
          exact dX10_leastTo_j101 hA   hs hc he
        · replace hs := (if_neg hc45).symm.trans hs
          refine AW.aload_n (z := 0) (am_r 45 rfl) rfl rfl ?_
          refine AW.getO (am_r 46 rfl) rfl klX10 (k := 8) (by omega) q1511 mb_ob rfl ?_
          refine AW.iload (am_r 47 rfl) rfl rfl ?_
          refine oif_g hs (fun hg48 hs => ?_)
          refine AW.lald (am_r 48 rfl) rfl mb_a6 (vp_of_inb hg48) rfl ?_
          refine AW.lload (am_r 49 rfl) rfl rfl ?_
          refine AW.lcmp (am_r 50 rfl) rfl ?_
          refine AW.if_ge (tg := 111) (am_r 51 rfl) rfl rfl (fun hc49 => ?_) (fun hc49 => ?_)
          · replace hs := (if_pos hc49).symm.trans hs
            refine AW.lload (am_r 57 rfl) rfl rfl ?_
            refine AW.lstore (L' := [some (.ref (b)), none, some (.int (p2)), some (.int (p3)), some (.long (a.1)), none, some (.int (a.2.1)), none, none, none, none]) (am_r 58 rfl) rfl (Nat.le_of_ble_eq_true rfl) rfl ?_
            refine AW.iconst (am_r 59 rfl) rfl ci_0 ?_
            refine AW.istore (L' := [some (.ref (b)), none, some (.int (p2)), some (.int (p3)), some (.long (a.1)), none, some (.int (a.2.1)), some (.int ((0 : Int32))), none, none, none]) (am_r 60 rfl) rfl (Nat.le_of_ble_eq_true rfl) rfl ?_
            exact dX10_leastTo_l118 hA   hs hc he
          · replace hs := (if_neg hc49).symm.trans hs
            refine AW.lessL (L' := [some (.ref (b)), none, some (.int (p2)), some (.int (p3)), none, none, some (.int (a.2.1)), none, none, none, none]) ⟨rfl, rfl, rfl, rfl, trivial⟩ ?_
            exact dX10_leastTo_j101 hA   hs hc he
    · replace hs := (if_neg hc16).symm.trans hs
      refine AW.goto (tg := 234) (am_r 37 rfl) rfl ?_
      refine AW.iinc (v := a.2.1 + (1 : Int32)) (L' := [some (.ref (b)), none, some (.int (p2)), some (.int (p3)), some (.long (a.1)), none, some (.int (a.2.1 + (1 : Int32))), none, none, none, none]) (am_r 123 rfl) rfl (Nat.le_of_ble_eq_true rfl) rfl (congrArg (fun z => a.2.1 + z) ci_1) rfl ?_
      refine AW.goto (tg := 52) (am_r 124 rfl) rfl ?_
      have hr := (Option.some.inj hs).symm
      exact hc (a.1, a.2.1 + (1 : Int32), a.2.2) hr 
noncomputable def sX10_leastTo_l3_step  (p1 : Int32) (p2 : Int32) (p3 : Int32) (a : (Int32 × Mem)) : Option ((Int32 × Mem) ⊕ (Int64 × Mem)) :=
  if (1000 : Int32) < a.1 then
    oinr (
    obind (sX10_of a.2 p1 (0 : Int32)) fun r4 =>
    oif (inb r4 1001) (
    olet (sq a.2 8 r4.toNatClampNeg ((0 : Int64))) fun S8 =>
    obind (sX10_of S8 p1 (0 : Int32)) fun r9 =>
    sX10_leastTo_l52  p1 p2 p3 ((-1 : Int64), r9, S8)))
  else
    oif (inb a.1 1001) (
    olet (sq a.2 8 a.1.toNatClampNeg ((-1 : Int64))) fun S51 =>
    some (.inl (a.1 + (1 : Int32), S51)))
noncomputable def sX10_leastTo_l3  (p1 : Int32) (p2 : Int32) (p3 : Int32) (a : (Int32 × Mem)) : Option (Int64 × Mem) := itw (sX10_leastTo_l3_step  p1 p2 p3) a
set_option maxRecDepth 100000 in
theorem dX10_leastTo_l3 {g : AG} {h0 : AH} {b : Nat} {Q : AO → AH → Prop} {p1 : Int32} {p2 : Int32} {p3 : Int32} (hA : gB g ≤ b)  {a : (Int32 × Mem)}  {r : (Int64 × Mem)} (hs : sX10_leastTo_l3  p1 p2 p3 a = some r) (hQ : Q (.ok (some (.long r.1))) (mb h0 b r.2)) : AW g MX10_leastTo 3 [some (.ref (b)), some (.int (p1)), some (.int (p2)), some (.int (p3)), some (.int (a.1)), none, none, none, none, none, none] [] (mb h0 b a.2) Q := by
  refine itw_e (P := fun a => AW g MX10_leastTo 3 [some (.ref (b)), some (.int (p1)), some (.int (p2)), some (.int (p3)), some (.int (a.1)), none, none, none, none, none, none] [] (mb h0 b a.2) Q) (Post := fun r => Q (.ok (some (.long r.1))) (mb h0 b r.2)) (fun a r hs hc he  => ?_) hs hQ 
  unfold sX10_leastTo_l3_step at hs
  refine AW.iload (am_r 2 rfl) rfl rfl ?_
  refine AW.sipush (am_r 3 rfl) rfl cs_1000 ?_
  refine AW.icmp_gt (tg := 27) (am_r 4 rfl) rfl rfl (fun hc1 => ?_) (fun hc1 => ?_)
  · replace hs := (if_pos hc1).symm.trans hs
    refine oinr_e hs (fun z2 hz3 hs => ?_)
    have hQ := he _ hz3
    refine AW.aload_n (z := 0) (am_r 12 rfl) rfl rfl ?_
    refine AW.getO (am_r 13 rfl) rfl klX10 (k := 8) (by omega) q1511 mb_ob rfl ?_
    refine AW.aload_n (z := 0) (am_r 14 rfl) rfl rfl ?_
    refine AW.iload_n (z := 1) (am_r 15 rfl) rfl rfl ?_
    refine AW.iconst (am_r 16 rfl) rfl ci_0 ?_
    refine obind_e hs (fun r4 hg6 hs => ?_)
    refine AW.callV (N := MX10_of) (As := [.int (p1), .int ((0 : Int32))]) (S := [(.ref (b + 6))]) (L0 := [some (.ref (b)), some (.int (p1)), some (.int ((0 : Int32)))]) (b := b) (am_r 17 rfl) rfl ovX10_of q1615 rfl rfl mb_ob rfl rfl rfl rfl (dX10_of hA  hg6 (cQ_r ?_))
    refine AW.lconst (z := 0) (am_r 18 rfl) rfl cl_0 ?_
    refine oif_g hs (fun hg7 hs => ?_)
    refine AW.last (am_r 19 rfl) rfl mb_a6 (Nat.le_trans hA (by omega)) (vp_of_inb hg7) ?_
    rw [show _ = _ from mbp_a6]
    refine olet_e (P := fun y => AW g MX10_leastTo 39 [some (.ref (b)), some (.int (p1)), some (.int (p2)), some (.int (p3)), some (.int (a.1)), none, none, none, none, none, none] [] (mb h0 b y) Q) hs (fun S8 hs => ?_)
    refine AW.ldc2 (v := (-1)) (am_r 20 rfl) rfl q1881 ?_
    refine AW.lstore (L' := [some (.ref (b)), some (.int (p1)), some (.int (p2)), some (.int (p3)), some (.long ((-1 : Int64))), none, none, none, none, none, none]) (am_r 21 rfl) rfl (Nat.le_of_ble_eq_true rfl) rfl ?_
    refine AW.aload_n (z := 0) (am_r 22 rfl) rfl rfl ?_
    refine AW.iload_n (z := 1) (am_r 23 rfl) rfl rfl ?_
    refine AW.iconst (am_r 24 rfl) rfl ci_0 ?_
    refine obind_e hs (fun r9 hg11 hs => ?_)
    refine AW.callV (N := MX10_of) (As := [.int (p1), .int ((0 : Int32))]) (S := []) (L0 := [some (.ref (b)), some (.int (p1)), some (.int ((0 : Int32)))]) (b := b) (am_r 25 rfl) rfl ovX10_of q1615 rfl rfl mb_ob rfl rfl rfl rfl (dX10_of hA  hg11 (cQ_r ?_))
    refine AW.istore (L' := [some (.ref (b)), some (.int (p1)), some (.int (p2)), some (.int (p3)), some (.long ((-1 : Int64))), none, some (.int (r9)), none, none, none, none]) (am_r 26 rfl) rfl (Nat.le_of_ble_eq_true rfl) rfl ?_
    refine AW.lessL (L' := [some (.ref (b)), none, some (.int (p2)), some (.int (p3)), some (.long ((-1 : Int64))), none, some (.int (r9)), none, none, none, none]) ⟨rfl, rfl, rfl, rfl, rfl, trivial⟩ ?_
    exact dX10_leastTo_l52 hA   hs hQ
  · replace hs := (if_neg hc1).symm.trans hs
    refine AW.aload_n (z := 0) (am_r 5 rfl) rfl rfl ?_
    refine AW.getO (am_r 6 rfl) rfl klX10 (k := 8) (by omega) q1511 mb_ob rfl ?_
    refine AW.iload (am_r 7 rfl) rfl rfl ?_
    refine AW.ldc2 (v := (-1)) (am_r 8 rfl) rfl q1881 ?_
    refine oif_g hs (fun hg50 hs => ?_)
    refine AW.last (am_r 9 rfl) rfl mb_a6 (Nat.le_trans hA (by omega)) (vp_of_inb hg50) ?_
    rw [show _ = _ from mbp_a6]
    refine olet_e (P := fun y => AW g MX10_leastTo 21 [some (.ref (b)), some (.int (p1)), some (.int (p2)), some (.int (p3)), some (.int (a.1)), none, none, none, none, none, none] [] (mb h0 b y) Q) hs (fun S51 hs => ?_)
    refine AW.iinc (v := a.1 + (1 : Int32)) (L' := [some (.ref (b)), some (.int (p1)), some (.int (p2)), some (.int (p3)), some (.int (a.1 + (1 : Int32))), none, none, none, none, none, none]) (am_r 10 rfl) rfl (Nat.le_of_ble_eq_true rfl) rfl (congrArg (fun z => a.1 + z) ci_1) rfl ?_
    refine AW.goto (tg := 3) (am_r 11 rfl) rfl ?_
    have hr := (Option.some.inj hs).symm
    exact hc (a.1 + (1 : Int32), S51) hr 
noncomputable def sX10_leastTo (S : Mem) (p1 : Int32) (p2 : Int32) (p3 : Int32) : Option (Int64 × Mem) :=
  sX10_leastTo_l3  p1 p2 p3 ((0 : Int32), S)
set_option maxRecDepth 100000 in
theorem dX10_leastTo {g : AG} {h0 : AH} {b : Nat} {S : Mem} {Q : AO → AH → Prop} {p1 : Int32} {p2 : Int32} {p3 : Int32} (hA : gB g ≤ b)  {r : (Int64 × Mem)} (hs : sX10_leastTo S p1 p2 p3 = some r) (hQ : Q (.ok (some (.long r.1))) (mb h0 b r.2)) : AW g MX10_leastTo 0 [some (.ref (b)), some (.int (p1)), some (.int (p2)), some (.int (p3)), none, none, none, none, none, none, none] [] (mb h0 b S) Q := by
  unfold sX10_leastTo at hs
  refine AW.iconst (am_r 0 rfl) rfl ci_0 ?_
  refine AW.istore (L' := [some (.ref (b)), some (.int (p1)), some (.int (p2)), some (.int (p3)), some (.int ((0 : Int32))), none, none, none, none, none, none]) (am_r 1 rfl) rfl (Nat.le_of_ble_eq_true rfl) rfl ?_
  exact dX10_leastTo_l3 hA   hs hQ
noncomputable def sX10_quickestTo_j44 (S : Mem) (p1 : Int32) (p2 : Int32) (y0 : Int32) : Option (Int32 × Mem) :=
  olet (sX10_throwsIf S y0 (2 : Int32)) fun r11 =>
  if r11.1 = 0 then
    obind (sX10_leastTo r11.2 p1 p2 (1 : Int32)) fun r14 =>
    some ((r14.1.toInt32, r14.2))
  else
    some (((0 : Int32), r11.2))
set_option maxRecDepth 100000 in
theorem dX10_quickestTo_j44 {g : AG} {h0 : AH} {b : Nat} {S : Mem} {Q : AO → AH → Prop} {p1 : Int32} {p2 : Int32} {y0 : Int32} (hA : gB g ≤ b)  (hk0 : y0 = 0 ∨ y0 = 1) {r : (Int32 × Mem)} (hs : sX10_quickestTo_j44 S p1 p2 y0 = some r) (hQ : Q (.ok (some (.int r.1))) (mb h0 b r.2)) : AW g MX10_quickestTo 44 [some (.ref (b)), some (.int (p1)), some (.int (p2))] [(.int (y0)), (.ref (b))] (mb h0 b S) Q := by
  unfold sX10_quickestTo_j44 at hs
  refine AW.iconst (am_r 24 rfl) rfl ci_2 ?_
  refine AW.callV (N := MX10_throwsIf) (As := [.int (y0), .int ((2 : Int32))]) (S := []) (L0 := [some (.ref (b)), some (.int (y0)), some (.int ((2 : Int32)))]) (b := b) (am_r 25 rfl) rfl ovX10_throwsIf q1607 rfl rfl mb_ob rfl rfl rfl rfl (dX10_throwsIf hA hk0 rfl (fun hok12 => (cQ_r ?_)))
  refine olet_e (P := fun (y : (Int32 × Mem)) => (y.1 = 0 ∨ y.1 = 1) → AW g MX10_quickestTo 48 [some (.ref (b)), some (.int (p1)), some (.int (p2))] [(.int (y.1))] (mb h0 b y.2) Q) hs (fun r11 hs hok12 => ?_) hok12
  refine AW.if_eq (tg := 55) (am_r 26 rfl) rfl rfl (fun hc13 => ?_) (fun hc13 => ?_)
  · replace hs := (if_pos hc13).symm.trans hs
    refine AW.aload_n (z := 0) (am_r 29 rfl) rfl rfl ?_
    refine AW.iload_n (z := 1) (am_r 30 rfl) rfl rfl ?_
    refine AW.iload_n (z := 2) (am_r 31 rfl) rfl rfl ?_
    refine AW.iconst (am_r 32 rfl) rfl ci_1 ?_
    refine obind_e hs (fun r14 hg16 hs => ?_)
    refine AW.callV (N := MX10_leastTo) (As := [.int (p1), .int (p2), .int ((1 : Int32))]) (S := []) (L0 := [some (.ref (b)), some (.int (p1)), some (.int (p2)), some (.int ((1 : Int32))), none, none, none, none, none, none, none]) (b := b) (am_r 33 rfl) rfl ovX10_leastTo q1877 rfl rfl mb_ob rfl rfl rfl rfl (dX10_leastTo hA  hg16 (cQ_r ?_))
    refine AW.l2i (am_r 34 rfl) rfl ?_
    have hr := (Option.some.inj hs).symm
    subst hr
    exact AW.iret (am_r 35 rfl) rfl hQ
  · replace hs := (if_neg hc13).symm.trans hs
    refine AW.iconst (am_r 27 rfl) rfl ci_0 ?_
    refine AW.goto (tg := 63) (am_r 28 rfl) rfl ?_
    have hr := (Option.some.inj hs).symm
    subst hr
    exact AW.iret (am_r 35 rfl) rfl hQ
noncomputable def sX10_quickestTo_j19 (S : Mem) (p1 : Int32) (p2 : Int32) (y0 : Int32) : Option (Int32 × Mem) :=
  olet (sX10_throwsIf S y0 (1 : Int32)) fun r5 =>
  if r5.1 = 0 then
    if (sX10_inRange r5.2 p2.toInt64 (0 : Int64) (1000 : Int64)) = 0 then
      sX10_quickestTo_j44 r5.2 p1 p2 (1 : Int32)
    else
      sX10_quickestTo_j44 r5.2 p1 p2 (0 : Int32)
  else
    some (((0 : Int32), r5.2))
set_option maxRecDepth 100000 in
theorem dX10_quickestTo_j19 {g : AG} {h0 : AH} {b : Nat} {S : Mem} {Q : AO → AH → Prop} {p1 : Int32} {p2 : Int32} {y0 : Int32} (hA : gB g ≤ b)  (hk0 : y0 = 0 ∨ y0 = 1) {r : (Int32 × Mem)} (hs : sX10_quickestTo_j19 S p1 p2 y0 = some r) (hQ : Q (.ok (some (.int r.1))) (mb h0 b r.2)) : AW g MX10_quickestTo 19 [some (.ref (b)), some (.int (p1)), some (.int (p2))] [(.int (y0)), (.ref (b))] (mb h0 b S) Q := by
  unfold sX10_quickestTo_j19 at hs
  refine AW.iconst (am_r 11 rfl) rfl ci_1 ?_
  refine AW.callV (N := MX10_throwsIf) (As := [.int (y0), .int ((1 : Int32))]) (S := []) (L0 := [some (.ref (b)), some (.int (y0)), some (.int ((1 : Int32)))]) (b := b) (am_r 12 rfl) rfl ovX10_throwsIf q1607 rfl rfl mb_ob rfl rfl rfl rfl (dX10_throwsIf hA hk0 rfl (fun hok6 => (cQ_r ?_)))
  refine olet_e (P := fun (y : (Int32 × Mem)) => (y.1 = 0 ∨ y.1 = 1) → AW g MX10_quickestTo 23 [some (.ref (b)), some (.int (p1)), some (.int (p2))] [(.int (y.1))] (mb h0 b y.2) Q) hs (fun r5 hs hok6 => ?_) hok6
  refine AW.if_ne (tg := 51) (am_r 13 rfl) rfl rfl (fun hc7 => ?_) (fun hc7 => ?_)
  · replace hs := (if_neg hc7).symm.trans hs
    refine AW.iconst (am_r 27 rfl) rfl ci_0 ?_
    refine AW.goto (tg := 63) (am_r 28 rfl) rfl ?_
    have hr := (Option.some.inj hs).symm
    subst hr
    exact AW.iret (am_r 35 rfl) rfl hQ
  · replace hs := (if_pos hc7).symm.trans hs
    refine AW.aload_n (z := 0) (am_r 14 rfl) rfl rfl ?_
    refine AW.iload_n (z := 2) (am_r 15 rfl) rfl rfl ?_
    refine AW.i2l (am_r 16 rfl) rfl ?_
    refine AW.lconst (z := 0) (am_r 17 rfl) rfl cl_0 ?_
    refine AW.ldc2 (v := (1000)) (am_r 18 rfl) rfl q1684 ?_
    refine AW.callS (N := MX10_inRange) (As := [.long (p2.toInt64), .long ((0 : Int64)), .long ((1000 : Int64))]) (S := [(.ref (b))]) (L0 := [some (.long (p2.toInt64)), none, some (.long ((0 : Int64))), none, some (.long ((1000 : Int64))), none]) (am_r 19 rfl) rfl osX10_inRange q1592 rfl rfl rfl rfl rfl (dX10_inRange hA  rfl (fun hok9 => (cQ_r ?_)))
    refine AW.if_ne (tg := 43) (am_r 20 rfl) rfl rfl (fun hc10 => ?_) (fun hc10 => ?_)
    · replace hs := (if_neg hc10).symm.trans hs
      refine AW.iconst (am_r 23 rfl) rfl ci_0 ?_
      exact dX10_quickestTo_j44 hA  (Or.inl rfl) hs hQ
    · replace hs := (if_pos hc10).symm.trans hs
      refine AW.iconst (am_r 21 rfl) rfl ci_1 ?_
      refine AW.goto (tg := 44) (am_r 22 rfl) rfl ?_
      exact dX10_quickestTo_j44 hA  (Or.inr rfl) hs hQ
noncomputable def sX10_quickestTo (S : Mem) (p1 : Int32) (p2 : Int32) : Option (Int32 × Mem) :=
  olet (si S 100 6 0 ((0 : Int32))) fun S1 =>
  if (sX10_isObject S1 p1) = 0 then
    sX10_quickestTo_j19 S1 p1 p2 (1 : Int32)
  else
    sX10_quickestTo_j19 S1 p1 p2 (0 : Int32)
set_option maxRecDepth 100000 in
theorem dX10_quickestTo {g : AG} {h0 : AH} {b : Nat} {S : Mem} {Q : AO → AH → Prop} {p1 : Int32} {p2 : Int32} (hA : gB g ≤ b)  {r : (Int32 × Mem)} (hs : sX10_quickestTo S p1 p2 = some r) (hQ : Q (.ok (some (.int r.1))) (mb h0 b r.2)) : AW g MX10_quickestTo 0 [some (.ref (b)), some (.int (p1)), some (.int (p2))] [] (mb h0 b S) Q := by
  unfold sX10_quickestTo at hs
  refine AW.aload_n (z := 0) (am_r 0 rfl) rfl rfl ?_
  refine AW.iconst (am_r 1 rfl) rfl ci_0 ?_
  refine AW.putO (am_r 2 rfl) rfl klX10 (k := 6) (by omega) q1509 (Or.inl rfl) mb_ob hA rfl rfl (mbp_ob (by decide)) ?_
  refine olet_e (P := fun y => AW g MX10_quickestTo 5 [some (.ref (b)), some (.int (p1)), some (.int (p2))] [] (mb h0 b y) Q) hs (fun S1 hs => ?_)
  refine AW.aload_n (z := 0) (am_r 3 rfl) rfl rfl ?_
  refine AW.aload_n (z := 0) (am_r 4 rfl) rfl rfl ?_
  refine AW.iload_n (z := 1) (am_r 5 rfl) rfl rfl ?_
  refine AW.callV (N := MX10_isObject) (As := [.int (p1)]) (S := [(.ref (b))]) (L0 := [some (.ref (b)), some (.int (p1))]) (b := b) (am_r 6 rfl) rfl ovX10_isObject q1603 rfl rfl mb_ob rfl rfl rfl rfl (dX10_isObject hA  rfl (fun hok3 => (cQ_r ?_)))
  refine AW.if_ne (tg := 18) (am_r 7 rfl) rfl rfl (fun hc4 => ?_) (fun hc4 => ?_)
  · replace hs := (if_neg hc4).symm.trans hs
    refine AW.iconst (am_r 10 rfl) rfl ci_0 ?_
    exact dX10_quickestTo_j19 hA  (Or.inl rfl) hs hQ
  · replace hs := (if_pos hc4).symm.trans hs
    refine AW.iconst (am_r 8 rfl) rfl ci_1 ?_
    refine AW.goto (tg := 19) (am_r 9 rfl) rfl ?_
    exact dX10_quickestTo_j19 hA  (Or.inr rfl) hs hQ
noncomputable def sX10_cheapestTo_j44 (S : Mem) (p1 : Int32) (p2 : Int32) (y0 : Int32) : Option (Int64 × Mem) :=
  olet (sX10_throwsIf S y0 (2 : Int32)) fun r11 =>
  if r11.1 = 0 then
    obind (sX10_leastTo r11.2 p1 p2 (0 : Int32)) fun r14 =>
    some ((r14.1, r14.2))
  else
    some (((0 : Int64), r11.2))
set_option maxRecDepth 100000 in
theorem dX10_cheapestTo_j44 {g : AG} {h0 : AH} {b : Nat} {S : Mem} {Q : AO → AH → Prop} {p1 : Int32} {p2 : Int32} {y0 : Int32} (hA : gB g ≤ b)  (hk0 : y0 = 0 ∨ y0 = 1) {r : (Int64 × Mem)} (hs : sX10_cheapestTo_j44 S p1 p2 y0 = some r) (hQ : Q (.ok (some (.long r.1))) (mb h0 b r.2)) : AW g MX10_cheapestTo 44 [some (.ref (b)), some (.int (p1)), some (.int (p2))] [(.int (y0)), (.ref (b))] (mb h0 b S) Q := by
  unfold sX10_cheapestTo_j44 at hs
  refine AW.iconst (am_r 24 rfl) rfl ci_2 ?_
  refine AW.callV (N := MX10_throwsIf) (As := [.int (y0), .int ((2 : Int32))]) (S := []) (L0 := [some (.ref (b)), some (.int (y0)), some (.int ((2 : Int32)))]) (b := b) (am_r 25 rfl) rfl ovX10_throwsIf q1607 rfl rfl mb_ob rfl rfl rfl rfl (dX10_throwsIf hA hk0 rfl (fun hok12 => (cQ_r ?_)))
  refine olet_e (P := fun (y : (Int32 × Mem)) => (y.1 = 0 ∨ y.1 = 1) → AW g MX10_cheapestTo 48 [some (.ref (b)), some (.int (p1)), some (.int (p2))] [(.int (y.1))] (mb h0 b y.2) Q) hs (fun r11 hs hok12 => ?_) hok12
  refine AW.if_eq (tg := 55) (am_r 26 rfl) rfl rfl (fun hc13 => ?_) (fun hc13 => ?_)
  · replace hs := (if_pos hc13).symm.trans hs
    refine AW.aload_n (z := 0) (am_r 29 rfl) rfl rfl ?_
    refine AW.iload_n (z := 1) (am_r 30 rfl) rfl rfl ?_
    refine AW.iload_n (z := 2) (am_r 31 rfl) rfl rfl ?_
    refine AW.iconst (am_r 32 rfl) rfl ci_0 ?_
    refine obind_e hs (fun r14 hg16 hs => ?_)
    refine AW.callV (N := MX10_leastTo) (As := [.int (p1), .int (p2), .int ((0 : Int32))]) (S := []) (L0 := [some (.ref (b)), some (.int (p1)), some (.int (p2)), some (.int ((0 : Int32))), none, none, none, none, none, none, none]) (b := b) (am_r 33 rfl) rfl ovX10_leastTo q1877 rfl rfl mb_ob rfl rfl rfl rfl (dX10_leastTo hA  hg16 (cQ_r ?_))
    have hr := (Option.some.inj hs).symm
    subst hr
    exact AW.lret (am_r 34 rfl) rfl hQ
  · replace hs := (if_neg hc13).symm.trans hs
    refine AW.lconst (z := 0) (am_r 27 rfl) rfl cl_0 ?_
    refine AW.goto (tg := 62) (am_r 28 rfl) rfl ?_
    have hr := (Option.some.inj hs).symm
    subst hr
    exact AW.lret (am_r 34 rfl) rfl hQ
noncomputable def sX10_cheapestTo_j19 (S : Mem) (p1 : Int32) (p2 : Int32) (y0 : Int32) : Option (Int64 × Mem) :=
  olet (sX10_throwsIf S y0 (1 : Int32)) fun r5 =>
  if r5.1 = 0 then
    if (sX10_inRange r5.2 p2.toInt64 (0 : Int64) (1000 : Int64)) = 0 then
      sX10_cheapestTo_j44 r5.2 p1 p2 (1 : Int32)
    else
      sX10_cheapestTo_j44 r5.2 p1 p2 (0 : Int32)
  else
    some (((0 : Int64), r5.2))
set_option maxRecDepth 100000 in
theorem dX10_cheapestTo_j19 {g : AG} {h0 : AH} {b : Nat} {S : Mem} {Q : AO → AH → Prop} {p1 : Int32} {p2 : Int32} {y0 : Int32} (hA : gB g ≤ b)  (hk0 : y0 = 0 ∨ y0 = 1) {r : (Int64 × Mem)} (hs : sX10_cheapestTo_j19 S p1 p2 y0 = some r) (hQ : Q (.ok (some (.long r.1))) (mb h0 b r.2)) : AW g MX10_cheapestTo 19 [some (.ref (b)), some (.int (p1)), some (.int (p2))] [(.int (y0)), (.ref (b))] (mb h0 b S) Q := by
  unfold sX10_cheapestTo_j19 at hs
  refine AW.iconst (am_r 11 rfl) rfl ci_1 ?_
  refine AW.callV (N := MX10_throwsIf) (As := [.int (y0), .int ((1 : Int32))]) (S := []) (L0 := [some (.ref (b)), some (.int (y0)), some (.int ((1 : Int32)))]) (b := b) (am_r 12 rfl) rfl ovX10_throwsIf q1607 rfl rfl mb_ob rfl rfl rfl rfl (dX10_throwsIf hA hk0 rfl (fun hok6 => (cQ_r ?_)))
  refine olet_e (P := fun (y : (Int32 × Mem)) => (y.1 = 0 ∨ y.1 = 1) → AW g MX10_cheapestTo 23 [some (.ref (b)), some (.int (p1)), some (.int (p2))] [(.int (y.1))] (mb h0 b y.2) Q) hs (fun r5 hs hok6 => ?_) hok6
  refine AW.if_ne (tg := 51) (am_r 13 rfl) rfl rfl (fun hc7 => ?_) (fun hc7 => ?_)
  · replace hs := (if_neg hc7).symm.trans hs
    refine AW.lconst (z := 0) (am_r 27 rfl) rfl cl_0 ?_
    refine AW.goto (tg := 62) (am_r 28 rfl) rfl ?_
    have hr := (Option.some.inj hs).symm
    subst hr
    exact AW.lret (am_r 34 rfl) rfl hQ
  · replace hs := (if_pos hc7).symm.trans hs
    refine AW.aload_n (z := 0) (am_r 14 rfl) rfl rfl ?_
    refine AW.iload_n (z := 2) (am_r 15 rfl) rfl rfl ?_
    refine AW.i2l (am_r 16 rfl) rfl ?_
    refine AW.lconst (z := 0) (am_r 17 rfl) rfl cl_0 ?_
    refine AW.ldc2 (v := (1000)) (am_r 18 rfl) rfl q1684 ?_
    refine AW.callS (N := MX10_inRange) (As := [.long (p2.toInt64), .long ((0 : Int64)), .long ((1000 : Int64))]) (S := [(.ref (b))]) (L0 := [some (.long (p2.toInt64)), none, some (.long ((0 : Int64))), none, some (.long ((1000 : Int64))), none]) (am_r 19 rfl) rfl osX10_inRange q1592 rfl rfl rfl rfl rfl (dX10_inRange hA  rfl (fun hok9 => (cQ_r ?_)))
    refine AW.if_ne (tg := 43) (am_r 20 rfl) rfl rfl (fun hc10 => ?_) (fun hc10 => ?_)
    · replace hs := (if_neg hc10).symm.trans hs
      refine AW.iconst (am_r 23 rfl) rfl ci_0 ?_
      exact dX10_cheapestTo_j44 hA  (Or.inl rfl) hs hQ
    · replace hs := (if_pos hc10).symm.trans hs
      refine AW.iconst (am_r 21 rfl) rfl ci_1 ?_
      refine AW.goto (tg := 44) (am_r 22 rfl) rfl ?_
      exact dX10_cheapestTo_j44 hA  (Or.inr rfl) hs hQ
noncomputable def sX10_cheapestTo (S : Mem) (p1 : Int32) (p2 : Int32) : Option (Int64 × Mem) :=
  olet (si S 100 6 0 ((0 : Int32))) fun S1 =>
  if (sX10_isObject S1 p1) = 0 then
    sX10_cheapestTo_j19 S1 p1 p2 (1 : Int32)
  else
    sX10_cheapestTo_j19 S1 p1 p2 (0 : Int32)
set_option maxRecDepth 100000 in
theorem dX10_cheapestTo {g : AG} {h0 : AH} {b : Nat} {S : Mem} {Q : AO → AH → Prop} {p1 : Int32} {p2 : Int32} (hA : gB g ≤ b)  {r : (Int64 × Mem)} (hs : sX10_cheapestTo S p1 p2 = some r) (hQ : Q (.ok (some (.long r.1))) (mb h0 b r.2)) : AW g MX10_cheapestTo 0 [some (.ref (b)), some (.int (p1)), some (.int (p2))] [] (mb h0 b S) Q := by
  unfold sX10_cheapestTo at hs
  refine AW.aload_n (z := 0) (am_r 0 rfl) rfl rfl ?_
  refine AW.iconst (am_r 1 rfl) rfl ci_0 ?_
  refine AW.putO (am_r 2 rfl) rfl klX10 (k := 6) (by omega) q1509 (Or.inl rfl) mb_ob hA rfl rfl (mbp_ob (by decide)) ?_
  refine olet_e (P := fun y => AW g MX10_cheapestTo 5 [some (.ref (b)), some (.int (p1)), some (.int (p2))] [] (mb h0 b y) Q) hs (fun S1 hs => ?_)
  refine AW.aload_n (z := 0) (am_r 3 rfl) rfl rfl ?_
  refine AW.aload_n (z := 0) (am_r 4 rfl) rfl rfl ?_
  refine AW.iload_n (z := 1) (am_r 5 rfl) rfl rfl ?_
  refine AW.callV (N := MX10_isObject) (As := [.int (p1)]) (S := [(.ref (b))]) (L0 := [some (.ref (b)), some (.int (p1))]) (b := b) (am_r 6 rfl) rfl ovX10_isObject q1603 rfl rfl mb_ob rfl rfl rfl rfl (dX10_isObject hA  rfl (fun hok3 => (cQ_r ?_)))
  refine AW.if_ne (tg := 18) (am_r 7 rfl) rfl rfl (fun hc4 => ?_) (fun hc4 => ?_)
  · replace hs := (if_neg hc4).symm.trans hs
    refine AW.iconst (am_r 10 rfl) rfl ci_0 ?_
    exact dX10_cheapestTo_j19 hA  (Or.inl rfl) hs hQ
  · replace hs := (if_pos hc4).symm.trans hs
    refine AW.iconst (am_r 8 rfl) rfl ci_1 ?_
    refine AW.goto (tg := 19) (am_r 9 rfl) rfl ?_
    exact dX10_cheapestTo_j19 hA  (Or.inr rfl) hs hQ
noncomputable def sX10_bestRecipe_j111 (S : Mem) (p1 : Int32) (y0 : Int32) (y1 : Int32) (y2 : Int32) (y3 : Int32) : Option ((Int32 × Int32 × Int32 × Mem) ⊕ (Int32 × Mem)) :=
  if y3 = 0 then
    some (.inl (y0, y1, y2 + (1 : Int32), S))
  else
    some (.inl (y0, y2, y2 + (1 : Int32), S))
set_option maxRecDepth 100000 in
theorem dX10_bestRecipe_j111 {g : AG} {h0 : AH} {b : Nat} {S : Mem} {Q : AO → AH → Prop} {p1 : Int32} {y0 : Int32} {y1 : Int32} {y2 : Int32} {y3 : Int32} (hA : gB g ≤ b)  (hk3 : y3 = 0 ∨ y3 = 1) {r : ((Int32 × Int32 × Int32 × Mem) ⊕ (Int32 × Mem))} (hs : sX10_bestRecipe_j111 S p1 y0 y1 y2 y3 = some r) (hc : ∀ a : (Int32 × Int32 × Int32 × Mem), r = .inl a → AW g MX10_bestRecipe 40 [some (.ref (b)), none, some (.int (a.1)), some (.int (a.2.1)), some (.int (a.2.2.1)), none, none] [] (mb h0 b a.2.2.2) Q) (he : ∀ z : (Int32 × Mem), r = .inr z → Q (.ok (some (.int z.1))) (mb h0 b z.2)) : AW g MX10_bestRecipe 111 [some (.ref (b)), none, some (.int (y0)), some (.int (y1)), some (.int (y2)), none, none] [(.int (y3))] (mb h0 b S) Q := by
  unfold sX10_bestRecipe_j111 at hs
  refine AW.istore (L' := [some (.ref (b)), none, some (.int (y0)), some (.int (y1)), some (.int (y2)), none, some (.int (y3))]) (am_r 66 rfl) rfl (Nat.le_of_ble_eq_true rfl) rfl ?_
  refine AW.iload (am_r 67 rfl) rfl rfl ?_
  refine AW.if_eq (tg := 123) (am_r 68 rfl) rfl rfl (fun hc28 => ?_) (fun hc28 => ?_)
  · replace hs := (if_pos hc28).symm.trans hs
    refine AW.iload_n (z := 3) (am_r 71 rfl) rfl rfl ?_
    refine AW.istore_n (L' := [some (.ref (b)), none, some (.int (y0)), some (.int (y1)), some (.int (y2)), none, some (.int (y3))]) (z := 3) (am_r 72 rfl) rfl (Nat.le_of_ble_eq_true rfl) rfl ?_
    refine AW.iinc (v := y2 + (1 : Int32)) (L' := [some (.ref (b)), none, some (.int (y0)), some (.int (y1)), some (.int (y2 + (1 : Int32))), none, some (.int (y3))]) (am_r 73 rfl) rfl (Nat.le_of_ble_eq_true rfl) rfl (congrArg (fun z => y2 + z) ci_1) rfl ?_
    refine AW.goto (tg := 40) (am_r 74 rfl) rfl ?_
    refine AW.lessL (L' := [some (.ref (b)), none, some (.int (y0)), some (.int (y1)), some (.int (y2 + (1 : Int32))), none, none]) ⟨rfl, rfl, rfl, rfl, trivial⟩ ?_
    have hr := (Option.some.inj hs).symm
    exact hc (y0, y1, y2 + (1 : Int32), S) hr 
  · replace hs := (if_neg hc28).symm.trans hs
    refine AW.iload (am_r 69 rfl) rfl rfl ?_
    refine AW.goto (tg := 124) (am_r 70 rfl) rfl ?_
    refine AW.istore_n (L' := [some (.ref (b)), none, some (.int (y0)), some (.int (y2)), some (.int (y2)), none, some (.int (y3))]) (z := 3) (am_r 72 rfl) rfl (Nat.le_of_ble_eq_true rfl) rfl ?_
    refine AW.iinc (v := y2 + (1 : Int32)) (L' := [some (.ref (b)), none, some (.int (y0)), some (.int (y2)), some (.int (y2 + (1 : Int32))), none, some (.int (y3))]) (am_r 73 rfl) rfl (Nat.le_of_ble_eq_true rfl) rfl (congrArg (fun z => y2 + z) ci_1) rfl ?_
    refine AW.goto (tg := 40) (am_r 74 rfl) rfl ?_
    refine AW.lessL (L' := [some (.ref (b)), none, some (.int (y0)), some (.int (y2)), some (.int (y2 + (1 : Int32))), none, none]) ⟨rfl, rfl, rfl, rfl, trivial⟩ ?_
    have hr := (Option.some.inj hs).symm
    exact hc (y0, y2, y2 + (1 : Int32), S) hr 
noncomputable def sX10_bestRecipe_l40_step  (p1 : Int32) (a : (Int32 × Int32 × Int32 × Mem)) : Option ((Int32 × Int32 × Int32 × Mem) ⊕ (Int32 × Mem)) :=
  if (gi a.2.2.2 5 (3 : Int32).toNatClampNeg 0) ≤ a.2.2.1 then
    oinr (
    some ((a.2.1, a.2.2.2)))
  else
    obind (sX10_behind a.2.2.2 a.1 a.2.2.1) fun r14 =>
    if a.2.1 = (-1 : Int32) then
      if (r14 - a.1) ≤ 0 then
        sX10_bestRecipe_j111 a.2.2.2 p1 a.1 a.2.1 a.2.2.1 (0 : Int32)
      else
        sX10_bestRecipe_j111 a.2.2.2 p1 a.1 a.2.1 a.2.2.1 (1 : Int32)
    else
      obind (sX10_lasting a.2.2.2 a.2.1) fun r18 =>
      obind (sX10_behind a.2.2.2 a.1 a.2.1) fun r21 =>
      obind (sX10_lasting a.2.2.2 a.2.2.1) fun r24 =>
      if ((r14 - a.1) * r18) ≤ ((r21 - a.1) * r24) then
        sX10_bestRecipe_j111 a.2.2.2 p1 a.1 a.2.1 a.2.2.1 (0 : Int32)
      else
        sX10_bestRecipe_j111 a.2.2.2 p1 a.1 a.2.1 a.2.2.1 (1 : Int32)
noncomputable def sX10_bestRecipe_l40  (p1 : Int32) (a : (Int32 × Int32 × Int32 × Mem)) : Option (Int32 × Mem) := itw (sX10_bestRecipe_l40_step  p1) a
set_option maxRecDepth 100000 in
theorem dX10_bestRecipe_l40 {g : AG} {h0 : AH} {b : Nat} {Q : AO → AH → Prop} {p1 : Int32} (hA : gB g ≤ b)  {a : (Int32 × Int32 × Int32 × Mem)}  {r : (Int32 × Mem)} (hs : sX10_bestRecipe_l40  p1 a = some r) (hQ : Q (.ok (some (.int r.1))) (mb h0 b r.2)) : AW g MX10_bestRecipe 40 [some (.ref (b)), none, some (.int (a.1)), some (.int (a.2.1)), some (.int (a.2.2.1)), none, none] [] (mb h0 b a.2.2.2) Q := by
  refine itw_e (P := fun a => AW g MX10_bestRecipe 40 [some (.ref (b)), none, some (.int (a.1)), some (.int (a.2.1)), some (.int (a.2.2.1)), none, none] [] (mb h0 b a.2.2.2) Q) (Post := fun r => Q (.ok (some (.int r.1))) (mb h0 b r.2)) (fun a r hs hc he  => ?_) hs hQ 
  unfold sX10_bestRecipe_l40_step at hs
  refine AW.iload (am_r 25 rfl) rfl rfl ?_
  refine AW.aload_n (z := 0) (am_r 26 rfl) rfl rfl ?_
  refine AW.getO (am_r 27 rfl) rfl klX10 (k := 5) (by omega) q1508 mb_ob rfl ?_
  refine AW.iconst (am_r 28 rfl) rfl ci_3 ?_
  refine AW.iald (am_r 29 rfl) rfl mb_a4 (vp_of_inb rfl) rfl ?_
  refine AW.icmp_ge (tg := 131) (am_r 30 rfl) rfl rfl (fun hc11 => ?_) (fun hc11 => ?_)
  · replace hs := (if_pos hc11).symm.trans hs
    refine oinr_e hs (fun z12 hz13 hs => ?_)
    have hQ := he _ hz13
    refine AW.iload_n (z := 3) (am_r 75 rfl) rfl rfl ?_
    have hr := (Option.some.inj hs).symm
    subst hr
    exact AW.iret (am_r 76 rfl) rfl hQ
  · replace hs := (if_neg hc11).symm.trans hs
    refine AW.aload_n (z := 0) (am_r 31 rfl) rfl rfl ?_
    refine AW.iload_n (z := 2) (am_r 32 rfl) rfl rfl ?_
    refine AW.iload (am_r 33 rfl) rfl rfl ?_
    refine obind_e hs (fun r14 hg16 hs => ?_)
    refine AW.callV (N := MX10_behind) (As := [.int (a.1), .int (a.2.2.1)]) (S := []) (L0 := [some (.ref (b)), some (.int (a.1)), some (.int (a.2.2.1))]) (b := b) (am_r 34 rfl) rfl ovX10_behind q1725 rfl rfl mb_ob rfl rfl rfl rfl (dX10_behind hA  hg16 (cQ_r ?_))
    refine AW.iload_n (z := 2) (am_r 35 rfl) rfl rfl ?_
    refine AW.isub (am_r 36 rfl) rfl ?_
    refine AW.istore (L' := [some (.ref (b)), none, some (.int (a.1)), some (.int (a.2.1)), some (.int (a.2.2.1)), some (.int (r14 - a.1)), none]) (am_r 37 rfl) rfl (Nat.le_of_ble_eq_true rfl) rfl ?_
    refine AW.iload_n (z := 3) (am_r 38 rfl) rfl rfl ?_
    refine AW.iconst (am_r 39 rfl) rfl ci_m1 ?_
    refine AW.icmp_ne (tg := 80) (am_r 40 rfl) rfl rfl (fun hc17 => ?_) (fun hc17 => ?_)
    · replace hs := (if_neg hc17).symm.trans hs
      refine AW.iload (am_r 47 rfl) rfl rfl ?_
      refine AW.aload_n (z := 0) (am_r 48 rfl) rfl rfl ?_
      refine AW.iload_n (z := 3) (am_r 49 rfl) rfl rfl ?_
      refine obind_e hs (fun r18 hg20 hs => ?_)
      refine AW.callV (N := MX10_lasting) (As := [.int (a.2.1)]) (S := [(.int (r14 - a.1))]) (L0 := [some (.ref (b)), some (.int (a.2.1))]) (b := b) (am_r 50 rfl) rfl ovX10_lasting q1882 rfl rfl mb_ob rfl rfl rfl rfl (dX10_lasting hA  hg20 (cQ_r ?_))
      refine AW.imul (am_r 51 rfl) rfl ?_
      refine AW.aload_n (z := 0) (am_r 52 rfl) rfl rfl ?_
      refine AW.iload_n (z := 2) (am_r 53 rfl) rfl rfl ?_
      refine AW.iload_n (z := 3) (am_r 54 rfl) rfl rfl ?_
      refine obind_e hs (fun r21 hg23 hs => ?_)
      refine AW.callV (N := MX10_behind) (As := [.int (a.1), .int (a.2.1)]) (S := [(.int ((r14 - a.1) * r18))]) (L0 := [some (.ref (b)), some (.int (a.1)), some (.int (a.2.1))]) (b := b) (am_r 55 rfl) rfl ovX10_behind q1725 rfl rfl mb_ob rfl rfl rfl rfl (dX10_behind hA  hg23 (cQ_r ?_))
      refine AW.iload_n (z := 2) (am_r 56 rfl) rfl rfl ?_
      refine AW.isub (am_r 57 rfl) rfl ?_
      refine AW.aload_n (z := 0) (am_r 58 rfl) rfl rfl ?_
      refine AW.iload (am_r 59 rfl) rfl rfl ?_
      refine obind_e hs (fun r24 hg26 hs => ?_)
      refine AW.callV (N := MX10_lasting) (As := [.int (a.2.2.1)]) (S := [(.int (r21 - a.1)), (.int ((r14 - a.1) * r18))]) (L0 := [some (.ref (b)), some (.int (a.2.2.1))]) (b := b) (am_r 60 rfl) rfl ovX10_lasting q1882 rfl rfl mb_ob rfl rfl rfl rfl (dX10_lasting hA  hg26 (cQ_r ?_))
      refine AW.imul (am_r 61 rfl) rfl ?_
      refine AW.icmp_le (tg := 110) (am_r 62 rfl) rfl rfl (fun hc27 => ?_) (fun hc27 => ?_)
      · replace hs := (if_pos hc27).symm.trans hs
        refine AW.iconst (am_r 65 rfl) rfl ci_0 ?_
        refine AW.lessL (L' := [some (.ref (b)), none, some (.int (a.1)), some (.int (a.2.1)), some (.int (a.2.2.1)), none, none]) ⟨rfl, rfl, rfl, rfl, trivial⟩ ?_
        exact dX10_bestRecipe_j111 hA  (Or.inl rfl) hs hc he
      · replace hs := (if_neg hc27).symm.trans hs
        refine AW.iconst (am_r 63 rfl) rfl ci_1 ?_
        refine AW.goto (tg := 111) (am_r 64 rfl) rfl ?_
        refine AW.lessL (L' := [some (.ref (b)), none, some (.int (a.1)), some (.int (a.2.1)), some (.int (a.2.2.1)), none, none]) ⟨rfl, rfl, rfl, rfl, trivial⟩ ?_
        exact dX10_bestRecipe_j111 hA  (Or.inr rfl) hs hc he
    · replace hs := (if_pos hc17).symm.trans hs
      refine AW.iload (am_r 41 rfl) rfl rfl ?_
      refine AW.if_le (tg := 76) (am_r 42 rfl) rfl rfl (fun hc29 => ?_) (fun hc29 => ?_)
      · replace hs := (if_pos hc29).symm.trans hs
        refine AW.iconst (am_r 45 rfl) rfl ci_0 ?_
        refine AW.goto (tg := 111) (am_r 46 rfl) rfl ?_
        refine AW.lessL (L' := [some (.ref (b)), none, some (.int (a.1)), some (.int (a.2.1)), some (.int (a.2.2.1)), none, none]) ⟨rfl, rfl, rfl, rfl, trivial⟩ ?_
        exact dX10_bestRecipe_j111 hA  (Or.inl rfl) hs hc he
      · replace hs := (if_neg hc29).symm.trans hs
        refine AW.iconst (am_r 43 rfl) rfl ci_1 ?_
        refine AW.goto (tg := 111) (am_r 44 rfl) rfl ?_
        refine AW.lessL (L' := [some (.ref (b)), none, some (.int (a.1)), some (.int (a.2.1)), some (.int (a.2.2.1)), none, none]) ⟨rfl, rfl, rfl, rfl, trivial⟩ ?_
        exact dX10_bestRecipe_j111 hA  (Or.inr rfl) hs hc he
noncomputable def sX10_bestRecipe_j19 (S : Mem) (p1 : Int32) (y0 : Int32) : Option (Int32 × Mem) :=
  olet (sX10_throwsIf S y0 (1 : Int32)) fun r5 =>
  if r5.1 = 0 then
    obind (sX10_of r5.2 p1 (0 : Int32)) fun r8 =>
    sX10_bestRecipe_l40  p1 (r8, (-1 : Int32), (0 : Int32), r5.2)
  else
    some (((0 : Int32), r5.2))
set_option maxRecDepth 100000 in
theorem dX10_bestRecipe_j19 {g : AG} {h0 : AH} {b : Nat} {S : Mem} {Q : AO → AH → Prop} {p1 : Int32} {y0 : Int32} (hA : gB g ≤ b)  (hk0 : y0 = 0 ∨ y0 = 1) {r : (Int32 × Mem)} (hs : sX10_bestRecipe_j19 S p1 y0 = some r) (hQ : Q (.ok (some (.int r.1))) (mb h0 b r.2)) : AW g MX10_bestRecipe 19 [some (.ref (b)), some (.int (p1)), none, none, none, none, none] [(.int (y0)), (.ref (b))] (mb h0 b S) Q := by
  unfold sX10_bestRecipe_j19 at hs
  refine AW.iconst (am_r 11 rfl) rfl ci_1 ?_
  refine AW.callV (N := MX10_throwsIf) (As := [.int (y0), .int ((1 : Int32))]) (S := []) (L0 := [some (.ref (b)), some (.int (y0)), some (.int ((1 : Int32)))]) (b := b) (am_r 12 rfl) rfl ovX10_throwsIf q1607 rfl rfl mb_ob rfl rfl rfl rfl (dX10_throwsIf hA hk0 rfl (fun hok6 => (cQ_r ?_)))
  refine olet_e (P := fun (y : (Int32 × Mem)) => (y.1 = 0 ∨ y.1 = 1) → AW g MX10_bestRecipe 23 [some (.ref (b)), some (.int (p1)), none, none, none, none, none] [(.int (y.1))] (mb h0 b y.2) Q) hs (fun r5 hs hok6 => ?_) hok6
  refine AW.if_eq (tg := 28) (am_r 13 rfl) rfl rfl (fun hc7 => ?_) (fun hc7 => ?_)
  · replace hs := (if_pos hc7).symm.trans hs
    refine AW.aload_n (z := 0) (am_r 16 rfl) rfl rfl ?_
    refine AW.iload_n (z := 1) (am_r 17 rfl) rfl rfl ?_
    refine AW.iconst (am_r 18 rfl) rfl ci_0 ?_
    refine obind_e hs (fun r8 hg10 hs => ?_)
    refine AW.callV (N := MX10_of) (As := [.int (p1), .int ((0 : Int32))]) (S := []) (L0 := [some (.ref (b)), some (.int (p1)), some (.int ((0 : Int32)))]) (b := b) (am_r 19 rfl) rfl ovX10_of q1615 rfl rfl mb_ob rfl rfl rfl rfl (dX10_of hA  hg10 (cQ_r ?_))
    refine AW.istore_n (L' := [some (.ref (b)), some (.int (p1)), some (.int (r8)), none, none, none, none]) (z := 2) (am_r 20 rfl) rfl (Nat.le_of_ble_eq_true rfl) rfl ?_
    refine AW.iconst (am_r 21 rfl) rfl ci_m1 ?_
    refine AW.istore_n (L' := [some (.ref (b)), some (.int (p1)), some (.int (r8)), some (.int ((-1 : Int32))), none, none, none]) (z := 3) (am_r 22 rfl) rfl (Nat.le_of_ble_eq_true rfl) rfl ?_
    refine AW.iconst (am_r 23 rfl) rfl ci_0 ?_
    refine AW.istore (L' := [some (.ref (b)), some (.int (p1)), some (.int (r8)), some (.int ((-1 : Int32))), some (.int ((0 : Int32))), none, none]) (am_r 24 rfl) rfl (Nat.le_of_ble_eq_true rfl) rfl ?_
    refine AW.lessL (L' := [some (.ref (b)), none, some (.int (r8)), some (.int ((-1 : Int32))), some (.int ((0 : Int32))), none, none]) ⟨rfl, rfl, rfl, rfl, trivial⟩ ?_
    exact dX10_bestRecipe_l40 hA   hs hQ
  · replace hs := (if_neg hc7).symm.trans hs
    refine AW.iconst (am_r 14 rfl) rfl ci_0 ?_
    have hr := (Option.some.inj hs).symm
    subst hr
    exact AW.iret (am_r 15 rfl) rfl hQ
noncomputable def sX10_bestRecipe (S : Mem) (p1 : Int32) : Option (Int32 × Mem) :=
  olet (si S 100 6 0 ((0 : Int32))) fun S1 =>
  if (sX10_isObject S1 p1) = 0 then
    sX10_bestRecipe_j19 S1 p1 (1 : Int32)
  else
    sX10_bestRecipe_j19 S1 p1 (0 : Int32)
set_option maxRecDepth 100000 in
theorem dX10_bestRecipe {g : AG} {h0 : AH} {b : Nat} {S : Mem} {Q : AO → AH → Prop} {p1 : Int32} (hA : gB g ≤ b)  {r : (Int32 × Mem)} (hs : sX10_bestRecipe S p1 = some r) (hQ : Q (.ok (some (.int r.1))) (mb h0 b r.2)) : AW g MX10_bestRecipe 0 [some (.ref (b)), some (.int (p1)), none, none, none, none, none] [] (mb h0 b S) Q := by
  unfold sX10_bestRecipe at hs
  refine AW.aload_n (z := 0) (am_r 0 rfl) rfl rfl ?_
  refine AW.iconst (am_r 1 rfl) rfl ci_0 ?_
  refine AW.putO (am_r 2 rfl) rfl klX10 (k := 6) (by omega) q1509 (Or.inl rfl) mb_ob hA rfl rfl (mbp_ob (by decide)) ?_
  refine olet_e (P := fun y => AW g MX10_bestRecipe 5 [some (.ref (b)), some (.int (p1)), none, none, none, none, none] [] (mb h0 b y) Q) hs (fun S1 hs => ?_)
  refine AW.aload_n (z := 0) (am_r 3 rfl) rfl rfl ?_
  refine AW.aload_n (z := 0) (am_r 4 rfl) rfl rfl ?_
  refine AW.iload_n (z := 1) (am_r 5 rfl) rfl rfl ?_
  refine AW.callV (N := MX10_isObject) (As := [.int (p1)]) (S := [(.ref (b))]) (L0 := [some (.ref (b)), some (.int (p1))]) (b := b) (am_r 6 rfl) rfl ovX10_isObject q1603 rfl rfl mb_ob rfl rfl rfl rfl (dX10_isObject hA  rfl (fun hok3 => (cQ_r ?_)))
  refine AW.if_ne (tg := 18) (am_r 7 rfl) rfl rfl (fun hc4 => ?_) (fun hc4 => ?_)
  · replace hs := (if_neg hc4).symm.trans hs
    refine AW.iconst (am_r 10 rfl) rfl ci_0 ?_
    exact dX10_bestRecipe_j19 hA  (Or.inl rfl) hs hQ
  · replace hs := (if_pos hc4).symm.trans hs
    refine AW.iconst (am_r 8 rfl) rfl ci_1 ?_
    refine AW.goto (tg := 19) (am_r 9 rfl) rfl ?_
    exact dX10_bestRecipe_j19 hA  (Or.inr rfl) hs hQ
noncomputable def sX10_stepsTo_l72_step  (p1 : Int32) (p2 : Int32) (p3 : Int32) (a : (Int32 × Int32 × Mem)) : Option ((Int32 × Int32 × Mem) ⊕ (Int32 × Mem)) :=
  if p3 ≤ a.1 then
    oinr (
    some ((a.2.1, a.2.2)))
  else
    obind (sX10_behind a.2.2 a.1 p2) fun r20 =>
    if r20 = a.1 then
      oinr (
      some (((-1 : Int32), a.2.2)))
    else
      some (.inl (r20, a.2.1 + (1 : Int32), a.2.2))
noncomputable def sX10_stepsTo_l72  (p1 : Int32) (p2 : Int32) (p3 : Int32) (a : (Int32 × Int32 × Mem)) : Option (Int32 × Mem) := itw (sX10_stepsTo_l72_step  p1 p2 p3) a
set_option maxRecDepth 100000 in
theorem dX10_stepsTo_l72 {g : AG} {h0 : AH} {b : Nat} {Q : AO → AH → Prop} {p1 : Int32} {p2 : Int32} {p3 : Int32} (hA : gB g ≤ b)  {a : (Int32 × Int32 × Mem)}  {r : (Int32 × Mem)} (hs : sX10_stepsTo_l72  p1 p2 p3 a = some r) (hQ : Q (.ok (some (.int r.1))) (mb h0 b r.2)) : AW g MX10_stepsTo 72 [some (.ref (b)), none, some (.int (p2)), some (.int (p3)), some (.int (a.1)), some (.int (a.2.1)), none] [] (mb h0 b a.2.2) Q := by
  refine itw_e (P := fun a => AW g MX10_stepsTo 72 [some (.ref (b)), none, some (.int (p2)), some (.int (p3)), some (.int (a.1)), some (.int (a.2.1)), none] [] (mb h0 b a.2.2) Q) (Post := fun r => Q (.ok (some (.int r.1))) (mb h0 b r.2)) (fun a r hs hc he  => ?_) hs hQ 
  unfold sX10_stepsTo_l72_step at hs
  refine AW.iload (am_r 40 rfl) rfl rfl ?_
  refine AW.iload_n (z := 3) (am_r 41 rfl) rfl rfl ?_
  refine AW.icmp_ge (tg := 106) (am_r 42 rfl) rfl rfl (fun hc17 => ?_) (fun hc17 => ?_)
  · replace hs := (if_pos hc17).symm.trans hs
    refine oinr_e hs (fun z18 hz19 hs => ?_)
    have hQ := he _ hz19
    refine AW.iload (am_r 57 rfl) rfl rfl ?_
    have hr := (Option.some.inj hs).symm
    subst hr
    exact AW.iret (am_r 58 rfl) rfl hQ
  · replace hs := (if_neg hc17).symm.trans hs
    refine AW.aload_n (z := 0) (am_r 43 rfl) rfl rfl ?_
    refine AW.iload (am_r 44 rfl) rfl rfl ?_
    refine AW.iload_n (z := 2) (am_r 45 rfl) rfl rfl ?_
    refine obind_e hs (fun r20 hg22 hs => ?_)
    refine AW.callV (N := MX10_behind) (As := [.int (a.1), .int (p2)]) (S := []) (L0 := [some (.ref (b)), some (.int (a.1)), some (.int (p2))]) (b := b) (am_r 46 rfl) rfl ovX10_behind q1725 rfl rfl mb_ob rfl rfl rfl rfl (dX10_behind hA  hg22 (cQ_r ?_))
    refine AW.istore (L' := [some (.ref (b)), none, some (.int (p2)), some (.int (p3)), some (.int (a.1)), some (.int (a.2.1)), some (.int (r20))]) (am_r 47 rfl) rfl (Nat.le_of_ble_eq_true rfl) rfl ?_
    refine AW.iload (am_r 48 rfl) rfl rfl ?_
    refine AW.iload (am_r 49 rfl) rfl rfl ?_
    refine AW.icmp_ne (tg := 96) (am_r 50 rfl) rfl rfl (fun hc23 => ?_) (fun hc23 => ?_)
    · replace hs := (if_neg hc23).symm.trans hs
      refine AW.iload (am_r 53 rfl) rfl rfl ?_
      refine AW.istore (L' := [some (.ref (b)), none, some (.int (p2)), some (.int (p3)), some (.int (r20)), some (.int (a.2.1)), some (.int (r20))]) (am_r 54 rfl) rfl (Nat.le_of_ble_eq_true rfl) rfl ?_
      refine AW.iinc (v := a.2.1 + (1 : Int32)) (L' := [some (.ref (b)), none, some (.int (p2)), some (.int (p3)), some (.int (r20)), some (.int (a.2.1 + (1 : Int32))), some (.int (r20))]) (am_r 55 rfl) rfl (Nat.le_of_ble_eq_true rfl) rfl (congrArg (fun z => a.2.1 + z) ci_1) rfl ?_
      refine AW.goto (tg := 72) (am_r 56 rfl) rfl ?_
      refine AW.lessL (L' := [some (.ref (b)), none, some (.int (p2)), some (.int (p3)), some (.int (r20)), some (.int (a.2.1 + (1 : Int32))), none]) ⟨rfl, rfl, rfl, rfl, rfl, trivial⟩ ?_
      have hr := (Option.some.inj hs).symm
      exact hc (r20, a.2.1 + (1 : Int32), a.2.2) hr 
    · replace hs := (if_pos hc23).symm.trans hs
      refine oinr_e hs (fun z24 hz25 hs => ?_)
      have hQ := he _ hz25
      refine AW.iconst (am_r 51 rfl) rfl ci_m1 ?_
      have hr := (Option.some.inj hs).symm
      subst hr
      exact AW.iret (am_r 52 rfl) rfl hQ
noncomputable def sX10_stepsTo_j52 (S : Mem) (p1 : Int32) (p2 : Int32) (p3 : Int32) (y0 : Int32) : Option (Int32 × Mem) :=
  olet (sX10_throwsIf S y0 (2 : Int32)) fun r11 =>
  if r11.1 = 0 then
    obind (sX10_of r11.2 p1 (0 : Int32)) fun r14 =>
    sX10_stepsTo_l72  p1 p2 p3 (r14, (0 : Int32), r11.2)
  else
    some (((0 : Int32), r11.2))
set_option maxRecDepth 100000 in
theorem dX10_stepsTo_j52 {g : AG} {h0 : AH} {b : Nat} {S : Mem} {Q : AO → AH → Prop} {p1 : Int32} {p2 : Int32} {p3 : Int32} {y0 : Int32} (hA : gB g ≤ b)  (hk0 : y0 = 0 ∨ y0 = 1) {r : (Int32 × Mem)} (hs : sX10_stepsTo_j52 S p1 p2 p3 y0 = some r) (hQ : Q (.ok (some (.int r.1))) (mb h0 b r.2)) : AW g MX10_stepsTo 52 [some (.ref (b)), some (.int (p1)), some (.int (p2)), some (.int (p3)), none, none, none] [(.int (y0)), (.ref (b))] (mb h0 b S) Q := by
  unfold sX10_stepsTo_j52 at hs
  refine AW.iconst (am_r 28 rfl) rfl ci_2 ?_
  refine AW.callV (N := MX10_throwsIf) (As := [.int (y0), .int ((2 : Int32))]) (S := []) (L0 := [some (.ref (b)), some (.int (y0)), some (.int ((2 : Int32)))]) (b := b) (am_r 29 rfl) rfl ovX10_throwsIf q1607 rfl rfl mb_ob rfl rfl rfl rfl (dX10_throwsIf hA hk0 rfl (fun hok12 => (cQ_r ?_)))
  refine olet_e (P := fun (y : (Int32 × Mem)) => (y.1 = 0 ∨ y.1 = 1) → AW g MX10_stepsTo 56 [some (.ref (b)), some (.int (p1)), some (.int (p2)), some (.int (p3)), none, none, none] [(.int (y.1))] (mb h0 b y.2) Q) hs (fun r11 hs hok12 => ?_) hok12
  refine AW.if_eq (tg := 61) (am_r 30 rfl) rfl rfl (fun hc13 => ?_) (fun hc13 => ?_)
  · replace hs := (if_pos hc13).symm.trans hs
    refine AW.aload_n (z := 0) (am_r 33 rfl) rfl rfl ?_
    refine AW.iload_n (z := 1) (am_r 34 rfl) rfl rfl ?_
    refine AW.iconst (am_r 35 rfl) rfl ci_0 ?_
    refine obind_e hs (fun r14 hg16 hs => ?_)
    refine AW.callV (N := MX10_of) (As := [.int (p1), .int ((0 : Int32))]) (S := []) (L0 := [some (.ref (b)), some (.int (p1)), some (.int ((0 : Int32)))]) (b := b) (am_r 36 rfl) rfl ovX10_of q1615 rfl rfl mb_ob rfl rfl rfl rfl (dX10_of hA  hg16 (cQ_r ?_))
    refine AW.istore (L' := [some (.ref (b)), some (.int (p1)), some (.int (p2)), some (.int (p3)), some (.int (r14)), none, none]) (am_r 37 rfl) rfl (Nat.le_of_ble_eq_true rfl) rfl ?_
    refine AW.iconst (am_r 38 rfl) rfl ci_0 ?_
    refine AW.istore (L' := [some (.ref (b)), some (.int (p1)), some (.int (p2)), some (.int (p3)), some (.int (r14)), some (.int ((0 : Int32))), none]) (am_r 39 rfl) rfl (Nat.le_of_ble_eq_true rfl) rfl ?_
    refine AW.lessL (L' := [some (.ref (b)), none, some (.int (p2)), some (.int (p3)), some (.int (r14)), some (.int ((0 : Int32))), none]) ⟨rfl, rfl, rfl, rfl, rfl, trivial⟩ ?_
    exact dX10_stepsTo_l72 hA   hs hQ
  · replace hs := (if_neg hc13).symm.trans hs
    refine AW.iconst (am_r 31 rfl) rfl ci_0 ?_
    have hr := (Option.some.inj hs).symm
    subst hr
    exact AW.iret (am_r 32 rfl) rfl hQ
noncomputable def sX10_stepsTo_j27 (S : Mem) (p1 : Int32) (p2 : Int32) (p3 : Int32) (y0 : Int32) : Option (Int32 × Mem) :=
  olet (sX10_throwsIf S y0 (1 : Int32)) fun r5 =>
  if r5.1 = 0 then
    if (sX10_inRange r5.2 p3.toInt64 (0 : Int64) (1000 : Int64)) = 0 then
      sX10_stepsTo_j52 r5.2 p1 p2 p3 (1 : Int32)
    else
      sX10_stepsTo_j52 r5.2 p1 p2 p3 (0 : Int32)
  else
    some (((0 : Int32), r5.2))
set_option maxRecDepth 100000 in
theorem dX10_stepsTo_j27 {g : AG} {h0 : AH} {b : Nat} {S : Mem} {Q : AO → AH → Prop} {p1 : Int32} {p2 : Int32} {p3 : Int32} {y0 : Int32} (hA : gB g ≤ b)  (hk0 : y0 = 0 ∨ y0 = 1) {r : (Int32 × Mem)} (hs : sX10_stepsTo_j27 S p1 p2 p3 y0 = some r) (hQ : Q (.ok (some (.int r.1))) (mb h0 b r.2)) : AW g MX10_stepsTo 27 [some (.ref (b)), some (.int (p1)), some (.int (p2)), some (.int (p3)), none, none, none] [(.int (y0)), (.ref (b))] (mb h0 b S) Q := by
  unfold sX10_stepsTo_j27 at hs
  refine AW.iconst (am_r 15 rfl) rfl ci_1 ?_
  refine AW.callV (N := MX10_throwsIf) (As := [.int (y0), .int ((1 : Int32))]) (S := []) (L0 := [some (.ref (b)), some (.int (y0)), some (.int ((1 : Int32)))]) (b := b) (am_r 16 rfl) rfl ovX10_throwsIf q1607 rfl rfl mb_ob rfl rfl rfl rfl (dX10_throwsIf hA hk0 rfl (fun hok6 => (cQ_r ?_)))
  refine olet_e (P := fun (y : (Int32 × Mem)) => (y.1 = 0 ∨ y.1 = 1) → AW g MX10_stepsTo 31 [some (.ref (b)), some (.int (p1)), some (.int (p2)), some (.int (p3)), none, none, none] [(.int (y.1))] (mb h0 b y.2) Q) hs (fun r5 hs hok6 => ?_) hok6
  refine AW.if_ne (tg := 59) (am_r 17 rfl) rfl rfl (fun hc7 => ?_) (fun hc7 => ?_)
  · replace hs := (if_neg hc7).symm.trans hs
    refine AW.iconst (am_r 31 rfl) rfl ci_0 ?_
    have hr := (Option.some.inj hs).symm
    subst hr
    exact AW.iret (am_r 32 rfl) rfl hQ
  · replace hs := (if_pos hc7).symm.trans hs
    refine AW.aload_n (z := 0) (am_r 18 rfl) rfl rfl ?_
    refine AW.iload_n (z := 3) (am_r 19 rfl) rfl rfl ?_
    refine AW.i2l (am_r 20 rfl) rfl ?_
    refine AW.lconst (z := 0) (am_r 21 rfl) rfl cl_0 ?_
    refine AW.ldc2 (v := (1000)) (am_r 22 rfl) rfl q1684 ?_
    refine AW.callS (N := MX10_inRange) (As := [.long (p3.toInt64), .long ((0 : Int64)), .long ((1000 : Int64))]) (S := [(.ref (b))]) (L0 := [some (.long (p3.toInt64)), none, some (.long ((0 : Int64))), none, some (.long ((1000 : Int64))), none]) (am_r 23 rfl) rfl osX10_inRange q1592 rfl rfl rfl rfl rfl (dX10_inRange hA  rfl (fun hok9 => (cQ_r ?_)))
    refine AW.if_ne (tg := 51) (am_r 24 rfl) rfl rfl (fun hc10 => ?_) (fun hc10 => ?_)
    · replace hs := (if_neg hc10).symm.trans hs
      refine AW.iconst (am_r 27 rfl) rfl ci_0 ?_
      exact dX10_stepsTo_j52 hA  (Or.inl rfl) hs hQ
    · replace hs := (if_pos hc10).symm.trans hs
      refine AW.iconst (am_r 25 rfl) rfl ci_1 ?_
      refine AW.goto (tg := 52) (am_r 26 rfl) rfl ?_
      exact dX10_stepsTo_j52 hA  (Or.inr rfl) hs hQ
noncomputable def sX10_stepsTo_j22 (S : Mem) (p1 : Int32) (p2 : Int32) (p3 : Int32)  : Option (Int32 × Mem) :=
  sX10_stepsTo_j27 S p1 p2 p3 (1 : Int32)
set_option maxRecDepth 100000 in
theorem dX10_stepsTo_j22 {g : AG} {h0 : AH} {b : Nat} {S : Mem} {Q : AO → AH → Prop} {p1 : Int32} {p2 : Int32} {p3 : Int32}  (hA : gB g ≤ b)   {r : (Int32 × Mem)} (hs : sX10_stepsTo_j22 S p1 p2 p3  = some r) (hQ : Q (.ok (some (.int r.1))) (mb h0 b r.2)) : AW g MX10_stepsTo 22 [some (.ref (b)), some (.int (p1)), some (.int (p2)), some (.int (p3)), none, none, none] [(.ref (b))] (mb h0 b S) Q := by
  unfold sX10_stepsTo_j22 at hs
  refine AW.iconst (am_r 12 rfl) rfl ci_1 ?_
  refine AW.goto (tg := 27) (am_r 13 rfl) rfl ?_
  exact dX10_stepsTo_j27 hA  (Or.inr rfl) hs hQ
noncomputable def sX10_stepsTo (S : Mem) (p1 : Int32) (p2 : Int32) (p3 : Int32) : Option (Int32 × Mem) :=
  olet (si S 100 6 0 ((0 : Int32))) fun S1 =>
  if (sX10_isObject S1 p1) = 0 then
    sX10_stepsTo_j22 S1 p1 p2 p3 
  else
    if (sX10_isRecipe S1 p2) = 0 then
      sX10_stepsTo_j22 S1 p1 p2 p3 
    else
      sX10_stepsTo_j27 S1 p1 p2 p3 (0 : Int32)
set_option maxRecDepth 100000 in
theorem dX10_stepsTo {g : AG} {h0 : AH} {b : Nat} {S : Mem} {Q : AO → AH → Prop} {p1 : Int32} {p2 : Int32} {p3 : Int32} (hA : gB g ≤ b)  {r : (Int32 × Mem)} (hs : sX10_stepsTo S p1 p2 p3 = some r) (hQ : Q (.ok (some (.int r.1))) (mb h0 b r.2)) : AW g MX10_stepsTo 0 [some (.ref (b)), some (.int (p1)), some (.int (p2)), some (.int (p3)), none, none, none] [] (mb h0 b S) Q := by
  unfold sX10_stepsTo at hs
  refine AW.aload_n (z := 0) (am_r 0 rfl) rfl rfl ?_
  refine AW.iconst (am_r 1 rfl) rfl ci_0 ?_
  refine AW.putO (am_r 2 rfl) rfl klX10 (k := 6) (by omega) q1509 (Or.inl rfl) mb_ob hA rfl rfl (mbp_ob (by decide)) ?_
  refine olet_e (P := fun y => AW g MX10_stepsTo 5 [some (.ref (b)), some (.int (p1)), some (.int (p2)), some (.int (p3)), none, none, none] [] (mb h0 b y) Q) hs (fun S1 hs => ?_)
  refine AW.aload_n (z := 0) (am_r 3 rfl) rfl rfl ?_
  refine AW.aload_n (z := 0) (am_r 4 rfl) rfl rfl ?_
  refine AW.iload_n (z := 1) (am_r 5 rfl) rfl rfl ?_
  refine AW.callV (N := MX10_isObject) (As := [.int (p1)]) (S := [(.ref (b))]) (L0 := [some (.ref (b)), some (.int (p1))]) (b := b) (am_r 6 rfl) rfl ovX10_isObject q1603 rfl rfl mb_ob rfl rfl rfl rfl (dX10_isObject hA  rfl (fun hok3 => (cQ_r ?_)))
  refine AW.if_eq (tg := 22) (am_r 7 rfl) rfl rfl (fun hc4 => ?_) (fun hc4 => ?_)
  · replace hs := (if_pos hc4).symm.trans hs
    exact dX10_stepsTo_j22 hA   hs hQ
  · replace hs := (if_neg hc4).symm.trans hs
    refine AW.aload_n (z := 0) (am_r 8 rfl) rfl rfl ?_
    refine AW.iload_n (z := 2) (am_r 9 rfl) rfl rfl ?_
    refine AW.callV (N := MX10_isRecipe) (As := [.int (p2)]) (S := [(.ref (b))]) (L0 := [some (.ref (b)), some (.int (p2))]) (b := b) (am_r 10 rfl) rfl ovX10_isRecipe q1639 rfl rfl mb_ob rfl rfl rfl rfl (dX10_isRecipe hA  rfl (fun hok27 => (cQ_r ?_)))
    refine AW.if_ne (tg := 26) (am_r 11 rfl) rfl rfl (fun hc28 => ?_) (fun hc28 => ?_)
    · replace hs := (if_neg hc28).symm.trans hs
      refine AW.iconst (am_r 14 rfl) rfl ci_0 ?_
      exact dX10_stepsTo_j27 hA  (Or.inl rfl) hs hQ
    · replace hs := (if_pos hc28).symm.trans hs
      exact dX10_stepsTo_j22 hA   hs hQ
noncomputable def sX10_hoursAhead_l32_step  (p1 : Int32) (a : (Int32 × Int32 × Mem)) : Option ((Int32 × Int32 × Mem) ⊕ (Int32 × Mem)) :=
  obind (sX10_of a.2.2 p1 (3 : Int32)) fun r8 =>
  if r8 ≤ a.2.1 then
    oinr (
    some ((a.1, a.2.2)))
  else
    obind (sX10_of a.2.2 p1 ((13 : Int32) + a.2.1)) fun r14 =>
    obind (sX10_lasting a.2.2 r14) fun r17 =>
    some (.inl (a.1 + r17, a.2.1 + (1 : Int32), a.2.2))
noncomputable def sX10_hoursAhead_l32  (p1 : Int32) (a : (Int32 × Int32 × Mem)) : Option (Int32 × Mem) := itw (sX10_hoursAhead_l32_step  p1) a
set_option maxRecDepth 100000 in
theorem dX10_hoursAhead_l32 {g : AG} {h0 : AH} {b : Nat} {Q : AO → AH → Prop} {p1 : Int32} (hA : gB g ≤ b)  {a : (Int32 × Int32 × Mem)}  {r : (Int32 × Mem)} (hs : sX10_hoursAhead_l32  p1 a = some r) (hQ : Q (.ok (some (.int r.1))) (mb h0 b r.2)) : AW g MX10_hoursAhead 32 [some (.ref (b)), some (.int (p1)), some (.int (a.1)), some (.int (a.2.1))] [] (mb h0 b a.2.2) Q := by
  refine itw_e (P := fun a => AW g MX10_hoursAhead 32 [some (.ref (b)), some (.int (p1)), some (.int (a.1)), some (.int (a.2.1))] [] (mb h0 b a.2.2) Q) (Post := fun r => Q (.ok (some (.int r.1))) (mb h0 b r.2)) (fun a r hs hc he  => ?_) hs hQ 
  unfold sX10_hoursAhead_l32_step at hs
  refine AW.iload_n (z := 3) (am_r 20 rfl) rfl rfl ?_
  refine AW.aload_n (z := 0) (am_r 21 rfl) rfl rfl ?_
  refine AW.iload_n (z := 1) (am_r 22 rfl) rfl rfl ?_
  refine AW.iconst (am_r 23 rfl) rfl ci_3 ?_
  refine obind_e hs (fun r8 hg10 hs => ?_)
  refine AW.callV (N := MX10_of) (As := [.int (p1), .int ((3 : Int32))]) (S := [(.int (a.2.1))]) (L0 := [some (.ref (b)), some (.int (p1)), some (.int ((3 : Int32)))]) (b := b) (am_r 24 rfl) rfl ovX10_of q1615 rfl rfl mb_ob rfl rfl rfl rfl (dX10_of hA  hg10 (cQ_r ?_))
  refine AW.icmp_ge (tg := 64) (am_r 25 rfl) rfl rfl (fun hc11 => ?_) (fun hc11 => ?_)
  · replace hs := (if_pos hc11).symm.trans hs
    refine oinr_e hs (fun z12 hz13 hs => ?_)
    have hQ := he _ hz13
    refine AW.iload_n (z := 2) (am_r 39 rfl) rfl rfl ?_
    have hr := (Option.some.inj hs).symm
    subst hr
    exact AW.iret (am_r 40 rfl) rfl hQ
  · replace hs := (if_neg hc11).symm.trans hs
    refine AW.iload_n (z := 2) (am_r 26 rfl) rfl rfl ?_
    refine AW.aload_n (z := 0) (am_r 27 rfl) rfl rfl ?_
    refine AW.aload_n (z := 0) (am_r 28 rfl) rfl rfl ?_
    refine AW.iload_n (z := 1) (am_r 29 rfl) rfl rfl ?_
    refine AW.bipush (am_r 30 rfl) rfl cb_13 ?_
    refine AW.iload_n (z := 3) (am_r 31 rfl) rfl rfl ?_
    refine AW.iadd (am_r 32 rfl) rfl ?_
    refine obind_e hs (fun r14 hg16 hs => ?_)
    refine AW.callV (N := MX10_of) (As := [.int (p1), .int ((13 : Int32) + a.2.1)]) (S := [(.ref (b)), (.int (a.1))]) (L0 := [some (.ref (b)), some (.int (p1)), some (.int ((13 : Int32) + a.2.1))]) (b := b) (am_r 33 rfl) rfl ovX10_of q1615 rfl rfl mb_ob rfl rfl rfl rfl (dX10_of hA  hg16 (cQ_r ?_))
    refine obind_e hs (fun r17 hg19 hs => ?_)
    refine AW.callV (N := MX10_lasting) (As := [.int (r14)]) (S := [(.int (a.1))]) (L0 := [some (.ref (b)), some (.int (r14))]) (b := b) (am_r 34 rfl) rfl ovX10_lasting q1882 rfl rfl mb_ob rfl rfl rfl rfl (dX10_lasting hA  hg19 (cQ_r ?_))
    refine AW.iadd (am_r 35 rfl) rfl ?_
    refine AW.istore_n (L' := [some (.ref (b)), some (.int (p1)), some (.int (a.1 + r17)), some (.int (a.2.1))]) (z := 2) (am_r 36 rfl) rfl (Nat.le_of_ble_eq_true rfl) rfl ?_
    refine AW.iinc (v := a.2.1 + (1 : Int32)) (L' := [some (.ref (b)), some (.int (p1)), some (.int (a.1 + r17)), some (.int (a.2.1 + (1 : Int32)))]) (am_r 37 rfl) rfl (Nat.le_of_ble_eq_true rfl) rfl (congrArg (fun z => a.2.1 + z) ci_1) rfl ?_
    refine AW.goto (tg := 32) (am_r 38 rfl) rfl ?_
    have hr := (Option.some.inj hs).symm
    exact hc (a.1 + r17, a.2.1 + (1 : Int32), a.2.2) hr 
noncomputable def sX10_hoursAhead_j19 (S : Mem) (p1 : Int32) (y0 : Int32) : Option (Int32 × Mem) :=
  olet (sX10_throwsIf S y0 (1 : Int32)) fun r5 =>
  if r5.1 = 0 then
    sX10_hoursAhead_l32  p1 ((0 : Int32), (0 : Int32), r5.2)
  else
    some (((0 : Int32), r5.2))
set_option maxRecDepth 100000 in
theorem dX10_hoursAhead_j19 {g : AG} {h0 : AH} {b : Nat} {S : Mem} {Q : AO → AH → Prop} {p1 : Int32} {y0 : Int32} (hA : gB g ≤ b)  (hk0 : y0 = 0 ∨ y0 = 1) {r : (Int32 × Mem)} (hs : sX10_hoursAhead_j19 S p1 y0 = some r) (hQ : Q (.ok (some (.int r.1))) (mb h0 b r.2)) : AW g MX10_hoursAhead 19 [some (.ref (b)), some (.int (p1)), none, none] [(.int (y0)), (.ref (b))] (mb h0 b S) Q := by
  unfold sX10_hoursAhead_j19 at hs
  refine AW.iconst (am_r 11 rfl) rfl ci_1 ?_
  refine AW.callV (N := MX10_throwsIf) (As := [.int (y0), .int ((1 : Int32))]) (S := []) (L0 := [some (.ref (b)), some (.int (y0)), some (.int ((1 : Int32)))]) (b := b) (am_r 12 rfl) rfl ovX10_throwsIf q1607 rfl rfl mb_ob rfl rfl rfl rfl (dX10_throwsIf hA hk0 rfl (fun hok6 => (cQ_r ?_)))
  refine olet_e (P := fun (y : (Int32 × Mem)) => (y.1 = 0 ∨ y.1 = 1) → AW g MX10_hoursAhead 23 [some (.ref (b)), some (.int (p1)), none, none] [(.int (y.1))] (mb h0 b y.2) Q) hs (fun r5 hs hok6 => ?_) hok6
  refine AW.if_eq (tg := 28) (am_r 13 rfl) rfl rfl (fun hc7 => ?_) (fun hc7 => ?_)
  · replace hs := (if_pos hc7).symm.trans hs
    refine AW.iconst (am_r 16 rfl) rfl ci_0 ?_
    refine AW.istore_n (L' := [some (.ref (b)), some (.int (p1)), some (.int ((0 : Int32))), none]) (z := 2) (am_r 17 rfl) rfl (Nat.le_of_ble_eq_true rfl) rfl ?_
    refine AW.iconst (am_r 18 rfl) rfl ci_0 ?_
    refine AW.istore_n (L' := [some (.ref (b)), some (.int (p1)), some (.int ((0 : Int32))), some (.int ((0 : Int32)))]) (z := 3) (am_r 19 rfl) rfl (Nat.le_of_ble_eq_true rfl) rfl ?_
    exact dX10_hoursAhead_l32 hA   hs hQ
  · replace hs := (if_neg hc7).symm.trans hs
    refine AW.iconst (am_r 14 rfl) rfl ci_0 ?_
    have hr := (Option.some.inj hs).symm
    subst hr
    exact AW.iret (am_r 15 rfl) rfl hQ
noncomputable def sX10_hoursAhead (S : Mem) (p1 : Int32) : Option (Int32 × Mem) :=
  olet (si S 100 6 0 ((0 : Int32))) fun S1 =>
  if (sX10_isObject S1 p1) = 0 then
    sX10_hoursAhead_j19 S1 p1 (1 : Int32)
  else
    sX10_hoursAhead_j19 S1 p1 (0 : Int32)
set_option maxRecDepth 100000 in
theorem dX10_hoursAhead {g : AG} {h0 : AH} {b : Nat} {S : Mem} {Q : AO → AH → Prop} {p1 : Int32} (hA : gB g ≤ b)  {r : (Int32 × Mem)} (hs : sX10_hoursAhead S p1 = some r) (hQ : Q (.ok (some (.int r.1))) (mb h0 b r.2)) : AW g MX10_hoursAhead 0 [some (.ref (b)), some (.int (p1)), none, none] [] (mb h0 b S) Q := by
  unfold sX10_hoursAhead at hs
  refine AW.aload_n (z := 0) (am_r 0 rfl) rfl rfl ?_
  refine AW.iconst (am_r 1 rfl) rfl ci_0 ?_
  refine AW.putO (am_r 2 rfl) rfl klX10 (k := 6) (by omega) q1509 (Or.inl rfl) mb_ob hA rfl rfl (mbp_ob (by decide)) ?_
  refine olet_e (P := fun y => AW g MX10_hoursAhead 5 [some (.ref (b)), some (.int (p1)), none, none] [] (mb h0 b y) Q) hs (fun S1 hs => ?_)
  refine AW.aload_n (z := 0) (am_r 3 rfl) rfl rfl ?_
  refine AW.aload_n (z := 0) (am_r 4 rfl) rfl rfl ?_
  refine AW.iload_n (z := 1) (am_r 5 rfl) rfl rfl ?_
  refine AW.callV (N := MX10_isObject) (As := [.int (p1)]) (S := [(.ref (b))]) (L0 := [some (.ref (b)), some (.int (p1))]) (b := b) (am_r 6 rfl) rfl ovX10_isObject q1603 rfl rfl mb_ob rfl rfl rfl rfl (dX10_isObject hA  rfl (fun hok3 => (cQ_r ?_)))
  refine AW.if_ne (tg := 18) (am_r 7 rfl) rfl rfl (fun hc4 => ?_) (fun hc4 => ?_)
  · replace hs := (if_neg hc4).symm.trans hs
    refine AW.iconst (am_r 10 rfl) rfl ci_0 ?_
    exact dX10_hoursAhead_j19 hA  (Or.inl rfl) hs hQ
  · replace hs := (if_pos hc4).symm.trans hs
    refine AW.iconst (am_r 8 rfl) rfl ci_1 ?_
    refine AW.goto (tg := 19) (am_r 9 rfl) rfl ?_
    exact dX10_hoursAhead_j19 hA  (Or.inr rfl) hs hQ
noncomputable def sX10_owedAhead_l10_step (S : Mem) (p1 : Int32) (a : (Int64 × Int32)) : Option ((Int64 × Int32) ⊕ Int64) :=
  obind (sX10_of S p1 (3 : Int32)) fun r3 =>
  if r3 ≤ a.2 then
    oinr (
    some (a.1))
  else
    obind (sX10_of S p1 ((13 : Int32) + a.2)) fun r9 =>
    obind (sX10_ofRecipe S r9 (0 : Int32)) fun r12 =>
    obind (sX10_of S p1 ((13 : Int32) + a.2)) fun r15 =>
    obind (sX10_ofRecipe S r15 (6 : Int32)) fun r18 =>
    olet (a.1 + (r12.toInt64 * r18.toInt64)) fun v21 =>
    some (.inl (v21, a.2 + (1 : Int32)))
noncomputable def sX10_owedAhead_l10 (S : Mem) (p1 : Int32) (a : (Int64 × Int32)) : Option Int64 := itw (sX10_owedAhead_l10_step S p1) a
set_option maxRecDepth 100000 in
theorem dX10_owedAhead_l10 {g : AG} {h0 : AH} {b : Nat} {S : Mem} {Q : AO → AH → Prop} {p1 : Int32} (hA : gB g ≤ b)  {a : (Int64 × Int32)}  {r : Int64} (hs : sX10_owedAhead_l10 S p1 a = some r) (hQ : Q (.ok (some (.long r))) (mb h0 b S)) : AW g MX10_owedAhead 10 [some (.ref (b)), some (.int (p1)), some (.long (a.1)), none, some (.int (a.2))] [] (mb h0 b S) Q := by
  refine itw_e (P := fun a => AW g MX10_owedAhead 10 [some (.ref (b)), some (.int (p1)), some (.long (a.1)), none, some (.int (a.2))] [] (mb h0 b S) Q) (Post := fun r => Q (.ok (some (.long r))) (mb h0 b S)) (fun a r hs hc he  => ?_) hs hQ 
  unfold sX10_owedAhead_l10_step at hs
  refine AW.iload (am_r 7 rfl) rfl rfl ?_
  refine AW.aload_n (z := 0) (am_r 8 rfl) rfl rfl ?_
  refine AW.iload_n (z := 1) (am_r 9 rfl) rfl rfl ?_
  refine AW.iconst (am_r 10 rfl) rfl ci_3 ?_
  refine obind_e hs (fun r3 hg5 hs => ?_)
  refine AW.callV (N := MX10_of) (As := [.int (p1), .int ((3 : Int32))]) (S := [(.int (a.2))]) (L0 := [some (.ref (b)), some (.int (p1)), some (.int ((3 : Int32)))]) (b := b) (am_r 11 rfl) rfl ovX10_of q1615 rfl rfl mb_ob rfl rfl rfl rfl (dX10_of hA  hg5 (cQ_r ?_))
  refine AW.icmp_ge (tg := 64) (am_r 12 rfl) rfl rfl (fun hc6 => ?_) (fun hc6 => ?_)
  · replace hs := (if_pos hc6).symm.trans hs
    refine oinr_e hs (fun z7 hz8 hs => ?_)
    have hQ := he _ hz8
    refine AW.lload_n (z := 2) (am_r 39 rfl) rfl rfl ?_
    have hr := (Option.some.inj hs).symm
    subst hr
    exact AW.lret (am_r 40 rfl) rfl hQ
  · replace hs := (if_neg hc6).symm.trans hs
    refine AW.lload_n (z := 2) (am_r 13 rfl) rfl rfl ?_
    refine AW.aload_n (z := 0) (am_r 14 rfl) rfl rfl ?_
    refine AW.aload_n (z := 0) (am_r 15 rfl) rfl rfl ?_
    refine AW.iload_n (z := 1) (am_r 16 rfl) rfl rfl ?_
    refine AW.bipush (am_r 17 rfl) rfl cb_13 ?_
    refine AW.iload (am_r 18 rfl) rfl rfl ?_
    refine AW.iadd (am_r 19 rfl) rfl ?_
    refine obind_e hs (fun r9 hg11 hs => ?_)
    refine AW.callV (N := MX10_of) (As := [.int (p1), .int ((13 : Int32) + a.2)]) (S := [(.ref (b)), (.long (a.1))]) (L0 := [some (.ref (b)), some (.int (p1)), some (.int ((13 : Int32) + a.2))]) (b := b) (am_r 20 rfl) rfl ovX10_of q1615 rfl rfl mb_ob rfl rfl rfl rfl (dX10_of hA  hg11 (cQ_r ?_))
    refine AW.iconst (am_r 21 rfl) rfl ci_0 ?_
    refine obind_e hs (fun r12 hg14 hs => ?_)
    refine AW.callV (N := MX10_ofRecipe) (As := [.int (r9), .int ((0 : Int32))]) (S := [(.long (a.1))]) (L0 := [some (.ref (b)), some (.int (r9)), some (.int ((0 : Int32)))]) (b := b) (am_r 22 rfl) rfl ovX10_ofRecipe q1671 rfl rfl mb_ob rfl rfl rfl rfl (dX10_ofRecipe hA  hg14 (cQ_r ?_))
    refine AW.i2l (am_r 23 rfl) rfl ?_
    refine AW.aload_n (z := 0) (am_r 24 rfl) rfl rfl ?_
    refine AW.aload_n (z := 0) (am_r 25 rfl) rfl rfl ?_
    refine AW.iload_n (z := 1) (am_r 26 rfl) rfl rfl ?_
    refine AW.bipush (am_r 27 rfl) rfl cb_13 ?_
    refine AW.iload (am_r 28 rfl) rfl rfl ?_
    refine AW.iadd (am_r 29 rfl) rfl ?_
    refine obind_e hs (fun r15 hg17 hs => ?_)
    refine AW.callV (N := MX10_of) (As := [.int (p1), .int ((13 : Int32) + a.2)]) (S := [(.ref (b)), (.long (r12.toInt64)), (.long (a.1))]) (L0 := [some (.ref (b)), some (.int (p1)), some (.int ((13 : Int32) + a.2))]) (b := b) (am_r 30 rfl) rfl ovX10_of q1615 rfl rfl mb_ob rfl rfl rfl rfl (dX10_of hA  hg17 (cQ_r ?_))
    refine AW.bipush (am_r 31 rfl) rfl cb_6 ?_
    refine obind_e hs (fun r18 hg20 hs => ?_)
    refine AW.callV (N := MX10_ofRecipe) (As := [.int (r15), .int ((6 : Int32))]) (S := [(.long (r12.toInt64)), (.long (a.1))]) (L0 := [some (.ref (b)), some (.int (r15)), some (.int ((6 : Int32)))]) (b := b) (am_r 32 rfl) rfl ovX10_ofRecipe q1671 rfl rfl mb_ob rfl rfl rfl rfl (dX10_ofRecipe hA  hg20 (cQ_r ?_))
    refine AW.i2l (am_r 33 rfl) rfl ?_
    refine AW.lmul (am_r 34 rfl) rfl ?_
    refine AW.ladd (am_r 35 rfl) rfl ?_
    refine olet_e (P := fun y => AW g MX10_owedAhead 57 [some (.ref (b)), some (.int (p1)), some (.long (a.1)), none, some (.int (a.2))] [(.long (y))] (mb h0 b S) Q) hs (fun v21 hs => ?_)
    refine AW.lstore_n (L' := [some (.ref (b)), some (.int (p1)), some (.long (v21)), none, some (.int (a.2))]) (z := 2) (am_r 36 rfl) rfl (Nat.le_of_ble_eq_true rfl) rfl ?_
    refine AW.iinc (v := a.2 + (1 : Int32)) (L' := [some (.ref (b)), some (.int (p1)), some (.long (v21)), none, some (.int (a.2 + (1 : Int32)))]) (am_r 37 rfl) rfl (Nat.le_of_ble_eq_true rfl) rfl (congrArg (fun z => a.2 + z) ci_1) rfl ?_
    refine AW.goto (tg := 10) (am_r 38 rfl) rfl ?_
    have hr := (Option.some.inj hs).symm
    exact hc (v21, a.2 + (1 : Int32)) hr 
noncomputable def sX10_owedAhead (S : Mem) (p1 : Int32) : Option Int64 :=
  oif (inb p1 224) (
  olet (gq S 1 p1.toNatClampNeg) fun v2 =>
  sX10_owedAhead_l10 S p1 (v2, (0 : Int32)))
set_option maxRecDepth 100000 in
theorem dX10_owedAhead {g : AG} {h0 : AH} {b : Nat} {S : Mem} {Q : AO → AH → Prop} {p1 : Int32} (hA : gB g ≤ b)  {r : Int64} (hs : sX10_owedAhead S p1 = some r) (hQ : Q (.ok (some (.long r))) (mb h0 b S)) : AW g MX10_owedAhead 0 [some (.ref (b)), some (.int (p1)), none, none, none] [] (mb h0 b S) Q := by
  unfold sX10_owedAhead at hs
  refine AW.aload_n (z := 0) (am_r 0 rfl) rfl rfl ?_
  refine AW.getO (am_r 1 rfl) rfl klX10 (k := 1) (by omega) q1504 mb_ob rfl ?_
  refine AW.iload_n (z := 1) (am_r 2 rfl) rfl rfl ?_
  refine oif_g hs (fun hg1 hs => ?_)
  refine AW.lald (am_r 3 rfl) rfl mb_a2 (vp_of_inb hg1) rfl ?_
  refine olet_e (P := fun y => AW g MX10_owedAhead 6 [some (.ref (b)), some (.int (p1)), none, none, none] [(.long (y))] (mb h0 b S) Q) hs (fun v2 hs => ?_)
  refine AW.lstore_n (L' := [some (.ref (b)), some (.int (p1)), some (.long (v2)), none, none]) (z := 2) (am_r 4 rfl) rfl (Nat.le_of_ble_eq_true rfl) rfl ?_
  refine AW.iconst (am_r 5 rfl) rfl ci_0 ?_
  refine AW.istore (L' := [some (.ref (b)), some (.int (p1)), some (.long (v2)), none, some (.int ((0 : Int32)))]) (am_r 6 rfl) rfl (Nat.le_of_ble_eq_true rfl) rfl ?_
  exact dX10_owedAhead_l10 hA   hs hQ
noncomputable def sX10_bill_j45 (S : Mem) (p1 : Int32) (y0 : Int32) : Option (Int32 × Mem) :=
  olet (sX10_throwsIf S y0 (2 : Int32)) fun r10 =>
  if r10.1 = 0 then
    oif (inb p1 224) (
    some (((gq r10.2 1 p1.toNatClampNeg).toInt32, r10.2)))
  else
    some (((0 : Int32), r10.2))
set_option maxRecDepth 100000 in
theorem dX10_bill_j45 {g : AG} {h0 : AH} {b : Nat} {S : Mem} {Q : AO → AH → Prop} {p1 : Int32} {y0 : Int32} (hA : gB g ≤ b)  (hk0 : y0 = 0 ∨ y0 = 1) {r : (Int32 × Mem)} (hs : sX10_bill_j45 S p1 y0 = some r) (hQ : Q (.ok (some (.int r.1))) (mb h0 b r.2)) : AW g MX10_bill 45 [some (.ref (b)), some (.int (p1))] [(.int (y0)), (.ref (b))] (mb h0 b S) Q := by
  unfold sX10_bill_j45 at hs
  refine AW.iconst (am_r 25 rfl) rfl ci_2 ?_
  refine AW.callV (N := MX10_throwsIf) (As := [.int (y0), .int ((2 : Int32))]) (S := []) (L0 := [some (.ref (b)), some (.int (y0)), some (.int ((2 : Int32)))]) (b := b) (am_r 26 rfl) rfl ovX10_throwsIf q1607 rfl rfl mb_ob rfl rfl rfl rfl (dX10_throwsIf hA hk0 rfl (fun hok11 => (cQ_r ?_)))
  refine olet_e (P := fun (y : (Int32 × Mem)) => (y.1 = 0 ∨ y.1 = 1) → AW g MX10_bill 49 [some (.ref (b)), some (.int (p1))] [(.int (y.1))] (mb h0 b y.2) Q) hs (fun r10 hs hok11 => ?_) hok11
  refine AW.if_eq (tg := 56) (am_r 27 rfl) rfl rfl (fun hc12 => ?_) (fun hc12 => ?_)
  · replace hs := (if_pos hc12).symm.trans hs
    refine AW.aload_n (z := 0) (am_r 30 rfl) rfl rfl ?_
    refine AW.getO (am_r 31 rfl) rfl klX10 (k := 1) (by omega) q1504 mb_ob rfl ?_
    refine AW.iload_n (z := 1) (am_r 32 rfl) rfl rfl ?_
    refine oif_g hs (fun hg13 hs => ?_)
    refine AW.lald (am_r 33 rfl) rfl mb_a2 (vp_of_inb hg13) rfl ?_
    refine AW.l2i (am_r 34 rfl) rfl ?_
    have hr := (Option.some.inj hs).symm
    subst hr
    exact AW.iret (am_r 35 rfl) rfl hQ
  · replace hs := (if_neg hc12).symm.trans hs
    refine AW.iconst (am_r 28 rfl) rfl ci_0 ?_
    refine AW.goto (tg := 63) (am_r 29 rfl) rfl ?_
    have hr := (Option.some.inj hs).symm
    subst hr
    exact AW.iret (am_r 35 rfl) rfl hQ
noncomputable def sX10_bill_j19 (S : Mem) (p1 : Int32) (y0 : Int32) : Option (Int32 × Mem) :=
  olet (sX10_throwsIf S y0 (1 : Int32)) fun r5 =>
  if r5.1 = 0 then
    oif (inb p1 224) (
    if (lg_cmp (gq r5.2 1 p1.toNatClampNeg) (2147483647 : Int64)) ≤ 0 then
      sX10_bill_j45 r5.2 p1 (0 : Int32)
    else
      sX10_bill_j45 r5.2 p1 (1 : Int32))
  else
    some (((0 : Int32), r5.2))
set_option maxRecDepth 100000 in
theorem dX10_bill_j19 {g : AG} {h0 : AH} {b : Nat} {S : Mem} {Q : AO → AH → Prop} {p1 : Int32} {y0 : Int32} (hA : gB g ≤ b)  (hk0 : y0 = 0 ∨ y0 = 1) {r : (Int32 × Mem)} (hs : sX10_bill_j19 S p1 y0 = some r) (hQ : Q (.ok (some (.int r.1))) (mb h0 b r.2)) : AW g MX10_bill 19 [some (.ref (b)), some (.int (p1))] [(.int (y0)), (.ref (b))] (mb h0 b S) Q := by
  unfold sX10_bill_j19 at hs
  refine AW.iconst (am_r 11 rfl) rfl ci_1 ?_
  refine AW.callV (N := MX10_throwsIf) (As := [.int (y0), .int ((1 : Int32))]) (S := []) (L0 := [some (.ref (b)), some (.int (y0)), some (.int ((1 : Int32)))]) (b := b) (am_r 12 rfl) rfl ovX10_throwsIf q1607 rfl rfl mb_ob rfl rfl rfl rfl (dX10_throwsIf hA hk0 rfl (fun hok6 => (cQ_r ?_)))
  refine olet_e (P := fun (y : (Int32 × Mem)) => (y.1 = 0 ∨ y.1 = 1) → AW g MX10_bill 23 [some (.ref (b)), some (.int (p1))] [(.int (y.1))] (mb h0 b y.2) Q) hs (fun r5 hs hok6 => ?_) hok6
  refine AW.if_ne (tg := 52) (am_r 13 rfl) rfl rfl (fun hc7 => ?_) (fun hc7 => ?_)
  · replace hs := (if_neg hc7).symm.trans hs
    refine AW.iconst (am_r 28 rfl) rfl ci_0 ?_
    refine AW.goto (tg := 63) (am_r 29 rfl) rfl ?_
    have hr := (Option.some.inj hs).symm
    subst hr
    exact AW.iret (am_r 35 rfl) rfl hQ
  · replace hs := (if_pos hc7).symm.trans hs
    refine AW.aload_n (z := 0) (am_r 14 rfl) rfl rfl ?_
    refine AW.aload_n (z := 0) (am_r 15 rfl) rfl rfl ?_
    refine AW.getO (am_r 16 rfl) rfl klX10 (k := 1) (by omega) q1504 mb_ob rfl ?_
    refine AW.iload_n (z := 1) (am_r 17 rfl) rfl rfl ?_
    refine oif_g hs (fun hg8 hs => ?_)
    refine AW.lald (am_r 18 rfl) rfl mb_a2 (vp_of_inb hg8) rfl ?_
    refine AW.ldc2 (v := (2147483647)) (am_r 19 rfl) rfl q1906 ?_
    refine AW.lcmp (am_r 20 rfl) rfl ?_
    refine AW.if_le (tg := 44) (am_r 21 rfl) rfl rfl (fun hc9 => ?_) (fun hc9 => ?_)
    · replace hs := (if_pos hc9).symm.trans hs
      refine AW.iconst (am_r 24 rfl) rfl ci_0 ?_
      exact dX10_bill_j45 hA  (Or.inl rfl) hs hQ
    · replace hs := (if_neg hc9).symm.trans hs
      refine AW.iconst (am_r 22 rfl) rfl ci_1 ?_
      refine AW.goto (tg := 45) (am_r 23 rfl) rfl ?_
      exact dX10_bill_j45 hA  (Or.inr rfl) hs hQ
noncomputable def sX10_bill (S : Mem) (p1 : Int32) : Option (Int32 × Mem) :=
  olet (si S 100 6 0 ((0 : Int32))) fun S1 =>
  if (sX10_isObject S1 p1) = 0 then
    sX10_bill_j19 S1 p1 (1 : Int32)
  else
    sX10_bill_j19 S1 p1 (0 : Int32)
set_option maxRecDepth 100000 in
theorem dX10_bill {g : AG} {h0 : AH} {b : Nat} {S : Mem} {Q : AO → AH → Prop} {p1 : Int32} (hA : gB g ≤ b)  {r : (Int32 × Mem)} (hs : sX10_bill S p1 = some r) (hQ : Q (.ok (some (.int r.1))) (mb h0 b r.2)) : AW g MX10_bill 0 [some (.ref (b)), some (.int (p1))] [] (mb h0 b S) Q := by
  unfold sX10_bill at hs
  refine AW.aload_n (z := 0) (am_r 0 rfl) rfl rfl ?_
  refine AW.iconst (am_r 1 rfl) rfl ci_0 ?_
  refine AW.putO (am_r 2 rfl) rfl klX10 (k := 6) (by omega) q1509 (Or.inl rfl) mb_ob hA rfl rfl (mbp_ob (by decide)) ?_
  refine olet_e (P := fun y => AW g MX10_bill 5 [some (.ref (b)), some (.int (p1))] [] (mb h0 b y) Q) hs (fun S1 hs => ?_)
  refine AW.aload_n (z := 0) (am_r 3 rfl) rfl rfl ?_
  refine AW.aload_n (z := 0) (am_r 4 rfl) rfl rfl ?_
  refine AW.iload_n (z := 1) (am_r 5 rfl) rfl rfl ?_
  refine AW.callV (N := MX10_isObject) (As := [.int (p1)]) (S := [(.ref (b))]) (L0 := [some (.ref (b)), some (.int (p1))]) (b := b) (am_r 6 rfl) rfl ovX10_isObject q1603 rfl rfl mb_ob rfl rfl rfl rfl (dX10_isObject hA  rfl (fun hok3 => (cQ_r ?_)))
  refine AW.if_ne (tg := 18) (am_r 7 rfl) rfl rfl (fun hc4 => ?_) (fun hc4 => ?_)
  · replace hs := (if_neg hc4).symm.trans hs
    refine AW.iconst (am_r 10 rfl) rfl ci_0 ?_
    exact dX10_bill_j19 hA  (Or.inl rfl) hs hQ
  · replace hs := (if_pos hc4).symm.trans hs
    refine AW.iconst (am_r 8 rfl) rfl ci_1 ?_
    refine AW.goto (tg := 19) (am_r 9 rfl) rfl ?_
    exact dX10_bill_j19 hA  (Or.inr rfl) hs hQ
noncomputable def sX10_allBills_j48 (S : Mem)  (y0 : Int64) (y1 : Int32) : Option (Int32 × Mem) :=
  olet (sX10_throwsIf S y1 (1 : Int32)) fun r6 =>
  if r6.1 = 0 then
    some ((y0.toInt32, r6.2))
  else
    some (((0 : Int32), r6.2))
set_option maxRecDepth 100000 in
theorem dX10_allBills_j48 {g : AG} {h0 : AH} {b : Nat} {S : Mem} {Q : AO → AH → Prop}  {y0 : Int64} {y1 : Int32} (hA : gB g ≤ b)  (hk1 : y1 = 0 ∨ y1 = 1) {r : (Int32 × Mem)} (hs : sX10_allBills_j48 S  y0 y1 = some r) (hQ : Q (.ok (some (.int r.1))) (mb h0 b r.2)) : AW g MX10_allBills 48 [none, some (.long (y0)), none, none] [(.int (y1)), (.ref (b))] (mb h0 b S) Q := by
  unfold sX10_allBills_j48 at hs
  refine AW.iconst (am_r 30 rfl) rfl ci_1 ?_
  refine AW.callV (N := MX10_throwsIf) (As := [.int (y1), .int ((1 : Int32))]) (S := []) (L0 := [some (.ref (b)), some (.int (y1)), some (.int ((1 : Int32)))]) (b := b) (am_r 31 rfl) rfl ovX10_throwsIf q1607 rfl rfl mb_ob rfl rfl rfl rfl (dX10_throwsIf hA hk1 rfl (fun hok7 => (cQ_r ?_)))
  refine olet_e (P := fun (y : (Int32 × Mem)) => (y.1 = 0 ∨ y.1 = 1) → AW g MX10_allBills 52 [none, some (.long (y0)), none, none] [(.int (y.1))] (mb h0 b y.2) Q) hs (fun r6 hs hok7 => ?_) hok7
  refine AW.if_eq (tg := 59) (am_r 32 rfl) rfl rfl (fun hc8 => ?_) (fun hc8 => ?_)
  · replace hs := (if_pos hc8).symm.trans hs
    refine AW.lload_n (z := 1) (am_r 35 rfl) rfl rfl ?_
    refine AW.l2i (am_r 36 rfl) rfl ?_
    have hr := (Option.some.inj hs).symm
    subst hr
    exact AW.iret (am_r 37 rfl) rfl hQ
  · replace hs := (if_neg hc8).symm.trans hs
    refine AW.iconst (am_r 33 rfl) rfl ci_0 ?_
    refine AW.goto (tg := 61) (am_r 34 rfl) rfl ?_
    have hr := (Option.some.inj hs).symm
    subst hr
    exact AW.iret (am_r 37 rfl) rfl hQ
noncomputable def sX10_allBills_l9_step   (a : (Int64 × Int32 × Mem)) : Option ((Int64 × Int32 × Mem) ⊕ (Int32 × Mem)) :=
  if (gi a.2.2 5 (4 : Int32).toNatClampNeg 0) ≤ a.2.1 then
    oinr (
    if (lg_cmp a.1 (2147483647 : Int64)) ≤ 0 then
      sX10_allBills_j48 a.2.2  a.1 (0 : Int32)
    else
      sX10_allBills_j48 a.2.2  a.1 (1 : Int32))
  else
    oif (inb a.2.1 224) (
    olet (a.1 + (gq a.2.2 1 a.2.1.toNatClampNeg)) fun v10 =>
    some (.inl (v10, a.2.1 + (1 : Int32), a.2.2)))
noncomputable def sX10_allBills_l9   (a : (Int64 × Int32 × Mem)) : Option (Int32 × Mem) := itw (sX10_allBills_l9_step  ) a
set_option maxRecDepth 100000 in
theorem dX10_allBills_l9 {g : AG} {h0 : AH} {b : Nat} {Q : AO → AH → Prop}  (hA : gB g ≤ b)  {a : (Int64 × Int32 × Mem)}  {r : (Int32 × Mem)} (hs : sX10_allBills_l9   a = some r) (hQ : Q (.ok (some (.int r.1))) (mb h0 b r.2)) : AW g MX10_allBills 9 [some (.ref (b)), some (.long (a.1)), none, some (.int (a.2.1))] [] (mb h0 b a.2.2) Q := by
  refine itw_e (P := fun a => AW g MX10_allBills 9 [some (.ref (b)), some (.long (a.1)), none, some (.int (a.2.1))] [] (mb h0 b a.2.2) Q) (Post := fun r => Q (.ok (some (.int r.1))) (mb h0 b r.2)) (fun a r hs hc he  => ?_) hs hQ 
  unfold sX10_allBills_l9_step at hs
  refine AW.iload_n (z := 3) (am_r 7 rfl) rfl rfl ?_
  refine AW.aload_n (z := 0) (am_r 8 rfl) rfl rfl ?_
  refine AW.getO (am_r 9 rfl) rfl klX10 (k := 5) (by omega) q1508 mb_ob rfl ?_
  refine AW.iconst (am_r 10 rfl) rfl ci_4 ?_
  refine AW.iald (am_r 11 rfl) rfl mb_a4 (vp_of_inb rfl) rfl ?_
  refine AW.icmp_ge (tg := 34) (am_r 12 rfl) rfl rfl (fun hc2 => ?_) (fun hc2 => ?_)
  · replace hs := (if_pos hc2).symm.trans hs
    refine oinr_e hs (fun z3 hz4 hs => ?_)
    have hQ := he _ hz4
    refine AW.aload_n (z := 0) (am_r 22 rfl) rfl rfl ?_
    refine AW.lload_n (z := 1) (am_r 23 rfl) rfl rfl ?_
    refine AW.ldc2 (v := (2147483647)) (am_r 24 rfl) rfl q1906 ?_
    refine AW.lcmp (am_r 25 rfl) rfl ?_
    refine AW.if_le (tg := 47) (am_r 26 rfl) rfl rfl (fun hc5 => ?_) (fun hc5 => ?_)
    · replace hs := (if_pos hc5).symm.trans hs
      refine AW.iconst (am_r 29 rfl) rfl ci_0 ?_
      refine AW.lessL (L' := [none, some (.long (a.1)), none, none]) ⟨rfl, trivial⟩ ?_
      exact dX10_allBills_j48 hA  (Or.inl rfl) hs hQ
    · replace hs := (if_neg hc5).symm.trans hs
      refine AW.iconst (am_r 27 rfl) rfl ci_1 ?_
      refine AW.goto (tg := 48) (am_r 28 rfl) rfl ?_
      refine AW.lessL (L' := [none, some (.long (a.1)), none, none]) ⟨rfl, trivial⟩ ?_
      exact dX10_allBills_j48 hA  (Or.inr rfl) hs hQ
  · replace hs := (if_neg hc2).symm.trans hs
    refine AW.lload_n (z := 1) (am_r 13 rfl) rfl rfl ?_
    refine AW.aload_n (z := 0) (am_r 14 rfl) rfl rfl ?_
    refine AW.getO (am_r 15 rfl) rfl klX10 (k := 1) (by omega) q1504 mb_ob rfl ?_
    refine AW.iload_n (z := 3) (am_r 16 rfl) rfl rfl ?_
    refine oif_g hs (fun hg9 hs => ?_)
    refine AW.lald (am_r 17 rfl) rfl mb_a2 (vp_of_inb hg9) rfl ?_
    refine AW.ladd (am_r 18 rfl) rfl ?_
    refine olet_e (P := fun y => AW g MX10_allBills 27 [some (.ref (b)), some (.long (a.1)), none, some (.int (a.2.1))] [(.long (y))] (mb h0 b a.2.2) Q) hs (fun v10 hs => ?_)
    refine AW.lstore_n (L' := [some (.ref (b)), some (.long (v10)), none, some (.int (a.2.1))]) (z := 1) (am_r 19 rfl) rfl (Nat.le_of_ble_eq_true rfl) rfl ?_
    refine AW.iinc (v := a.2.1 + (1 : Int32)) (L' := [some (.ref (b)), some (.long (v10)), none, some (.int (a.2.1 + (1 : Int32)))]) (am_r 20 rfl) rfl (Nat.le_of_ble_eq_true rfl) rfl (congrArg (fun z => a.2.1 + z) ci_1) rfl ?_
    refine AW.goto (tg := 9) (am_r 21 rfl) rfl ?_
    have hr := (Option.some.inj hs).symm
    exact hc (v10, a.2.1 + (1 : Int32), a.2.2) hr 
noncomputable def sX10_allBills (S : Mem)  : Option (Int32 × Mem) :=
  olet (si S 100 6 0 ((0 : Int32))) fun S1 =>
  sX10_allBills_l9   ((0 : Int64), (0 : Int32), S1)
set_option maxRecDepth 100000 in
theorem dX10_allBills {g : AG} {h0 : AH} {b : Nat} {S : Mem} {Q : AO → AH → Prop}  (hA : gB g ≤ b)  {r : (Int32 × Mem)} (hs : sX10_allBills S  = some r) (hQ : Q (.ok (some (.int r.1))) (mb h0 b r.2)) : AW g MX10_allBills 0 [some (.ref (b)), none, none, none] [] (mb h0 b S) Q := by
  unfold sX10_allBills at hs
  refine AW.aload_n (z := 0) (am_r 0 rfl) rfl rfl ?_
  refine AW.iconst (am_r 1 rfl) rfl ci_0 ?_
  refine AW.putO (am_r 2 rfl) rfl klX10 (k := 6) (by omega) q1509 (Or.inl rfl) mb_ob hA rfl rfl (mbp_ob (by decide)) ?_
  refine olet_e (P := fun y => AW g MX10_allBills 5 [some (.ref (b)), none, none, none] [] (mb h0 b y) Q) hs (fun S1 hs => ?_)
  refine AW.lconst (z := 0) (am_r 3 rfl) rfl cl_0 ?_
  refine AW.lstore_n (L' := [some (.ref (b)), some (.long ((0 : Int64))), none, none]) (z := 1) (am_r 4 rfl) rfl (Nat.le_of_ble_eq_true rfl) rfl ?_
  refine AW.iconst (am_r 5 rfl) rfl ci_0 ?_
  refine AW.istore_n (L' := [some (.ref (b)), some (.long ((0 : Int64))), none, some (.int ((0 : Int32)))]) (z := 3) (am_r 6 rfl) rfl (Nat.le_of_ble_eq_true rfl) rfl ?_
  exact dX10_allBills_l9 hA   hs hQ
noncomputable def sX10_billAhead_j44 (S : Mem) (p1 : Int32) (y0 : Int32) : Option (Int32 × Mem) :=
  olet (sX10_throwsIf S y0 (2 : Int32)) fun r12 =>
  if r12.1 = 0 then
    obind (sX10_owedAhead r12.2 p1) fun r15 =>
    some ((r15.toInt32, r12.2))
  else
    some (((0 : Int32), r12.2))
set_option maxRecDepth 100000 in
theorem dX10_billAhead_j44 {g : AG} {h0 : AH} {b : Nat} {S : Mem} {Q : AO → AH → Prop} {p1 : Int32} {y0 : Int32} (hA : gB g ≤ b)  (hk0 : y0 = 0 ∨ y0 = 1) {r : (Int32 × Mem)} (hs : sX10_billAhead_j44 S p1 y0 = some r) (hQ : Q (.ok (some (.int r.1))) (mb h0 b r.2)) : AW g MX10_billAhead 44 [some (.ref (b)), some (.int (p1))] [(.int (y0)), (.ref (b))] (mb h0 b S) Q := by
  unfold sX10_billAhead_j44 at hs
  refine AW.iconst (am_r 24 rfl) rfl ci_2 ?_
  refine AW.callV (N := MX10_throwsIf) (As := [.int (y0), .int ((2 : Int32))]) (S := []) (L0 := [some (.ref (b)), some (.int (y0)), some (.int ((2 : Int32)))]) (b := b) (am_r 25 rfl) rfl ovX10_throwsIf q1607 rfl rfl mb_ob rfl rfl rfl rfl (dX10_throwsIf hA hk0 rfl (fun hok13 => (cQ_r ?_)))
  refine olet_e (P := fun (y : (Int32 × Mem)) => (y.1 = 0 ∨ y.1 = 1) → AW g MX10_billAhead 48 [some (.ref (b)), some (.int (p1))] [(.int (y.1))] (mb h0 b y.2) Q) hs (fun r12 hs hok13 => ?_) hok13
  refine AW.if_eq (tg := 55) (am_r 26 rfl) rfl rfl (fun hc14 => ?_) (fun hc14 => ?_)
  · replace hs := (if_pos hc14).symm.trans hs
    refine AW.aload_n (z := 0) (am_r 29 rfl) rfl rfl ?_
    refine AW.iload_n (z := 1) (am_r 30 rfl) rfl rfl ?_
    refine obind_e hs (fun r15 hg17 hs => ?_)
    refine AW.callV (N := MX10_owedAhead) (As := [.int (p1)]) (S := []) (L0 := [some (.ref (b)), some (.int (p1)), none, none, none]) (b := b) (am_r 31 rfl) rfl ovX10_owedAhead q1915 rfl rfl mb_ob rfl rfl rfl rfl (dX10_owedAhead hA  hg17 (cQ_r ?_))
    refine AW.l2i (am_r 32 rfl) rfl ?_
    have hr := (Option.some.inj hs).symm
    subst hr
    exact AW.iret (am_r 33 rfl) rfl hQ
  · replace hs := (if_neg hc14).symm.trans hs
    refine AW.iconst (am_r 27 rfl) rfl ci_0 ?_
    refine AW.goto (tg := 61) (am_r 28 rfl) rfl ?_
    have hr := (Option.some.inj hs).symm
    subst hr
    exact AW.iret (am_r 33 rfl) rfl hQ
noncomputable def sX10_billAhead_j19 (S : Mem) (p1 : Int32) (y0 : Int32) : Option (Int32 × Mem) :=
  olet (sX10_throwsIf S y0 (1 : Int32)) fun r5 =>
  if r5.1 = 0 then
    obind (sX10_owedAhead r5.2 p1) fun r8 =>
    if (lg_cmp r8 (2147483647 : Int64)) ≤ 0 then
      sX10_billAhead_j44 r5.2 p1 (0 : Int32)
    else
      sX10_billAhead_j44 r5.2 p1 (1 : Int32)
  else
    some (((0 : Int32), r5.2))
set_option maxRecDepth 100000 in
theorem dX10_billAhead_j19 {g : AG} {h0 : AH} {b : Nat} {S : Mem} {Q : AO → AH → Prop} {p1 : Int32} {y0 : Int32} (hA : gB g ≤ b)  (hk0 : y0 = 0 ∨ y0 = 1) {r : (Int32 × Mem)} (hs : sX10_billAhead_j19 S p1 y0 = some r) (hQ : Q (.ok (some (.int r.1))) (mb h0 b r.2)) : AW g MX10_billAhead 19 [some (.ref (b)), some (.int (p1))] [(.int (y0)), (.ref (b))] (mb h0 b S) Q := by
  unfold sX10_billAhead_j19 at hs
  refine AW.iconst (am_r 11 rfl) rfl ci_1 ?_
  refine AW.callV (N := MX10_throwsIf) (As := [.int (y0), .int ((1 : Int32))]) (S := []) (L0 := [some (.ref (b)), some (.int (y0)), some (.int ((1 : Int32)))]) (b := b) (am_r 12 rfl) rfl ovX10_throwsIf q1607 rfl rfl mb_ob rfl rfl rfl rfl (dX10_throwsIf hA hk0 rfl (fun hok6 => (cQ_r ?_)))
  refine olet_e (P := fun (y : (Int32 × Mem)) => (y.1 = 0 ∨ y.1 = 1) → AW g MX10_billAhead 23 [some (.ref (b)), some (.int (p1))] [(.int (y.1))] (mb h0 b y.2) Q) hs (fun r5 hs hok6 => ?_) hok6
  refine AW.if_ne (tg := 51) (am_r 13 rfl) rfl rfl (fun hc7 => ?_) (fun hc7 => ?_)
  · replace hs := (if_neg hc7).symm.trans hs
    refine AW.iconst (am_r 27 rfl) rfl ci_0 ?_
    refine AW.goto (tg := 61) (am_r 28 rfl) rfl ?_
    have hr := (Option.some.inj hs).symm
    subst hr
    exact AW.iret (am_r 33 rfl) rfl hQ
  · replace hs := (if_pos hc7).symm.trans hs
    refine AW.aload_n (z := 0) (am_r 14 rfl) rfl rfl ?_
    refine AW.aload_n (z := 0) (am_r 15 rfl) rfl rfl ?_
    refine AW.iload_n (z := 1) (am_r 16 rfl) rfl rfl ?_
    refine obind_e hs (fun r8 hg10 hs => ?_)
    refine AW.callV (N := MX10_owedAhead) (As := [.int (p1)]) (S := [(.ref (b))]) (L0 := [some (.ref (b)), some (.int (p1)), none, none, none]) (b := b) (am_r 17 rfl) rfl ovX10_owedAhead q1915 rfl rfl mb_ob rfl rfl rfl rfl (dX10_owedAhead hA  hg10 (cQ_r ?_))
    refine AW.ldc2 (v := (2147483647)) (am_r 18 rfl) rfl q1906 ?_
    refine AW.lcmp (am_r 19 rfl) rfl ?_
    refine AW.if_le (tg := 43) (am_r 20 rfl) rfl rfl (fun hc11 => ?_) (fun hc11 => ?_)
    · replace hs := (if_pos hc11).symm.trans hs
      refine AW.iconst (am_r 23 rfl) rfl ci_0 ?_
      exact dX10_billAhead_j44 hA  (Or.inl rfl) hs hQ
    · replace hs := (if_neg hc11).symm.trans hs
      refine AW.iconst (am_r 21 rfl) rfl ci_1 ?_
      refine AW.goto (tg := 44) (am_r 22 rfl) rfl ?_
      exact dX10_billAhead_j44 hA  (Or.inr rfl) hs hQ
noncomputable def sX10_billAhead (S : Mem) (p1 : Int32) : Option (Int32 × Mem) :=
  olet (si S 100 6 0 ((0 : Int32))) fun S1 =>
  if (sX10_isObject S1 p1) = 0 then
    sX10_billAhead_j19 S1 p1 (1 : Int32)
  else
    sX10_billAhead_j19 S1 p1 (0 : Int32)
set_option maxRecDepth 100000 in
theorem dX10_billAhead {g : AG} {h0 : AH} {b : Nat} {S : Mem} {Q : AO → AH → Prop} {p1 : Int32} (hA : gB g ≤ b)  {r : (Int32 × Mem)} (hs : sX10_billAhead S p1 = some r) (hQ : Q (.ok (some (.int r.1))) (mb h0 b r.2)) : AW g MX10_billAhead 0 [some (.ref (b)), some (.int (p1))] [] (mb h0 b S) Q := by
  unfold sX10_billAhead at hs
  refine AW.aload_n (z := 0) (am_r 0 rfl) rfl rfl ?_
  refine AW.iconst (am_r 1 rfl) rfl ci_0 ?_
  refine AW.putO (am_r 2 rfl) rfl klX10 (k := 6) (by omega) q1509 (Or.inl rfl) mb_ob hA rfl rfl (mbp_ob (by decide)) ?_
  refine olet_e (P := fun y => AW g MX10_billAhead 5 [some (.ref (b)), some (.int (p1))] [] (mb h0 b y) Q) hs (fun S1 hs => ?_)
  refine AW.aload_n (z := 0) (am_r 3 rfl) rfl rfl ?_
  refine AW.aload_n (z := 0) (am_r 4 rfl) rfl rfl ?_
  refine AW.iload_n (z := 1) (am_r 5 rfl) rfl rfl ?_
  refine AW.callV (N := MX10_isObject) (As := [.int (p1)]) (S := [(.ref (b))]) (L0 := [some (.ref (b)), some (.int (p1))]) (b := b) (am_r 6 rfl) rfl ovX10_isObject q1603 rfl rfl mb_ob rfl rfl rfl rfl (dX10_isObject hA  rfl (fun hok3 => (cQ_r ?_)))
  refine AW.if_ne (tg := 18) (am_r 7 rfl) rfl rfl (fun hc4 => ?_) (fun hc4 => ?_)
  · replace hs := (if_neg hc4).symm.trans hs
    refine AW.iconst (am_r 10 rfl) rfl ci_0 ?_
    exact dX10_billAhead_j19 hA  (Or.inl rfl) hs hQ
  · replace hs := (if_pos hc4).symm.trans hs
    refine AW.iconst (am_r 8 rfl) rfl ci_1 ?_
    refine AW.goto (tg := 19) (am_r 9 rfl) rfl ?_
    exact dX10_billAhead_j19 hA  (Or.inr rfl) hs hQ
noncomputable def sX10_ofRecord (S : Mem) (p1 : Int32) (p2 : Int32) : Option Int32 :=
  oif (inb (((358 : Int32) + ((6 : Int32) * (((gi S 0 (5 : Int32).toNatClampNeg 0) + p1) - ((gi S 0 (5 : Int32).toNatClampNeg 0) + p1) / (100 : Int32) * (100 : Int32)))) + p2) 13412) (
  some (gi S 0 (((358 : Int32) + ((6 : Int32) * (((gi S 0 (5 : Int32).toNatClampNeg 0) + p1) - ((gi S 0 (5 : Int32).toNatClampNeg 0) + p1) / (100 : Int32) * (100 : Int32)))) + p2).toNatClampNeg 0))
set_option maxRecDepth 100000 in
theorem dX10_ofRecord {g : AG} {h0 : AH} {b : Nat} {S : Mem} {Q : AO → AH → Prop} {p1 : Int32} {p2 : Int32} (hA : gB g ≤ b)  {r : Int32} (hs : sX10_ofRecord S p1 p2 = some r) (hQ : Q (.ok (some (.int r))) (mb h0 b S)) : AW g MX10_ofRecord 0 [some (.ref (b)), some (.int (p1)), some (.int (p2))] [] (mb h0 b S) Q := by
  unfold sX10_ofRecord at hs
  refine AW.aload_n (z := 0) (am_r 0 rfl) rfl rfl ?_
  refine AW.getO (am_r 1 rfl) rfl klX10 (k := 0) (by omega) q1503 mb_ob rfl ?_
  refine AW.sipush (am_r 2 rfl) rfl cs_358 ?_
  refine AW.bipush (am_r 3 rfl) rfl cb_6 ?_
  refine AW.aload_n (z := 0) (am_r 4 rfl) rfl rfl ?_
  refine AW.getO (am_r 5 rfl) rfl klX10 (k := 0) (by omega) q1503 mb_ob rfl ?_
  refine AW.iconst (am_r 6 rfl) rfl ci_5 ?_
  refine AW.iald (am_r 7 rfl) rfl mb_a1 (vp_of_inb rfl) rfl ?_
  refine AW.iload_n (z := 1) (am_r 8 rfl) rfl rfl ?_
  refine AW.iadd (am_r 9 rfl) rfl ?_
  refine AW.bipush (am_r 10 rfl) rfl cb_100 ?_
  refine AW.irem (am_r 11 rfl) rfl (by decide) ?_
  refine AW.imul (am_r 12 rfl) rfl ?_
  refine AW.iadd (am_r 13 rfl) rfl ?_
  refine AW.iload_n (z := 2) (am_r 14 rfl) rfl rfl ?_
  refine AW.iadd (am_r 15 rfl) rfl ?_
  refine oif_g hs (fun hg1 hs => ?_)
  refine AW.iald (am_r 16 rfl) rfl mb_a1 (vp_of_inb hg1) rfl ?_
  have hr := (Option.some.inj hs).symm
  subst hr
  exact AW.iret (am_r 17 rfl) rfl hQ
noncomputable def sX10_record_j29 (S : Mem) (p1 : Int32) (p2 : Int32) (y0 : Int32) : Option (Int32 × Mem) :=
  olet (sX10_throwsIf S y0 (1 : Int32)) fun r5 =>
  if r5.1 = 0 then
    if (sX10_inRange r5.2 p2.toInt64 (0 : Int64) (5 : Int64)) = 0 then
      some (((-1 : Int32), r5.2))
    else
      obind (sX10_ofRecord r5.2 p1 p2) fun r11 =>
      some ((r11, r5.2))
  else
    some (((0 : Int32), r5.2))
set_option maxRecDepth 100000 in
theorem dX10_record_j29 {g : AG} {h0 : AH} {b : Nat} {S : Mem} {Q : AO → AH → Prop} {p1 : Int32} {p2 : Int32} {y0 : Int32} (hA : gB g ≤ b)  (hk0 : y0 = 0 ∨ y0 = 1) {r : (Int32 × Mem)} (hs : sX10_record_j29 S p1 p2 y0 = some r) (hQ : Q (.ok (some (.int r.1))) (mb h0 b r.2)) : AW g MX10_record 29 [some (.ref (b)), some (.int (p1)), some (.int (p2))] [(.int (y0)), (.ref (b))] (mb h0 b S) Q := by
  unfold sX10_record_j29 at hs
  refine AW.iconst (am_r 19 rfl) rfl ci_1 ?_
  refine AW.callV (N := MX10_throwsIf) (As := [.int (y0), .int ((1 : Int32))]) (S := []) (L0 := [some (.ref (b)), some (.int (y0)), some (.int ((1 : Int32)))]) (b := b) (am_r 20 rfl) rfl ovX10_throwsIf q1607 rfl rfl mb_ob rfl rfl rfl rfl (dX10_throwsIf hA hk0 rfl (fun hok6 => (cQ_r ?_)))
  refine olet_e (P := fun (y : (Int32 × Mem)) => (y.1 = 0 ∨ y.1 = 1) → AW g MX10_record 33 [some (.ref (b)), some (.int (p1)), some (.int (p2))] [(.int (y.1))] (mb h0 b y.2) Q) hs (fun r5 hs hok6 => ?_) hok6
  refine AW.if_eq (tg := 40) (am_r 21 rfl) rfl rfl (fun hc7 => ?_) (fun hc7 => ?_)
  · replace hs := (if_pos hc7).symm.trans hs
    refine AW.iload_n (z := 2) (am_r 24 rfl) rfl rfl ?_
    refine AW.i2l (am_r 25 rfl) rfl ?_
    refine AW.lconst (z := 0) (am_r 26 rfl) rfl cl_0 ?_
    refine AW.ldc2 (v := (5)) (am_r 27 rfl) rfl q1923 ?_
    refine AW.callS (N := MX10_inRange) (As := [.long (p2.toInt64), .long ((0 : Int64)), .long ((5 : Int64))]) (S := []) (L0 := [some (.long (p2.toInt64)), none, some (.long ((0 : Int64))), none, some (.long ((5 : Int64))), none]) (am_r 28 rfl) rfl osX10_inRange q1592 rfl rfl rfl rfl rfl (dX10_inRange hA  rfl (fun hok9 => (cQ_r ?_)))
    refine AW.if_eq (tg := 61) (am_r 29 rfl) rfl rfl (fun hc10 => ?_) (fun hc10 => ?_)
    · replace hs := (if_pos hc10).symm.trans hs
      refine AW.iconst (am_r 35 rfl) rfl ci_m1 ?_
      have hr := (Option.some.inj hs).symm
      subst hr
      exact AW.iret (am_r 36 rfl) rfl hQ
    · replace hs := (if_neg hc10).symm.trans hs
      refine AW.aload_n (z := 0) (am_r 30 rfl) rfl rfl ?_
      refine AW.iload_n (z := 1) (am_r 31 rfl) rfl rfl ?_
      refine AW.iload_n (z := 2) (am_r 32 rfl) rfl rfl ?_
      refine obind_e hs (fun r11 hg13 hs => ?_)
      refine AW.callV (N := MX10_ofRecord) (As := [.int (p1), .int (p2)]) (S := []) (L0 := [some (.ref (b)), some (.int (p1)), some (.int (p2))]) (b := b) (am_r 33 rfl) rfl ovX10_ofRecord q1924 rfl rfl mb_ob rfl rfl rfl rfl (dX10_ofRecord hA  hg13 (cQ_r ?_))
      refine AW.goto (tg := 62) (am_r 34 rfl) rfl ?_
      have hr := (Option.some.inj hs).symm
      subst hr
      exact AW.iret (am_r 36 rfl) rfl hQ
  · replace hs := (if_neg hc7).symm.trans hs
    refine AW.iconst (am_r 22 rfl) rfl ci_0 ?_
    refine AW.goto (tg := 62) (am_r 23 rfl) rfl ?_
    have hr := (Option.some.inj hs).symm
    subst hr
    exact AW.iret (am_r 36 rfl) rfl hQ
noncomputable def sX10_record (S : Mem) (p1 : Int32) (p2 : Int32) : Option (Int32 × Mem) :=
  olet (si S 100 6 0 ((0 : Int32))) fun S1 =>
  if (sX10_inRange S1 p1.toInt64 (0 : Int64) (((gi S1 0 (4 : Int32).toNatClampNeg 0) - (1 : Int32)).toInt64)) = 0 then
    sX10_record_j29 S1 p1 p2 (1 : Int32)
  else
    sX10_record_j29 S1 p1 p2 (0 : Int32)
set_option maxRecDepth 100000 in
theorem dX10_record {g : AG} {h0 : AH} {b : Nat} {S : Mem} {Q : AO → AH → Prop} {p1 : Int32} {p2 : Int32} (hA : gB g ≤ b)  {r : (Int32 × Mem)} (hs : sX10_record S p1 p2 = some r) (hQ : Q (.ok (some (.int r.1))) (mb h0 b r.2)) : AW g MX10_record 0 [some (.ref (b)), some (.int (p1)), some (.int (p2))] [] (mb h0 b S) Q := by
  unfold sX10_record at hs
  refine AW.aload_n (z := 0) (am_r 0 rfl) rfl rfl ?_
  refine AW.iconst (am_r 1 rfl) rfl ci_0 ?_
  refine AW.putO (am_r 2 rfl) rfl klX10 (k := 6) (by omega) q1509 (Or.inl rfl) mb_ob hA rfl rfl (mbp_ob (by decide)) ?_
  refine olet_e (P := fun y => AW g MX10_record 5 [some (.ref (b)), some (.int (p1)), some (.int (p2))] [] (mb h0 b y) Q) hs (fun S1 hs => ?_)
  refine AW.aload_n (z := 0) (am_r 3 rfl) rfl rfl ?_
  refine AW.iload_n (z := 1) (am_r 4 rfl) rfl rfl ?_
  refine AW.i2l (am_r 5 rfl) rfl ?_
  refine AW.lconst (z := 0) (am_r 6 rfl) rfl cl_0 ?_
  refine AW.aload_n (z := 0) (am_r 7 rfl) rfl rfl ?_
  refine AW.getO (am_r 8 rfl) rfl klX10 (k := 0) (by omega) q1503 mb_ob rfl ?_
  refine AW.iconst (am_r 9 rfl) rfl ci_4 ?_
  refine AW.iald (am_r 10 rfl) rfl mb_a1 (vp_of_inb rfl) rfl ?_
  refine AW.iconst (am_r 11 rfl) rfl ci_1 ?_
  refine AW.isub (am_r 12 rfl) rfl ?_
  refine AW.i2l (am_r 13 rfl) rfl ?_
  refine AW.callS (N := MX10_inRange) (As := [.long (p1.toInt64), .long ((0 : Int64)), .long (((gi S1 0 (4 : Int32).toNatClampNeg 0) - (1 : Int32)).toInt64)]) (S := [(.ref (b))]) (L0 := [some (.long (p1.toInt64)), none, some (.long ((0 : Int64))), none, some (.long (((gi S1 0 (4 : Int32).toNatClampNeg 0) - (1 : Int32)).toInt64)), none]) (am_r 14 rfl) rfl osX10_inRange q1592 rfl rfl rfl rfl rfl (dX10_inRange hA  rfl (fun hok3 => (cQ_r ?_)))
  refine AW.if_ne (tg := 28) (am_r 15 rfl) rfl rfl (fun hc4 => ?_) (fun hc4 => ?_)
  · replace hs := (if_neg hc4).symm.trans hs
    refine AW.iconst (am_r 18 rfl) rfl ci_0 ?_
    exact dX10_record_j29 hA  (Or.inl rfl) hs hQ
  · replace hs := (if_pos hc4).symm.trans hs
    refine AW.iconst (am_r 16 rfl) rfl ci_1 ?_
    refine AW.goto (tg := 29) (am_r 17 rfl) rfl ?_
    exact dX10_record_j29 hA  (Or.inr rfl) hs hQ
noncomputable def sX10_recorded_l32_step  (p1 : Int32) (a : (Int32 × Int32 × Mem)) : Option ((Int32 × Int32 × Mem) ⊕ (Int32 × Mem)) :=
  if (gi a.2.2 0 (4 : Int32).toNatClampNeg 0) ≤ a.2.1 then
    oinr (
    some ((a.1, a.2.2)))
  else
    obind (sX10_ofRecord a.2.2 a.2.1 (0 : Int32)) fun r11 =>
    if r11 = p1 then
      obind (sX10_ofRecord a.2.2 a.2.1 (5 : Int32)) fun r16 =>
      obind (sX10_ofRecord a.2.2 a.2.1 (4 : Int32)) fun r19 =>
      olet (a.1 + (r16 - r19)) fun v22 =>
      some (.inl (v22, a.2.1 + (1 : Int32), a.2.2))
    else
      olet (a.1 + (0 : Int32)) fun v15 =>
      some (.inl (v15, a.2.1 + (1 : Int32), a.2.2))
noncomputable def sX10_recorded_l32  (p1 : Int32) (a : (Int32 × Int32 × Mem)) : Option (Int32 × Mem) := itw (sX10_recorded_l32_step  p1) a
set_option maxRecDepth 100000 in
theorem dX10_recorded_l32 {g : AG} {h0 : AH} {b : Nat} {Q : AO → AH → Prop} {p1 : Int32} (hA : gB g ≤ b)  {a : (Int32 × Int32 × Mem)}  {r : (Int32 × Mem)} (hs : sX10_recorded_l32  p1 a = some r) (hQ : Q (.ok (some (.int r.1))) (mb h0 b r.2)) : AW g MX10_recorded 32 [some (.ref (b)), some (.int (p1)), some (.int (a.1)), some (.int (a.2.1))] [] (mb h0 b a.2.2) Q := by
  refine itw_e (P := fun a => AW g MX10_recorded 32 [some (.ref (b)), some (.int (p1)), some (.int (a.1)), some (.int (a.2.1))] [] (mb h0 b a.2.2) Q) (Post := fun r => Q (.ok (some (.int r.1))) (mb h0 b r.2)) (fun a r hs hc he  => ?_) hs hQ 
  unfold sX10_recorded_l32_step at hs
  refine AW.iload_n (z := 3) (am_r 20 rfl) rfl rfl ?_
  refine AW.aload_n (z := 0) (am_r 21 rfl) rfl rfl ?_
  refine AW.getO (am_r 22 rfl) rfl klX10 (k := 0) (by omega) q1503 mb_ob rfl ?_
  refine AW.iconst (am_r 23 rfl) rfl ci_4 ?_
  refine AW.iald (am_r 24 rfl) rfl mb_a1 (vp_of_inb rfl) rfl ?_
  refine AW.icmp_ge (tg := 78) (am_r 25 rfl) rfl rfl (fun hc8 => ?_) (fun hc8 => ?_)
  · replace hs := (if_pos hc8).symm.trans hs
    refine oinr_e hs (fun z9 hz10 hs => ?_)
    have hQ := he _ hz10
    refine AW.iload_n (z := 2) (am_r 48 rfl) rfl rfl ?_
    have hr := (Option.some.inj hs).symm
    subst hr
    exact AW.iret (am_r 49 rfl) rfl hQ
  · replace hs := (if_neg hc8).symm.trans hs
    refine AW.iload_n (z := 2) (am_r 26 rfl) rfl rfl ?_
    refine AW.aload_n (z := 0) (am_r 27 rfl) rfl rfl ?_
    refine AW.iload_n (z := 3) (am_r 28 rfl) rfl rfl ?_
    refine AW.iconst (am_r 29 rfl) rfl ci_0 ?_
    refine obind_e hs (fun r11 hg13 hs => ?_)
    refine AW.callV (N := MX10_ofRecord) (As := [.int (a.2.1), .int ((0 : Int32))]) (S := [(.int (a.1))]) (L0 := [some (.ref (b)), some (.int (a.2.1)), some (.int ((0 : Int32)))]) (b := b) (am_r 30 rfl) rfl ovX10_ofRecord q1924 rfl rfl mb_ob rfl rfl rfl rfl (dX10_ofRecord hA  hg13 (cQ_r ?_))
    refine AW.iload_n (z := 1) (am_r 31 rfl) rfl rfl ?_
    refine AW.icmp_ne (tg := 69) (am_r 32 rfl) rfl rfl (fun hc14 => ?_) (fun hc14 => ?_)
    · replace hs := (if_neg hc14).symm.trans hs
      refine AW.iconst (am_r 43 rfl) rfl ci_0 ?_
      refine AW.iadd (am_r 44 rfl) rfl ?_
      refine olet_e (P := fun y => AW g MX10_recorded 71 [some (.ref (b)), some (.int (p1)), some (.int (a.1)), some (.int (a.2.1))] [(.int (y))] (mb h0 b a.2.2) Q) hs (fun v15 hs => ?_)
      refine AW.istore_n (L' := [some (.ref (b)), some (.int (p1)), some (.int (v15)), some (.int (a.2.1))]) (z := 2) (am_r 45 rfl) rfl (Nat.le_of_ble_eq_true rfl) rfl ?_
      refine AW.iinc (v := a.2.1 + (1 : Int32)) (L' := [some (.ref (b)), some (.int (p1)), some (.int (v15)), some (.int (a.2.1 + (1 : Int32)))]) (am_r 46 rfl) rfl (Nat.le_of_ble_eq_true rfl) rfl (congrArg (fun z => a.2.1 + z) ci_1) rfl ?_
      refine AW.goto (tg := 32) (am_r 47 rfl) rfl ?_
      have hr := (Option.some.inj hs).symm
      exact hc (v15, a.2.1 + (1 : Int32), a.2.2) hr 
    · replace hs := (if_pos hc14).symm.trans hs
      refine AW.aload_n (z := 0) (am_r 33 rfl) rfl rfl ?_
      refine AW.iload_n (z := 3) (am_r 34 rfl) rfl rfl ?_
      refine AW.iconst (am_r 35 rfl) rfl ci_5 ?_
      refine obind_e hs (fun r16 hg18 hs => ?_)
      refine AW.callV (N := MX10_ofRecord) (As := [.int (a.2.1), .int ((5 : Int32))]) (S := [(.int (a.1))]) (L0 := [some (.ref (b)), some (.int (a.2.1)), some (.int ((5 : Int32)))]) (b := b) (am_r 36 rfl) rfl ovX10_ofRecord q1924 rfl rfl mb_ob rfl rfl rfl rfl (dX10_ofRecord hA  hg18 (cQ_r ?_))
      refine AW.aload_n (z := 0) (am_r 37 rfl) rfl rfl ?_
      refine AW.iload_n (z := 3) (am_r 38 rfl) rfl rfl ?_
      refine AW.iconst (am_r 39 rfl) rfl ci_4 ?_
      refine obind_e hs (fun r19 hg21 hs => ?_)
      refine AW.callV (N := MX10_ofRecord) (As := [.int (a.2.1), .int ((4 : Int32))]) (S := [(.int (r16)), (.int (a.1))]) (L0 := [some (.ref (b)), some (.int (a.2.1)), some (.int ((4 : Int32)))]) (b := b) (am_r 40 rfl) rfl ovX10_ofRecord q1924 rfl rfl mb_ob rfl rfl rfl rfl (dX10_ofRecord hA  hg21 (cQ_r ?_))
      refine AW.isub (am_r 41 rfl) rfl ?_
      refine AW.goto (tg := 70) (am_r 42 rfl) rfl ?_
      refine AW.iadd (am_r 44 rfl) rfl ?_
      refine olet_e (P := fun y => AW g MX10_recorded 71 [some (.ref (b)), some (.int (p1)), some (.int (a.1)), some (.int (a.2.1))] [(.int (y))] (mb h0 b a.2.2) Q) hs (fun v22 hs => ?_)
      refine AW.istore_n (L' := [some (.ref (b)), some (.int (p1)), some (.int (v22)), some (.int (a.2.1))]) (z := 2) (am_r 45 rfl) rfl (Nat.le_of_ble_eq_true rfl) rfl ?_
      refine AW.iinc (v := a.2.1 + (1 : Int32)) (L' := [some (.ref (b)), some (.int (p1)), some (.int (v22)), some (.int (a.2.1 + (1 : Int32)))]) (am_r 46 rfl) rfl (Nat.le_of_ble_eq_true rfl) rfl (congrArg (fun z => a.2.1 + z) ci_1) rfl ?_
      refine AW.goto (tg := 32) (am_r 47 rfl) rfl ?_
      have hr := (Option.some.inj hs).symm
      exact hc (v22, a.2.1 + (1 : Int32), a.2.2) hr 
noncomputable def sX10_recorded_j19 (S : Mem) (p1 : Int32) (y0 : Int32) : Option (Int32 × Mem) :=
  olet (sX10_throwsIf S y0 (1 : Int32)) fun r5 =>
  if r5.1 = 0 then
    sX10_recorded_l32  p1 ((0 : Int32), (0 : Int32), r5.2)
  else
    some (((0 : Int32), r5.2))
set_option maxRecDepth 100000 in
theorem dX10_recorded_j19 {g : AG} {h0 : AH} {b : Nat} {S : Mem} {Q : AO → AH → Prop} {p1 : Int32} {y0 : Int32} (hA : gB g ≤ b)  (hk0 : y0 = 0 ∨ y0 = 1) {r : (Int32 × Mem)} (hs : sX10_recorded_j19 S p1 y0 = some r) (hQ : Q (.ok (some (.int r.1))) (mb h0 b r.2)) : AW g MX10_recorded 19 [some (.ref (b)), some (.int (p1)), none, none] [(.int (y0)), (.ref (b))] (mb h0 b S) Q := by
  unfold sX10_recorded_j19 at hs
  refine AW.iconst (am_r 11 rfl) rfl ci_1 ?_
  refine AW.callV (N := MX10_throwsIf) (As := [.int (y0), .int ((1 : Int32))]) (S := []) (L0 := [some (.ref (b)), some (.int (y0)), some (.int ((1 : Int32)))]) (b := b) (am_r 12 rfl) rfl ovX10_throwsIf q1607 rfl rfl mb_ob rfl rfl rfl rfl (dX10_throwsIf hA hk0 rfl (fun hok6 => (cQ_r ?_)))
  refine olet_e (P := fun (y : (Int32 × Mem)) => (y.1 = 0 ∨ y.1 = 1) → AW g MX10_recorded 23 [some (.ref (b)), some (.int (p1)), none, none] [(.int (y.1))] (mb h0 b y.2) Q) hs (fun r5 hs hok6 => ?_) hok6
  refine AW.if_eq (tg := 28) (am_r 13 rfl) rfl rfl (fun hc7 => ?_) (fun hc7 => ?_)
  · replace hs := (if_pos hc7).symm.trans hs
    refine AW.iconst (am_r 16 rfl) rfl ci_0 ?_
    refine AW.istore_n (L' := [some (.ref (b)), some (.int (p1)), some (.int ((0 : Int32))), none]) (z := 2) (am_r 17 rfl) rfl (Nat.le_of_ble_eq_true rfl) rfl ?_
    refine AW.iconst (am_r 18 rfl) rfl ci_0 ?_
    refine AW.istore_n (L' := [some (.ref (b)), some (.int (p1)), some (.int ((0 : Int32))), some (.int ((0 : Int32)))]) (z := 3) (am_r 19 rfl) rfl (Nat.le_of_ble_eq_true rfl) rfl ?_
    exact dX10_recorded_l32 hA   hs hQ
  · replace hs := (if_neg hc7).symm.trans hs
    refine AW.iconst (am_r 14 rfl) rfl ci_0 ?_
    have hr := (Option.some.inj hs).symm
    subst hr
    exact AW.iret (am_r 15 rfl) rfl hQ
noncomputable def sX10_recorded (S : Mem) (p1 : Int32) : Option (Int32 × Mem) :=
  olet (si S 100 6 0 ((0 : Int32))) fun S1 =>
  if (sX10_isObject S1 p1) = 0 then
    sX10_recorded_j19 S1 p1 (1 : Int32)
  else
    sX10_recorded_j19 S1 p1 (0 : Int32)
set_option maxRecDepth 100000 in
theorem dX10_recorded {g : AG} {h0 : AH} {b : Nat} {S : Mem} {Q : AO → AH → Prop} {p1 : Int32} (hA : gB g ≤ b)  {r : (Int32 × Mem)} (hs : sX10_recorded S p1 = some r) (hQ : Q (.ok (some (.int r.1))) (mb h0 b r.2)) : AW g MX10_recorded 0 [some (.ref (b)), some (.int (p1)), none, none] [] (mb h0 b S) Q := by
  unfold sX10_recorded at hs
  refine AW.aload_n (z := 0) (am_r 0 rfl) rfl rfl ?_
  refine AW.iconst (am_r 1 rfl) rfl ci_0 ?_
  refine AW.putO (am_r 2 rfl) rfl klX10 (k := 6) (by omega) q1509 (Or.inl rfl) mb_ob hA rfl rfl (mbp_ob (by decide)) ?_
  refine olet_e (P := fun y => AW g MX10_recorded 5 [some (.ref (b)), some (.int (p1)), none, none] [] (mb h0 b y) Q) hs (fun S1 hs => ?_)
  refine AW.aload_n (z := 0) (am_r 3 rfl) rfl rfl ?_
  refine AW.aload_n (z := 0) (am_r 4 rfl) rfl rfl ?_
  refine AW.iload_n (z := 1) (am_r 5 rfl) rfl rfl ?_
  refine AW.callV (N := MX10_isObject) (As := [.int (p1)]) (S := [(.ref (b))]) (L0 := [some (.ref (b)), some (.int (p1))]) (b := b) (am_r 6 rfl) rfl ovX10_isObject q1603 rfl rfl mb_ob rfl rfl rfl rfl (dX10_isObject hA  rfl (fun hok3 => (cQ_r ?_)))
  refine AW.if_ne (tg := 18) (am_r 7 rfl) rfl rfl (fun hc4 => ?_) (fun hc4 => ?_)
  · replace hs := (if_neg hc4).symm.trans hs
    refine AW.iconst (am_r 10 rfl) rfl ci_0 ?_
    exact dX10_recorded_j19 hA  (Or.inl rfl) hs hQ
  · replace hs := (if_pos hc4).symm.trans hs
    refine AW.iconst (am_r 8 rfl) rfl ci_1 ?_
    refine AW.goto (tg := 19) (am_r 9 rfl) rfl ?_
    exact dX10_recorded_j19 hA  (Or.inr rfl) hs hQ
noncomputable def sX10_recordsOf_l58_step  (p1 : Int32) (p2 : Int32) (a : (Int32 × Int32 × Mem)) : Option ((Int32 × Int32 × Mem) ⊕ (Int32 × Mem)) :=
  if (gi a.2.2 0 (4 : Int32).toNatClampNeg 0) ≤ a.2.1 then
    oinr (
    some ((a.1, a.2.2)))
  else
    obind (sX10_ofRecord a.2.2 a.2.1 (0 : Int32)) fun r17 =>
    if r17 = p1 then
      obind (sX10_ofRecord a.2.2 a.2.1 (1 : Int32)) fun r22 =>
      if r22 = p2 then
        olet (a.1 + (1 : Int32)) fun v27 =>
        some (.inl (v27, a.2.1 + (1 : Int32), a.2.2))
      else
        olet (a.1 + (0 : Int32)) fun v26 =>
        some (.inl (v26, a.2.1 + (1 : Int32), a.2.2))
    else
      olet (a.1 + (0 : Int32)) fun v21 =>
      some (.inl (v21, a.2.1 + (1 : Int32), a.2.2))
noncomputable def sX10_recordsOf_l58  (p1 : Int32) (p2 : Int32) (a : (Int32 × Int32 × Mem)) : Option (Int32 × Mem) := itw (sX10_recordsOf_l58_step  p1 p2) a
set_option maxRecDepth 100000 in
theorem dX10_recordsOf_l58 {g : AG} {h0 : AH} {b : Nat} {Q : AO → AH → Prop} {p1 : Int32} {p2 : Int32} (hA : gB g ≤ b)  {a : (Int32 × Int32 × Mem)}  {r : (Int32 × Mem)} (hs : sX10_recordsOf_l58  p1 p2 a = some r) (hQ : Q (.ok (some (.int r.1))) (mb h0 b r.2)) : AW g MX10_recordsOf 58 [some (.ref (b)), some (.int (p1)), some (.int (p2)), some (.int (a.1)), some (.int (a.2.1))] [] (mb h0 b a.2.2) Q := by
  refine itw_e (P := fun a => AW g MX10_recordsOf 58 [some (.ref (b)), some (.int (p1)), some (.int (p2)), some (.int (a.1)), some (.int (a.2.1))] [] (mb h0 b a.2.2) Q) (Post := fun r => Q (.ok (some (.int r.1))) (mb h0 b r.2)) (fun a r hs hc he  => ?_) hs hQ 
  unfold sX10_recordsOf_l58_step at hs
  refine AW.iload (am_r 33 rfl) rfl rfl ?_
  refine AW.aload_n (z := 0) (am_r 34 rfl) rfl rfl ?_
  refine AW.getO (am_r 35 rfl) rfl klX10 (k := 0) (by omega) q1503 mb_ob rfl ?_
  refine AW.iconst (am_r 36 rfl) rfl ci_4 ?_
  refine AW.iald (am_r 37 rfl) rfl mb_a1 (vp_of_inb rfl) rfl ?_
  refine AW.icmp_ge (tg := 105) (am_r 38 rfl) rfl rfl (fun hc14 => ?_) (fun hc14 => ?_)
  · replace hs := (if_pos hc14).symm.trans hs
    refine oinr_e hs (fun z15 hz16 hs => ?_)
    have hQ := he _ hz16
    refine AW.iload_n (z := 3) (am_r 59 rfl) rfl rfl ?_
    have hr := (Option.some.inj hs).symm
    subst hr
    exact AW.iret (am_r 60 rfl) rfl hQ
  · replace hs := (if_neg hc14).symm.trans hs
    refine AW.iload_n (z := 3) (am_r 39 rfl) rfl rfl ?_
    refine AW.aload_n (z := 0) (am_r 40 rfl) rfl rfl ?_
    refine AW.iload (am_r 41 rfl) rfl rfl ?_
    refine AW.iconst (am_r 42 rfl) rfl ci_0 ?_
    refine obind_e hs (fun r17 hg19 hs => ?_)
    refine AW.callV (N := MX10_ofRecord) (As := [.int (a.2.1), .int ((0 : Int32))]) (S := [(.int (a.1))]) (L0 := [some (.ref (b)), some (.int (a.2.1)), some (.int ((0 : Int32)))]) (b := b) (am_r 43 rfl) rfl ovX10_ofRecord q1924 rfl rfl mb_ob rfl rfl rfl rfl (dX10_ofRecord hA  hg19 (cQ_r ?_))
    refine AW.iload_n (z := 1) (am_r 44 rfl) rfl rfl ?_
    refine AW.icmp_ne (tg := 96) (am_r 45 rfl) rfl rfl (fun hc20 => ?_) (fun hc20 => ?_)
    · replace hs := (if_neg hc20).symm.trans hs
      refine AW.iconst (am_r 54 rfl) rfl ci_0 ?_
      refine AW.iadd (am_r 55 rfl) rfl ?_
      refine olet_e (P := fun y => AW g MX10_recordsOf 98 [some (.ref (b)), some (.int (p1)), some (.int (p2)), some (.int (a.1)), some (.int (a.2.1))] [(.int (y))] (mb h0 b a.2.2) Q) hs (fun v21 hs => ?_)
      refine AW.istore_n (L' := [some (.ref (b)), some (.int (p1)), some (.int (p2)), some (.int (v21)), some (.int (a.2.1))]) (z := 3) (am_r 56 rfl) rfl (Nat.le_of_ble_eq_true rfl) rfl ?_
      refine AW.iinc (v := a.2.1 + (1 : Int32)) (L' := [some (.ref (b)), some (.int (p1)), some (.int (p2)), some (.int (v21)), some (.int (a.2.1 + (1 : Int32)))]) (am_r 57 rfl) rfl (Nat.le_of_ble_eq_true rfl) rfl (congrArg (fun z => a.2.1 + z) ci_1) rfl ?_
      refine AW.goto (tg := 58) (am_r 58 rfl) rfl ?_
      have hr := (Option.some.inj hs).symm
      exact hc (v21, a.2.1 + (1 : Int32), a.2.2) hr 
    · replace hs := (if_pos hc20).symm.trans hs
      refine AW.aload_n (z := 0) (am_r 46 rfl) rfl rfl ?_
      refine AW.iload (am_r 47 rfl) rfl rfl ?_
      refine AW.iconst (am_r 48 rfl) rfl ci_1 ?_
      refine obind_e hs (fun r22 hg24 hs => ?_)
      refine AW.callV (N := MX10_ofRecord) (As := [.int (a.2.1), .int ((1 : Int32))]) (S := [(.int (a.1))]) (L0 := [some (.ref (b)), some (.int (a.2.1)), some (.int ((1 : Int32)))]) (b := b) (am_r 49 rfl) rfl ovX10_ofRecord q1924 rfl rfl mb_ob rfl rfl rfl rfl (dX10_ofRecord hA  hg24 (cQ_r ?_))
      refine AW.iload_n (z := 2) (am_r 50 rfl) rfl rfl ?_
      refine AW.icmp_ne (tg := 96) (am_r 51 rfl) rfl rfl (fun hc25 => ?_) (fun hc25 => ?_)
      · replace hs := (if_neg hc25).symm.trans hs
        refine AW.iconst (am_r 54 rfl) rfl ci_0 ?_
        refine AW.iadd (am_r 55 rfl) rfl ?_
        refine olet_e (P := fun y => AW g MX10_recordsOf 98 [some (.ref (b)), some (.int (p1)), some (.int (p2)), some (.int (a.1)), some (.int (a.2.1))] [(.int (y))] (mb h0 b a.2.2) Q) hs (fun v26 hs => ?_)
        refine AW.istore_n (L' := [some (.ref (b)), some (.int (p1)), some (.int (p2)), some (.int (v26)), some (.int (a.2.1))]) (z := 3) (am_r 56 rfl) rfl (Nat.le_of_ble_eq_true rfl) rfl ?_
        refine AW.iinc (v := a.2.1 + (1 : Int32)) (L' := [some (.ref (b)), some (.int (p1)), some (.int (p2)), some (.int (v26)), some (.int (a.2.1 + (1 : Int32)))]) (am_r 57 rfl) rfl (Nat.le_of_ble_eq_true rfl) rfl (congrArg (fun z => a.2.1 + z) ci_1) rfl ?_
        refine AW.goto (tg := 58) (am_r 58 rfl) rfl ?_
        have hr := (Option.some.inj hs).symm
        exact hc (v26, a.2.1 + (1 : Int32), a.2.2) hr 
      · replace hs := (if_pos hc25).symm.trans hs
        refine AW.iconst (am_r 52 rfl) rfl ci_1 ?_
        refine AW.goto (tg := 97) (am_r 53 rfl) rfl ?_
        refine AW.iadd (am_r 55 rfl) rfl ?_
        refine olet_e (P := fun y => AW g MX10_recordsOf 98 [some (.ref (b)), some (.int (p1)), some (.int (p2)), some (.int (a.1)), some (.int (a.2.1))] [(.int (y))] (mb h0 b a.2.2) Q) hs (fun v27 hs => ?_)
        refine AW.istore_n (L' := [some (.ref (b)), some (.int (p1)), some (.int (p2)), some (.int (v27)), some (.int (a.2.1))]) (z := 3) (am_r 56 rfl) rfl (Nat.le_of_ble_eq_true rfl) rfl ?_
        refine AW.iinc (v := a.2.1 + (1 : Int32)) (L' := [some (.ref (b)), some (.int (p1)), some (.int (p2)), some (.int (v27)), some (.int (a.2.1 + (1 : Int32)))]) (am_r 57 rfl) rfl (Nat.le_of_ble_eq_true rfl) rfl (congrArg (fun z => a.2.1 + z) ci_1) rfl ?_
        refine AW.goto (tg := 58) (am_r 58 rfl) rfl ?_
        have hr := (Option.some.inj hs).symm
        exact hc (v27, a.2.1 + (1 : Int32), a.2.2) hr 
noncomputable def sX10_recordsOf_j44 (S : Mem) (p1 : Int32) (p2 : Int32) (y0 : Int32) : Option (Int32 × Mem) :=
  olet (sX10_throwsIf S y0 (2 : Int32)) fun r11 =>
  if r11.1 = 0 then
    sX10_recordsOf_l58  p1 p2 ((0 : Int32), (0 : Int32), r11.2)
  else
    some (((0 : Int32), r11.2))
set_option maxRecDepth 100000 in
theorem dX10_recordsOf_j44 {g : AG} {h0 : AH} {b : Nat} {S : Mem} {Q : AO → AH → Prop} {p1 : Int32} {p2 : Int32} {y0 : Int32} (hA : gB g ≤ b)  (hk0 : y0 = 0 ∨ y0 = 1) {r : (Int32 × Mem)} (hs : sX10_recordsOf_j44 S p1 p2 y0 = some r) (hQ : Q (.ok (some (.int r.1))) (mb h0 b r.2)) : AW g MX10_recordsOf 44 [some (.ref (b)), some (.int (p1)), some (.int (p2)), none, none] [(.int (y0)), (.ref (b))] (mb h0 b S) Q := by
  unfold sX10_recordsOf_j44 at hs
  refine AW.iconst (am_r 24 rfl) rfl ci_2 ?_
  refine AW.callV (N := MX10_throwsIf) (As := [.int (y0), .int ((2 : Int32))]) (S := []) (L0 := [some (.ref (b)), some (.int (y0)), some (.int ((2 : Int32)))]) (b := b) (am_r 25 rfl) rfl ovX10_throwsIf q1607 rfl rfl mb_ob rfl rfl rfl rfl (dX10_throwsIf hA hk0 rfl (fun hok12 => (cQ_r ?_)))
  refine olet_e (P := fun (y : (Int32 × Mem)) => (y.1 = 0 ∨ y.1 = 1) → AW g MX10_recordsOf 48 [some (.ref (b)), some (.int (p1)), some (.int (p2)), none, none] [(.int (y.1))] (mb h0 b y.2) Q) hs (fun r11 hs hok12 => ?_) hok12
  refine AW.if_eq (tg := 53) (am_r 26 rfl) rfl rfl (fun hc13 => ?_) (fun hc13 => ?_)
  · replace hs := (if_pos hc13).symm.trans hs
    refine AW.iconst (am_r 29 rfl) rfl ci_0 ?_
    refine AW.istore_n (L' := [some (.ref (b)), some (.int (p1)), some (.int (p2)), some (.int ((0 : Int32))), none]) (z := 3) (am_r 30 rfl) rfl (Nat.le_of_ble_eq_true rfl) rfl ?_
    refine AW.iconst (am_r 31 rfl) rfl ci_0 ?_
    refine AW.istore (L' := [some (.ref (b)), some (.int (p1)), some (.int (p2)), some (.int ((0 : Int32))), some (.int ((0 : Int32)))]) (am_r 32 rfl) rfl (Nat.le_of_ble_eq_true rfl) rfl ?_
    exact dX10_recordsOf_l58 hA   hs hQ
  · replace hs := (if_neg hc13).symm.trans hs
    refine AW.iconst (am_r 27 rfl) rfl ci_0 ?_
    have hr := (Option.some.inj hs).symm
    subst hr
    exact AW.iret (am_r 28 rfl) rfl hQ
noncomputable def sX10_recordsOf_j19 (S : Mem) (p1 : Int32) (p2 : Int32) (y0 : Int32) : Option (Int32 × Mem) :=
  olet (sX10_throwsIf S y0 (1 : Int32)) fun r5 =>
  if r5.1 = 0 then
    if (sX10_inRange r5.2 p2.toInt64 (0 : Int64) (2 : Int64)) = 0 then
      sX10_recordsOf_j44 r5.2 p1 p2 (1 : Int32)
    else
      sX10_recordsOf_j44 r5.2 p1 p2 (0 : Int32)
  else
    some (((0 : Int32), r5.2))
set_option maxRecDepth 100000 in
theorem dX10_recordsOf_j19 {g : AG} {h0 : AH} {b : Nat} {S : Mem} {Q : AO → AH → Prop} {p1 : Int32} {p2 : Int32} {y0 : Int32} (hA : gB g ≤ b)  (hk0 : y0 = 0 ∨ y0 = 1) {r : (Int32 × Mem)} (hs : sX10_recordsOf_j19 S p1 p2 y0 = some r) (hQ : Q (.ok (some (.int r.1))) (mb h0 b r.2)) : AW g MX10_recordsOf 19 [some (.ref (b)), some (.int (p1)), some (.int (p2)), none, none] [(.int (y0)), (.ref (b))] (mb h0 b S) Q := by
  unfold sX10_recordsOf_j19 at hs
  refine AW.iconst (am_r 11 rfl) rfl ci_1 ?_
  refine AW.callV (N := MX10_throwsIf) (As := [.int (y0), .int ((1 : Int32))]) (S := []) (L0 := [some (.ref (b)), some (.int (y0)), some (.int ((1 : Int32)))]) (b := b) (am_r 12 rfl) rfl ovX10_throwsIf q1607 rfl rfl mb_ob rfl rfl rfl rfl (dX10_throwsIf hA hk0 rfl (fun hok6 => (cQ_r ?_)))
  refine olet_e (P := fun (y : (Int32 × Mem)) => (y.1 = 0 ∨ y.1 = 1) → AW g MX10_recordsOf 23 [some (.ref (b)), some (.int (p1)), some (.int (p2)), none, none] [(.int (y.1))] (mb h0 b y.2) Q) hs (fun r5 hs hok6 => ?_) hok6
  refine AW.if_ne (tg := 51) (am_r 13 rfl) rfl rfl (fun hc7 => ?_) (fun hc7 => ?_)
  · replace hs := (if_neg hc7).symm.trans hs
    refine AW.iconst (am_r 27 rfl) rfl ci_0 ?_
    have hr := (Option.some.inj hs).symm
    subst hr
    exact AW.iret (am_r 28 rfl) rfl hQ
  · replace hs := (if_pos hc7).symm.trans hs
    refine AW.aload_n (z := 0) (am_r 14 rfl) rfl rfl ?_
    refine AW.iload_n (z := 2) (am_r 15 rfl) rfl rfl ?_
    refine AW.i2l (am_r 16 rfl) rfl ?_
    refine AW.lconst (z := 0) (am_r 17 rfl) rfl cl_0 ?_
    refine AW.ldc2 (v := (2)) (am_r 18 rfl) rfl q1832 ?_
    refine AW.callS (N := MX10_inRange) (As := [.long (p2.toInt64), .long ((0 : Int64)), .long ((2 : Int64))]) (S := [(.ref (b))]) (L0 := [some (.long (p2.toInt64)), none, some (.long ((0 : Int64))), none, some (.long ((2 : Int64))), none]) (am_r 19 rfl) rfl osX10_inRange q1592 rfl rfl rfl rfl rfl (dX10_inRange hA  rfl (fun hok9 => (cQ_r ?_)))
    refine AW.if_ne (tg := 43) (am_r 20 rfl) rfl rfl (fun hc10 => ?_) (fun hc10 => ?_)
    · replace hs := (if_neg hc10).symm.trans hs
      refine AW.iconst (am_r 23 rfl) rfl ci_0 ?_
      exact dX10_recordsOf_j44 hA  (Or.inl rfl) hs hQ
    · replace hs := (if_pos hc10).symm.trans hs
      refine AW.iconst (am_r 21 rfl) rfl ci_1 ?_
      refine AW.goto (tg := 44) (am_r 22 rfl) rfl ?_
      exact dX10_recordsOf_j44 hA  (Or.inr rfl) hs hQ
noncomputable def sX10_recordsOf (S : Mem) (p1 : Int32) (p2 : Int32) : Option (Int32 × Mem) :=
  olet (si S 100 6 0 ((0 : Int32))) fun S1 =>
  if (sX10_isObject S1 p1) = 0 then
    sX10_recordsOf_j19 S1 p1 p2 (1 : Int32)
  else
    sX10_recordsOf_j19 S1 p1 p2 (0 : Int32)
set_option maxRecDepth 100000 in
theorem dX10_recordsOf {g : AG} {h0 : AH} {b : Nat} {S : Mem} {Q : AO → AH → Prop} {p1 : Int32} {p2 : Int32} (hA : gB g ≤ b)  {r : (Int32 × Mem)} (hs : sX10_recordsOf S p1 p2 = some r) (hQ : Q (.ok (some (.int r.1))) (mb h0 b r.2)) : AW g MX10_recordsOf 0 [some (.ref (b)), some (.int (p1)), some (.int (p2)), none, none] [] (mb h0 b S) Q := by
  unfold sX10_recordsOf at hs
  refine AW.aload_n (z := 0) (am_r 0 rfl) rfl rfl ?_
  refine AW.iconst (am_r 1 rfl) rfl ci_0 ?_
  refine AW.putO (am_r 2 rfl) rfl klX10 (k := 6) (by omega) q1509 (Or.inl rfl) mb_ob hA rfl rfl (mbp_ob (by decide)) ?_
  refine olet_e (P := fun y => AW g MX10_recordsOf 5 [some (.ref (b)), some (.int (p1)), some (.int (p2)), none, none] [] (mb h0 b y) Q) hs (fun S1 hs => ?_)
  refine AW.aload_n (z := 0) (am_r 3 rfl) rfl rfl ?_
  refine AW.aload_n (z := 0) (am_r 4 rfl) rfl rfl ?_
  refine AW.iload_n (z := 1) (am_r 5 rfl) rfl rfl ?_
  refine AW.callV (N := MX10_isObject) (As := [.int (p1)]) (S := [(.ref (b))]) (L0 := [some (.ref (b)), some (.int (p1))]) (b := b) (am_r 6 rfl) rfl ovX10_isObject q1603 rfl rfl mb_ob rfl rfl rfl rfl (dX10_isObject hA  rfl (fun hok3 => (cQ_r ?_)))
  refine AW.if_ne (tg := 18) (am_r 7 rfl) rfl rfl (fun hc4 => ?_) (fun hc4 => ?_)
  · replace hs := (if_neg hc4).symm.trans hs
    refine AW.iconst (am_r 10 rfl) rfl ci_0 ?_
    exact dX10_recordsOf_j19 hA  (Or.inl rfl) hs hQ
  · replace hs := (if_pos hc4).symm.trans hs
    refine AW.iconst (am_r 8 rfl) rfl ci_1 ?_
    refine AW.goto (tg := 19) (am_r 9 rfl) rfl ?_
    exact dX10_recordsOf_j19 hA  (Or.inr rfl) hs hQ
noncomputable def sX10_latestRecord_l37_step  (p1 : Int32) (a : (Int32 × Mem)) : Option ((Int32 × Mem) ⊕ (Int32 × Mem)) :=
  if a.1 < 0 then
    oinr (
    some ((a.1, a.2)))
  else
    obind (sX10_ofRecord a.2 a.1 (0 : Int32)) fun r12 =>
    if r12 = p1 then
      oinr (
      some ((a.1, a.2)))
    else
      some (.inl (a.1 + (-1 : Int32), a.2))
noncomputable def sX10_latestRecord_l37  (p1 : Int32) (a : (Int32 × Mem)) : Option (Int32 × Mem) := itw (sX10_latestRecord_l37_step  p1) a
set_option maxRecDepth 100000 in
theorem dX10_latestRecord_l37 {g : AG} {h0 : AH} {b : Nat} {Q : AO → AH → Prop} {p1 : Int32} (hA : gB g ≤ b)  {a : (Int32 × Mem)}  {r : (Int32 × Mem)} (hs : sX10_latestRecord_l37  p1 a = some r) (hQ : Q (.ok (some (.int r.1))) (mb h0 b r.2)) : AW g MX10_latestRecord 37 [some (.ref (b)), some (.int (p1)), some (.int (a.1))] [] (mb h0 b a.2) Q := by
  refine itw_e (P := fun a => AW g MX10_latestRecord 37 [some (.ref (b)), some (.int (p1)), some (.int (a.1))] [] (mb h0 b a.2) Q) (Post := fun r => Q (.ok (some (.int r.1))) (mb h0 b r.2)) (fun a r hs hc he  => ?_) hs hQ 
  unfold sX10_latestRecord_l37_step at hs
  refine AW.iload_n (z := 2) (am_r 23 rfl) rfl rfl ?_
  refine AW.if_lt (tg := 57) (am_r 24 rfl) rfl rfl (fun hc9 => ?_) (fun hc9 => ?_)
  · replace hs := (if_pos hc9).symm.trans hs
    refine oinr_e hs (fun z10 hz11 hs => ?_)
    have hQ := he _ hz11
    refine AW.iload_n (z := 2) (am_r 33 rfl) rfl rfl ?_
    have hr := (Option.some.inj hs).symm
    subst hr
    exact AW.iret (am_r 34 rfl) rfl hQ
  · replace hs := (if_neg hc9).symm.trans hs
    refine AW.aload_n (z := 0) (am_r 25 rfl) rfl rfl ?_
    refine AW.iload_n (z := 2) (am_r 26 rfl) rfl rfl ?_
    refine AW.iconst (am_r 27 rfl) rfl ci_0 ?_
    refine obind_e hs (fun r12 hg14 hs => ?_)
    refine AW.callV (N := MX10_ofRecord) (As := [.int (a.1), .int ((0 : Int32))]) (S := []) (L0 := [some (.ref (b)), some (.int (a.1)), some (.int ((0 : Int32)))]) (b := b) (am_r 28 rfl) rfl ovX10_ofRecord q1924 rfl rfl mb_ob rfl rfl rfl rfl (dX10_ofRecord hA  hg14 (cQ_r ?_))
    refine AW.iload_n (z := 1) (am_r 29 rfl) rfl rfl ?_
    refine AW.icmp_eq (tg := 57) (am_r 30 rfl) rfl rfl (fun hc15 => ?_) (fun hc15 => ?_)
    · replace hs := (if_pos hc15).symm.trans hs
      refine oinr_e hs (fun z16 hz17 hs => ?_)
      have hQ := he _ hz17
      refine AW.iload_n (z := 2) (am_r 33 rfl) rfl rfl ?_
      have hr := (Option.some.inj hs).symm
      subst hr
      exact AW.iret (am_r 34 rfl) rfl hQ
    · replace hs := (if_neg hc15).symm.trans hs
      refine AW.iinc (v := a.1 + (-1 : Int32)) (L' := [some (.ref (b)), some (.int (p1)), some (.int (a.1 + (-1 : Int32)))]) (am_r 31 rfl) rfl (Nat.le_of_ble_eq_true rfl) rfl (congrArg (fun z => a.1 + z) ci_m1) rfl ?_
      refine AW.goto (tg := 37) (am_r 32 rfl) rfl ?_
      have hr := (Option.some.inj hs).symm
      exact hc (a.1 + (-1 : Int32), a.2) hr 
noncomputable def sX10_latestRecord_j19 (S : Mem) (p1 : Int32) (y0 : Int32) : Option (Int32 × Mem) :=
  olet (sX10_throwsIf S y0 (1 : Int32)) fun r5 =>
  if r5.1 = 0 then
    olet ((gi r5.2 0 (4 : Int32).toNatClampNeg 0) - (1 : Int32)) fun v8 =>
    sX10_latestRecord_l37  p1 (v8, r5.2)
  else
    some (((0 : Int32), r5.2))
set_option maxRecDepth 100000 in
theorem dX10_latestRecord_j19 {g : AG} {h0 : AH} {b : Nat} {S : Mem} {Q : AO → AH → Prop} {p1 : Int32} {y0 : Int32} (hA : gB g ≤ b)  (hk0 : y0 = 0 ∨ y0 = 1) {r : (Int32 × Mem)} (hs : sX10_latestRecord_j19 S p1 y0 = some r) (hQ : Q (.ok (some (.int r.1))) (mb h0 b r.2)) : AW g MX10_latestRecord 19 [some (.ref (b)), some (.int (p1)), none] [(.int (y0)), (.ref (b))] (mb h0 b S) Q := by
  unfold sX10_latestRecord_j19 at hs
  refine AW.iconst (am_r 11 rfl) rfl ci_1 ?_
  refine AW.callV (N := MX10_throwsIf) (As := [.int (y0), .int ((1 : Int32))]) (S := []) (L0 := [some (.ref (b)), some (.int (y0)), some (.int ((1 : Int32)))]) (b := b) (am_r 12 rfl) rfl ovX10_throwsIf q1607 rfl rfl mb_ob rfl rfl rfl rfl (dX10_throwsIf hA hk0 rfl (fun hok6 => (cQ_r ?_)))
  refine olet_e (P := fun (y : (Int32 × Mem)) => (y.1 = 0 ∨ y.1 = 1) → AW g MX10_latestRecord 23 [some (.ref (b)), some (.int (p1)), none] [(.int (y.1))] (mb h0 b y.2) Q) hs (fun r5 hs hok6 => ?_) hok6
  refine AW.if_eq (tg := 28) (am_r 13 rfl) rfl rfl (fun hc7 => ?_) (fun hc7 => ?_)
  · replace hs := (if_pos hc7).symm.trans hs
    refine AW.aload_n (z := 0) (am_r 16 rfl) rfl rfl ?_
    refine AW.getO (am_r 17 rfl) rfl klX10 (k := 0) (by omega) q1503 mb_ob rfl ?_
    refine AW.iconst (am_r 18 rfl) rfl ci_4 ?_
    refine AW.iald (am_r 19 rfl) rfl mb_a1 (vp_of_inb rfl) rfl ?_
    refine AW.iconst (am_r 20 rfl) rfl ci_1 ?_
    refine AW.isub (am_r 21 rfl) rfl ?_
    refine olet_e (P := fun y => AW g MX10_latestRecord 36 [some (.ref (b)), some (.int (p1)), none] [(.int (y))] (mb h0 b r5.2) Q) hs (fun v8 hs => ?_)
    refine AW.istore_n (L' := [some (.ref (b)), some (.int (p1)), some (.int (v8))]) (z := 2) (am_r 22 rfl) rfl (Nat.le_of_ble_eq_true rfl) rfl ?_
    exact dX10_latestRecord_l37 hA   hs hQ
  · replace hs := (if_neg hc7).symm.trans hs
    refine AW.iconst (am_r 14 rfl) rfl ci_0 ?_
    have hr := (Option.some.inj hs).symm
    subst hr
    exact AW.iret (am_r 15 rfl) rfl hQ
noncomputable def sX10_latestRecord (S : Mem) (p1 : Int32) : Option (Int32 × Mem) :=
  olet (si S 100 6 0 ((0 : Int32))) fun S1 =>
  if (sX10_isObject S1 p1) = 0 then
    sX10_latestRecord_j19 S1 p1 (1 : Int32)
  else
    sX10_latestRecord_j19 S1 p1 (0 : Int32)
set_option maxRecDepth 100000 in
theorem dX10_latestRecord {g : AG} {h0 : AH} {b : Nat} {S : Mem} {Q : AO → AH → Prop} {p1 : Int32} (hA : gB g ≤ b)  {r : (Int32 × Mem)} (hs : sX10_latestRecord S p1 = some r) (hQ : Q (.ok (some (.int r.1))) (mb h0 b r.2)) : AW g MX10_latestRecord 0 [some (.ref (b)), some (.int (p1)), none] [] (mb h0 b S) Q := by
  unfold sX10_latestRecord at hs
  refine AW.aload_n (z := 0) (am_r 0 rfl) rfl rfl ?_
  refine AW.iconst (am_r 1 rfl) rfl ci_0 ?_
  refine AW.putO (am_r 2 rfl) rfl klX10 (k := 6) (by omega) q1509 (Or.inl rfl) mb_ob hA rfl rfl (mbp_ob (by decide)) ?_
  refine olet_e (P := fun y => AW g MX10_latestRecord 5 [some (.ref (b)), some (.int (p1)), none] [] (mb h0 b y) Q) hs (fun S1 hs => ?_)
  refine AW.aload_n (z := 0) (am_r 3 rfl) rfl rfl ?_
  refine AW.aload_n (z := 0) (am_r 4 rfl) rfl rfl ?_
  refine AW.iload_n (z := 1) (am_r 5 rfl) rfl rfl ?_
  refine AW.callV (N := MX10_isObject) (As := [.int (p1)]) (S := [(.ref (b))]) (L0 := [some (.ref (b)), some (.int (p1))]) (b := b) (am_r 6 rfl) rfl ovX10_isObject q1603 rfl rfl mb_ob rfl rfl rfl rfl (dX10_isObject hA  rfl (fun hok3 => (cQ_r ?_)))
  refine AW.if_ne (tg := 18) (am_r 7 rfl) rfl rfl (fun hc4 => ?_) (fun hc4 => ?_)
  · replace hs := (if_neg hc4).symm.trans hs
    refine AW.iconst (am_r 10 rfl) rfl ci_0 ?_
    exact dX10_latestRecord_j19 hA  (Or.inl rfl) hs hQ
  · replace hs := (if_pos hc4).symm.trans hs
    refine AW.iconst (am_r 8 rfl) rfl ci_1 ?_
    refine AW.goto (tg := 19) (am_r 9 rfl) rfl ?_
    exact dX10_latestRecord_j19 hA  (Or.inr rfl) hs hQ
noncomputable def sX10_lost_l32_step  (p1 : Int32) (a : (Int32 × Int32 × Mem)) : Option ((Int32 × Int32 × Mem) ⊕ (Int32 × Mem)) :=
  if (gi a.2.2 0 (4 : Int32).toNatClampNeg 0) ≤ a.2.1 then
    oinr (
    some ((a.1, a.2.2)))
  else
    obind (sX10_ofRecord a.2.2 a.2.1 (0 : Int32)) fun r11 =>
    if r11 = p1 then
      obind (sX10_ofRecord a.2.2 a.2.1 (1 : Int32)) fun r16 =>
      if r16 = (1 : Int32) then
        obind (sX10_ofRecord a.2.2 a.2.1 (4 : Int32)) fun r21 =>
        obind (sX10_ofRecord a.2.2 a.2.1 (5 : Int32)) fun r24 =>
        olet (a.1 + (r21 - r24)) fun v27 =>
        some (.inl (v27, a.2.1 + (1 : Int32), a.2.2))
      else
        olet (a.1 + (0 : Int32)) fun v20 =>
        some (.inl (v20, a.2.1 + (1 : Int32), a.2.2))
    else
      olet (a.1 + (0 : Int32)) fun v15 =>
      some (.inl (v15, a.2.1 + (1 : Int32), a.2.2))
noncomputable def sX10_lost_l32  (p1 : Int32) (a : (Int32 × Int32 × Mem)) : Option (Int32 × Mem) := itw (sX10_lost_l32_step  p1) a
set_option maxRecDepth 100000 in
theorem dX10_lost_l32 {g : AG} {h0 : AH} {b : Nat} {Q : AO → AH → Prop} {p1 : Int32} (hA : gB g ≤ b)  {a : (Int32 × Int32 × Mem)}  {r : (Int32 × Mem)} (hs : sX10_lost_l32  p1 a = some r) (hQ : Q (.ok (some (.int r.1))) (mb h0 b r.2)) : AW g MX10_lost 32 [some (.ref (b)), some (.int (p1)), some (.int (a.1)), some (.int (a.2.1))] [] (mb h0 b a.2.2) Q := by
  refine itw_e (P := fun a => AW g MX10_lost 32 [some (.ref (b)), some (.int (p1)), some (.int (a.1)), some (.int (a.2.1))] [] (mb h0 b a.2.2) Q) (Post := fun r => Q (.ok (some (.int r.1))) (mb h0 b r.2)) (fun a r hs hc he  => ?_) hs hQ 
  unfold sX10_lost_l32_step at hs
  refine AW.iload_n (z := 3) (am_r 20 rfl) rfl rfl ?_
  refine AW.aload_n (z := 0) (am_r 21 rfl) rfl rfl ?_
  refine AW.getO (am_r 22 rfl) rfl klX10 (k := 0) (by omega) q1503 mb_ob rfl ?_
  refine AW.iconst (am_r 23 rfl) rfl ci_4 ?_
  refine AW.iald (am_r 24 rfl) rfl mb_a1 (vp_of_inb rfl) rfl ?_
  refine AW.icmp_ge (tg := 88) (am_r 25 rfl) rfl rfl (fun hc8 => ?_) (fun hc8 => ?_)
  · replace hs := (if_pos hc8).symm.trans hs
    refine oinr_e hs (fun z9 hz10 hs => ?_)
    have hQ := he _ hz10
    refine AW.iload_n (z := 2) (am_r 54 rfl) rfl rfl ?_
    have hr := (Option.some.inj hs).symm
    subst hr
    exact AW.iret (am_r 55 rfl) rfl hQ
  · replace hs := (if_neg hc8).symm.trans hs
    refine AW.iload_n (z := 2) (am_r 26 rfl) rfl rfl ?_
    refine AW.aload_n (z := 0) (am_r 27 rfl) rfl rfl ?_
    refine AW.iload_n (z := 3) (am_r 28 rfl) rfl rfl ?_
    refine AW.iconst (am_r 29 rfl) rfl ci_0 ?_
    refine obind_e hs (fun r11 hg13 hs => ?_)
    refine AW.callV (N := MX10_ofRecord) (As := [.int (a.2.1), .int ((0 : Int32))]) (S := [(.int (a.1))]) (L0 := [some (.ref (b)), some (.int (a.2.1)), some (.int ((0 : Int32)))]) (b := b) (am_r 30 rfl) rfl ovX10_ofRecord q1924 rfl rfl mb_ob rfl rfl rfl rfl (dX10_ofRecord hA  hg13 (cQ_r ?_))
    refine AW.iload_n (z := 1) (am_r 31 rfl) rfl rfl ?_
    refine AW.icmp_ne (tg := 79) (am_r 32 rfl) rfl rfl (fun hc14 => ?_) (fun hc14 => ?_)
    · replace hs := (if_neg hc14).symm.trans hs
      refine AW.iconst (am_r 49 rfl) rfl ci_0 ?_
      refine AW.iadd (am_r 50 rfl) rfl ?_
      refine olet_e (P := fun y => AW g MX10_lost 81 [some (.ref (b)), some (.int (p1)), some (.int (a.1)), some (.int (a.2.1))] [(.int (y))] (mb h0 b a.2.2) Q) hs (fun v15 hs => ?_)
      refine AW.istore_n (L' := [some (.ref (b)), some (.int (p1)), some (.int (v15)), some (.int (a.2.1))]) (z := 2) (am_r 51 rfl) rfl (Nat.le_of_ble_eq_true rfl) rfl ?_
      refine AW.iinc (v := a.2.1 + (1 : Int32)) (L' := [some (.ref (b)), some (.int (p1)), some (.int (v15)), some (.int (a.2.1 + (1 : Int32)))]) (am_r 52 rfl) rfl (Nat.le_of_ble_eq_true rfl) rfl (congrArg (fun z => a.2.1 + z) ci_1) rfl ?_
      refine AW.goto (tg := 32) (am_r 53 rfl) rfl ?_
      have hr := (Option.some.inj hs).symm
      exact hc (v15, a.2.1 + (1 : Int32), a.2.2) hr 
    · replace hs := (if_pos hc14).symm.trans hs
      refine AW.aload_n (z := 0) (am_r 33 rfl) rfl rfl ?_
      refine AW.iload_n (z := 3) (am_r 34 rfl) rfl rfl ?_
      refine AW.iconst (am_r 35 rfl) rfl ci_1 ?_
      refine obind_e hs (fun r16 hg18 hs => ?_)
      refine AW.callV (N := MX10_ofRecord) (As := [.int (a.2.1), .int ((1 : Int32))]) (S := [(.int (a.1))]) (L0 := [some (.ref (b)), some (.int (a.2.1)), some (.int ((1 : Int32)))]) (b := b) (am_r 36 rfl) rfl ovX10_ofRecord q1924 rfl rfl mb_ob rfl rfl rfl rfl (dX10_ofRecord hA  hg18 (cQ_r ?_))
      refine AW.iconst (am_r 37 rfl) rfl ci_1 ?_
      refine AW.icmp_ne (tg := 79) (am_r 38 rfl) rfl rfl (fun hc19 => ?_) (fun hc19 => ?_)
      · replace hs := (if_neg hc19).symm.trans hs
        refine AW.iconst (am_r 49 rfl) rfl ci_0 ?_
        refine AW.iadd (am_r 50 rfl) rfl ?_
        refine olet_e (P := fun y => AW g MX10_lost 81 [some (.ref (b)), some (.int (p1)), some (.int (a.1)), some (.int (a.2.1))] [(.int (y))] (mb h0 b a.2.2) Q) hs (fun v20 hs => ?_)
        refine AW.istore_n (L' := [some (.ref (b)), some (.int (p1)), some (.int (v20)), some (.int (a.2.1))]) (z := 2) (am_r 51 rfl) rfl (Nat.le_of_ble_eq_true rfl) rfl ?_
        refine AW.iinc (v := a.2.1 + (1 : Int32)) (L' := [some (.ref (b)), some (.int (p1)), some (.int (v20)), some (.int (a.2.1 + (1 : Int32)))]) (am_r 52 rfl) rfl (Nat.le_of_ble_eq_true rfl) rfl (congrArg (fun z => a.2.1 + z) ci_1) rfl ?_
        refine AW.goto (tg := 32) (am_r 53 rfl) rfl ?_
        have hr := (Option.some.inj hs).symm
        exact hc (v20, a.2.1 + (1 : Int32), a.2.2) hr 
      · replace hs := (if_pos hc19).symm.trans hs
        refine AW.aload_n (z := 0) (am_r 39 rfl) rfl rfl ?_
        refine AW.iload_n (z := 3) (am_r 40 rfl) rfl rfl ?_
        refine AW.iconst (am_r 41 rfl) rfl ci_4 ?_
        refine obind_e hs (fun r21 hg23 hs => ?_)
        refine AW.callV (N := MX10_ofRecord) (As := [.int (a.2.1), .int ((4 : Int32))]) (S := [(.int (a.1))]) (L0 := [some (.ref (b)), some (.int (a.2.1)), some (.int ((4 : Int32)))]) (b := b) (am_r 42 rfl) rfl ovX10_ofRecord q1924 rfl rfl mb_ob rfl rfl rfl rfl (dX10_ofRecord hA  hg23 (cQ_r ?_))
        refine AW.aload_n (z := 0) (am_r 43 rfl) rfl rfl ?_
        refine AW.iload_n (z := 3) (am_r 44 rfl) rfl rfl ?_
        refine AW.iconst (am_r 45 rfl) rfl ci_5 ?_
        refine obind_e hs (fun r24 hg26 hs => ?_)
        refine AW.callV (N := MX10_ofRecord) (As := [.int (a.2.1), .int ((5 : Int32))]) (S := [(.int (r21)), (.int (a.1))]) (L0 := [some (.ref (b)), some (.int (a.2.1)), some (.int ((5 : Int32)))]) (b := b) (am_r 46 rfl) rfl ovX10_ofRecord q1924 rfl rfl mb_ob rfl rfl rfl rfl (dX10_ofRecord hA  hg26 (cQ_r ?_))
        refine AW.isub (am_r 47 rfl) rfl ?_
        refine AW.goto (tg := 80) (am_r 48 rfl) rfl ?_
        refine AW.iadd (am_r 50 rfl) rfl ?_
        refine olet_e (P := fun y => AW g MX10_lost 81 [some (.ref (b)), some (.int (p1)), some (.int (a.1)), some (.int (a.2.1))] [(.int (y))] (mb h0 b a.2.2) Q) hs (fun v27 hs => ?_)
        refine AW.istore_n (L' := [some (.ref (b)), some (.int (p1)), some (.int (v27)), some (.int (a.2.1))]) (z := 2) (am_r 51 rfl) rfl (Nat.le_of_ble_eq_true rfl) rfl ?_
        refine AW.iinc (v := a.2.1 + (1 : Int32)) (L' := [some (.ref (b)), some (.int (p1)), some (.int (v27)), some (.int (a.2.1 + (1 : Int32)))]) (am_r 52 rfl) rfl (Nat.le_of_ble_eq_true rfl) rfl (congrArg (fun z => a.2.1 + z) ci_1) rfl ?_
        refine AW.goto (tg := 32) (am_r 53 rfl) rfl ?_
        have hr := (Option.some.inj hs).symm
        exact hc (v27, a.2.1 + (1 : Int32), a.2.2) hr 
noncomputable def sX10_lost_j19 (S : Mem) (p1 : Int32) (y0 : Int32) : Option (Int32 × Mem) :=
  olet (sX10_throwsIf S y0 (1 : Int32)) fun r5 =>
  if r5.1 = 0 then
    sX10_lost_l32  p1 ((0 : Int32), (0 : Int32), r5.2)
  else
    some (((0 : Int32), r5.2))
set_option maxRecDepth 100000 in
theorem dX10_lost_j19 {g : AG} {h0 : AH} {b : Nat} {S : Mem} {Q : AO → AH → Prop} {p1 : Int32} {y0 : Int32} (hA : gB g ≤ b)  (hk0 : y0 = 0 ∨ y0 = 1) {r : (Int32 × Mem)} (hs : sX10_lost_j19 S p1 y0 = some r) (hQ : Q (.ok (some (.int r.1))) (mb h0 b r.2)) : AW g MX10_lost 19 [some (.ref (b)), some (.int (p1)), none, none] [(.int (y0)), (.ref (b))] (mb h0 b S) Q := by
  unfold sX10_lost_j19 at hs
  refine AW.iconst (am_r 11 rfl) rfl ci_1 ?_
  refine AW.callV (N := MX10_throwsIf) (As := [.int (y0), .int ((1 : Int32))]) (S := []) (L0 := [some (.ref (b)), some (.int (y0)), some (.int ((1 : Int32)))]) (b := b) (am_r 12 rfl) rfl ovX10_throwsIf q1607 rfl rfl mb_ob rfl rfl rfl rfl (dX10_throwsIf hA hk0 rfl (fun hok6 => (cQ_r ?_)))
  refine olet_e (P := fun (y : (Int32 × Mem)) => (y.1 = 0 ∨ y.1 = 1) → AW g MX10_lost 23 [some (.ref (b)), some (.int (p1)), none, none] [(.int (y.1))] (mb h0 b y.2) Q) hs (fun r5 hs hok6 => ?_) hok6
  refine AW.if_eq (tg := 28) (am_r 13 rfl) rfl rfl (fun hc7 => ?_) (fun hc7 => ?_)
  · replace hs := (if_pos hc7).symm.trans hs
    refine AW.iconst (am_r 16 rfl) rfl ci_0 ?_
    refine AW.istore_n (L' := [some (.ref (b)), some (.int (p1)), some (.int ((0 : Int32))), none]) (z := 2) (am_r 17 rfl) rfl (Nat.le_of_ble_eq_true rfl) rfl ?_
    refine AW.iconst (am_r 18 rfl) rfl ci_0 ?_
    refine AW.istore_n (L' := [some (.ref (b)), some (.int (p1)), some (.int ((0 : Int32))), some (.int ((0 : Int32)))]) (z := 3) (am_r 19 rfl) rfl (Nat.le_of_ble_eq_true rfl) rfl ?_
    exact dX10_lost_l32 hA   hs hQ
  · replace hs := (if_neg hc7).symm.trans hs
    refine AW.iconst (am_r 14 rfl) rfl ci_0 ?_
    have hr := (Option.some.inj hs).symm
    subst hr
    exact AW.iret (am_r 15 rfl) rfl hQ
noncomputable def sX10_lost (S : Mem) (p1 : Int32) : Option (Int32 × Mem) :=
  olet (si S 100 6 0 ((0 : Int32))) fun S1 =>
  if (sX10_isObject S1 p1) = 0 then
    sX10_lost_j19 S1 p1 (1 : Int32)
  else
    sX10_lost_j19 S1 p1 (0 : Int32)
set_option maxRecDepth 100000 in
theorem dX10_lost {g : AG} {h0 : AH} {b : Nat} {S : Mem} {Q : AO → AH → Prop} {p1 : Int32} (hA : gB g ≤ b)  {r : (Int32 × Mem)} (hs : sX10_lost S p1 = some r) (hQ : Q (.ok (some (.int r.1))) (mb h0 b r.2)) : AW g MX10_lost 0 [some (.ref (b)), some (.int (p1)), none, none] [] (mb h0 b S) Q := by
  unfold sX10_lost at hs
  refine AW.aload_n (z := 0) (am_r 0 rfl) rfl rfl ?_
  refine AW.iconst (am_r 1 rfl) rfl ci_0 ?_
  refine AW.putO (am_r 2 rfl) rfl klX10 (k := 6) (by omega) q1509 (Or.inl rfl) mb_ob hA rfl rfl (mbp_ob (by decide)) ?_
  refine olet_e (P := fun y => AW g MX10_lost 5 [some (.ref (b)), some (.int (p1)), none, none] [] (mb h0 b y) Q) hs (fun S1 hs => ?_)
  refine AW.aload_n (z := 0) (am_r 3 rfl) rfl rfl ?_
  refine AW.aload_n (z := 0) (am_r 4 rfl) rfl rfl ?_
  refine AW.iload_n (z := 1) (am_r 5 rfl) rfl rfl ?_
  refine AW.callV (N := MX10_isObject) (As := [.int (p1)]) (S := [(.ref (b))]) (L0 := [some (.ref (b)), some (.int (p1))]) (b := b) (am_r 6 rfl) rfl ovX10_isObject q1603 rfl rfl mb_ob rfl rfl rfl rfl (dX10_isObject hA  rfl (fun hok3 => (cQ_r ?_)))
  refine AW.if_ne (tg := 18) (am_r 7 rfl) rfl rfl (fun hc4 => ?_) (fun hc4 => ?_)
  · replace hs := (if_neg hc4).symm.trans hs
    refine AW.iconst (am_r 10 rfl) rfl ci_0 ?_
    exact dX10_lost_j19 hA  (Or.inl rfl) hs hQ
  · replace hs := (if_pos hc4).symm.trans hs
    refine AW.iconst (am_r 8 rfl) rfl ci_1 ?_
    refine AW.goto (tg := 19) (am_r 9 rfl) rfl ?_
    exact dX10_lost_j19 hA  (Or.inr rfl) hs hQ
noncomputable def sX10_uses_j19 (S : Mem) (p1 : Int32) (y0 : Int32) : Option (Int32 × Mem) :=
  olet (sX10_throwsIf S y0 (1 : Int32)) fun r5 =>
  if r5.1 = 0 then
    oif (inb ((342 : Int32) + p1) 13412) (
    some ((gi r5.2 0 ((342 : Int32) + p1).toNatClampNeg 0, r5.2)))
  else
    some (((0 : Int32), r5.2))
set_option maxRecDepth 100000 in
theorem dX10_uses_j19 {g : AG} {h0 : AH} {b : Nat} {S : Mem} {Q : AO → AH → Prop} {p1 : Int32} {y0 : Int32} (hA : gB g ≤ b)  (hk0 : y0 = 0 ∨ y0 = 1) {r : (Int32 × Mem)} (hs : sX10_uses_j19 S p1 y0 = some r) (hQ : Q (.ok (some (.int r.1))) (mb h0 b r.2)) : AW g MX10_uses 19 [some (.ref (b)), some (.int (p1))] [(.int (y0)), (.ref (b))] (mb h0 b S) Q := by
  unfold sX10_uses_j19 at hs
  refine AW.iconst (am_r 11 rfl) rfl ci_1 ?_
  refine AW.callV (N := MX10_throwsIf) (As := [.int (y0), .int ((1 : Int32))]) (S := []) (L0 := [some (.ref (b)), some (.int (y0)), some (.int ((1 : Int32)))]) (b := b) (am_r 12 rfl) rfl ovX10_throwsIf q1607 rfl rfl mb_ob rfl rfl rfl rfl (dX10_throwsIf hA hk0 rfl (fun hok6 => (cQ_r ?_)))
  refine olet_e (P := fun (y : (Int32 × Mem)) => (y.1 = 0 ∨ y.1 = 1) → AW g MX10_uses 23 [some (.ref (b)), some (.int (p1))] [(.int (y.1))] (mb h0 b y.2) Q) hs (fun r5 hs hok6 => ?_) hok6
  refine AW.if_eq (tg := 30) (am_r 13 rfl) rfl rfl (fun hc7 => ?_) (fun hc7 => ?_)
  · replace hs := (if_pos hc7).symm.trans hs
    refine AW.aload_n (z := 0) (am_r 16 rfl) rfl rfl ?_
    refine AW.getO (am_r 17 rfl) rfl klX10 (k := 0) (by omega) q1503 mb_ob rfl ?_
    refine AW.sipush (am_r 18 rfl) rfl cs_342 ?_
    refine AW.iload_n (z := 1) (am_r 19 rfl) rfl rfl ?_
    refine AW.iadd (am_r 20 rfl) rfl ?_
    refine oif_g hs (fun hg8 hs => ?_)
    refine AW.iald (am_r 21 rfl) rfl mb_a1 (vp_of_inb hg8) rfl ?_
    have hr := (Option.some.inj hs).symm
    subst hr
    exact AW.iret (am_r 22 rfl) rfl hQ
  · replace hs := (if_neg hc7).symm.trans hs
    refine AW.iconst (am_r 14 rfl) rfl ci_0 ?_
    refine AW.goto (tg := 40) (am_r 15 rfl) rfl ?_
    have hr := (Option.some.inj hs).symm
    subst hr
    exact AW.iret (am_r 22 rfl) rfl hQ
noncomputable def sX10_uses (S : Mem) (p1 : Int32) : Option (Int32 × Mem) :=
  olet (si S 100 6 0 ((0 : Int32))) fun S1 =>
  if (sX10_isRecipe S1 p1) = 0 then
    sX10_uses_j19 S1 p1 (1 : Int32)
  else
    sX10_uses_j19 S1 p1 (0 : Int32)
set_option maxRecDepth 100000 in
theorem dX10_uses {g : AG} {h0 : AH} {b : Nat} {S : Mem} {Q : AO → AH → Prop} {p1 : Int32} (hA : gB g ≤ b)  {r : (Int32 × Mem)} (hs : sX10_uses S p1 = some r) (hQ : Q (.ok (some (.int r.1))) (mb h0 b r.2)) : AW g MX10_uses 0 [some (.ref (b)), some (.int (p1))] [] (mb h0 b S) Q := by
  unfold sX10_uses at hs
  refine AW.aload_n (z := 0) (am_r 0 rfl) rfl rfl ?_
  refine AW.iconst (am_r 1 rfl) rfl ci_0 ?_
  refine AW.putO (am_r 2 rfl) rfl klX10 (k := 6) (by omega) q1509 (Or.inl rfl) mb_ob hA rfl rfl (mbp_ob (by decide)) ?_
  refine olet_e (P := fun y => AW g MX10_uses 5 [some (.ref (b)), some (.int (p1))] [] (mb h0 b y) Q) hs (fun S1 hs => ?_)
  refine AW.aload_n (z := 0) (am_r 3 rfl) rfl rfl ?_
  refine AW.aload_n (z := 0) (am_r 4 rfl) rfl rfl ?_
  refine AW.iload_n (z := 1) (am_r 5 rfl) rfl rfl ?_
  refine AW.callV (N := MX10_isRecipe) (As := [.int (p1)]) (S := [(.ref (b))]) (L0 := [some (.ref (b)), some (.int (p1))]) (b := b) (am_r 6 rfl) rfl ovX10_isRecipe q1639 rfl rfl mb_ob rfl rfl rfl rfl (dX10_isRecipe hA  rfl (fun hok3 => (cQ_r ?_)))
  refine AW.if_ne (tg := 18) (am_r 7 rfl) rfl rfl (fun hc4 => ?_) (fun hc4 => ?_)
  · replace hs := (if_neg hc4).symm.trans hs
    refine AW.iconst (am_r 10 rfl) rfl ci_0 ?_
    exact dX10_uses_j19 hA  (Or.inl rfl) hs hQ
  · replace hs := (if_pos hc4).symm.trans hs
    refine AW.iconst (am_r 8 rfl) rfl ci_1 ?_
    refine AW.goto (tg := 19) (am_r 9 rfl) rfl ?_
    exact dX10_uses_j19 hA  (Or.inr rfl) hs hQ
noncomputable def sX10_pressUse_j19 (S : Mem) (p1 : Int32) (y0 : Int32) : Option (Int32 × Mem) :=
  olet (sX10_throwsIf S y0 (1 : Int32)) fun r5 =>
  if r5.1 = 0 then
    oif (inb ((352 : Int32) + p1) 13412) (
    some ((gi r5.2 0 ((352 : Int32) + p1).toNatClampNeg 0, r5.2)))
  else
    some (((0 : Int32), r5.2))
set_option maxRecDepth 100000 in
theorem dX10_pressUse_j19 {g : AG} {h0 : AH} {b : Nat} {S : Mem} {Q : AO → AH → Prop} {p1 : Int32} {y0 : Int32} (hA : gB g ≤ b)  (hk0 : y0 = 0 ∨ y0 = 1) {r : (Int32 × Mem)} (hs : sX10_pressUse_j19 S p1 y0 = some r) (hQ : Q (.ok (some (.int r.1))) (mb h0 b r.2)) : AW g MX10_pressUse 19 [some (.ref (b)), some (.int (p1))] [(.int (y0)), (.ref (b))] (mb h0 b S) Q := by
  unfold sX10_pressUse_j19 at hs
  refine AW.iconst (am_r 11 rfl) rfl ci_1 ?_
  refine AW.callV (N := MX10_throwsIf) (As := [.int (y0), .int ((1 : Int32))]) (S := []) (L0 := [some (.ref (b)), some (.int (y0)), some (.int ((1 : Int32)))]) (b := b) (am_r 12 rfl) rfl ovX10_throwsIf q1607 rfl rfl mb_ob rfl rfl rfl rfl (dX10_throwsIf hA hk0 rfl (fun hok6 => (cQ_r ?_)))
  refine olet_e (P := fun (y : (Int32 × Mem)) => (y.1 = 0 ∨ y.1 = 1) → AW g MX10_pressUse 23 [some (.ref (b)), some (.int (p1))] [(.int (y.1))] (mb h0 b y.2) Q) hs (fun r5 hs hok6 => ?_) hok6
  refine AW.if_eq (tg := 30) (am_r 13 rfl) rfl rfl (fun hc7 => ?_) (fun hc7 => ?_)
  · replace hs := (if_pos hc7).symm.trans hs
    refine AW.aload_n (z := 0) (am_r 16 rfl) rfl rfl ?_
    refine AW.getO (am_r 17 rfl) rfl klX10 (k := 0) (by omega) q1503 mb_ob rfl ?_
    refine AW.sipush (am_r 18 rfl) rfl cs_352 ?_
    refine AW.iload_n (z := 1) (am_r 19 rfl) rfl rfl ?_
    refine AW.iadd (am_r 20 rfl) rfl ?_
    refine oif_g hs (fun hg8 hs => ?_)
    refine AW.iald (am_r 21 rfl) rfl mb_a1 (vp_of_inb hg8) rfl ?_
    have hr := (Option.some.inj hs).symm
    subst hr
    exact AW.iret (am_r 22 rfl) rfl hQ
  · replace hs := (if_neg hc7).symm.trans hs
    refine AW.iconst (am_r 14 rfl) rfl ci_0 ?_
    refine AW.goto (tg := 40) (am_r 15 rfl) rfl ?_
    have hr := (Option.some.inj hs).symm
    subst hr
    exact AW.iret (am_r 22 rfl) rfl hQ
noncomputable def sX10_pressUse (S : Mem) (p1 : Int32) : Option (Int32 × Mem) :=
  olet (si S 100 6 0 ((0 : Int32))) fun S1 =>
  if (sX10_isPress S1 p1) = 0 then
    sX10_pressUse_j19 S1 p1 (1 : Int32)
  else
    sX10_pressUse_j19 S1 p1 (0 : Int32)
set_option maxRecDepth 100000 in
theorem dX10_pressUse {g : AG} {h0 : AH} {b : Nat} {S : Mem} {Q : AO → AH → Prop} {p1 : Int32} (hA : gB g ≤ b)  {r : (Int32 × Mem)} (hs : sX10_pressUse S p1 = some r) (hQ : Q (.ok (some (.int r.1))) (mb h0 b r.2)) : AW g MX10_pressUse 0 [some (.ref (b)), some (.int (p1))] [] (mb h0 b S) Q := by
  unfold sX10_pressUse at hs
  refine AW.aload_n (z := 0) (am_r 0 rfl) rfl rfl ?_
  refine AW.iconst (am_r 1 rfl) rfl ci_0 ?_
  refine AW.putO (am_r 2 rfl) rfl klX10 (k := 6) (by omega) q1509 (Or.inl rfl) mb_ob hA rfl rfl (mbp_ob (by decide)) ?_
  refine olet_e (P := fun y => AW g MX10_pressUse 5 [some (.ref (b)), some (.int (p1))] [] (mb h0 b y) Q) hs (fun S1 hs => ?_)
  refine AW.aload_n (z := 0) (am_r 3 rfl) rfl rfl ?_
  refine AW.aload_n (z := 0) (am_r 4 rfl) rfl rfl ?_
  refine AW.iload_n (z := 1) (am_r 5 rfl) rfl rfl ?_
  refine AW.callV (N := MX10_isPress) (As := [.int (p1)]) (S := [(.ref (b))]) (L0 := [some (.ref (b)), some (.int (p1))]) (b := b) (am_r 6 rfl) rfl ovX10_isPress q1811 rfl rfl mb_ob rfl rfl rfl rfl (dX10_isPress hA  rfl (fun hok3 => (cQ_r ?_)))
  refine AW.if_ne (tg := 18) (am_r 7 rfl) rfl rfl (fun hc4 => ?_) (fun hc4 => ?_)
  · replace hs := (if_neg hc4).symm.trans hs
    refine AW.iconst (am_r 10 rfl) rfl ci_0 ?_
    exact dX10_pressUse_j19 hA  (Or.inl rfl) hs hQ
  · replace hs := (if_pos hc4).symm.trans hs
    refine AW.iconst (am_r 8 rfl) rfl ci_1 ?_
    refine AW.goto (tg := 19) (am_r 9 rfl) rfl ?_
    exact dX10_pressUse_j19 hA  (Or.inr rfl) hs hQ
noncomputable def sX10_loansAhead_l4_step (S : Mem) (p1 : Int32) (a : (Int32 × Int32)) : Option ((Int32 × Int32) ⊕ Int32) :=
  if (gi S 5 (4 : Int32).toNatClampNeg 0) ≤ a.2 then
    oinr (
    some (a.1))
  else
    obind (sX10_of S a.2 (8 : Int32)) fun r4 =>
    if r4 = (-1 : Int32) then
      olet (a.1 + (0 : Int32)) fun v8 =>
      some (.inl (v8, a.2 + (1 : Int32)))
    else
      obind (sX10_of S a.2 (8 : Int32)) fun r9 =>
      obind (sX10_of S p1 (8 : Int32)) fun r12 =>
      if r9 < r12 then
        olet (a.1 + (1 : Int32)) fun v16 =>
        some (.inl (v16, a.2 + (1 : Int32)))
      else
        obind (sX10_of S a.2 (8 : Int32)) fun r17 =>
        obind (sX10_of S p1 (8 : Int32)) fun r20 =>
        if r17 = r20 then
          if p1 ≤ a.2 then
            olet (a.1 + (0 : Int32)) fun v26 =>
            some (.inl (v26, a.2 + (1 : Int32)))
          else
            olet (a.1 + (1 : Int32)) fun v27 =>
            some (.inl (v27, a.2 + (1 : Int32)))
        else
          olet (a.1 + (0 : Int32)) fun v24 =>
          some (.inl (v24, a.2 + (1 : Int32)))
noncomputable def sX10_loansAhead_l4 (S : Mem) (p1 : Int32) (a : (Int32 × Int32)) : Option Int32 := itw (sX10_loansAhead_l4_step S p1) a
set_option maxRecDepth 100000 in
theorem dX10_loansAhead_l4 {g : AG} {h0 : AH} {b : Nat} {S : Mem} {Q : AO → AH → Prop} {p1 : Int32} (hA : gB g ≤ b)  {a : (Int32 × Int32)}  {r : Int32} (hs : sX10_loansAhead_l4 S p1 a = some r) (hQ : Q (.ok (some (.int r))) (mb h0 b S)) : AW g MX10_loansAhead 4 [some (.ref (b)), some (.int (p1)), some (.int (a.1)), some (.int (a.2))] [] (mb h0 b S) Q := by
  refine itw_e (P := fun a => AW g MX10_loansAhead 4 [some (.ref (b)), some (.int (p1)), some (.int (a.1)), some (.int (a.2))] [] (mb h0 b S) Q) (Post := fun r => Q (.ok (some (.int r))) (mb h0 b S)) (fun a r hs hc he  => ?_) hs hQ 
  unfold sX10_loansAhead_l4_step at hs
  refine AW.iload_n (z := 3) (am_r 4 rfl) rfl rfl ?_
  refine AW.aload_n (z := 0) (am_r 5 rfl) rfl rfl ?_
  refine AW.getO (am_r 6 rfl) rfl klX10 (k := 5) (by omega) q1508 mb_ob rfl ?_
  refine AW.iconst (am_r 7 rfl) rfl ci_4 ?_
  refine AW.iald (am_r 8 rfl) rfl mb_a4 (vp_of_inb rfl) rfl ?_
  refine AW.icmp_ge (tg := 78) (am_r 9 rfl) rfl rfl (fun hc1 => ?_) (fun hc1 => ?_)
  · replace hs := (if_pos hc1).symm.trans hs
    refine oinr_e hs (fun z2 hz3 hs => ?_)
    have hQ := he _ hz3
    refine AW.iload_n (z := 2) (am_r 45 rfl) rfl rfl ?_
    have hr := (Option.some.inj hs).symm
    subst hr
    exact AW.iret (am_r 46 rfl) rfl hQ
  · replace hs := (if_neg hc1).symm.trans hs
    refine AW.iload_n (z := 2) (am_r 10 rfl) rfl rfl ?_
    refine AW.aload_n (z := 0) (am_r 11 rfl) rfl rfl ?_
    refine AW.iload_n (z := 3) (am_r 12 rfl) rfl rfl ?_
    refine AW.bipush (am_r 13 rfl) rfl cb_8 ?_
    refine obind_e hs (fun r4 hg6 hs => ?_)
    refine AW.callV (N := MX10_of) (As := [.int (a.2), .int ((8 : Int32))]) (S := [(.int (a.1))]) (L0 := [some (.ref (b)), some (.int (a.2)), some (.int ((8 : Int32)))]) (b := b) (am_r 14 rfl) rfl ovX10_of q1615 rfl rfl mb_ob rfl rfl rfl rfl (dX10_of hA  hg6 (cQ_r ?_))
    refine AW.iconst (am_r 15 rfl) rfl ci_m1 ?_
    refine AW.icmp_eq (tg := 69) (am_r 16 rfl) rfl rfl (fun hc7 => ?_) (fun hc7 => ?_)
    · replace hs := (if_pos hc7).symm.trans hs
      refine AW.iconst (am_r 40 rfl) rfl ci_0 ?_
      refine AW.iadd (am_r 41 rfl) rfl ?_
      refine olet_e (P := fun y => AW g MX10_loansAhead 71 [some (.ref (b)), some (.int (p1)), some (.int (a.1)), some (.int (a.2))] [(.int (y))] (mb h0 b S) Q) hs (fun v8 hs => ?_)
      refine AW.istore_n (L' := [some (.ref (b)), some (.int (p1)), some (.int (v8)), some (.int (a.2))]) (z := 2) (am_r 42 rfl) rfl (Nat.le_of_ble_eq_true rfl) rfl ?_
      refine AW.iinc (v := a.2 + (1 : Int32)) (L' := [some (.ref (b)), some (.int (p1)), some (.int (v8)), some (.int (a.2 + (1 : Int32)))]) (am_r 43 rfl) rfl (Nat.le_of_ble_eq_true rfl) rfl (congrArg (fun z => a.2 + z) ci_1) rfl ?_
      refine AW.goto (tg := 4) (am_r 44 rfl) rfl ?_
      have hr := (Option.some.inj hs).symm
      exact hc (v8, a.2 + (1 : Int32)) hr 
    · replace hs := (if_neg hc7).symm.trans hs
      refine AW.aload_n (z := 0) (am_r 17 rfl) rfl rfl ?_
      refine AW.iload_n (z := 3) (am_r 18 rfl) rfl rfl ?_
      refine AW.bipush (am_r 19 rfl) rfl cb_8 ?_
      refine obind_e hs (fun r9 hg11 hs => ?_)
      refine AW.callV (N := MX10_of) (As := [.int (a.2), .int ((8 : Int32))]) (S := [(.int (a.1))]) (L0 := [some (.ref (b)), some (.int (a.2)), some (.int ((8 : Int32)))]) (b := b) (am_r 20 rfl) rfl ovX10_of q1615 rfl rfl mb_ob rfl rfl rfl rfl (dX10_of hA  hg11 (cQ_r ?_))
      refine AW.aload_n (z := 0) (am_r 21 rfl) rfl rfl ?_
      refine AW.iload_n (z := 1) (am_r 22 rfl) rfl rfl ?_
      refine AW.bipush (am_r 23 rfl) rfl cb_8 ?_
      refine obind_e hs (fun r12 hg14 hs => ?_)
      refine AW.callV (N := MX10_of) (As := [.int (p1), .int ((8 : Int32))]) (S := [(.int (r9)), (.int (a.1))]) (L0 := [some (.ref (b)), some (.int (p1)), some (.int ((8 : Int32)))]) (b := b) (am_r 24 rfl) rfl ovX10_of q1615 rfl rfl mb_ob rfl rfl rfl rfl (dX10_of hA  hg14 (cQ_r ?_))
      refine AW.icmp_lt (tg := 65) (am_r 25 rfl) rfl rfl (fun hc15 => ?_) (fun hc15 => ?_)
      · replace hs := (if_pos hc15).symm.trans hs
        refine AW.iconst (am_r 38 rfl) rfl ci_1 ?_
        refine AW.goto (tg := 70) (am_r 39 rfl) rfl ?_
        refine AW.iadd (am_r 41 rfl) rfl ?_
        refine olet_e (P := fun y => AW g MX10_loansAhead 71 [some (.ref (b)), some (.int (p1)), some (.int (a.1)), some (.int (a.2))] [(.int (y))] (mb h0 b S) Q) hs (fun v16 hs => ?_)
        refine AW.istore_n (L' := [some (.ref (b)), some (.int (p1)), some (.int (v16)), some (.int (a.2))]) (z := 2) (am_r 42 rfl) rfl (Nat.le_of_ble_eq_true rfl) rfl ?_
        refine AW.iinc (v := a.2 + (1 : Int32)) (L' := [some (.ref (b)), some (.int (p1)), some (.int (v16)), some (.int (a.2 + (1 : Int32)))]) (am_r 43 rfl) rfl (Nat.le_of_ble_eq_true rfl) rfl (congrArg (fun z => a.2 + z) ci_1) rfl ?_
        refine AW.goto (tg := 4) (am_r 44 rfl) rfl ?_
        have hr := (Option.some.inj hs).symm
        exact hc (v16, a.2 + (1 : Int32)) hr 
      · replace hs := (if_neg hc15).symm.trans hs
        refine AW.aload_n (z := 0) (am_r 26 rfl) rfl rfl ?_
        refine AW.iload_n (z := 3) (am_r 27 rfl) rfl rfl ?_
        refine AW.bipush (am_r 28 rfl) rfl cb_8 ?_
        refine obind_e hs (fun r17 hg19 hs => ?_)
        refine AW.callV (N := MX10_of) (As := [.int (a.2), .int ((8 : Int32))]) (S := [(.int (a.1))]) (L0 := [some (.ref (b)), some (.int (a.2)), some (.int ((8 : Int32)))]) (b := b) (am_r 29 rfl) rfl ovX10_of q1615 rfl rfl mb_ob rfl rfl rfl rfl (dX10_of hA  hg19 (cQ_r ?_))
        refine AW.aload_n (z := 0) (am_r 30 rfl) rfl rfl ?_
        refine AW.iload_n (z := 1) (am_r 31 rfl) rfl rfl ?_
        refine AW.bipush (am_r 32 rfl) rfl cb_8 ?_
        refine obind_e hs (fun r20 hg22 hs => ?_)
        refine AW.callV (N := MX10_of) (As := [.int (p1), .int ((8 : Int32))]) (S := [(.int (r17)), (.int (a.1))]) (L0 := [some (.ref (b)), some (.int (p1)), some (.int ((8 : Int32)))]) (b := b) (am_r 33 rfl) rfl ovX10_of q1615 rfl rfl mb_ob rfl rfl rfl rfl (dX10_of hA  hg22 (cQ_r ?_))
        refine AW.icmp_ne (tg := 69) (am_r 34 rfl) rfl rfl (fun hc23 => ?_) (fun hc23 => ?_)
        · replace hs := (if_neg hc23).symm.trans hs
          refine AW.iconst (am_r 40 rfl) rfl ci_0 ?_
          refine AW.iadd (am_r 41 rfl) rfl ?_
          refine olet_e (P := fun y => AW g MX10_loansAhead 71 [some (.ref (b)), some (.int (p1)), some (.int (a.1)), some (.int (a.2))] [(.int (y))] (mb h0 b S) Q) hs (fun v24 hs => ?_)
          refine AW.istore_n (L' := [some (.ref (b)), some (.int (p1)), some (.int (v24)), some (.int (a.2))]) (z := 2) (am_r 42 rfl) rfl (Nat.le_of_ble_eq_true rfl) rfl ?_
          refine AW.iinc (v := a.2 + (1 : Int32)) (L' := [some (.ref (b)), some (.int (p1)), some (.int (v24)), some (.int (a.2 + (1 : Int32)))]) (am_r 43 rfl) rfl (Nat.le_of_ble_eq_true rfl) rfl (congrArg (fun z => a.2 + z) ci_1) rfl ?_
          refine AW.goto (tg := 4) (am_r 44 rfl) rfl ?_
          have hr := (Option.some.inj hs).symm
          exact hc (v24, a.2 + (1 : Int32)) hr 
        · replace hs := (if_pos hc23).symm.trans hs
          refine AW.iload_n (z := 3) (am_r 35 rfl) rfl rfl ?_
          refine AW.iload_n (z := 1) (am_r 36 rfl) rfl rfl ?_
          refine AW.icmp_ge (tg := 69) (am_r 37 rfl) rfl rfl (fun hc25 => ?_) (fun hc25 => ?_)
          · replace hs := (if_pos hc25).symm.trans hs
            refine AW.iconst (am_r 40 rfl) rfl ci_0 ?_
            refine AW.iadd (am_r 41 rfl) rfl ?_
            refine olet_e (P := fun y => AW g MX10_loansAhead 71 [some (.ref (b)), some (.int (p1)), some (.int (a.1)), some (.int (a.2))] [(.int (y))] (mb h0 b S) Q) hs (fun v26 hs => ?_)
            refine AW.istore_n (L' := [some (.ref (b)), some (.int (p1)), some (.int (v26)), some (.int (a.2))]) (z := 2) (am_r 42 rfl) rfl (Nat.le_of_ble_eq_true rfl) rfl ?_
            refine AW.iinc (v := a.2 + (1 : Int32)) (L' := [some (.ref (b)), some (.int (p1)), some (.int (v26)), some (.int (a.2 + (1 : Int32)))]) (am_r 43 rfl) rfl (Nat.le_of_ble_eq_true rfl) rfl (congrArg (fun z => a.2 + z) ci_1) rfl ?_
            refine AW.goto (tg := 4) (am_r 44 rfl) rfl ?_
            have hr := (Option.some.inj hs).symm
            exact hc (v26, a.2 + (1 : Int32)) hr 
          · replace hs := (if_neg hc25).symm.trans hs
            refine AW.iconst (am_r 38 rfl) rfl ci_1 ?_
            refine AW.goto (tg := 70) (am_r 39 rfl) rfl ?_
            refine AW.iadd (am_r 41 rfl) rfl ?_
            refine olet_e (P := fun y => AW g MX10_loansAhead 71 [some (.ref (b)), some (.int (p1)), some (.int (a.1)), some (.int (a.2))] [(.int (y))] (mb h0 b S) Q) hs (fun v27 hs => ?_)
            refine AW.istore_n (L' := [some (.ref (b)), some (.int (p1)), some (.int (v27)), some (.int (a.2))]) (z := 2) (am_r 42 rfl) rfl (Nat.le_of_ble_eq_true rfl) rfl ?_
            refine AW.iinc (v := a.2 + (1 : Int32)) (L' := [some (.ref (b)), some (.int (p1)), some (.int (v27)), some (.int (a.2 + (1 : Int32)))]) (am_r 43 rfl) rfl (Nat.le_of_ble_eq_true rfl) rfl (congrArg (fun z => a.2 + z) ci_1) rfl ?_
            refine AW.goto (tg := 4) (am_r 44 rfl) rfl ?_
            have hr := (Option.some.inj hs).symm
            exact hc (v27, a.2 + (1 : Int32)) hr 
noncomputable def sX10_loansAhead (S : Mem) (p1 : Int32) : Option Int32 :=
  sX10_loansAhead_l4 S p1 ((0 : Int32), (0 : Int32))
set_option maxRecDepth 100000 in
theorem dX10_loansAhead {g : AG} {h0 : AH} {b : Nat} {S : Mem} {Q : AO → AH → Prop} {p1 : Int32} (hA : gB g ≤ b)  {r : Int32} (hs : sX10_loansAhead S p1 = some r) (hQ : Q (.ok (some (.int r))) (mb h0 b S)) : AW g MX10_loansAhead 0 [some (.ref (b)), some (.int (p1)), none, none] [] (mb h0 b S) Q := by
  unfold sX10_loansAhead at hs
  refine AW.iconst (am_r 0 rfl) rfl ci_0 ?_
  refine AW.istore_n (L' := [some (.ref (b)), some (.int (p1)), some (.int ((0 : Int32))), none]) (z := 2) (am_r 1 rfl) rfl (Nat.le_of_ble_eq_true rfl) rfl ?_
  refine AW.iconst (am_r 2 rfl) rfl ci_0 ?_
  refine AW.istore_n (L' := [some (.ref (b)), some (.int (p1)), some (.int ((0 : Int32))), some (.int ((0 : Int32)))]) (z := 3) (am_r 3 rfl) rfl (Nat.le_of_ble_eq_true rfl) rfl ?_
  exact dX10_loansAhead_l4 hA   hs hQ
noncomputable def sX10_waitingLoan_l7_step  (p1 : Int32) (a : (Int32 × Mem)) : Option ((Int32 × Mem) ⊕ (Int32 × Mem)) :=
  if (gi a.2 5 (4 : Int32).toNatClampNeg 0) ≤ a.1 then
    oinr (
    some (((-1 : Int32), a.2)))
  else
    obind (sX10_of a.2 a.1 (8 : Int32)) fun r5 =>
    if r5 = (-1 : Int32) then
      some (.inl (a.1 + (1 : Int32), a.2))
    else
      obind (sX10_loansAhead a.2 a.1) fun r9 =>
      if r9 = p1 then
        oinr (
        some ((a.1, a.2)))
      else
        some (.inl (a.1 + (1 : Int32), a.2))
noncomputable def sX10_waitingLoan_l7  (p1 : Int32) (a : (Int32 × Mem)) : Option (Int32 × Mem) := itw (sX10_waitingLoan_l7_step  p1) a
set_option maxRecDepth 100000 in
theorem dX10_waitingLoan_l7 {g : AG} {h0 : AH} {b : Nat} {Q : AO → AH → Prop} {p1 : Int32} (hA : gB g ≤ b)  {a : (Int32 × Mem)}  {r : (Int32 × Mem)} (hs : sX10_waitingLoan_l7  p1 a = some r) (hQ : Q (.ok (some (.int r.1))) (mb h0 b r.2)) : AW g MX10_waitingLoan 7 [some (.ref (b)), some (.int (p1)), some (.int (a.1))] [] (mb h0 b a.2) Q := by
  refine itw_e (P := fun a => AW g MX10_waitingLoan 7 [some (.ref (b)), some (.int (p1)), some (.int (a.1))] [] (mb h0 b a.2) Q) (Post := fun r => Q (.ok (some (.int r.1))) (mb h0 b r.2)) (fun a r hs hc he  => ?_) hs hQ 
  unfold sX10_waitingLoan_l7_step at hs
  refine AW.iload_n (z := 2) (am_r 5 rfl) rfl rfl ?_
  refine AW.aload_n (z := 0) (am_r 6 rfl) rfl rfl ?_
  refine AW.getO (am_r 7 rfl) rfl klX10 (k := 5) (by omega) q1508 mb_ob rfl ?_
  refine AW.iconst (am_r 8 rfl) rfl ci_4 ?_
  refine AW.iald (am_r 9 rfl) rfl mb_a4 (vp_of_inb rfl) rfl ?_
  refine AW.icmp_ge (tg := 45) (am_r 10 rfl) rfl rfl (fun hc2 => ?_) (fun hc2 => ?_)
  · replace hs := (if_pos hc2).symm.trans hs
    refine oinr_e hs (fun z3 hz4 hs => ?_)
    have hQ := he _ hz4
    refine AW.iconst (am_r 26 rfl) rfl ci_m1 ?_
    have hr := (Option.some.inj hs).symm
    subst hr
    exact AW.iret (am_r 27 rfl) rfl hQ
  · replace hs := (if_neg hc2).symm.trans hs
    refine AW.aload_n (z := 0) (am_r 11 rfl) rfl rfl ?_
    refine AW.iload_n (z := 2) (am_r 12 rfl) rfl rfl ?_
    refine AW.bipush (am_r 13 rfl) rfl cb_8 ?_
    refine obind_e hs (fun r5 hg7 hs => ?_)
    refine AW.callV (N := MX10_of) (As := [.int (a.1), .int ((8 : Int32))]) (S := []) (L0 := [some (.ref (b)), some (.int (a.1)), some (.int ((8 : Int32)))]) (b := b) (am_r 14 rfl) rfl ovX10_of q1615 rfl rfl mb_ob rfl rfl rfl rfl (dX10_of hA  hg7 (cQ_r ?_))
    refine AW.iconst (am_r 15 rfl) rfl ci_m1 ?_
    refine AW.icmp_eq (tg := 39) (am_r 16 rfl) rfl rfl (fun hc8 => ?_) (fun hc8 => ?_)
    · replace hs := (if_pos hc8).symm.trans hs
      refine AW.iinc (v := a.1 + (1 : Int32)) (L' := [some (.ref (b)), some (.int (p1)), some (.int (a.1 + (1 : Int32)))]) (am_r 24 rfl) rfl (Nat.le_of_ble_eq_true rfl) rfl (congrArg (fun z => a.1 + z) ci_1) rfl ?_
      refine AW.goto (tg := 7) (am_r 25 rfl) rfl ?_
      have hr := (Option.some.inj hs).symm
      exact hc (a.1 + (1 : Int32), a.2) hr 
    · replace hs := (if_neg hc8).symm.trans hs
      refine AW.aload_n (z := 0) (am_r 17 rfl) rfl rfl ?_
      refine AW.iload_n (z := 2) (am_r 18 rfl) rfl rfl ?_
      refine obind_e hs (fun r9 hg11 hs => ?_)
      refine AW.callV (N := MX10_loansAhead) (As := [.int (a.1)]) (S := []) (L0 := [some (.ref (b)), some (.int (a.1)), none, none]) (b := b) (am_r 19 rfl) rfl ovX10_loansAhead q1956 rfl rfl mb_ob rfl rfl rfl rfl (dX10_loansAhead hA  hg11 (cQ_r ?_))
      refine AW.iload_n (z := 1) (am_r 20 rfl) rfl rfl ?_
      refine AW.icmp_ne (tg := 39) (am_r 21 rfl) rfl rfl (fun hc12 => ?_) (fun hc12 => ?_)
      · replace hs := (if_neg hc12).symm.trans hs
        refine AW.iinc (v := a.1 + (1 : Int32)) (L' := [some (.ref (b)), some (.int (p1)), some (.int (a.1 + (1 : Int32)))]) (am_r 24 rfl) rfl (Nat.le_of_ble_eq_true rfl) rfl (congrArg (fun z => a.1 + z) ci_1) rfl ?_
        refine AW.goto (tg := 7) (am_r 25 rfl) rfl ?_
        have hr := (Option.some.inj hs).symm
        exact hc (a.1 + (1 : Int32), a.2) hr 
      · replace hs := (if_pos hc12).symm.trans hs
        refine oinr_e hs (fun z13 hz14 hs => ?_)
        have hQ := he _ hz14
        refine AW.iload_n (z := 2) (am_r 22 rfl) rfl rfl ?_
        have hr := (Option.some.inj hs).symm
        subst hr
        exact AW.iret (am_r 23 rfl) rfl hQ
noncomputable def sX10_waitingLoan (S : Mem) (p1 : Int32) : Option (Int32 × Mem) :=
  olet (si S 100 6 0 ((0 : Int32))) fun S1 =>
  sX10_waitingLoan_l7  p1 ((0 : Int32), S1)
set_option maxRecDepth 100000 in
theorem dX10_waitingLoan {g : AG} {h0 : AH} {b : Nat} {S : Mem} {Q : AO → AH → Prop} {p1 : Int32} (hA : gB g ≤ b)  {r : (Int32 × Mem)} (hs : sX10_waitingLoan S p1 = some r) (hQ : Q (.ok (some (.int r.1))) (mb h0 b r.2)) : AW g MX10_waitingLoan 0 [some (.ref (b)), some (.int (p1)), none] [] (mb h0 b S) Q := by
  unfold sX10_waitingLoan at hs
  refine AW.aload_n (z := 0) (am_r 0 rfl) rfl rfl ?_
  refine AW.iconst (am_r 1 rfl) rfl ci_0 ?_
  refine AW.putO (am_r 2 rfl) rfl klX10 (k := 6) (by omega) q1509 (Or.inl rfl) mb_ob hA rfl rfl (mbp_ob (by decide)) ?_
  refine olet_e (P := fun y => AW g MX10_waitingLoan 5 [some (.ref (b)), some (.int (p1)), none] [] (mb h0 b y) Q) hs (fun S1 hs => ?_)
  refine AW.iconst (am_r 3 rfl) rfl ci_0 ?_
  refine AW.istore_n (L' := [some (.ref (b)), some (.int (p1)), some (.int ((0 : Int32)))]) (z := 2) (am_r 4 rfl) rfl (Nat.le_of_ble_eq_true rfl) rfl ?_
  exact dX10_waitingLoan_l7 hA   hs hQ
noncomputable def sX10_isReady (S : Mem) (p1 : Int32) : Option Int32 :=
  obind (sX10_of S p1 (1 : Int32)) fun r1 =>
  if r1 = 0 then
    obind (sX10_of S p1 (3 : Int32)) fun r5 =>
    if r5 = 0 then
      some ((1 : Int32))
    else
      some ((0 : Int32))
  else
    some ((0 : Int32))
set_option maxRecDepth 100000 in
theorem dX10_isReady {g : AG} {h0 : AH} {b : Nat} {S : Mem} {Q : AO → AH → Prop} {p1 : Int32} (hA : gB g ≤ b)  {r : Int32} (hs : sX10_isReady S p1 = some r) (hQ : (r = 0 ∨ r = 1) → Q (.ok (some (.int r))) (mb h0 b S)) : AW g MX10_isReady 0 [some (.ref (b)), some (.int (p1))] [] (mb h0 b S) Q := by
  unfold sX10_isReady at hs
  refine AW.aload_n (z := 0) (am_r 0 rfl) rfl rfl ?_
  refine AW.iload_n (z := 1) (am_r 1 rfl) rfl rfl ?_
  refine AW.iconst (am_r 2 rfl) rfl ci_1 ?_
  refine obind_e hs (fun r1 hg3 hs => ?_)
  refine AW.callV (N := MX10_of) (As := [.int (p1), .int ((1 : Int32))]) (S := []) (L0 := [some (.ref (b)), some (.int (p1)), some (.int ((1 : Int32)))]) (b := b) (am_r 3 rfl) rfl ovX10_of q1615 rfl rfl mb_ob rfl rfl rfl rfl (dX10_of hA  hg3 (cQ_r ?_))
  refine AW.if_ne (tg := 22) (am_r 4 rfl) rfl rfl (fun hc4 => ?_) (fun hc4 => ?_)
  · replace hs := (if_neg hc4).symm.trans hs
    refine AW.iconst (am_r 12 rfl) rfl ci_0 ?_
    have hr := (Option.some.inj hs).symm
    subst hr
    exact AW.zret (am_r 13 rfl) rfl (Or.inl rfl) (hQ (Or.inl rfl))
  · replace hs := (if_pos hc4).symm.trans hs
    refine AW.aload_n (z := 0) (am_r 5 rfl) rfl rfl ?_
    refine AW.iload_n (z := 1) (am_r 6 rfl) rfl rfl ?_
    refine AW.iconst (am_r 7 rfl) rfl ci_3 ?_
    refine obind_e hs (fun r5 hg7 hs => ?_)
    refine AW.callV (N := MX10_of) (As := [.int (p1), .int ((3 : Int32))]) (S := []) (L0 := [some (.ref (b)), some (.int (p1)), some (.int ((3 : Int32)))]) (b := b) (am_r 8 rfl) rfl ovX10_of q1615 rfl rfl mb_ob rfl rfl rfl rfl (dX10_of hA  hg7 (cQ_r ?_))
    refine AW.if_ne (tg := 22) (am_r 9 rfl) rfl rfl (fun hc8 => ?_) (fun hc8 => ?_)
    · replace hs := (if_neg hc8).symm.trans hs
      refine AW.iconst (am_r 12 rfl) rfl ci_0 ?_
      have hr := (Option.some.inj hs).symm
      subst hr
      exact AW.zret (am_r 13 rfl) rfl (Or.inl rfl) (hQ (Or.inl rfl))
    · replace hs := (if_pos hc8).symm.trans hs
      refine AW.iconst (am_r 10 rfl) rfl ci_1 ?_
      refine AW.goto (tg := 23) (am_r 11 rfl) rfl ?_
      have hr := (Option.some.inj hs).symm
      subst hr
      exact AW.zret (am_r 13 rfl) rfl (Or.inr rfl) (hQ (Or.inr rfl))
noncomputable def sX10_isQuiet_j34 (S : Mem)  (y0 : Int32) (y1 : Int32) : Option ((Int32 × Int32) ⊕ Int32) :=
  obind (sX10_reasonOf S y0) fun r8 =>
  if r8 = 0 then
    some (.inl (y1 &&& (0 : Int32), y0 + (1 : Int32)))
  else
    some (.inl (y1 &&& (1 : Int32), y0 + (1 : Int32)))
set_option maxRecDepth 100000 in
theorem dX10_isQuiet_j34 {g : AG} {h0 : AH} {b : Nat} {S : Mem} {Q : AO → AH → Prop}  {y0 : Int32} {y1 : Int32} (hA : gB g ≤ b)  (hk1 : y1 = 0 ∨ y1 = 1) {r : ((Int32 × Int32) ⊕ Int32)} (hs : sX10_isQuiet_j34 S  y0 y1 = some r) (hc : ∀ a : (Int32 × Int32), r = .inl a → a.1 = 0 ∨ a.1 = 1 → AW g MX10_isQuiet 4 [some (.ref (b)), some (.int (a.1)), some (.int (a.2))] [] (mb h0 b S) Q) (he : ∀ z : Int32, r = .inr z → (z = 0 ∨ z = 1) → Q (.ok (some (.int z))) (mb h0 b S)) : AW g MX10_isQuiet 34 [some (.ref (b)), none, some (.int (y0))] [(.int (y1))] (mb h0 b S) Q := by
  unfold sX10_isQuiet_j34 at hs
  refine AW.aload_n (z := 0) (am_r 22 rfl) rfl rfl ?_
  refine AW.iload_n (z := 2) (am_r 23 rfl) rfl rfl ?_
  refine obind_e hs (fun r8 hg10 hs => ?_)
  refine AW.callV (N := MX10_reasonOf) (As := [.int (y0)]) (S := [(.int (y1))]) (L0 := [some (.ref (b)), some (.int (y0)), none, none]) (b := b) (am_r 24 rfl) rfl ovX10_reasonOf q1772 rfl rfl mb_ob rfl rfl rfl rfl (dX10_reasonOf hA  hg10 (cQ_r ?_))
  refine AW.if_eq (tg := 46) (am_r 25 rfl) rfl rfl (fun hc11 => ?_) (fun hc11 => ?_)
  · replace hs := (if_pos hc11).symm.trans hs
    refine AW.iconst (am_r 28 rfl) rfl ci_0 ?_
    refine AW.iand (am_r 29 rfl) rfl ?_
    refine AW.istore_n (L' := [some (.ref (b)), some (.int (y1 &&& (0 : Int32))), some (.int (y0))]) (z := 1) (am_r 30 rfl) rfl (Nat.le_of_ble_eq_true rfl) rfl ?_
    refine AW.iinc (v := y0 + (1 : Int32)) (L' := [some (.ref (b)), some (.int (y1 &&& (0 : Int32))), some (.int (y0 + (1 : Int32)))]) (am_r 31 rfl) rfl (Nat.le_of_ble_eq_true rfl) rfl (congrArg (fun z => y0 + z) ci_1) rfl ?_
    refine AW.goto (tg := 4) (am_r 32 rfl) rfl ?_
    have hr := (Option.some.inj hs).symm
    exact hc (y1 &&& (0 : Int32), y0 + (1 : Int32)) hr (and01 hk1 (Or.inl rfl))
  · replace hs := (if_neg hc11).symm.trans hs
    refine AW.iconst (am_r 26 rfl) rfl ci_1 ?_
    refine AW.goto (tg := 47) (am_r 27 rfl) rfl ?_
    refine AW.iand (am_r 29 rfl) rfl ?_
    refine AW.istore_n (L' := [some (.ref (b)), some (.int (y1 &&& (1 : Int32))), some (.int (y0))]) (z := 1) (am_r 30 rfl) rfl (Nat.le_of_ble_eq_true rfl) rfl ?_
    refine AW.iinc (v := y0 + (1 : Int32)) (L' := [some (.ref (b)), some (.int (y1 &&& (1 : Int32))), some (.int (y0 + (1 : Int32)))]) (am_r 31 rfl) rfl (Nat.le_of_ble_eq_true rfl) rfl (congrArg (fun z => y0 + z) ci_1) rfl ?_
    refine AW.goto (tg := 4) (am_r 32 rfl) rfl ?_
    have hr := (Option.some.inj hs).symm
    exact hc (y1 &&& (1 : Int32), y0 + (1 : Int32)) hr (and01 hk1 (Or.inr rfl))
noncomputable def sX10_isQuiet_l4_step (S : Mem)  (a : (Int32 × Int32)) : Option ((Int32 × Int32) ⊕ Int32) :=
  if (gi S 5 (4 : Int32).toNatClampNeg 0) ≤ a.2 then
    oinr (
    some (a.1))
  else
    obind (sX10_of S a.2 (1 : Int32)) fun r4 =>
    if r4 = 0 then
      sX10_isQuiet_j34 S  a.2 a.1
    else
      obind (sX10_of S a.2 (1 : Int32)) fun r12 =>
      if r12 = (4 : Int32) then
        sX10_isQuiet_j34 S  a.2 a.1
      else
        some (.inl (a.1 &&& (0 : Int32), a.2 + (1 : Int32)))
noncomputable def sX10_isQuiet_l4 (S : Mem)  (a : (Int32 × Int32)) : Option Int32 := itw (sX10_isQuiet_l4_step S ) a
set_option maxRecDepth 100000 in
theorem dX10_isQuiet_l4 {g : AG} {h0 : AH} {b : Nat} {S : Mem} {Q : AO → AH → Prop}  (hA : gB g ≤ b)  {a : (Int32 × Int32)} (hk0 : a.1 = 0 ∨ a.1 = 1) {r : Int32} (hs : sX10_isQuiet_l4 S  a = some r) (hQ : (r = 0 ∨ r = 1) → Q (.ok (some (.int r))) (mb h0 b S)) : AW g MX10_isQuiet 4 [some (.ref (b)), some (.int (a.1)), some (.int (a.2))] [] (mb h0 b S) Q := by
  refine itw_e (P := fun a => a.1 = 0 ∨ a.1 = 1 → AW g MX10_isQuiet 4 [some (.ref (b)), some (.int (a.1)), some (.int (a.2))] [] (mb h0 b S) Q) (Post := fun r => (r = 0 ∨ r = 1) → Q (.ok (some (.int r))) (mb h0 b S)) (fun a r hs hc he hk0 => ?_) hs hQ hk0
  unfold sX10_isQuiet_l4_step at hs
  refine AW.iload_n (z := 2) (am_r 4 rfl) rfl rfl ?_
  refine AW.aload_n (z := 0) (am_r 5 rfl) rfl rfl ?_
  refine AW.getO (am_r 6 rfl) rfl klX10 (k := 5) (by omega) q1508 mb_ob rfl ?_
  refine AW.iconst (am_r 7 rfl) rfl ci_4 ?_
  refine AW.iald (am_r 8 rfl) rfl mb_a4 (vp_of_inb rfl) rfl ?_
  refine AW.icmp_ge (tg := 55) (am_r 9 rfl) rfl rfl (fun hc1 => ?_) (fun hc1 => ?_)
  · replace hs := (if_pos hc1).symm.trans hs
    refine oinr_e hs (fun z2 hz3 hs => ?_)
    have hQ := he _ hz3
    refine AW.iload_n (z := 1) (am_r 33 rfl) rfl rfl ?_
    have hr := (Option.some.inj hs).symm
    subst hr
    exact AW.zret (am_r 34 rfl) rfl hk0 (hQ hk0)
  · replace hs := (if_neg hc1).symm.trans hs
    refine AW.iload_n (z := 1) (am_r 10 rfl) rfl rfl ?_
    refine AW.aload_n (z := 0) (am_r 11 rfl) rfl rfl ?_
    refine AW.iload_n (z := 2) (am_r 12 rfl) rfl rfl ?_
    refine AW.iconst (am_r 13 rfl) rfl ci_1 ?_
    refine obind_e hs (fun r4 hg6 hs => ?_)
    refine AW.callV (N := MX10_of) (As := [.int (a.2), .int ((1 : Int32))]) (S := [(.int (a.1))]) (L0 := [some (.ref (b)), some (.int (a.2)), some (.int ((1 : Int32)))]) (b := b) (am_r 14 rfl) rfl ovX10_of q1615 rfl rfl mb_ob rfl rfl rfl rfl (dX10_of hA  hg6 (cQ_r ?_))
    refine AW.if_eq (tg := 34) (am_r 15 rfl) rfl rfl (fun hc7 => ?_) (fun hc7 => ?_)
    · replace hs := (if_pos hc7).symm.trans hs
      refine AW.lessL (L' := [some (.ref (b)), none, some (.int (a.2))]) ⟨rfl, rfl, trivial⟩ ?_
      exact dX10_isQuiet_j34 hA  hk0 hs hc he
    · replace hs := (if_neg hc7).symm.trans hs
      refine AW.aload_n (z := 0) (am_r 16 rfl) rfl rfl ?_
      refine AW.iload_n (z := 2) (am_r 17 rfl) rfl rfl ?_
      refine AW.iconst (am_r 18 rfl) rfl ci_1 ?_
      refine obind_e hs (fun r12 hg14 hs => ?_)
      refine AW.callV (N := MX10_of) (As := [.int (a.2), .int ((1 : Int32))]) (S := [(.int (a.1))]) (L0 := [some (.ref (b)), some (.int (a.2)), some (.int ((1 : Int32)))]) (b := b) (am_r 19 rfl) rfl ovX10_of q1615 rfl rfl mb_ob rfl rfl rfl rfl (dX10_of hA  hg14 (cQ_r ?_))
      refine AW.iconst (am_r 20 rfl) rfl ci_4 ?_
      refine AW.icmp_ne (tg := 46) (am_r 21 rfl) rfl rfl (fun hc15 => ?_) (fun hc15 => ?_)
      · replace hs := (if_neg hc15).symm.trans hs
        refine AW.iconst (am_r 28 rfl) rfl ci_0 ?_
        refine AW.iand (am_r 29 rfl) rfl ?_
        refine AW.istore_n (L' := [some (.ref (b)), some (.int (a.1 &&& (0 : Int32))), some (.int (a.2))]) (z := 1) (am_r 30 rfl) rfl (Nat.le_of_ble_eq_true rfl) rfl ?_
        refine AW.iinc (v := a.2 + (1 : Int32)) (L' := [some (.ref (b)), some (.int (a.1 &&& (0 : Int32))), some (.int (a.2 + (1 : Int32)))]) (am_r 31 rfl) rfl (Nat.le_of_ble_eq_true rfl) rfl (congrArg (fun z => a.2 + z) ci_1) rfl ?_
        refine AW.goto (tg := 4) (am_r 32 rfl) rfl ?_
        have hr := (Option.some.inj hs).symm
        exact hc (a.1 &&& (0 : Int32), a.2 + (1 : Int32)) hr (and01 hk0 (Or.inl rfl))
      · replace hs := (if_pos hc15).symm.trans hs
        refine AW.lessL (L' := [some (.ref (b)), none, some (.int (a.2))]) ⟨rfl, rfl, trivial⟩ ?_
        exact dX10_isQuiet_j34 hA  hk0 hs hc he
noncomputable def sX10_isQuiet (S : Mem)  : Option Int32 :=
  sX10_isQuiet_l4 S  ((1 : Int32), (0 : Int32))
set_option maxRecDepth 100000 in
theorem dX10_isQuiet {g : AG} {h0 : AH} {b : Nat} {S : Mem} {Q : AO → AH → Prop}  (hA : gB g ≤ b)  {r : Int32} (hs : sX10_isQuiet S  = some r) (hQ : (r = 0 ∨ r = 1) → Q (.ok (some (.int r))) (mb h0 b S)) : AW g MX10_isQuiet 0 [some (.ref (b)), none, none] [] (mb h0 b S) Q := by
  unfold sX10_isQuiet at hs
  refine AW.iconst (am_r 0 rfl) rfl ci_1 ?_
  refine AW.istore_n (L' := [some (.ref (b)), some (.int ((1 : Int32))), none]) (z := 1) (am_r 1 rfl) rfl (Nat.le_of_ble_eq_true rfl) rfl ?_
  refine AW.iconst (am_r 2 rfl) rfl ci_0 ?_
  refine AW.istore_n (L' := [some (.ref (b)), some (.int ((1 : Int32))), some (.int ((0 : Int32)))]) (z := 2) (am_r 3 rfl) rfl (Nat.le_of_ble_eq_true rfl) rfl ?_
  exact dX10_isQuiet_l4 hA  (Or.inr rfl) hs hQ
noncomputable def sX10_foresee_j78 (S : Mem) (p1 : Int32) (p2 : Int32) (y0 : Int32) : Option (Int32 × Mem) :=
  if y0 = 0 then
    obind (sX10_copyBlock S (13 : Int32) (0 : Int32)) fun r12 =>
    some (((-1 : Int32), r12))
  else
    olet (gi S 0 (0 : Int32).toNatClampNeg 0) fun v15 =>
    obind (sX10_copyBlock S (13 : Int32) (0 : Int32)) fun r16 =>
    some ((v15, r16))
set_option maxRecDepth 100000 in
theorem dX10_foresee_j78 {g : AG} {h0 : AH} {b : Nat} {S : Mem} {Q : AO → AH → Prop} {p1 : Int32} {p2 : Int32} {y0 : Int32} (hA : gB g ≤ b)   {r : (Int32 × Mem)} (hs : sX10_foresee_j78 S p1 p2 y0 = some r) (hQ : Q (.ok (some (.int r.1))) (mb h0 b r.2)) : AW g MX10_foresee 78 [some (.ref (b)), none, none, none, some (.int (y0)), none] [] (mb h0 b S) Q := by
  unfold sX10_foresee_j78 at hs
  refine AW.iload (am_r 40 rfl) rfl rfl ?_
  refine AW.if_eq (tg := 92) (am_r 41 rfl) rfl rfl (fun hc11 => ?_) (fun hc11 => ?_)
  · replace hs := (if_pos hc11).symm.trans hs
    refine AW.iconst (am_r 47 rfl) rfl ci_m1 ?_
    refine AW.istore (L' := [some (.ref (b)), none, none, none, some (.int (y0)), some (.int ((-1 : Int32)))]) (am_r 48 rfl) rfl (Nat.le_of_ble_eq_true rfl) rfl ?_
    refine AW.aload_n (z := 0) (am_r 49 rfl) rfl rfl ?_
    refine AW.bipush (am_r 50 rfl) rfl cb_13 ?_
    refine AW.iconst (am_r 51 rfl) rfl ci_0 ?_
    refine obind_e hs (fun r12 hg14 hs => ?_)
    refine AW.callV (N := MX10_copyBlock) (As := [.int ((13 : Int32)), .int ((0 : Int32))]) (S := []) (L0 := [some (.ref (b)), some (.int ((13 : Int32))), some (.int ((0 : Int32))), none]) (b := b) (am_r 52 rfl) rfl ovX10_copyBlock q1584 rfl rfl mb_ob rfl rfl rfl rfl (dX10_copyBlock hA  hg14 (cQ_v ?_))
    refine AW.iload (am_r 53 rfl) rfl rfl ?_
    have hr := (Option.some.inj hs).symm
    subst hr
    exact AW.iret (am_r 54 rfl) rfl hQ
  · replace hs := (if_neg hc11).symm.trans hs
    refine AW.aload_n (z := 0) (am_r 42 rfl) rfl rfl ?_
    refine AW.getO (am_r 43 rfl) rfl klX10 (k := 0) (by omega) q1503 mb_ob rfl ?_
    refine AW.iconst (am_r 44 rfl) rfl ci_0 ?_
    refine AW.iald (am_r 45 rfl) rfl mb_a1 (vp_of_inb rfl) rfl ?_
    refine AW.goto (tg := 93) (am_r 46 rfl) rfl ?_
    refine olet_e (P := fun y => AW g MX10_foresee 93 [some (.ref (b)), none, none, none, some (.int (y0)), none] [(.int (y))] (mb h0 b S) Q) hs (fun v15 hs => ?_)
    refine AW.istore (L' := [some (.ref (b)), none, none, none, some (.int (y0)), some (.int (v15))]) (am_r 48 rfl) rfl (Nat.le_of_ble_eq_true rfl) rfl ?_
    refine AW.aload_n (z := 0) (am_r 49 rfl) rfl rfl ?_
    refine AW.bipush (am_r 50 rfl) rfl cb_13 ?_
    refine AW.iconst (am_r 51 rfl) rfl ci_0 ?_
    refine obind_e hs (fun r16 hg18 hs => ?_)
    refine AW.callV (N := MX10_copyBlock) (As := [.int ((13 : Int32)), .int ((0 : Int32))]) (S := []) (L0 := [some (.ref (b)), some (.int ((13 : Int32))), some (.int ((0 : Int32))), none]) (b := b) (am_r 52 rfl) rfl ovX10_copyBlock q1584 rfl rfl mb_ob rfl rfl rfl rfl (dX10_copyBlock hA  hg18 (cQ_v ?_))
    refine AW.iload (am_r 53 rfl) rfl rfl ?_
    have hr := (Option.some.inj hs).symm
    subst hr
    exact AW.iret (am_r 54 rfl) rfl hQ
noncomputable def sX10_foresee_l28_step  (p1 : Int32) (p2 : Int32) (a : (Int32 × Int32 × Mem)) : Option ((Int32 × Int32 × Mem) ⊕ (Int32 × Mem)) :=
  if a.2.1 = 0 then
    if a.1 ≤ 0 then
      oinr (
      sX10_foresee_j78 a.2.2 p1 p2 a.2.1)
    else
      if (20000 : Int32) ≤ (gi a.2.2 0 (0 : Int32).toNatClampNeg 0) then
        oinr (
        sX10_foresee_j78 a.2.2 p1 p2 a.2.1)
      else
        obind (sX10_hour a.2.2 ) fun r25 =>
        if p1 = (-1 : Int32) then
          obind (sX10_isQuiet r25 ) fun r32 =>
          some (.inl (a.1 + (-1 : Int32), r32, r25))
        else
          obind (sX10_isReady r25 p1) fun r29 =>
          some (.inl (a.1 + (-1 : Int32), r29, r25))
  else
    oinr (
    sX10_foresee_j78 a.2.2 p1 p2 a.2.1)
noncomputable def sX10_foresee_l28  (p1 : Int32) (p2 : Int32) (a : (Int32 × Int32 × Mem)) : Option (Int32 × Mem) := itw (sX10_foresee_l28_step  p1 p2) a
set_option maxRecDepth 100000 in
theorem dX10_foresee_l28 {g : AG} {h0 : AH} {b : Nat} {Q : AO → AH → Prop} {p1 : Int32} {p2 : Int32} (hA : gB g ≤ b)  {a : (Int32 × Int32 × Mem)}  {r : (Int32 × Mem)} (hs : sX10_foresee_l28  p1 p2 a = some r) (hQ : Q (.ok (some (.int r.1))) (mb h0 b r.2)) : AW g MX10_foresee 28 [some (.ref (b)), some (.int (p1)), none, some (.int (a.1)), some (.int (a.2.1)), none] [] (mb h0 b a.2.2) Q := by
  refine itw_e (P := fun a => AW g MX10_foresee 28 [some (.ref (b)), some (.int (p1)), none, some (.int (a.1)), some (.int (a.2.1)), none] [] (mb h0 b a.2.2) Q) (Post := fun r => Q (.ok (some (.int r.1))) (mb h0 b r.2)) (fun a r hs hc he  => ?_) hs hQ 
  unfold sX10_foresee_l28_step at hs
  refine AW.iload (am_r 16 rfl) rfl rfl ?_
  refine AW.if_ne (tg := 78) (am_r 17 rfl) rfl rfl (fun hc8 => ?_) (fun hc8 => ?_)
  · replace hs := (if_neg hc8).symm.trans hs
    refine oinr_e hs (fun z9 hz10 hs => ?_)
    have hQ := he _ hz10
    refine AW.lessL (L' := [some (.ref (b)), none, none, none, some (.int (a.2.1)), none]) ⟨rfl, rfl, trivial⟩ ?_
    exact dX10_foresee_j78 hA   hs hQ
  · replace hs := (if_pos hc8).symm.trans hs
    refine AW.iload_n (z := 3) (am_r 18 rfl) rfl rfl ?_
    refine AW.if_le (tg := 78) (am_r 19 rfl) rfl rfl (fun hc19 => ?_) (fun hc19 => ?_)
    · replace hs := (if_pos hc19).symm.trans hs
      refine oinr_e hs (fun z20 hz21 hs => ?_)
      have hQ := he _ hz21
      refine AW.lessL (L' := [some (.ref (b)), none, none, none, some (.int (a.2.1)), none]) ⟨rfl, rfl, trivial⟩ ?_
      exact dX10_foresee_j78 hA   hs hQ
    · replace hs := (if_neg hc19).symm.trans hs
      refine AW.aload_n (z := 0) (am_r 20 rfl) rfl rfl ?_
      refine AW.getO (am_r 21 rfl) rfl klX10 (k := 0) (by omega) q1503 mb_ob rfl ?_
      refine AW.iconst (am_r 22 rfl) rfl ci_0 ?_
      refine AW.iald (am_r 23 rfl) rfl mb_a1 (vp_of_inb rfl) rfl ?_
      refine AW.sipush (am_r 24 rfl) rfl cs_20000 ?_
      refine AW.icmp_ge (tg := 78) (am_r 25 rfl) rfl rfl (fun hc22 => ?_) (fun hc22 => ?_)
      · replace hs := (if_pos hc22).symm.trans hs
        refine oinr_e hs (fun z23 hz24 hs => ?_)
        have hQ := he _ hz24
        refine AW.lessL (L' := [some (.ref (b)), none, none, none, some (.int (a.2.1)), none]) ⟨rfl, rfl, trivial⟩ ?_
        exact dX10_foresee_j78 hA   hs hQ
      · replace hs := (if_neg hc22).symm.trans hs
        refine AW.aload_n (z := 0) (am_r 26 rfl) rfl rfl ?_
        refine obind_e hs (fun r25 hg27 hs => ?_)
        refine AW.callV (N := MX10_hour) (As := []) (S := []) (L0 := [some (.ref (b)), none]) (b := b) (am_r 27 rfl) rfl ovX10_hour q1710 rfl rfl mb_ob rfl rfl rfl rfl (dX10_hour hA  hg27 (cQ_v ?_))
        refine AW.iinc (v := a.1 + (-1 : Int32)) (L' := [some (.ref (b)), some (.int (p1)), none, some (.int (a.1 + (-1 : Int32))), some (.int (a.2.1)), none]) (am_r 28 rfl) rfl (Nat.le_of_ble_eq_true rfl) rfl (congrArg (fun z => a.1 + z) ci_m1) rfl ?_
        refine AW.iload_n (z := 1) (am_r 29 rfl) rfl rfl ?_
        refine AW.iconst (am_r 30 rfl) rfl ci_m1 ?_
        refine AW.icmp_ne (tg := 68) (am_r 31 rfl) rfl rfl (fun hc28 => ?_) (fun hc28 => ?_)
        · replace hs := (if_neg hc28).symm.trans hs
          refine AW.aload_n (z := 0) (am_r 35 rfl) rfl rfl ?_
          refine AW.iload_n (z := 1) (am_r 36 rfl) rfl rfl ?_
          refine obind_e hs (fun r29 hg31 hs => ?_)
          refine AW.callV (N := MX10_isReady) (As := [.int (p1)]) (S := []) (L0 := [some (.ref (b)), some (.int (p1))]) (b := b) (am_r 37 rfl) rfl ovX10_isReady q1972 rfl rfl mb_ob rfl rfl rfl rfl (dX10_isReady hA  hg31 (fun hok30 => (cQ_r ?_)))
          refine AW.istore (L' := [some (.ref (b)), some (.int (p1)), none, some (.int (a.1 + (-1 : Int32))), some (.int (r29)), none]) (am_r 38 rfl) rfl (Nat.le_of_ble_eq_true rfl) rfl ?_
          refine AW.goto (tg := 28) (am_r 39 rfl) rfl ?_
          have hr := (Option.some.inj hs).symm
          exact hc (a.1 + (-1 : Int32), r29, r25) hr 
        · replace hs := (if_pos hc28).symm.trans hs
          refine AW.aload_n (z := 0) (am_r 32 rfl) rfl rfl ?_
          refine obind_e hs (fun r32 hg34 hs => ?_)
          refine AW.callV (N := MX10_isQuiet) (As := []) (S := []) (L0 := [some (.ref (b)), none, none]) (b := b) (am_r 33 rfl) rfl ovX10_isQuiet q1968 rfl rfl mb_ob rfl rfl rfl rfl (dX10_isQuiet hA  hg34 (fun hok33 => (cQ_r ?_)))
          refine AW.goto (tg := 73) (am_r 34 rfl) rfl ?_
          refine AW.istore (L' := [some (.ref (b)), some (.int (p1)), none, some (.int (a.1 + (-1 : Int32))), some (.int (r32)), none]) (am_r 38 rfl) rfl (Nat.le_of_ble_eq_true rfl) rfl ?_
          refine AW.goto (tg := 28) (am_r 39 rfl) rfl ?_
          have hr := (Option.some.inj hs).symm
          exact hc (a.1 + (-1 : Int32), r32, r25) hr 
noncomputable def sX10_foresee (S : Mem) (p1 : Int32) (p2 : Int32) : Option (Int32 × Mem) :=
  obind (sX10_copyBlock S (0 : Int32) (13 : Int32)) fun r1 =>
  if p1 = (-1 : Int32) then
    obind (sX10_isQuiet r1 ) fun r35 =>
    sX10_foresee_l28  p1 p2 (p2, r35, r1)
  else
    obind (sX10_isReady r1 p1) fun r5 =>
    sX10_foresee_l28  p1 p2 (p2, r5, r1)
set_option maxRecDepth 100000 in
theorem dX10_foresee {g : AG} {h0 : AH} {b : Nat} {S : Mem} {Q : AO → AH → Prop} {p1 : Int32} {p2 : Int32} (hA : gB g ≤ b)  {r : (Int32 × Mem)} (hs : sX10_foresee S p1 p2 = some r) (hQ : Q (.ok (some (.int r.1))) (mb h0 b r.2)) : AW g MX10_foresee 0 [some (.ref (b)), some (.int (p1)), some (.int (p2)), none, none, none] [] (mb h0 b S) Q := by
  unfold sX10_foresee at hs
  refine AW.aload_n (z := 0) (am_r 0 rfl) rfl rfl ?_
  refine AW.iconst (am_r 1 rfl) rfl ci_0 ?_
  refine AW.bipush (am_r 2 rfl) rfl cb_13 ?_
  refine obind_e hs (fun r1 hg3 hs => ?_)
  refine AW.callV (N := MX10_copyBlock) (As := [.int ((0 : Int32)), .int ((13 : Int32))]) (S := []) (L0 := [some (.ref (b)), some (.int ((0 : Int32))), some (.int ((13 : Int32))), none]) (b := b) (am_r 3 rfl) rfl ovX10_copyBlock q1584 rfl rfl mb_ob rfl rfl rfl rfl (dX10_copyBlock hA  hg3 (cQ_v ?_))
  refine AW.iload_n (z := 2) (am_r 4 rfl) rfl rfl ?_
  refine AW.istore_n (L' := [some (.ref (b)), some (.int (p1)), some (.int (p2)), some (.int (p2)), none, none]) (z := 3) (am_r 5 rfl) rfl (Nat.le_of_ble_eq_true rfl) rfl ?_
  refine AW.iload_n (z := 1) (am_r 6 rfl) rfl rfl ?_
  refine AW.iconst (am_r 7 rfl) rfl ci_m1 ?_
  refine AW.icmp_ne (tg := 21) (am_r 8 rfl) rfl rfl (fun hc4 => ?_) (fun hc4 => ?_)
  · replace hs := (if_neg hc4).symm.trans hs
    refine AW.aload_n (z := 0) (am_r 12 rfl) rfl rfl ?_
    refine AW.iload_n (z := 1) (am_r 13 rfl) rfl rfl ?_
    refine obind_e hs (fun r5 hg7 hs => ?_)
    refine AW.callV (N := MX10_isReady) (As := [.int (p1)]) (S := []) (L0 := [some (.ref (b)), some (.int (p1))]) (b := b) (am_r 14 rfl) rfl ovX10_isReady q1972 rfl rfl mb_ob rfl rfl rfl rfl (dX10_isReady hA  hg7 (fun hok6 => (cQ_r ?_)))
    refine AW.istore (L' := [some (.ref (b)), some (.int (p1)), some (.int (p2)), some (.int (p2)), some (.int (r5)), none]) (am_r 15 rfl) rfl (Nat.le_of_ble_eq_true rfl) rfl ?_
    refine AW.lessL (L' := [some (.ref (b)), some (.int (p1)), none, some (.int (p2)), some (.int (r5)), none]) ⟨rfl, rfl, rfl, rfl, trivial⟩ ?_
    exact dX10_foresee_l28 hA   hs hQ
  · replace hs := (if_pos hc4).symm.trans hs
    refine AW.aload_n (z := 0) (am_r 9 rfl) rfl rfl ?_
    refine obind_e hs (fun r35 hg37 hs => ?_)
    refine AW.callV (N := MX10_isQuiet) (As := []) (S := []) (L0 := [some (.ref (b)), none, none]) (b := b) (am_r 10 rfl) rfl ovX10_isQuiet q1968 rfl rfl mb_ob rfl rfl rfl rfl (dX10_isQuiet hA  hg37 (fun hok36 => (cQ_r ?_)))
    refine AW.goto (tg := 26) (am_r 11 rfl) rfl ?_
    refine AW.istore (L' := [some (.ref (b)), some (.int (p1)), some (.int (p2)), some (.int (p2)), some (.int (r35)), none]) (am_r 15 rfl) rfl (Nat.le_of_ble_eq_true rfl) rfl ?_
    refine AW.lessL (L' := [some (.ref (b)), some (.int (p1)), none, some (.int (p2)), some (.int (r35)), none]) ⟨rfl, rfl, rfl, rfl, trivial⟩ ?_
    exact dX10_foresee_l28 hA   hs hQ
noncomputable def sX10_readyAt_j44 (S : Mem) (p1 : Int32) (p2 : Int32) (y0 : Int32) : Option (Int32 × Mem) :=
  olet (sX10_throwsIf S y0 (2 : Int32)) fun r11 =>
  if r11.1 = 0 then
    obind (sX10_foresee r11.2 p1 p2) fun r14 =>
    some ((r14.1, r14.2))
  else
    some (((0 : Int32), r11.2))
set_option maxRecDepth 100000 in
theorem dX10_readyAt_j44 {g : AG} {h0 : AH} {b : Nat} {S : Mem} {Q : AO → AH → Prop} {p1 : Int32} {p2 : Int32} {y0 : Int32} (hA : gB g ≤ b)  (hk0 : y0 = 0 ∨ y0 = 1) {r : (Int32 × Mem)} (hs : sX10_readyAt_j44 S p1 p2 y0 = some r) (hQ : Q (.ok (some (.int r.1))) (mb h0 b r.2)) : AW g MX10_readyAt 44 [some (.ref (b)), some (.int (p1)), some (.int (p2))] [(.int (y0)), (.ref (b))] (mb h0 b S) Q := by
  unfold sX10_readyAt_j44 at hs
  refine AW.iconst (am_r 24 rfl) rfl ci_2 ?_
  refine AW.callV (N := MX10_throwsIf) (As := [.int (y0), .int ((2 : Int32))]) (S := []) (L0 := [some (.ref (b)), some (.int (y0)), some (.int ((2 : Int32)))]) (b := b) (am_r 25 rfl) rfl ovX10_throwsIf q1607 rfl rfl mb_ob rfl rfl rfl rfl (dX10_throwsIf hA hk0 rfl (fun hok12 => (cQ_r ?_)))
  refine olet_e (P := fun (y : (Int32 × Mem)) => (y.1 = 0 ∨ y.1 = 1) → AW g MX10_readyAt 48 [some (.ref (b)), some (.int (p1)), some (.int (p2))] [(.int (y.1))] (mb h0 b y.2) Q) hs (fun r11 hs hok12 => ?_) hok12
  refine AW.if_eq (tg := 55) (am_r 26 rfl) rfl rfl (fun hc13 => ?_) (fun hc13 => ?_)
  · replace hs := (if_pos hc13).symm.trans hs
    refine AW.aload_n (z := 0) (am_r 29 rfl) rfl rfl ?_
    refine AW.iload_n (z := 1) (am_r 30 rfl) rfl rfl ?_
    refine AW.iload_n (z := 2) (am_r 31 rfl) rfl rfl ?_
    refine obind_e hs (fun r14 hg16 hs => ?_)
    refine AW.callV (N := MX10_foresee) (As := [.int (p1), .int (p2)]) (S := []) (L0 := [some (.ref (b)), some (.int (p1)), some (.int (p2)), none, none, none]) (b := b) (am_r 32 rfl) rfl ovX10_foresee q1964 rfl rfl mb_ob rfl rfl rfl rfl (dX10_foresee hA  hg16 (cQ_r ?_))
    have hr := (Option.some.inj hs).symm
    subst hr
    exact AW.iret (am_r 33 rfl) rfl hQ
  · replace hs := (if_neg hc13).symm.trans hs
    refine AW.iconst (am_r 27 rfl) rfl ci_0 ?_
    refine AW.goto (tg := 61) (am_r 28 rfl) rfl ?_
    have hr := (Option.some.inj hs).symm
    subst hr
    exact AW.iret (am_r 33 rfl) rfl hQ
noncomputable def sX10_readyAt_j19 (S : Mem) (p1 : Int32) (p2 : Int32) (y0 : Int32) : Option (Int32 × Mem) :=
  olet (sX10_throwsIf S y0 (1 : Int32)) fun r5 =>
  if r5.1 = 0 then
    if (sX10_inRange r5.2 p2.toInt64 (1 : Int64) (500 : Int64)) = 0 then
      sX10_readyAt_j44 r5.2 p1 p2 (1 : Int32)
    else
      sX10_readyAt_j44 r5.2 p1 p2 (0 : Int32)
  else
    some (((0 : Int32), r5.2))
set_option maxRecDepth 100000 in
theorem dX10_readyAt_j19 {g : AG} {h0 : AH} {b : Nat} {S : Mem} {Q : AO → AH → Prop} {p1 : Int32} {p2 : Int32} {y0 : Int32} (hA : gB g ≤ b)  (hk0 : y0 = 0 ∨ y0 = 1) {r : (Int32 × Mem)} (hs : sX10_readyAt_j19 S p1 p2 y0 = some r) (hQ : Q (.ok (some (.int r.1))) (mb h0 b r.2)) : AW g MX10_readyAt 19 [some (.ref (b)), some (.int (p1)), some (.int (p2))] [(.int (y0)), (.ref (b))] (mb h0 b S) Q := by
  unfold sX10_readyAt_j19 at hs
  refine AW.iconst (am_r 11 rfl) rfl ci_1 ?_
  refine AW.callV (N := MX10_throwsIf) (As := [.int (y0), .int ((1 : Int32))]) (S := []) (L0 := [some (.ref (b)), some (.int (y0)), some (.int ((1 : Int32)))]) (b := b) (am_r 12 rfl) rfl ovX10_throwsIf q1607 rfl rfl mb_ob rfl rfl rfl rfl (dX10_throwsIf hA hk0 rfl (fun hok6 => (cQ_r ?_)))
  refine olet_e (P := fun (y : (Int32 × Mem)) => (y.1 = 0 ∨ y.1 = 1) → AW g MX10_readyAt 23 [some (.ref (b)), some (.int (p1)), some (.int (p2))] [(.int (y.1))] (mb h0 b y.2) Q) hs (fun r5 hs hok6 => ?_) hok6
  refine AW.if_ne (tg := 51) (am_r 13 rfl) rfl rfl (fun hc7 => ?_) (fun hc7 => ?_)
  · replace hs := (if_neg hc7).symm.trans hs
    refine AW.iconst (am_r 27 rfl) rfl ci_0 ?_
    refine AW.goto (tg := 61) (am_r 28 rfl) rfl ?_
    have hr := (Option.some.inj hs).symm
    subst hr
    exact AW.iret (am_r 33 rfl) rfl hQ
  · replace hs := (if_pos hc7).symm.trans hs
    refine AW.aload_n (z := 0) (am_r 14 rfl) rfl rfl ?_
    refine AW.iload_n (z := 2) (am_r 15 rfl) rfl rfl ?_
    refine AW.i2l (am_r 16 rfl) rfl ?_
    refine AW.lconst (z := 1) (am_r 17 rfl) rfl cl_1 ?_
    refine AW.ldc2 (v := (500)) (am_r 18 rfl) rfl q1685 ?_
    refine AW.callS (N := MX10_inRange) (As := [.long (p2.toInt64), .long ((1 : Int64)), .long ((500 : Int64))]) (S := [(.ref (b))]) (L0 := [some (.long (p2.toInt64)), none, some (.long ((1 : Int64))), none, some (.long ((500 : Int64))), none]) (am_r 19 rfl) rfl osX10_inRange q1592 rfl rfl rfl rfl rfl (dX10_inRange hA  rfl (fun hok9 => (cQ_r ?_)))
    refine AW.if_ne (tg := 43) (am_r 20 rfl) rfl rfl (fun hc10 => ?_) (fun hc10 => ?_)
    · replace hs := (if_neg hc10).symm.trans hs
      refine AW.iconst (am_r 23 rfl) rfl ci_0 ?_
      exact dX10_readyAt_j44 hA  (Or.inl rfl) hs hQ
    · replace hs := (if_pos hc10).symm.trans hs
      refine AW.iconst (am_r 21 rfl) rfl ci_1 ?_
      refine AW.goto (tg := 44) (am_r 22 rfl) rfl ?_
      exact dX10_readyAt_j44 hA  (Or.inr rfl) hs hQ
noncomputable def sX10_readyAt (S : Mem) (p1 : Int32) (p2 : Int32) : Option (Int32 × Mem) :=
  olet (si S 100 6 0 ((0 : Int32))) fun S1 =>
  if (sX10_isObject S1 p1) = 0 then
    sX10_readyAt_j19 S1 p1 p2 (1 : Int32)
  else
    sX10_readyAt_j19 S1 p1 p2 (0 : Int32)
set_option maxRecDepth 100000 in
theorem dX10_readyAt {g : AG} {h0 : AH} {b : Nat} {S : Mem} {Q : AO → AH → Prop} {p1 : Int32} {p2 : Int32} (hA : gB g ≤ b)  {r : (Int32 × Mem)} (hs : sX10_readyAt S p1 p2 = some r) (hQ : Q (.ok (some (.int r.1))) (mb h0 b r.2)) : AW g MX10_readyAt 0 [some (.ref (b)), some (.int (p1)), some (.int (p2))] [] (mb h0 b S) Q := by
  unfold sX10_readyAt at hs
  refine AW.aload_n (z := 0) (am_r 0 rfl) rfl rfl ?_
  refine AW.iconst (am_r 1 rfl) rfl ci_0 ?_
  refine AW.putO (am_r 2 rfl) rfl klX10 (k := 6) (by omega) q1509 (Or.inl rfl) mb_ob hA rfl rfl (mbp_ob (by decide)) ?_
  refine olet_e (P := fun y => AW g MX10_readyAt 5 [some (.ref (b)), some (.int (p1)), some (.int (p2))] [] (mb h0 b y) Q) hs (fun S1 hs => ?_)
  refine AW.aload_n (z := 0) (am_r 3 rfl) rfl rfl ?_
  refine AW.aload_n (z := 0) (am_r 4 rfl) rfl rfl ?_
  refine AW.iload_n (z := 1) (am_r 5 rfl) rfl rfl ?_
  refine AW.callV (N := MX10_isObject) (As := [.int (p1)]) (S := [(.ref (b))]) (L0 := [some (.ref (b)), some (.int (p1))]) (b := b) (am_r 6 rfl) rfl ovX10_isObject q1603 rfl rfl mb_ob rfl rfl rfl rfl (dX10_isObject hA  rfl (fun hok3 => (cQ_r ?_)))
  refine AW.if_ne (tg := 18) (am_r 7 rfl) rfl rfl (fun hc4 => ?_) (fun hc4 => ?_)
  · replace hs := (if_neg hc4).symm.trans hs
    refine AW.iconst (am_r 10 rfl) rfl ci_0 ?_
    exact dX10_readyAt_j19 hA  (Or.inl rfl) hs hQ
  · replace hs := (if_pos hc4).symm.trans hs
    refine AW.iconst (am_r 8 rfl) rfl ci_1 ?_
    refine AW.goto (tg := 19) (am_r 9 rfl) rfl ?_
    exact dX10_readyAt_j19 hA  (Or.inr rfl) hs hQ
