/-! ===== rank, meanScore (laid by a program) ===== -/
noncomputable def sX9_rank (S : XT) (B : Nat) (p1 : Int32) : Option (Except Nat Int32) :=
  oexc (sX9_itemOf S B p1) (fun e => e) fun w5 =>
  obind (sX7_itemsBelow S.2.2.2.2.2.1 (gi S.2.2.2.2.2.1 3 3 w5)) fun r6 =>
  some (.ok (sJ6_bitCount r6))
set_option maxRecDepth 100000 in
theorem dX9_rank {g : AG} {h0 : AH} {S : XT} {Q : AO → AH → Prop} {B : Nat} {p1 : Int32} (hB : gB g ≤ B) (hst : Sta g h0)  {r : (Except Nat Int32)} (hs : sX9_rank S B p1 = some r) (hQ : (∀ v : Int32, r = .ok v → Q (.ok (some (.int v))) (xh (bw h0 B S.1 S.2.2.1 S.2.2.2.2.2.2) B S.2.1 S.2.2.1 S.2.2.2.1 S.2.2.2.2.1 S.2.2.2.2.2.1)) ∧ (∀ e : Nat, r = .error e → ∀ z, S.1.1 ≤ z → z ≤ S.1.1 + 1 → Q (.error e) (xh (bw h0 B (z, S.1.2.1 - 1, S.1.2.2 - 6) S.2.2.1 S.2.2.2.2.2.2) B S.2.1 S.2.2.1 S.2.2.2.1 S.2.2.2.2.1 S.2.2.2.2.2.1))) : AW g MX9_rank 0 [some (.ref (B)), some (.int (p1))] [] (xh (bw h0 B S.1 S.2.2.1 S.2.2.2.2.2.2) B S.2.1 S.2.2.1 S.2.2.2.1 S.2.2.2.2.1 S.2.2.2.2.2.1) Q := by
  unfold sX9_rank at hs
  refine AW.aload_n (z := 0) (am_r 0 rfl) rfl rfl ?_
  refine AW.getO (am_r 1 rfl) rfl klX9 (k := 0) (by omega) q392 xh_0 rfl ?_
  refine AW.aload_n (z := 0) (am_r 2 rfl) rfl rfl ?_
  refine AW.iload_n (z := 1) (am_r 3 rfl) rfl rfl ?_
  refine oexc_e hs (fun r1 hg3 hs => ?_)
  refine AW.callV (N := MX9_itemOf) (As := [.int (p1)]) (S := [(.ref ((B + 1)))]) (L0 := [some (.ref (B)), some (.int (p1))]) (b := B) (am_r 4 rfl) rfl ovX9_itemOf q948 rfl rfl xh_0 rfl rfl rfl rfl (dX9_itemOf hB hst  hg3 ⟨fun w5 hv4 => ?_, fun e hv4 z h1 h2 => ?_⟩)
  · subst hv4
    refine fun hok2 => (cQ_r ?_)
    refine AW.getO (am_r 5 rfl) rfl klX2 (k := 3) (by omega) q128 (xl_get (fun _ => (sb_it hok2))) rfl ?_
    refine obind_e hs (fun r6 hg8 hs => ?_)
    refine AW.callV (N := MX7_itemsBelow) (As := [.int (gi S.2.2.2.2.2.1 3 3 w5)]) (S := []) (L0 := [some (.ref ((B + 1))), some (.int (gi S.2.2.2.2.2.1 3 3 w5)), none, none]) (b := (B + 1)) (am_r 6 rfl) rfl ovX7_itemsBelow q731 rfl rfl (xl_get (fun _ => sb_st)) rfl rfl rfl rfl (AW.heq xh_l (dX7_itemsBelow (Nat.le_trans hB (by omega))  hg8 (cQ_r (AW.heq xh_l.symm ?_))))
    refine AW.callS (N := MJ6_bitCount) (As := [.int r6]) (S := []) (L0 := [some (.int r6)]) (am_r 7 rfl) rfl osJ6_bitCount q1457 rfl rfl rfl rfl rfl (dJ6_bitCount (cQ_r ?_))
    have hr := (Option.some.inj hs).symm
    exact AW.iret (am_r 8 rfl) rfl (hQ.1 _ hr)
  · subst hv4
    have hr := (Option.some.inj hs).symm
    exact cQ_x (AX.out rfl (hQ.2 _ hr z h1 h2))
noncomputable def sX9_meanScore_l8_step (S : XT) (B : Nat) (a : (Int32 × Int32)) : Option ((Int32 × Int32) ⊕ (Except Nat UInt64)) :=
  if (gi S.2.2.2.2.2.1 0 9 0) ≤ a.2 then
    oinr (
    olet (gi S.2.2.2.2.2.1 0 9 0) fun v9 =>
    if v9 = 0 then
      some (.ok (FP.dconst0))
    else
      oifp (vf_n64 (FP.ddiv (FP.i2d a.1) (FP.i2d v9))) (
      some (.ok (FP.ddiv (FP.i2d a.1) (FP.i2d v9)))))
  else
    olet (a.1 + (gi S.2.2.2.2.2.1 3 3 (sX7_itemAt S.2.2.2.2.2.1 a.2))) fun v14 =>
    olet (a.2 + (1 : Int32)) fun v15 =>
    some (.inl (v14, v15))
noncomputable def sX9_meanScore_l8 (S : XT) (B : Nat) (a : (Int32 × Int32)) : Option (Except Nat UInt64) := itw (sX9_meanScore_l8_step S B) a
set_option maxRecDepth 100000 in
theorem dX9_meanScore_l8 {g : AG} {h0 : AH} {S : XT} {Q : AO → AH → Prop} {B : Nat} (hB : gB g ≤ B) (hst : Sta g h0)  {a : (Int32 × Int32)}  {r : (Except Nat UInt64)} (hs : sX9_meanScore_l8 S B a = some r) (hQ : (∀ v : UInt64, r = .ok v → Q (.ok (some (.double v))) (xh (bw h0 B S.1 S.2.2.1 S.2.2.2.2.2.2) B S.2.1 S.2.2.1 S.2.2.2.1 S.2.2.2.2.1 S.2.2.2.2.2.1)) ∧ (∀ e : Nat, r = .error e → ∀ z, S.1.1 ≤ z → z ≤ S.1.1 + 1 → Q (.error e) (xh (bw h0 B (z, S.1.2.1 - 1, S.1.2.2 - 6) S.2.2.1 S.2.2.2.2.2.2) B S.2.1 S.2.2.1 S.2.2.2.1 S.2.2.2.2.1 S.2.2.2.2.2.1))) : AW g MX9_meanScore 8 [some (.ref (B)), some (.int (a.1)), some (.int (a.2))] [] (xh (bw h0 B S.1 S.2.2.1 S.2.2.2.2.2.2) B S.2.1 S.2.2.1 S.2.2.2.1 S.2.2.2.2.1 S.2.2.2.2.2.1) Q := by
  refine itw_e (a := a) (b := r) (P := fun (a : (Int32 × Int32)) => AW g MX9_meanScore 8 [some (.ref (B)), some (.int (a.1)), some (.int (a.2))] [] (xh (bw h0 B S.1 S.2.2.1 S.2.2.2.2.2.2) B S.2.1 S.2.2.1 S.2.2.2.1 S.2.2.2.2.1 S.2.2.2.2.2.1) Q) (Post := fun r => (∀ v : UInt64, r = .ok v → Q (.ok (some (.double v))) (xh (bw h0 B S.1 S.2.2.1 S.2.2.2.2.2.2) B S.2.1 S.2.2.1 S.2.2.2.1 S.2.2.2.2.1 S.2.2.2.2.2.1)) ∧ (∀ e : Nat, r = .error e → ∀ z, S.1.1 ≤ z → z ≤ S.1.1 + 1 → Q (.error e) (xh (bw h0 B (z, S.1.2.1 - 1, S.1.2.2 - 6) S.2.2.1 S.2.2.2.2.2.2) B S.2.1 S.2.2.1 S.2.2.2.1 S.2.2.2.2.1 S.2.2.2.2.2.1))) (fun a r hs hc he  => ?_) hs hQ 
  unfold sX9_meanScore_l8_step at hs
  refine AW.iload_n (z := 2) (am_r 6 rfl) rfl rfl ?_
  refine AW.aload_n (z := 0) (am_r 7 rfl) rfl rfl ?_
  refine AW.getO (am_r 8 rfl) rfl klX9 (k := 0) (by omega) q392 xh_0 rfl ?_
  refine AW.getO (am_r 9 rfl) rfl klX7 (k := 9) (by omega) q244 (xl_get (fun _ => sb_st)) rfl ?_
  refine AW.icmp_ge (tg := 39) (am_r 10 rfl) rfl rfl (fun hc6 => ?_) (fun hc6 => ?_)
  · replace hs := (if_pos hc6).symm.trans hs
    refine oinr_e hs (fun z7 hz8 hs => ?_)
    have hQ := he _ hz8
    refine AW.aload_n (z := 0) (am_r 21 rfl) rfl rfl ?_
    refine AW.getO (am_r 22 rfl) rfl klX9 (k := 0) (by omega) q392 xh_0 rfl ?_
    refine AW.getO (am_r 23 rfl) rfl klX7 (k := 9) (by omega) q244 (xl_get (fun _ => sb_st)) rfl ?_
    refine olet_e (P := fun y => AW g MX9_meanScore 46 [some (.ref (B)), some (.int (a.1)), some (.int (a.2))] [(.int (y))] (xh (bw h0 B S.1 S.2.2.1 S.2.2.2.2.2.2) B S.2.1 S.2.2.1 S.2.2.2.1 S.2.2.2.2.1 S.2.2.2.2.2.1) Q) hs (fun v9 hs => ?_)
    refine AW.istore_n (L' := [some (.ref (B)), some (.int (a.1)), some (.int (v9))]) (z := 2) (am_r 24 rfl) rfl (Nat.le_of_ble_eq_true rfl) rfl ?_
    refine AW.iload_n (z := 2) (am_r 25 rfl) rfl rfl ?_
    refine AW.if_ne (tg := 55) (am_r 26 rfl) rfl rfl (fun hc10 => ?_) (fun hc10 => ?_)
    · replace hs := (if_neg hc10).symm.trans hs
      refine AW.iload_n (z := 1) (am_r 29 rfl) rfl rfl ?_
      refine AW.i2d (am_r 30 rfl) rfl ?_
      refine AW.iload_n (z := 2) (am_r 31 rfl) rfl rfl ?_
      refine AW.i2d (am_r 32 rfl) rfl ?_
      refine oifp_g hs (fun hg11 hs => ?_)
      refine AW.ddiv (am_r 33 rfl) rfl hg11 ?_
      have hr := (Option.some.inj hs).symm
      exact AW.dret (am_r 34 rfl) rfl (hQ.1 _ hr)
    · replace hs := (if_pos hc10).symm.trans hs
      refine AW.dconst0 (am_r 27 rfl) rfl ?_
      refine AW.goto (tg := 60) (am_r 28 rfl) rfl ?_
      have hr := (Option.some.inj hs).symm
      exact AW.dret (am_r 34 rfl) rfl (hQ.1 _ hr)
  · replace hs := (if_neg hc6).symm.trans hs
    refine AW.iload_n (z := 1) (am_r 11 rfl) rfl rfl ?_
    refine AW.aload_n (z := 0) (am_r 12 rfl) rfl rfl ?_
    refine AW.getO (am_r 13 rfl) rfl klX9 (k := 0) (by omega) q392 xh_0 rfl ?_
    refine AW.iload_n (z := 2) (am_r 14 rfl) rfl rfl ?_
    refine AW.callV (N := MX7_itemAt) (As := [.int (a.2)]) (S := [(.int (a.1))]) (L0 := [some (.ref ((B + 1))), some (.int (a.2))]) (b := (B + 1)) (am_r 15 rfl) rfl ovX7_itemAt q721 rfl rfl (xl_get (fun _ => sb_st)) rfl rfl rfl rfl (AW.heq xh_l (dX7_itemAt (Nat.le_trans hB (by omega))  rfl (fun hok13 => (cQ_r (AW.heq xh_l.symm ?_)))))
    refine AW.getO (am_r 16 rfl) rfl klX2 (k := 3) (by omega) q128 (xl_get (fun _ => (sb_it hok13))) rfl ?_
    refine AW.iadd (am_r 17 rfl) rfl ?_
    refine olet_e (P := fun y => AW g MX9_meanScore 32 [some (.ref (B)), some (.int (a.1)), some (.int (a.2))] [(.int (y))] (xh (bw h0 B S.1 S.2.2.1 S.2.2.2.2.2.2) B S.2.1 S.2.2.1 S.2.2.2.1 S.2.2.2.2.1 S.2.2.2.2.2.1) Q) hs (fun v14 hs => ?_)
    refine AW.istore_n (L' := [some (.ref (B)), some (.int (v14)), some (.int (a.2))]) (z := 1) (am_r 18 rfl) rfl (Nat.le_of_ble_eq_true rfl) rfl ?_
    refine AW.iinc (v := a.2 + (1 : Int32)) (L' := [some (.ref (B)), some (.int (v14)), some (.int (a.2 + (1 : Int32)))]) (am_r 19 rfl) rfl (Nat.le_of_ble_eq_true rfl) rfl (congrArg (fun z => a.2 + z) ci_1) rfl ?_
    refine olet_e (P := fun (y : Int32) => AW g MX9_meanScore 36 [some (.ref (B)), some (.int (v14)), some (.int (y))] [] (xh (bw h0 B S.1 S.2.2.1 S.2.2.2.2.2.2) B S.2.1 S.2.2.1 S.2.2.2.1 S.2.2.2.2.1 S.2.2.2.2.2.1) Q) hs (fun v15 hs => ?_)
    refine AW.goto (tg := 8) (am_r 20 rfl) rfl ?_
    have hr := (Option.some.inj hs).symm
    exact hc (v14, v15) hr 
noncomputable def sX9_meanScore (S : XT) (B : Nat) : Option (Except Nat UInt64) :=
  oexc (sX9_requireItems S B) (fun e => e) fun w5 =>
  sX9_meanScore_l8 S B ((0 : Int32), (0 : Int32))
set_option maxRecDepth 100000 in
theorem dX9_meanScore {g : AG} {h0 : AH} {S : XT} {Q : AO → AH → Prop} {B : Nat} (hB : gB g ≤ B) (hst : Sta g h0)  {r : (Except Nat UInt64)} (hs : sX9_meanScore S B = some r) (hQ : (∀ v : UInt64, r = .ok v → Q (.ok (some (.double v))) (xh (bw h0 B S.1 S.2.2.1 S.2.2.2.2.2.2) B S.2.1 S.2.2.1 S.2.2.2.1 S.2.2.2.2.1 S.2.2.2.2.2.1)) ∧ (∀ e : Nat, r = .error e → ∀ z, S.1.1 ≤ z → z ≤ S.1.1 + 1 → Q (.error e) (xh (bw h0 B (z, S.1.2.1 - 1, S.1.2.2 - 6) S.2.2.1 S.2.2.2.2.2.2) B S.2.1 S.2.2.1 S.2.2.2.1 S.2.2.2.2.1 S.2.2.2.2.2.1))) : AW g MX9_meanScore 0 [some (.ref (B)), none, none] [] (xh (bw h0 B S.1 S.2.2.1 S.2.2.2.2.2.2) B S.2.1 S.2.2.1 S.2.2.2.1 S.2.2.2.2.1 S.2.2.2.2.2.1) Q := by
  unfold sX9_meanScore at hs
  refine AW.aload_n (z := 0) (am_r 0 rfl) rfl rfl ?_
  refine oexc_e hs (fun r1 hg3 hs => ?_)
  refine AW.callV (N := MX9_requireItems) (As := []) (S := []) (L0 := [some (.ref (B))]) (b := B) (am_r 1 rfl) rfl ovX9_requireItems q1477 rfl rfl xh_0 rfl rfl rfl rfl (dX9_requireItems hB hst  hg3 ⟨fun w5 hv4 => ?_, fun e hv4 z h1 h2 => ?_⟩)
  · subst hv4
    refine (cQ_v ?_)
    refine AW.iconst (am_r 2 rfl) rfl ci_0 ?_
    refine AW.istore_n (L' := [some (.ref (B)), some (.int ((0 : Int32))), none]) (z := 1) (am_r 3 rfl) rfl (Nat.le_of_ble_eq_true rfl) rfl ?_
    refine AW.iconst (am_r 4 rfl) rfl ci_0 ?_
    refine AW.istore_n (L' := [some (.ref (B)), some (.int ((0 : Int32))), some (.int ((0 : Int32)))]) (z := 2) (am_r 5 rfl) rfl (Nat.le_of_ble_eq_true rfl) rfl ?_
    exact dX9_meanScore_l8 (a := ((0 : Int32), (0 : Int32))) hB hst   hs hQ
  · subst hv4
    have hr := (Option.some.inj hs).symm
    exact cQ_x (AX.out rfl (hQ.2 _ hr z h1 h2))
noncomputable def sX10_meanScore_l33_step   (a : (Int32 × Int32 × Mem)) : Option ((Int32 × Int32 × Mem) ⊕ (UInt64 × Mem)) :=
  if (gi a.2.2 5 (4 : Int32).toNatClampNeg 0) ≤ a.2.1 then
    oinr (
    oifp (vf_n64 (FP.ddiv (FP.i2d a.1) (FP.i2d (gi a.2.2 5 (4 : Int32).toNatClampNeg 0)))) (
    some ((FP.ddiv (FP.i2d a.1) (FP.i2d (gi a.2.2 5 (4 : Int32).toNatClampNeg 0)), a.2.2))))
  else
    obind (sX10_of a.2.2 a.2.1 (0 : Int32)) fun r10 =>
    some (.inl (a.1 + r10, a.2.1 + (1 : Int32), a.2.2))
noncomputable def sX10_meanScore_l33   (a : (Int32 × Int32 × Mem)) : Option (UInt64 × Mem) := itw (sX10_meanScore_l33_step  ) a
set_option maxRecDepth 100000 in
theorem dX10_meanScore_l33 {g : AG} {h0 : AH} {b : Nat} {Q : AO → AH → Prop}  (hA : gB g ≤ b)  {a : (Int32 × Int32 × Mem)}  {r : (UInt64 × Mem)} (hs : sX10_meanScore_l33   a = some r) (hQ : Q (.ok (some (.double r.1))) (mb h0 b r.2)) : AW g MX10_meanScore 33 [some (.ref (b)), some (.int (a.1)), some (.int (a.2.1))] [] (mb h0 b a.2.2) Q := by
  refine itw_e (P := fun (a : (Int32 × Int32 × Mem)) => AW g MX10_meanScore 33 [some (.ref (b)), some (.int (a.1)), some (.int (a.2.1))] [] (mb h0 b a.2.2) Q) (Post := fun r => Q (.ok (some (.double r.1))) (mb h0 b r.2)) (fun a r hs hc he  => ?_) hs hQ 
  unfold sX10_meanScore_l33_step at hs
  refine AW.iload_n (z := 2) (am_r 21 rfl) rfl rfl ?_
  refine AW.aload_n (z := 0) (am_r 22 rfl) rfl rfl ?_
  refine AW.getO (am_r 23 rfl) rfl klX10 (k := 5) (by omega) q1508 mb_ob rfl ?_
  refine AW.iconst (am_r 24 rfl) rfl ci_4 ?_
  refine AW.iald (am_r 25 rfl) rfl mb_a4 (vp_of_inb rfl) rfl ?_
  refine AW.icmp_ge (tg := 58) (am_r 26 rfl) rfl rfl (fun hc6 => ?_) (fun hc6 => ?_)
  · replace hs := (if_pos hc6).symm.trans hs
    refine oinr_e hs (fun z7 hz8 hs => ?_)
    have hQ := he _ hz8
    refine AW.iload_n (z := 1) (am_r 36 rfl) rfl rfl ?_
    refine AW.i2d (am_r 37 rfl) rfl ?_
    refine AW.aload_n (z := 0) (am_r 38 rfl) rfl rfl ?_
    refine AW.getO (am_r 39 rfl) rfl klX10 (k := 5) (by omega) q1508 mb_ob rfl ?_
    refine AW.iconst (am_r 40 rfl) rfl ci_4 ?_
    refine AW.iald (am_r 41 rfl) rfl mb_a4 (vp_of_inb rfl) rfl ?_
    refine AW.i2d (am_r 42 rfl) rfl ?_
    refine oifp_g hs (fun hg9 hs => ?_)
    refine AW.ddiv (am_r 43 rfl) rfl hg9 ?_
    have hr := (Option.some.inj hs).symm
    subst hr
    exact AW.dret (am_r 44 rfl) rfl hQ
  · replace hs := (if_neg hc6).symm.trans hs
    refine AW.iload_n (z := 1) (am_r 27 rfl) rfl rfl ?_
    refine AW.aload_n (z := 0) (am_r 28 rfl) rfl rfl ?_
    refine AW.iload_n (z := 2) (am_r 29 rfl) rfl rfl ?_
    refine AW.iconst (am_r 30 rfl) rfl ci_0 ?_
    refine obind_e hs (fun r10 hg12 hs => ?_)
    refine AW.callV (N := MX10_of) (As := [.int (a.2.1), .int ((0 : Int32))]) (S := [(.int (a.1))]) (L0 := [some (.ref (b)), some (.int (a.2.1)), some (.int ((0 : Int32)))]) (b := b) (am_r 31 rfl) rfl ovX10_of q1615 rfl rfl mb_ob rfl rfl rfl rfl (dX10_of hA  hg12 (cQ_r ?_))
    refine AW.iadd (am_r 32 rfl) rfl ?_
    refine AW.istore_n (L' := [some (.ref (b)), some (.int (a.1 + r10)), some (.int (a.2.1))]) (z := 1) (am_r 33 rfl) rfl (Nat.le_of_ble_eq_true rfl) rfl ?_
    refine AW.iinc (v := a.2.1 + (1 : Int32)) (L' := [some (.ref (b)), some (.int (a.1 + r10)), some (.int (a.2.1 + (1 : Int32)))]) (am_r 34 rfl) rfl (Nat.le_of_ble_eq_true rfl) rfl (congrArg (fun z => a.2.1 + z) ci_1) rfl ?_
    refine AW.goto (tg := 33) (am_r 35 rfl) rfl ?_
    have hr := (Option.some.inj hs).symm
    exact hc (a.1 + r10, a.2.1 + (1 : Int32), a.2.2) hr 
noncomputable def sX10_meanScore_j20 (S : Mem)  (y0 : Int32) : Option (UInt64 × Mem) :=
  olet (sX10_throwsIf S y0 (1 : Int32)) fun r3 =>
  if r3.1 = 0 then
    sX10_meanScore_l33   ((0 : Int32), (0 : Int32), r3.2)
  else
    some ((FP.dconst0, r3.2))
set_option maxRecDepth 100000 in
theorem dX10_meanScore_j20 {g : AG} {h0 : AH} {b : Nat} {S : Mem} {Q : AO → AH → Prop}  {y0 : Int32} (hA : gB g ≤ b)  (hk0 : y0 = 0 ∨ y0 = 1) {r : (UInt64 × Mem)} (hs : sX10_meanScore_j20 S  y0 = some r) (hQ : Q (.ok (some (.double r.1))) (mb h0 b r.2)) : AW g MX10_meanScore 20 [some (.ref (b)), none, none] [(.int (y0)), (.ref (b))] (mb h0 b S) Q := by
  unfold sX10_meanScore_j20 at hs
  refine AW.iconst (am_r 12 rfl) rfl ci_1 ?_
  refine AW.callV (N := MX10_throwsIf) (As := [.int (y0), .int ((1 : Int32))]) (S := []) (L0 := [some (.ref (b)), some (.int (y0)), some (.int ((1 : Int32)))]) (b := b) (am_r 13 rfl) rfl ovX10_throwsIf q1607 rfl rfl mb_ob rfl rfl rfl rfl (dX10_throwsIf hA hk0 rfl (fun hok4 => (cQ_r ?_)))
  refine olet_e (P := fun (y : (Int32 × Mem)) => (y.1 = 0 ∨ y.1 = 1) → AW g MX10_meanScore 24 [some (.ref (b)), none, none] [(.int (y.1))] (mb h0 b y.2) Q) hs (fun r3 hs hok4 => ?_) hok4
  refine AW.if_eq (tg := 29) (am_r 14 rfl) rfl rfl (fun hc5 => ?_) (fun hc5 => ?_)
  · replace hs := (if_pos hc5).symm.trans hs
    refine AW.iconst (am_r 17 rfl) rfl ci_0 ?_
    refine AW.istore_n (L' := [some (.ref (b)), some (.int ((0 : Int32))), none]) (z := 1) (am_r 18 rfl) rfl (Nat.le_of_ble_eq_true rfl) rfl ?_
    refine AW.iconst (am_r 19 rfl) rfl ci_0 ?_
    refine AW.istore_n (L' := [some (.ref (b)), some (.int ((0 : Int32))), some (.int ((0 : Int32)))]) (z := 2) (am_r 20 rfl) rfl (Nat.le_of_ble_eq_true rfl) rfl ?_
    exact dX10_meanScore_l33 hA   hs hQ
  · replace hs := (if_neg hc5).symm.trans hs
    refine AW.dconst0 (am_r 15 rfl) rfl ?_
    have hr := (Option.some.inj hs).symm
    subst hr
    exact AW.dret (am_r 16 rfl) rfl hQ
noncomputable def sX10_meanScore (S : Mem)  : Option (UInt64 × Mem) :=
  olet (si S 100 6 0 ((0 : Int32))) fun S1 =>
  if (gi S1 5 (4 : Int32).toNatClampNeg 0) = 0 then
    sX10_meanScore_j20 S1  (1 : Int32)
  else
    sX10_meanScore_j20 S1  (0 : Int32)
set_option maxRecDepth 100000 in
theorem dX10_meanScore {g : AG} {h0 : AH} {b : Nat} {S : Mem} {Q : AO → AH → Prop}  (hA : gB g ≤ b)  {r : (UInt64 × Mem)} (hs : sX10_meanScore S  = some r) (hQ : Q (.ok (some (.double r.1))) (mb h0 b r.2)) : AW g MX10_meanScore 0 [some (.ref (b)), none, none] [] (mb h0 b S) Q := by
  unfold sX10_meanScore at hs
  refine AW.aload_n (z := 0) (am_r 0 rfl) rfl rfl ?_
  refine AW.iconst (am_r 1 rfl) rfl ci_0 ?_
  refine AW.putO (am_r 2 rfl) rfl klX10 (k := 6) (by omega) q1509 (Or.inl rfl) mb_ob hA rfl rfl (mbp_ob (by decide)) ?_
  refine olet_e (P := fun y => AW g MX10_meanScore 5 [some (.ref (b)), none, none] [] (mb h0 b y) Q) hs (fun S1 hs => ?_)
  refine AW.aload_n (z := 0) (am_r 3 rfl) rfl rfl ?_
  refine AW.aload_n (z := 0) (am_r 4 rfl) rfl rfl ?_
  refine AW.getO (am_r 5 rfl) rfl klX10 (k := 5) (by omega) q1508 mb_ob rfl ?_
  refine AW.iconst (am_r 6 rfl) rfl ci_4 ?_
  refine AW.iald (am_r 7 rfl) rfl mb_a4 (vp_of_inb rfl) rfl ?_
  refine AW.if_ne (tg := 19) (am_r 8 rfl) rfl rfl (fun hc2 => ?_) (fun hc2 => ?_)
  · replace hs := (if_neg hc2).symm.trans hs
    refine AW.iconst (am_r 11 rfl) rfl ci_0 ?_
    exact dX10_meanScore_j20 hA  (Or.inl rfl) hs hQ
  · replace hs := (if_pos hc2).symm.trans hs
    refine AW.iconst (am_r 9 rfl) rfl ci_1 ?_
    refine AW.goto (tg := 20) (am_r 10 rfl) rfl ?_
    exact dX10_meanScore_j20 hA  (Or.inr rfl) hs hQ
