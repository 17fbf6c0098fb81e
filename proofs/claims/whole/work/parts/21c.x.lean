/-! ===== THE RepairStudio'S METHODS, DECOMPILED (laid by a program), 3 ===== -/
noncomputable def sX9_allBills_l4_step (S : XT) (B : Nat) (a : (Int64 × Int32)) : Option ((Int64 × Int32) ⊕ (Except Nat Int32)) :=
  if (gi S.2.2.2.2.2.1 0 9 0) ≤ a.2 then
    oinr (
    oexc (sX9_exactInt S B a.1) (fun e => e) fun w8 =>
    some (.ok (w8)))
  else
    olet (a.1 + (gq S.2.2.2.2.2.1 3 (sX7_itemAt S.2.2.2.2.2.1 a.2))) fun v11 =>
    olet (a.2 + (1 : Int32)) fun v12 =>
    some (.inl (v11, v12))
noncomputable def sX9_allBills_l4 (S : XT) (B : Nat) (a : (Int64 × Int32)) : Option (Except Nat Int32) := itw (sX9_allBills_l4_step S B) a
set_option maxRecDepth 100000 in
theorem dX9_allBills_l4 {g : AG} {h0 : AH} {S : XT} {Q : AO → AH → Prop} {B : Nat} (hB : gB g ≤ B) (hst : Sta g h0)  {a : (Int64 × Int32)}  {r : (Except Nat Int32)} (hs : sX9_allBills_l4 S B a = some r) (hQ : (∀ v : Int32, r = .ok v → Q (.ok (some (.int v))) (xh (bw h0 B S.1 S.2.2.1 S.2.2.2.2.2.2) B S.2.1 S.2.2.1 S.2.2.2.1 S.2.2.2.2.1 S.2.2.2.2.2.1)) ∧ (∀ e : Nat, r = .error e → ∀ z, S.1.1 ≤ z → z ≤ S.1.1 + 1 → Q (.error e) (xh (bw h0 B (z, S.1.2.1 - 1, S.1.2.2 - 6) S.2.2.1 S.2.2.2.2.2.2) B S.2.1 S.2.2.1 S.2.2.2.1 S.2.2.2.2.1 S.2.2.2.2.2.1))) : AW g MX9_allBills 4 [some (.ref (B)), some (.long (a.1)), none, some (.int (a.2))] [] (xh (bw h0 B S.1 S.2.2.1 S.2.2.2.2.2.2) B S.2.1 S.2.2.1 S.2.2.2.1 S.2.2.2.2.1 S.2.2.2.2.2.1) Q := by
  refine itw_e (a := a) (b := r) (P := fun (a : (Int64 × Int32)) => AW g MX9_allBills 4 [some (.ref (B)), some (.long (a.1)), none, some (.int (a.2))] [] (xh (bw h0 B S.1 S.2.2.1 S.2.2.2.2.2.2) B S.2.1 S.2.2.1 S.2.2.2.1 S.2.2.2.2.1 S.2.2.2.2.2.1) Q) (Post := fun r => (∀ v : Int32, r = .ok v → Q (.ok (some (.int v))) (xh (bw h0 B S.1 S.2.2.1 S.2.2.2.2.2.2) B S.2.1 S.2.2.1 S.2.2.2.1 S.2.2.2.2.1 S.2.2.2.2.2.1)) ∧ (∀ e : Nat, r = .error e → ∀ z, S.1.1 ≤ z → z ≤ S.1.1 + 1 → Q (.error e) (xh (bw h0 B (z, S.1.2.1 - 1, S.1.2.2 - 6) S.2.2.1 S.2.2.2.2.2.2) B S.2.1 S.2.2.1 S.2.2.2.1 S.2.2.2.2.1 S.2.2.2.2.2.1))) (fun a r hs hc he  => ?_) hs hQ 
  unfold sX9_allBills_l4_step at hs
  refine AW.iload_n (z := 3) (am_r 4 rfl) rfl rfl ?_
  refine AW.aload_n (z := 0) (am_r 5 rfl) rfl rfl ?_
  refine AW.getO (am_r 6 rfl) rfl klX9 (k := 0) (by omega) q392 xh_0 rfl ?_
  refine AW.getO (am_r 7 rfl) rfl klX7 (k := 9) (by omega) q244 (xl_get (fun _ => sb_st)) rfl ?_
  refine AW.icmp_ge (tg := 35) (am_r 8 rfl) rfl rfl (fun hc1 => ?_) (fun hc1 => ?_)
  · replace hs := (if_pos hc1).symm.trans hs
    refine oinr_e hs (fun z2 hz3 hs => ?_)
    have hQ := he _ hz3
    refine AW.lload_n (z := 1) (am_r 19 rfl) rfl rfl ?_
    refine oexc_e hs (fun r4 hg6 hs => ?_)
    refine AW.callS (N := MX9_exactInt) (As := [.long (a.1)]) (S := []) (L0 := [some (.long (a.1)), none]) (am_r 20 rfl) rfl osX9_exactInt q1288 rfl rfl rfl rfl rfl (dX9_exactInt hB hst  hg6 ⟨fun w8 hv7 => ?_, fun e hv7 z h1 h2 => ?_⟩)
    · subst hv7
      refine (cQ_r ?_)
      have hr := (Option.some.inj hs).symm
      exact AW.iret (am_r 21 rfl) rfl (hQ.1 _ hr)
    · subst hv7
      have hr := (Option.some.inj hs).symm
      exact cQ_x (AX.out rfl (hQ.2 _ hr z h1 h2))
  · replace hs := (if_neg hc1).symm.trans hs
    refine AW.lload_n (z := 1) (am_r 9 rfl) rfl rfl ?_
    refine AW.aload_n (z := 0) (am_r 10 rfl) rfl rfl ?_
    refine AW.getO (am_r 11 rfl) rfl klX9 (k := 0) (by omega) q392 xh_0 rfl ?_
    refine AW.iload_n (z := 3) (am_r 12 rfl) rfl rfl ?_
    refine AW.callV (N := MX7_itemAt) (As := [.int (a.2)]) (S := [(.long (a.1))]) (L0 := [some (.ref ((B + 1))), some (.int (a.2))]) (b := (B + 1)) (am_r 13 rfl) rfl ovX7_itemAt q721 rfl rfl (xl_get (fun _ => sb_st)) rfl rfl rfl rfl (AW.heq xh_l (dX7_itemAt (Nat.le_trans hB (by omega))  rfl (fun hok10 => (cQ_r (AW.heq xh_l.symm ?_)))))
    refine AW.getO (am_r 14 rfl) rfl klX2 (k := 14) (by omega) q159 (xl_get (fun _ => (sb_it hok10))) rfl ?_
    refine AW.ladd (am_r 15 rfl) rfl ?_
    refine olet_e (P := fun y => AW g MX9_allBills 28 [some (.ref (B)), some (.long (a.1)), none, some (.int (a.2))] [(.long (y))] (xh (bw h0 B S.1 S.2.2.1 S.2.2.2.2.2.2) B S.2.1 S.2.2.1 S.2.2.2.1 S.2.2.2.2.1 S.2.2.2.2.2.1) Q) hs (fun v11 hs => ?_)
    refine AW.lstore_n (L' := [some (.ref (B)), some (.long (v11)), none, some (.int (a.2))]) (z := 1) (am_r 16 rfl) rfl (Nat.le_of_ble_eq_true rfl) rfl ?_
    refine AW.iinc (v := a.2 + (1 : Int32)) (L' := [some (.ref (B)), some (.long (v11)), none, some (.int (a.2 + (1 : Int32)))]) (am_r 17 rfl) rfl (Nat.le_of_ble_eq_true rfl) rfl (congrArg (fun z => a.2 + z) ci_1) rfl ?_
    refine olet_e (P := fun (y : Int32) => AW g MX9_allBills 32 [some (.ref (B)), some (.long (v11)), none, some (.int (y))] [] (xh (bw h0 B S.1 S.2.2.1 S.2.2.2.2.2.2) B S.2.1 S.2.2.1 S.2.2.2.1 S.2.2.2.2.1 S.2.2.2.2.2.1) Q) hs (fun v12 hs => ?_)
    refine AW.goto (tg := 4) (am_r 18 rfl) rfl ?_
    have hr := (Option.some.inj hs).symm
    exact hc (v11, v12) hr 
noncomputable def sX9_allBills (S : XT) (B : Nat) : Option (Except Nat Int32) :=
  sX9_allBills_l4 S B ((0 : Int64), (0 : Int32))
set_option maxRecDepth 100000 in
theorem dX9_allBills {g : AG} {h0 : AH} {S : XT} {Q : AO → AH → Prop} {B : Nat} (hB : gB g ≤ B) (hst : Sta g h0)  {r : (Except Nat Int32)} (hs : sX9_allBills S B = some r) (hQ : (∀ v : Int32, r = .ok v → Q (.ok (some (.int v))) (xh (bw h0 B S.1 S.2.2.1 S.2.2.2.2.2.2) B S.2.1 S.2.2.1 S.2.2.2.1 S.2.2.2.2.1 S.2.2.2.2.2.1)) ∧ (∀ e : Nat, r = .error e → ∀ z, S.1.1 ≤ z → z ≤ S.1.1 + 1 → Q (.error e) (xh (bw h0 B (z, S.1.2.1 - 1, S.1.2.2 - 6) S.2.2.1 S.2.2.2.2.2.2) B S.2.1 S.2.2.1 S.2.2.2.1 S.2.2.2.2.1 S.2.2.2.2.2.1))) : AW g MX9_allBills 0 [some (.ref (B)), none, none, none] [] (xh (bw h0 B S.1 S.2.2.1 S.2.2.2.2.2.2) B S.2.1 S.2.2.1 S.2.2.2.1 S.2.2.2.2.1 S.2.2.2.2.2.1) Q := by
  unfold sX9_allBills at hs
  refine AW.lconst (z := 0) (am_r 0 rfl) rfl cl_0 ?_
  refine AW.lstore_n (L' := [some (.ref (B)), some (.long ((0 : Int64))), none, none]) (z := 1) (am_r 1 rfl) rfl (Nat.le_of_ble_eq_true rfl) rfl ?_
  refine AW.iconst (am_r 2 rfl) rfl ci_0 ?_
  refine AW.istore_n (L' := [some (.ref (B)), some (.long ((0 : Int64))), none, some (.int ((0 : Int32)))]) (z := 3) (am_r 3 rfl) rfl (Nat.le_of_ble_eq_true rfl) rfl ?_
  exact dX9_allBills_l4 (a := ((0 : Int64), (0 : Int32))) hB hst   hs hQ
noncomputable def sX9_billAhead_l14_step (S : XT) (B : Nat) (p1 : Int32) (a : (Nat × Int64 × Int32)) : Option ((Nat × Int64 × Int32) ⊕ (Except Nat Int32)) :=
  if (gi S.2.2.2.2.2.1 3 7 a.1) ≤ a.2.2 then
    oinr (
    oexc (sX9_exactInt S B a.2.1) (fun e => e) fun w14 =>
    some (.ok (w14)))
  else
    obind (sX2_queuedAt S.2.2.2.2.2.1 a.1 a.2.2) fun r15 =>
    olet (a.2.1 + (sX5_price S.2.2.2.2.2.1 (sX7_recipeAt S.2.2.2.2.2.1 r15))) fun v22 =>
    olet (a.2.2 + (1 : Int32)) fun v23 =>
    some (.inl (a.1, v22, v23))
noncomputable def sX9_billAhead_l14 (S : XT) (B : Nat) (p1 : Int32) (a : (Nat × Int64 × Int32)) : Option (Except Nat Int32) := itw (sX9_billAhead_l14_step S B p1) a
set_option maxRecDepth 100000 in
theorem dX9_billAhead_l14 {g : AG} {h0 : AH} {S : XT} {Q : AO → AH → Prop} {B : Nat} {p1 : Int32} (hB : gB g ≤ B) (hst : Sta g h0)  {a : (Nat × Int64 × Int32)} (hk0 : iok a.1) {r : (Except Nat Int32)} (hs : sX9_billAhead_l14 S B p1 a = some r) (hQ : (∀ v : Int32, r = .ok v → Q (.ok (some (.int v))) (xh (bw h0 B S.1 S.2.2.1 S.2.2.2.2.2.2) B S.2.1 S.2.2.1 S.2.2.2.1 S.2.2.2.2.1 S.2.2.2.2.2.1)) ∧ (∀ e : Nat, r = .error e → ∀ z, S.1.1 ≤ z → z ≤ S.1.1 + 1 → Q (.error e) (xh (bw h0 B (z, S.1.2.1 - 1, S.1.2.2 - 6) S.2.2.1 S.2.2.2.2.2.2) B S.2.1 S.2.2.1 S.2.2.2.1 S.2.2.2.2.1 S.2.2.2.2.2.1))) : AW g MX9_billAhead 14 [some (.ref (B)), none, some (.ref ((B + 1) + 20 + 2 * a.1)), some (.long (a.2.1)), none, some (.int (a.2.2))] [] (xh (bw h0 B S.1 S.2.2.1 S.2.2.2.2.2.2) B S.2.1 S.2.2.1 S.2.2.2.1 S.2.2.2.2.1 S.2.2.2.2.2.1) Q := by
  refine itw_e (a := a) (b := r) (P := fun (a : (Nat × Int64 × Int32)) => iok a.1 → AW g MX9_billAhead 14 [some (.ref (B)), none, some (.ref ((B + 1) + 20 + 2 * a.1)), some (.long (a.2.1)), none, some (.int (a.2.2))] [] (xh (bw h0 B S.1 S.2.2.1 S.2.2.2.2.2.2) B S.2.1 S.2.2.1 S.2.2.2.1 S.2.2.2.2.1 S.2.2.2.2.2.1) Q) (Post := fun r => (∀ v : Int32, r = .ok v → Q (.ok (some (.int v))) (xh (bw h0 B S.1 S.2.2.1 S.2.2.2.2.2.2) B S.2.1 S.2.2.1 S.2.2.2.1 S.2.2.2.2.1 S.2.2.2.2.2.1)) ∧ (∀ e : Nat, r = .error e → ∀ z, S.1.1 ≤ z → z ≤ S.1.1 + 1 → Q (.error e) (xh (bw h0 B (z, S.1.2.1 - 1, S.1.2.2 - 6) S.2.2.1 S.2.2.2.2.2.2) B S.2.1 S.2.2.1 S.2.2.2.1 S.2.2.2.2.1 S.2.2.2.2.2.1))) (fun a r hs hc he hk0 => ?_) hs hQ hk0
  unfold sX9_billAhead_l14_step at hs
  refine AW.iload (am_r 9 rfl) rfl rfl ?_
  refine AW.aload_n (z := 2) (am_r 10 rfl) rfl rfl ?_
  refine AW.getO (am_r 11 rfl) rfl klX2 (k := 7) (by omega) q140 (xl_get (fun _ => (sb_it hk0))) rfl ?_
  refine AW.icmp_ge (tg := 48) (am_r 12 rfl) rfl rfl (fun hc7 => ?_) (fun hc7 => ?_)
  · replace hs := (if_pos hc7).symm.trans hs
    refine oinr_e hs (fun z8 hz9 hs => ?_)
    have hQ := he _ hz9
    refine AW.lload_n (z := 3) (am_r 25 rfl) rfl rfl ?_
    refine oexc_e hs (fun r10 hg12 hs => ?_)
    refine AW.callS (N := MX9_exactInt) (As := [.long (a.2.1)]) (S := []) (L0 := [some (.long (a.2.1)), none]) (am_r 26 rfl) rfl osX9_exactInt q1288 rfl rfl rfl rfl rfl (dX9_exactInt hB hst  hg12 ⟨fun w14 hv13 => ?_, fun e hv13 z h1 h2 => ?_⟩)
    · subst hv13
      refine (cQ_r ?_)
      have hr := (Option.some.inj hs).symm
      exact AW.iret (am_r 27 rfl) rfl (hQ.1 _ hr)
    · subst hv13
      have hr := (Option.some.inj hs).symm
      exact cQ_x (AX.out rfl (hQ.2 _ hr z h1 h2))
  · replace hs := (if_neg hc7).symm.trans hs
    refine AW.lload_n (z := 3) (am_r 13 rfl) rfl rfl ?_
    refine AW.aload_n (z := 0) (am_r 14 rfl) rfl rfl ?_
    refine AW.getO (am_r 15 rfl) rfl klX9 (k := 0) (by omega) q392 xh_0 rfl ?_
    refine AW.aload_n (z := 2) (am_r 16 rfl) rfl rfl ?_
    refine AW.iload (am_r 17 rfl) rfl rfl ?_
    refine obind_e hs (fun r15 hg17 hs => ?_)
    refine AW.callV (N := MX2_queuedAt) (As := [.int (a.2.2)]) (S := [(.ref ((B + 1))), (.long (a.2.1))]) (L0 := [some (.ref ((B + 1) + 20 + 2 * a.1)), some (.int (a.2.2))]) (b := (B + 1) + 20 + 2 * a.1) (am_r 18 rfl) rfl ovX2_queuedAt q1094 rfl rfl (xl_get (fun _ => (sb_it hk0))) rfl rfl rfl rfl (AW.heq xh_l (dX2_queuedAt (Nat.le_trans hB (by omega)) hk0 hg17 (cQ_r (AW.heq xh_l.symm ?_))))
    refine AW.callV (N := MX7_recipeAt) (As := [.int (r15)]) (S := [(.long (a.2.1))]) (L0 := [some (.ref ((B + 1))), some (.int (r15))]) (b := (B + 1)) (am_r 19 rfl) rfl ovX7_recipeAt q1004 rfl rfl (xl_get (fun _ => sb_st)) rfl rfl rfl rfl (AW.heq xh_l (dX7_recipeAt (Nat.le_trans hB (by omega))  rfl (fun hok19 => (cQ_r (AW.heq xh_l.symm ?_)))))
    refine AW.callV (N := MX5_price) (As := []) (S := [(.long (a.2.1))]) (L0 := [some (.ref ((B + 1) + 9 + (sX7_recipeAt S.2.2.2.2.2.1 r15)))]) (b := (B + 1) + 9 + (sX7_recipeAt S.2.2.2.2.2.1 r15)) (am_r 20 rfl) rfl ovX5_price q1309 rfl rfl (xl_get (fun _ => (sb_re hok19))) rfl rfl rfl rfl (AW.heq xh_l (dX5_price (Nat.le_trans hB (by omega)) hok19 rfl (cQ_r (AW.heq xh_l.symm ?_))))
    refine AW.ladd (am_r 21 rfl) rfl ?_
    refine olet_e (P := fun y => AW g MX9_billAhead 41 [some (.ref (B)), none, some (.ref ((B + 1) + 20 + 2 * a.1)), some (.long (a.2.1)), none, some (.int (a.2.2))] [(.long (y))] (xh (bw h0 B S.1 S.2.2.1 S.2.2.2.2.2.2) B S.2.1 S.2.2.1 S.2.2.2.1 S.2.2.2.2.1 S.2.2.2.2.2.1) Q) hs (fun v22 hs => ?_)
    refine AW.lstore_n (L' := [some (.ref (B)), none, some (.ref ((B + 1) + 20 + 2 * a.1)), some (.long (v22)), none, some (.int (a.2.2))]) (z := 3) (am_r 22 rfl) rfl (Nat.le_of_ble_eq_true rfl) rfl ?_
    refine AW.iinc (v := a.2.2 + (1 : Int32)) (L' := [some (.ref (B)), none, some (.ref ((B + 1) + 20 + 2 * a.1)), some (.long (v22)), none, some (.int (a.2.2 + (1 : Int32)))]) (am_r 23 rfl) rfl (Nat.le_of_ble_eq_true rfl) rfl (congrArg (fun z => a.2.2 + z) ci_1) rfl ?_
    refine olet_e (P := fun (y : Int32) => AW g MX9_billAhead 45 [some (.ref (B)), none, some (.ref ((B + 1) + 20 + 2 * a.1)), some (.long (v22)), none, some (.int (y))] [] (xh (bw h0 B S.1 S.2.2.1 S.2.2.2.2.2.2) B S.2.1 S.2.2.1 S.2.2.2.1 S.2.2.2.2.1 S.2.2.2.2.2.1) Q) hs (fun v23 hs => ?_)
    refine AW.goto (tg := 14) (am_r 24 rfl) rfl ?_
    have hr := (Option.some.inj hs).symm
    exact hc (a.1, v22, v23) hr hk0
noncomputable def sX9_billAhead (S : XT) (B : Nat) (p1 : Int32) : Option (Except Nat Int32) :=
  oexc (sX9_itemOf S B p1) (fun e => e) fun w5 =>
  olet (gq S.2.2.2.2.2.1 3 w5) fun v6 =>
  sX9_billAhead_l14 S B p1 (w5, v6, (0 : Int32))
set_option maxRecDepth 100000 in
theorem dX9_billAhead {g : AG} {h0 : AH} {S : XT} {Q : AO → AH → Prop} {B : Nat} {p1 : Int32} (hB : gB g ≤ B) (hst : Sta g h0)  {r : (Except Nat Int32)} (hs : sX9_billAhead S B p1 = some r) (hQ : (∀ v : Int32, r = .ok v → Q (.ok (some (.int v))) (xh (bw h0 B S.1 S.2.2.1 S.2.2.2.2.2.2) B S.2.1 S.2.2.1 S.2.2.2.1 S.2.2.2.2.1 S.2.2.2.2.2.1)) ∧ (∀ e : Nat, r = .error e → ∀ z, S.1.1 ≤ z → z ≤ S.1.1 + 1 → Q (.error e) (xh (bw h0 B (z, S.1.2.1 - 1, S.1.2.2 - 6) S.2.2.1 S.2.2.2.2.2.2) B S.2.1 S.2.2.1 S.2.2.2.1 S.2.2.2.2.1 S.2.2.2.2.2.1))) : AW g MX9_billAhead 0 [some (.ref (B)), some (.int (p1)), none, none, none, none] [] (xh (bw h0 B S.1 S.2.2.1 S.2.2.2.2.2.2) B S.2.1 S.2.2.1 S.2.2.2.1 S.2.2.2.2.1 S.2.2.2.2.2.1) Q := by
  unfold sX9_billAhead at hs
  refine AW.aload_n (z := 0) (am_r 0 rfl) rfl rfl ?_
  refine AW.iload_n (z := 1) (am_r 1 rfl) rfl rfl ?_
  refine oexc_e hs (fun r1 hg3 hs => ?_)
  refine AW.callV (N := MX9_itemOf) (As := [.int (p1)]) (S := []) (L0 := [some (.ref (B)), some (.int (p1))]) (b := B) (am_r 2 rfl) rfl ovX9_itemOf q948 rfl rfl xh_0 rfl rfl rfl rfl (dX9_itemOf hB hst  hg3 ⟨fun w5 hv4 => ?_, fun e hv4 z h1 h2 => ?_⟩)
  · subst hv4
    refine fun hok2 => (cQ_r ?_)
    refine AW.astore_n (L' := [some (.ref (B)), some (.int (p1)), some (.ref ((B + 1) + 20 + 2 * w5)), none, none, none]) (z := 2) (am_r 3 rfl) rfl (Nat.le_of_ble_eq_true rfl) rfl ?_
    refine AW.aload_n (z := 2) (am_r 4 rfl) rfl rfl ?_
    refine AW.getO (am_r 5 rfl) rfl klX2 (k := 14) (by omega) q159 (xl_get (fun _ => (sb_it hok2))) rfl ?_
    refine olet_e (P := fun y => AW g MX9_billAhead 10 [some (.ref (B)), some (.int (p1)), some (.ref ((B + 1) + 20 + 2 * w5)), none, none, none] [(.long (y))] (xh (bw h0 B S.1 S.2.2.1 S.2.2.2.2.2.2) B S.2.1 S.2.2.1 S.2.2.2.1 S.2.2.2.2.1 S.2.2.2.2.2.1) Q) hs (fun v6 hs => ?_)
    refine AW.lstore_n (L' := [some (.ref (B)), some (.int (p1)), some (.ref ((B + 1) + 20 + 2 * w5)), some (.long (v6)), none, none]) (z := 3) (am_r 6 rfl) rfl (Nat.le_of_ble_eq_true rfl) rfl ?_
    refine AW.iconst (am_r 7 rfl) rfl ci_0 ?_
    refine AW.istore (L' := [some (.ref (B)), some (.int (p1)), some (.ref ((B + 1) + 20 + 2 * w5)), some (.long (v6)), none, some (.int ((0 : Int32)))]) (am_r 8 rfl) rfl (Nat.le_of_ble_eq_true rfl) rfl ?_
    refine AW.lessL (L' := [some (.ref (B)), none, some (.ref ((B + 1) + 20 + 2 * w5)), some (.long (v6)), none, some (.int ((0 : Int32)))]) ⟨rfl, rfl, rfl, rfl, trivial⟩ ?_
    exact dX9_billAhead_l14 (a := (w5, v6, (0 : Int32))) hB hst  hok2 hs hQ
  · subst hv4
    have hr := (Option.some.inj hs).symm
    exact cQ_x (AX.out rfl (hQ.2 _ hr z h1 h2))
noncomputable def sX9_record (S : XT) (B : Nat) (p1 : Int32) (p2 : Int32) : Option (Except Nat Int32) :=
  oexc (sX9_requireIndex S B p1 (gi S.2.2.2.2.2.1 5 2 0)) (fun e => e) fun w5 =>
  some (.ok (sX0_cell S.2.2.2.2.2.1 p1 p2))
set_option maxRecDepth 100000 in
theorem dX9_record {g : AG} {h0 : AH} {S : XT} {Q : AO → AH → Prop} {B : Nat} {p1 : Int32} {p2 : Int32} (hB : gB g ≤ B) (hst : Sta g h0)  {r : (Except Nat Int32)} (hs : sX9_record S B p1 p2 = some r) (hQ : (∀ v : Int32, r = .ok v → Q (.ok (some (.int v))) (xh (bw h0 B S.1 S.2.2.1 S.2.2.2.2.2.2) B S.2.1 S.2.2.1 S.2.2.2.1 S.2.2.2.2.1 S.2.2.2.2.2.1)) ∧ (∀ e : Nat, r = .error e → ∀ z, S.1.1 ≤ z → z ≤ S.1.1 + 1 → Q (.error e) (xh (bw h0 B (z, S.1.2.1 - 1, S.1.2.2 - 6) S.2.2.1 S.2.2.2.2.2.2) B S.2.1 S.2.2.1 S.2.2.2.1 S.2.2.2.2.1 S.2.2.2.2.2.1))) : AW g MX9_record 0 [some (.ref (B)), some (.int (p1)), some (.int (p2))] [] (xh (bw h0 B S.1 S.2.2.1 S.2.2.2.2.2.2) B S.2.1 S.2.2.1 S.2.2.2.1 S.2.2.2.2.1 S.2.2.2.2.2.1) Q := by
  unfold sX9_record at hs
  refine AW.iload_n (z := 1) (am_r 0 rfl) rfl rfl ?_
  refine AW.aload_n (z := 0) (am_r 1 rfl) rfl rfl ?_
  refine AW.getO (am_r 2 rfl) rfl klX9 (k := 0) (by omega) q392 xh_0 rfl ?_
  refine AW.getO (am_r 3 rfl) rfl klX7 (k := 6) (by omega) q235 (xl_get (fun _ => sb_st)) rfl ?_
  refine AW.getO (am_r 4 rfl) rfl klX0 (k := 2) (by omega) q220 (xl_get (fun _ => sb_bo)) rfl ?_
  refine oexc_e hs (fun r1 hg3 hs => ?_)
  refine AW.callS (N := MX9_requireIndex) (As := [.int (p1), .int (gi S.2.2.2.2.2.1 5 2 0)]) (S := []) (L0 := [some (.int (p1)), some (.int (gi S.2.2.2.2.2.1 5 2 0))]) (am_r 5 rfl) rfl osX9_requireIndex q956 rfl rfl rfl rfl rfl (dX9_requireIndex hB hst  hg3 ⟨fun w5 hv4 => ?_, fun e hv4 z h1 h2 => ?_⟩)
  · subst hv4
    refine (cQ_v ?_)
    refine AW.aload_n (z := 0) (am_r 6 rfl) rfl rfl ?_
    refine AW.getO (am_r 7 rfl) rfl klX9 (k := 0) (by omega) q392 xh_0 rfl ?_
    refine AW.getO (am_r 8 rfl) rfl klX7 (k := 6) (by omega) q235 (xl_get (fun _ => sb_st)) rfl ?_
    refine AW.iload_n (z := 1) (am_r 9 rfl) rfl rfl ?_
    refine AW.iload_n (z := 2) (am_r 10 rfl) rfl rfl ?_
    refine AW.callV (N := MX0_cell) (As := [.int (p1), .int (p2)]) (S := []) (L0 := [some (.ref ((B + 1) + 56)), some (.int (p1)), some (.int (p2)), none]) (b := (B + 1) + 56) (am_r 11 rfl) rfl ovX0_cell q1317 rfl rfl (xl_get (fun _ => sb_bo)) rfl rfl rfl rfl (AW.heq xh_l (dX0_cell (Nat.le_trans hB (by omega))  rfl (cQ_r (AW.heq xh_l.symm ?_))))
    have hr := (Option.some.inj hs).symm
    exact AW.iret (am_r 12 rfl) rfl (hQ.1 _ hr)
  · subst hv4
    have hr := (Option.some.inj hs).symm
    exact cQ_x (AX.out rfl (hQ.2 _ hr z h1 h2))
noncomputable def sX9_recordsOf_l16_step (S : XT) (B : Nat) (p1 : Int32) (p2 : Int32) (a : (Int32 × Int32)) : Option ((Int32 × Int32) ⊕ (Except Nat Int32)) :=
  if (gi S.2.2.2.2.2.1 5 2 0) ≤ a.2 then
    oinr (
    some (.ok (a.1)))
  else
    if (sX0_isOf S.2.2.2.2.2.1 a.2 p1) = 0 then
      olet (a.2 + (1 : Int32)) fun v17 =>
      some (.inl (a.1, v17))
    else
      if (sX0_kindOf S.2.2.2.2.2.1 a.2) = p2 then
        olet (a.1 + (1 : Int32)) fun v22 =>
        olet (a.2 + (1 : Int32)) fun v23 =>
        some (.inl (v22, v23))
      else
        olet (a.2 + (1 : Int32)) fun v21 =>
        some (.inl (a.1, v21))
noncomputable def sX9_recordsOf_l16 (S : XT) (B : Nat) (p1 : Int32) (p2 : Int32) (a : (Int32 × Int32)) : Option (Except Nat Int32) := itw (sX9_recordsOf_l16_step S B p1 p2) a
set_option maxRecDepth 100000 in
theorem dX9_recordsOf_l16 {g : AG} {h0 : AH} {S : XT} {Q : AO → AH → Prop} {B : Nat} {p1 : Int32} {p2 : Int32} (hB : gB g ≤ B) (hst : Sta g h0)  {a : (Int32 × Int32)}  {r : (Except Nat Int32)} (hs : sX9_recordsOf_l16 S B p1 p2 a = some r) (hQ : (∀ v : Int32, r = .ok v → Q (.ok (some (.int v))) (xh (bw h0 B S.1 S.2.2.1 S.2.2.2.2.2.2) B S.2.1 S.2.2.1 S.2.2.2.1 S.2.2.2.2.1 S.2.2.2.2.2.1)) ∧ (∀ e : Nat, r = .error e → ∀ z, S.1.1 ≤ z → z ≤ S.1.1 + 1 → Q (.error e) (xh (bw h0 B (z, S.1.2.1 - 1, S.1.2.2 - 6) S.2.2.1 S.2.2.2.2.2.2) B S.2.1 S.2.2.1 S.2.2.2.1 S.2.2.2.2.1 S.2.2.2.2.2.1))) : AW g MX9_recordsOf 16 [some (.ref (B)), some (.int (p1)), some (.int (p2)), some (.int (a.1)), some (.int (a.2))] [] (xh (bw h0 B S.1 S.2.2.1 S.2.2.2.2.2.2) B S.2.1 S.2.2.1 S.2.2.2.1 S.2.2.2.2.1 S.2.2.2.2.2.1) Q := by
  refine itw_e (a := a) (b := r) (P := fun (a : (Int32 × Int32)) => AW g MX9_recordsOf 16 [some (.ref (B)), some (.int (p1)), some (.int (p2)), some (.int (a.1)), some (.int (a.2))] [] (xh (bw h0 B S.1 S.2.2.1 S.2.2.2.2.2.2) B S.2.1 S.2.2.1 S.2.2.2.1 S.2.2.2.2.1 S.2.2.2.2.2.1) Q) (Post := fun r => (∀ v : Int32, r = .ok v → Q (.ok (some (.int v))) (xh (bw h0 B S.1 S.2.2.1 S.2.2.2.2.2.2) B S.2.1 S.2.2.1 S.2.2.2.1 S.2.2.2.2.1 S.2.2.2.2.2.1)) ∧ (∀ e : Nat, r = .error e → ∀ z, S.1.1 ≤ z → z ≤ S.1.1 + 1 → Q (.error e) (xh (bw h0 B (z, S.1.2.1 - 1, S.1.2.2 - 6) S.2.2.1 S.2.2.2.2.2.2) B S.2.1 S.2.2.1 S.2.2.2.1 S.2.2.2.2.1 S.2.2.2.2.2.1))) (fun a r hs hc he  => ?_) hs hQ 
  unfold sX9_recordsOf_l16_step at hs
  refine AW.iload (am_r 11 rfl) rfl rfl ?_
  refine AW.aload_n (z := 0) (am_r 12 rfl) rfl rfl ?_
  refine AW.getO (am_r 13 rfl) rfl klX9 (k := 0) (by omega) q392 xh_0 rfl ?_
  refine AW.getO (am_r 14 rfl) rfl klX7 (k := 6) (by omega) q235 (xl_get (fun _ => sb_st)) rfl ?_
  refine AW.getO (am_r 15 rfl) rfl klX0 (k := 2) (by omega) q220 (xl_get (fun _ => sb_bo)) rfl ?_
  refine AW.icmp_ge (tg := 72) (am_r 16 rfl) rfl rfl (fun hc11 => ?_) (fun hc11 => ?_)
  · replace hs := (if_pos hc11).symm.trans hs
    refine oinr_e hs (fun z12 hz13 hs => ?_)
    have hQ := he _ hz13
    refine AW.iload_n (z := 3) (am_r 34 rfl) rfl rfl ?_
    have hr := (Option.some.inj hs).symm
    exact AW.iret (am_r 35 rfl) rfl (hQ.1 _ hr)
  · replace hs := (if_neg hc11).symm.trans hs
    refine AW.aload_n (z := 0) (am_r 17 rfl) rfl rfl ?_
    refine AW.getO (am_r 18 rfl) rfl klX9 (k := 0) (by omega) q392 xh_0 rfl ?_
    refine AW.getO (am_r 19 rfl) rfl klX7 (k := 6) (by omega) q235 (xl_get (fun _ => sb_st)) rfl ?_
    refine AW.iload (am_r 20 rfl) rfl rfl ?_
    refine AW.iload_n (z := 1) (am_r 21 rfl) rfl rfl ?_
    refine AW.callV (N := MX0_isOf) (As := [.int (a.2), .int (p1)]) (S := []) (L0 := [some (.ref ((B + 1) + 56)), some (.int (a.2)), some (.int (p1))]) (b := (B + 1) + 56) (am_r 22 rfl) rfl ovX0_isOf q1328 rfl rfl (xl_get (fun _ => sb_bo)) rfl rfl rfl rfl (AW.heq xh_l (dX0_isOf (Nat.le_trans hB (by omega))  rfl (fun hok15 => (cQ_r (AW.heq xh_l.symm ?_)))))
    refine AW.if_eq (tg := 66) (am_r 23 rfl) rfl rfl (fun hc16 => ?_) (fun hc16 => ?_)
    · replace hs := (if_pos hc16).symm.trans hs
      refine AW.iinc (v := a.2 + (1 : Int32)) (L' := [some (.ref (B)), some (.int (p1)), some (.int (p2)), some (.int (a.1)), some (.int (a.2 + (1 : Int32)))]) (am_r 32 rfl) rfl (Nat.le_of_ble_eq_true rfl) rfl (congrArg (fun z => a.2 + z) ci_1) rfl ?_
      refine olet_e (P := fun (y : Int32) => AW g MX9_recordsOf 69 [some (.ref (B)), some (.int (p1)), some (.int (p2)), some (.int (a.1)), some (.int (y))] [] (xh (bw h0 B S.1 S.2.2.1 S.2.2.2.2.2.2) B S.2.1 S.2.2.1 S.2.2.2.1 S.2.2.2.2.1 S.2.2.2.2.2.1) Q) hs (fun v17 hs => ?_)
      refine AW.goto (tg := 16) (am_r 33 rfl) rfl ?_
      have hr := (Option.some.inj hs).symm
      exact hc (a.1, v17) hr 
    · replace hs := (if_neg hc16).symm.trans hs
      refine AW.aload_n (z := 0) (am_r 24 rfl) rfl rfl ?_
      refine AW.getO (am_r 25 rfl) rfl klX9 (k := 0) (by omega) q392 xh_0 rfl ?_
      refine AW.getO (am_r 26 rfl) rfl klX7 (k := 6) (by omega) q235 (xl_get (fun _ => sb_st)) rfl ?_
      refine AW.iload (am_r 27 rfl) rfl rfl ?_
      refine AW.callV (N := MX0_kindOf) (As := [.int (a.2)]) (S := []) (L0 := [some (.ref ((B + 1) + 56)), some (.int (a.2))]) (b := (B + 1) + 56) (am_r 28 rfl) rfl ovX0_kindOf q1333 rfl rfl (xl_get (fun _ => sb_bo)) rfl rfl rfl rfl (AW.heq xh_l (dX0_kindOf (Nat.le_trans hB (by omega))  rfl (cQ_r (AW.heq xh_l.symm ?_))))
      refine AW.iload_n (z := 2) (am_r 29 rfl) rfl rfl ?_
      refine AW.icmp_ne (tg := 66) (am_r 30 rfl) rfl rfl (fun hc20 => ?_) (fun hc20 => ?_)
      · replace hs := (if_neg hc20).symm.trans hs
        refine AW.iinc (v := a.2 + (1 : Int32)) (L' := [some (.ref (B)), some (.int (p1)), some (.int (p2)), some (.int (a.1)), some (.int (a.2 + (1 : Int32)))]) (am_r 32 rfl) rfl (Nat.le_of_ble_eq_true rfl) rfl (congrArg (fun z => a.2 + z) ci_1) rfl ?_
        refine olet_e (P := fun (y : Int32) => AW g MX9_recordsOf 69 [some (.ref (B)), some (.int (p1)), some (.int (p2)), some (.int (a.1)), some (.int (y))] [] (xh (bw h0 B S.1 S.2.2.1 S.2.2.2.2.2.2) B S.2.1 S.2.2.1 S.2.2.2.1 S.2.2.2.2.1 S.2.2.2.2.2.1) Q) hs (fun v21 hs => ?_)
        refine AW.goto (tg := 16) (am_r 33 rfl) rfl ?_
        have hr := (Option.some.inj hs).symm
        exact hc (a.1, v21) hr 
      · replace hs := (if_pos hc20).symm.trans hs
        refine AW.iinc (v := a.1 + (1 : Int32)) (L' := [some (.ref (B)), some (.int (p1)), some (.int (p2)), some (.int (a.1 + (1 : Int32))), some (.int (a.2))]) (am_r 31 rfl) rfl (Nat.le_of_ble_eq_true rfl) rfl (congrArg (fun z => a.1 + z) ci_1) rfl ?_
        refine olet_e (P := fun (y : Int32) => AW g MX9_recordsOf 66 [some (.ref (B)), some (.int (p1)), some (.int (p2)), some (.int (y)), some (.int (a.2))] [] (xh (bw h0 B S.1 S.2.2.1 S.2.2.2.2.2.2) B S.2.1 S.2.2.1 S.2.2.2.1 S.2.2.2.2.1 S.2.2.2.2.2.1) Q) hs (fun v22 hs => ?_)
        refine AW.iinc (v := a.2 + (1 : Int32)) (L' := [some (.ref (B)), some (.int (p1)), some (.int (p2)), some (.int (v22)), some (.int (a.2 + (1 : Int32)))]) (am_r 32 rfl) rfl (Nat.le_of_ble_eq_true rfl) rfl (congrArg (fun z => a.2 + z) ci_1) rfl ?_
        refine olet_e (P := fun (y : Int32) => AW g MX9_recordsOf 69 [some (.ref (B)), some (.int (p1)), some (.int (p2)), some (.int (v22)), some (.int (y))] [] (xh (bw h0 B S.1 S.2.2.1 S.2.2.2.2.2.2) B S.2.1 S.2.2.1 S.2.2.2.1 S.2.2.2.2.1 S.2.2.2.2.2.1) Q) hs (fun v23 hs => ?_)
        refine AW.goto (tg := 16) (am_r 33 rfl) rfl ?_
        have hr := (Option.some.inj hs).symm
        exact hc (v22, v23) hr 
noncomputable def sX9_recordsOf (S : XT) (B : Nat) (p1 : Int32) (p2 : Int32) : Option (Except Nat Int32) :=
  oexc (sX9_requireObject S B p1) (fun e => e) fun w5 =>
  oexc (sX9_requireBetween S B p2 (0 : Int32) (2 : Int32)) (fun e => e) fun w10 =>
  sX9_recordsOf_l16 S B p1 p2 ((0 : Int32), (0 : Int32))
set_option maxRecDepth 100000 in
theorem dX9_recordsOf {g : AG} {h0 : AH} {S : XT} {Q : AO → AH → Prop} {B : Nat} {p1 : Int32} {p2 : Int32} (hB : gB g ≤ B) (hst : Sta g h0)  {r : (Except Nat Int32)} (hs : sX9_recordsOf S B p1 p2 = some r) (hQ : (∀ v : Int32, r = .ok v → Q (.ok (some (.int v))) (xh (bw h0 B S.1 S.2.2.1 S.2.2.2.2.2.2) B S.2.1 S.2.2.1 S.2.2.2.1 S.2.2.2.2.1 S.2.2.2.2.2.1)) ∧ (∀ e : Nat, r = .error e → ∀ z, S.1.1 ≤ z → z ≤ S.1.1 + 1 → Q (.error e) (xh (bw h0 B (z, S.1.2.1 - 1, S.1.2.2 - 6) S.2.2.1 S.2.2.2.2.2.2) B S.2.1 S.2.2.1 S.2.2.2.1 S.2.2.2.2.1 S.2.2.2.2.2.1))) : AW g MX9_recordsOf 0 [some (.ref (B)), some (.int (p1)), some (.int (p2)), none, none] [] (xh (bw h0 B S.1 S.2.2.1 S.2.2.2.2.2.2) B S.2.1 S.2.2.1 S.2.2.2.1 S.2.2.2.2.1 S.2.2.2.2.2.1) Q := by
  unfold sX9_recordsOf at hs
  refine AW.aload_n (z := 0) (am_r 0 rfl) rfl rfl ?_
  refine AW.iload_n (z := 1) (am_r 1 rfl) rfl rfl ?_
  refine oexc_e hs (fun r1 hg3 hs => ?_)
  refine AW.callV (N := MX9_requireObject) (As := [.int (p1)]) (S := []) (L0 := [some (.ref (B)), some (.int (p1))]) (b := B) (am_r 2 rfl) rfl ovX9_requireObject q952 rfl rfl xh_0 rfl rfl rfl rfl (dX9_requireObject hB hst  hg3 ⟨fun w5 hv4 => ?_, fun e hv4 z h1 h2 => ?_⟩)
  · subst hv4
    refine (cQ_v ?_)
    refine AW.iload_n (z := 2) (am_r 3 rfl) rfl rfl ?_
    refine AW.iconst (am_r 4 rfl) rfl ci_0 ?_
    refine AW.iconst (am_r 5 rfl) rfl ci_2 ?_
    refine oexc_e hs (fun r6 hg8 hs => ?_)
    refine AW.callS (N := MX9_requireBetween) (As := [.int (p2), .int ((0 : Int32)), .int ((2 : Int32))]) (S := []) (L0 := [some (.int (p2)), some (.int ((0 : Int32))), some (.int ((2 : Int32)))]) (am_r 6 rfl) rfl osX9_requireBetween q777 rfl rfl rfl rfl rfl (dX9_requireBetween hB hst  hg8 ⟨fun w10 hv9 => ?_, fun e hv9 z h1 h2 => ?_⟩)
    · subst hv9
      refine (cQ_v ?_)
      refine AW.iconst (am_r 7 rfl) rfl ci_0 ?_
      refine AW.istore_n (L' := [some (.ref (B)), some (.int (p1)), some (.int (p2)), some (.int ((0 : Int32))), none]) (z := 3) (am_r 8 rfl) rfl (Nat.le_of_ble_eq_true rfl) rfl ?_
      refine AW.iconst (am_r 9 rfl) rfl ci_0 ?_
      refine AW.istore (L' := [some (.ref (B)), some (.int (p1)), some (.int (p2)), some (.int ((0 : Int32))), some (.int ((0 : Int32)))]) (am_r 10 rfl) rfl (Nat.le_of_ble_eq_true rfl) rfl ?_
      exact dX9_recordsOf_l16 (a := ((0 : Int32), (0 : Int32))) hB hst   hs hQ
    · subst hv9
      have hr := (Option.some.inj hs).symm
      exact cQ_x (AX.out rfl (hQ.2 _ hr z h1 h2))
  · subst hv4
    have hr := (Option.some.inj hs).symm
    exact cQ_x (AX.out rfl (hQ.2 _ hr z h1 h2))
noncomputable def sX9_latestRecord_l18_step (S : XT) (B : Nat) (p1 : Int32) (a : Int32) : Option (Int32 ⊕ (Except Nat Int32)) :=
  if a < 0 then
    oinr (
    some (.ok ((-1 : Int32))))
  else
    if (sX0_isOf S.2.2.2.2.2.1 a p1) = 0 then
      olet (a + (-1 : Int32)) fun v13 =>
      some (.inl v13)
    else
      oinr (
      some (.ok (a)))
noncomputable def sX9_latestRecord_l18 (S : XT) (B : Nat) (p1 : Int32) (a : Int32) : Option (Except Nat Int32) := itw (sX9_latestRecord_l18_step S B p1) a
set_option maxRecDepth 100000 in
theorem dX9_latestRecord_l18 {g : AG} {h0 : AH} {S : XT} {Q : AO → AH → Prop} {B : Nat} {p1 : Int32} (hB : gB g ≤ B) (hst : Sta g h0)  {a : Int32}  {r : (Except Nat Int32)} (hs : sX9_latestRecord_l18 S B p1 a = some r) (hQ : (∀ v : Int32, r = .ok v → Q (.ok (some (.int v))) (xh (bw h0 B S.1 S.2.2.1 S.2.2.2.2.2.2) B S.2.1 S.2.2.1 S.2.2.2.1 S.2.2.2.2.1 S.2.2.2.2.2.1)) ∧ (∀ e : Nat, r = .error e → ∀ z, S.1.1 ≤ z → z ≤ S.1.1 + 1 → Q (.error e) (xh (bw h0 B (z, S.1.2.1 - 1, S.1.2.2 - 6) S.2.2.1 S.2.2.2.2.2.2) B S.2.1 S.2.2.1 S.2.2.2.1 S.2.2.2.2.1 S.2.2.2.2.2.1))) : AW g MX9_latestRecord 18 [some (.ref (B)), some (.int (p1)), some (.int (a))] [] (xh (bw h0 B S.1 S.2.2.1 S.2.2.2.2.2.2) B S.2.1 S.2.2.1 S.2.2.2.1 S.2.2.2.2.1 S.2.2.2.2.2.1) Q := by
  refine itw_e (a := a) (b := r) (P := fun (a : Int32) => AW g MX9_latestRecord 18 [some (.ref (B)), some (.int (p1)), some (.int (a))] [] (xh (bw h0 B S.1 S.2.2.1 S.2.2.2.2.2.2) B S.2.1 S.2.2.1 S.2.2.2.1 S.2.2.2.2.1 S.2.2.2.2.2.1) Q) (Post := fun r => (∀ v : Int32, r = .ok v → Q (.ok (some (.int v))) (xh (bw h0 B S.1 S.2.2.1 S.2.2.2.2.2.2) B S.2.1 S.2.2.1 S.2.2.2.1 S.2.2.2.2.1 S.2.2.2.2.2.1)) ∧ (∀ e : Nat, r = .error e → ∀ z, S.1.1 ≤ z → z ≤ S.1.1 + 1 → Q (.error e) (xh (bw h0 B (z, S.1.2.1 - 1, S.1.2.2 - 6) S.2.2.1 S.2.2.2.2.2.2) B S.2.1 S.2.2.1 S.2.2.2.1 S.2.2.2.2.1 S.2.2.2.2.2.1))) (fun a r hs hc he  => ?_) hs hQ 
  unfold sX9_latestRecord_l18_step at hs
  refine AW.iload_n (z := 2) (am_r 10 rfl) rfl rfl ?_
  refine AW.if_lt (tg := 45) (am_r 11 rfl) rfl rfl (fun hc7 => ?_) (fun hc7 => ?_)
  · replace hs := (if_pos hc7).symm.trans hs
    refine oinr_e hs (fun z8 hz9 hs => ?_)
    have hQ := he _ hz9
    refine AW.iconst (am_r 23 rfl) rfl ci_m1 ?_
    have hr := (Option.some.inj hs).symm
    exact AW.iret (am_r 24 rfl) rfl (hQ.1 _ hr)
  · replace hs := (if_neg hc7).symm.trans hs
    refine AW.aload_n (z := 0) (am_r 12 rfl) rfl rfl ?_
    refine AW.getO (am_r 13 rfl) rfl klX9 (k := 0) (by omega) q392 xh_0 rfl ?_
    refine AW.getO (am_r 14 rfl) rfl klX7 (k := 6) (by omega) q235 (xl_get (fun _ => sb_st)) rfl ?_
    refine AW.iload_n (z := 2) (am_r 15 rfl) rfl rfl ?_
    refine AW.iload_n (z := 1) (am_r 16 rfl) rfl rfl ?_
    refine AW.callV (N := MX0_isOf) (As := [.int (a), .int (p1)]) (S := []) (L0 := [some (.ref ((B + 1) + 56)), some (.int (a)), some (.int (p1))]) (b := (B + 1) + 56) (am_r 17 rfl) rfl ovX0_isOf q1328 rfl rfl (xl_get (fun _ => sb_bo)) rfl rfl rfl rfl (AW.heq xh_l (dX0_isOf (Nat.le_trans hB (by omega))  rfl (fun hok11 => (cQ_r (AW.heq xh_l.symm ?_)))))
    refine AW.if_eq (tg := 39) (am_r 18 rfl) rfl rfl (fun hc12 => ?_) (fun hc12 => ?_)
    · replace hs := (if_pos hc12).symm.trans hs
      refine AW.iinc (v := a + (-1 : Int32)) (L' := [some (.ref (B)), some (.int (p1)), some (.int (a + (-1 : Int32)))]) (am_r 21 rfl) rfl (Nat.le_of_ble_eq_true rfl) rfl (congrArg (fun z => a + z) ci_m1) rfl ?_
      refine olet_e (P := fun (y : Int32) => AW g MX9_latestRecord 42 [some (.ref (B)), some (.int (p1)), some (.int (y))] [] (xh (bw h0 B S.1 S.2.2.1 S.2.2.2.2.2.2) B S.2.1 S.2.2.1 S.2.2.2.1 S.2.2.2.2.1 S.2.2.2.2.2.1) Q) hs (fun v13 hs => ?_)
      refine AW.goto (tg := 18) (am_r 22 rfl) rfl ?_
      have hr := (Option.some.inj hs).symm
      exact hc v13 hr 
    · replace hs := (if_neg hc12).symm.trans hs
      refine oinr_e hs (fun z14 hz15 hs => ?_)
      have hQ := he _ hz15
      refine AW.iload_n (z := 2) (am_r 19 rfl) rfl rfl ?_
      have hr := (Option.some.inj hs).symm
      exact AW.iret (am_r 20 rfl) rfl (hQ.1 _ hr)
noncomputable def sX9_latestRecord (S : XT) (B : Nat) (p1 : Int32) : Option (Except Nat Int32) :=
  oexc (sX9_requireObject S B p1) (fun e => e) fun w5 =>
  olet ((gi S.2.2.2.2.2.1 5 2 0) - (1 : Int32)) fun v6 =>
  sX9_latestRecord_l18 S B p1 v6
set_option maxRecDepth 100000 in
theorem dX9_latestRecord {g : AG} {h0 : AH} {S : XT} {Q : AO → AH → Prop} {B : Nat} {p1 : Int32} (hB : gB g ≤ B) (hst : Sta g h0)  {r : (Except Nat Int32)} (hs : sX9_latestRecord S B p1 = some r) (hQ : (∀ v : Int32, r = .ok v → Q (.ok (some (.int v))) (xh (bw h0 B S.1 S.2.2.1 S.2.2.2.2.2.2) B S.2.1 S.2.2.1 S.2.2.2.1 S.2.2.2.2.1 S.2.2.2.2.2.1)) ∧ (∀ e : Nat, r = .error e → ∀ z, S.1.1 ≤ z → z ≤ S.1.1 + 1 → Q (.error e) (xh (bw h0 B (z, S.1.2.1 - 1, S.1.2.2 - 6) S.2.2.1 S.2.2.2.2.2.2) B S.2.1 S.2.2.1 S.2.2.2.1 S.2.2.2.2.1 S.2.2.2.2.2.1))) : AW g MX9_latestRecord 0 [some (.ref (B)), some (.int (p1)), none] [] (xh (bw h0 B S.1 S.2.2.1 S.2.2.2.2.2.2) B S.2.1 S.2.2.1 S.2.2.2.1 S.2.2.2.2.1 S.2.2.2.2.2.1) Q := by
  unfold sX9_latestRecord at hs
  refine AW.aload_n (z := 0) (am_r 0 rfl) rfl rfl ?_
  refine AW.iload_n (z := 1) (am_r 1 rfl) rfl rfl ?_
  refine oexc_e hs (fun r1 hg3 hs => ?_)
  refine AW.callV (N := MX9_requireObject) (As := [.int (p1)]) (S := []) (L0 := [some (.ref (B)), some (.int (p1))]) (b := B) (am_r 2 rfl) rfl ovX9_requireObject q952 rfl rfl xh_0 rfl rfl rfl rfl (dX9_requireObject hB hst  hg3 ⟨fun w5 hv4 => ?_, fun e hv4 z h1 h2 => ?_⟩)
  · subst hv4
    refine (cQ_v ?_)
    refine AW.aload_n (z := 0) (am_r 3 rfl) rfl rfl ?_
    refine AW.getO (am_r 4 rfl) rfl klX9 (k := 0) (by omega) q392 xh_0 rfl ?_
    refine AW.getO (am_r 5 rfl) rfl klX7 (k := 6) (by omega) q235 (xl_get (fun _ => sb_st)) rfl ?_
    refine AW.getO (am_r 6 rfl) rfl klX0 (k := 2) (by omega) q220 (xl_get (fun _ => sb_bo)) rfl ?_
    refine AW.iconst (am_r 7 rfl) rfl ci_1 ?_
    refine AW.isub (am_r 8 rfl) rfl ?_
    refine olet_e (P := fun y => AW g MX9_latestRecord 17 [some (.ref (B)), some (.int (p1)), none] [(.int (y))] (xh (bw h0 B S.1 S.2.2.1 S.2.2.2.2.2.2) B S.2.1 S.2.2.1 S.2.2.2.1 S.2.2.2.2.1 S.2.2.2.2.2.1) Q) hs (fun v6 hs => ?_)
    refine AW.istore_n (L' := [some (.ref (B)), some (.int (p1)), some (.int (v6))]) (z := 2) (am_r 9 rfl) rfl (Nat.le_of_ble_eq_true rfl) rfl ?_
    exact dX9_latestRecord_l18 (a := v6) hB hst   hs hQ
  · subst hv4
    have hr := (Option.some.inj hs).symm
    exact cQ_x (AX.out rfl (hQ.2 _ hr z h1 h2))
noncomputable def sX9_lost_l9_step (S : XT) (B : Nat) (p1 : Int32) (a : (Int32 × Int32)) : Option ((Int32 × Int32) ⊕ (Except Nat Int32)) :=
  if (gi S.2.2.2.2.2.1 5 2 0) ≤ a.2 then
    oinr (
    some (.ok (a.1)))
  else
    if (sX0_isOf S.2.2.2.2.2.1 a.2 p1) = 0 then
      olet (a.2 + (1 : Int32)) fun v12 =>
      some (.inl (a.1, v12))
    else
      if (sX0_kindOf S.2.2.2.2.2.1 a.2) = (1 : Int32) then
        olet (a.1 - (sX0_changeOf S.2.2.2.2.2.1 a.2)) fun v19 =>
        olet (a.2 + (1 : Int32)) fun v20 =>
        some (.inl (v19, v20))
      else
        olet (a.2 + (1 : Int32)) fun v16 =>
        some (.inl (a.1, v16))
noncomputable def sX9_lost_l9 (S : XT) (B : Nat) (p1 : Int32) (a : (Int32 × Int32)) : Option (Except Nat Int32) := itw (sX9_lost_l9_step S B p1) a
set_option maxRecDepth 100000 in
theorem dX9_lost_l9 {g : AG} {h0 : AH} {S : XT} {Q : AO → AH → Prop} {B : Nat} {p1 : Int32} (hB : gB g ≤ B) (hst : Sta g h0)  {a : (Int32 × Int32)}  {r : (Except Nat Int32)} (hs : sX9_lost_l9 S B p1 a = some r) (hQ : (∀ v : Int32, r = .ok v → Q (.ok (some (.int v))) (xh (bw h0 B S.1 S.2.2.1 S.2.2.2.2.2.2) B S.2.1 S.2.2.1 S.2.2.2.1 S.2.2.2.2.1 S.2.2.2.2.2.1)) ∧ (∀ e : Nat, r = .error e → ∀ z, S.1.1 ≤ z → z ≤ S.1.1 + 1 → Q (.error e) (xh (bw h0 B (z, S.1.2.1 - 1, S.1.2.2 - 6) S.2.2.1 S.2.2.2.2.2.2) B S.2.1 S.2.2.1 S.2.2.2.1 S.2.2.2.2.1 S.2.2.2.2.2.1))) : AW g MX9_lost 9 [some (.ref (B)), some (.int (p1)), some (.int (a.1)), some (.int (a.2))] [] (xh (bw h0 B S.1 S.2.2.1 S.2.2.2.2.2.2) B S.2.1 S.2.2.1 S.2.2.2.1 S.2.2.2.2.1 S.2.2.2.2.2.1) Q := by
  refine itw_e (a := a) (b := r) (P := fun (a : (Int32 × Int32)) => AW g MX9_lost 9 [some (.ref (B)), some (.int (p1)), some (.int (a.1)), some (.int (a.2))] [] (xh (bw h0 B S.1 S.2.2.1 S.2.2.2.2.2.2) B S.2.1 S.2.2.1 S.2.2.2.1 S.2.2.2.2.1 S.2.2.2.2.2.1) Q) (Post := fun r => (∀ v : Int32, r = .ok v → Q (.ok (some (.int v))) (xh (bw h0 B S.1 S.2.2.1 S.2.2.2.2.2.2) B S.2.1 S.2.2.1 S.2.2.2.1 S.2.2.2.2.1 S.2.2.2.2.2.1)) ∧ (∀ e : Nat, r = .error e → ∀ z, S.1.1 ≤ z → z ≤ S.1.1 + 1 → Q (.error e) (xh (bw h0 B (z, S.1.2.1 - 1, S.1.2.2 - 6) S.2.2.1 S.2.2.2.2.2.2) B S.2.1 S.2.2.1 S.2.2.2.1 S.2.2.2.2.1 S.2.2.2.2.2.1))) (fun a r hs hc he  => ?_) hs hQ 
  unfold sX9_lost_l9_step at hs
  refine AW.iload_n (z := 3) (am_r 7 rfl) rfl rfl ?_
  refine AW.aload_n (z := 0) (am_r 8 rfl) rfl rfl ?_
  refine AW.getO (am_r 9 rfl) rfl klX9 (k := 0) (by omega) q392 xh_0 rfl ?_
  refine AW.getO (am_r 10 rfl) rfl klX7 (k := 6) (by omega) q235 (xl_get (fun _ => sb_st)) rfl ?_
  refine AW.getO (am_r 11 rfl) rfl klX0 (k := 2) (by omega) q220 (xl_get (fun _ => sb_bo)) rfl ?_
  refine AW.icmp_ge (tg := 73) (am_r 12 rfl) rfl rfl (fun hc6 => ?_) (fun hc6 => ?_)
  · replace hs := (if_pos hc6).symm.trans hs
    refine oinr_e hs (fun z7 hz8 hs => ?_)
    have hQ := he _ hz8
    refine AW.iload_n (z := 2) (am_r 37 rfl) rfl rfl ?_
    have hr := (Option.some.inj hs).symm
    exact AW.iret (am_r 38 rfl) rfl (hQ.1 _ hr)
  · replace hs := (if_neg hc6).symm.trans hs
    refine AW.aload_n (z := 0) (am_r 13 rfl) rfl rfl ?_
    refine AW.getO (am_r 14 rfl) rfl klX9 (k := 0) (by omega) q392 xh_0 rfl ?_
    refine AW.getO (am_r 15 rfl) rfl klX7 (k := 6) (by omega) q235 (xl_get (fun _ => sb_st)) rfl ?_
    refine AW.iload_n (z := 3) (am_r 16 rfl) rfl rfl ?_
    refine AW.iload_n (z := 1) (am_r 17 rfl) rfl rfl ?_
    refine AW.callV (N := MX0_isOf) (As := [.int (a.2), .int (p1)]) (S := []) (L0 := [some (.ref ((B + 1) + 56)), some (.int (a.2)), some (.int (p1))]) (b := (B + 1) + 56) (am_r 18 rfl) rfl ovX0_isOf q1328 rfl rfl (xl_get (fun _ => sb_bo)) rfl rfl rfl rfl (AW.heq xh_l (dX0_isOf (Nat.le_trans hB (by omega))  rfl (fun hok10 => (cQ_r (AW.heq xh_l.symm ?_)))))
    refine AW.if_eq (tg := 67) (am_r 19 rfl) rfl rfl (fun hc11 => ?_) (fun hc11 => ?_)
    · replace hs := (if_pos hc11).symm.trans hs
      refine AW.iinc (v := a.2 + (1 : Int32)) (L' := [some (.ref (B)), some (.int (p1)), some (.int (a.1)), some (.int (a.2 + (1 : Int32)))]) (am_r 35 rfl) rfl (Nat.le_of_ble_eq_true rfl) rfl (congrArg (fun z => a.2 + z) ci_1) rfl ?_
      refine olet_e (P := fun (y : Int32) => AW g MX9_lost 70 [some (.ref (B)), some (.int (p1)), some (.int (a.1)), some (.int (y))] [] (xh (bw h0 B S.1 S.2.2.1 S.2.2.2.2.2.2) B S.2.1 S.2.2.1 S.2.2.2.1 S.2.2.2.2.1 S.2.2.2.2.2.1) Q) hs (fun v12 hs => ?_)
      refine AW.goto (tg := 9) (am_r 36 rfl) rfl ?_
      have hr := (Option.some.inj hs).symm
      exact hc (a.1, v12) hr 
    · replace hs := (if_neg hc11).symm.trans hs
      refine AW.aload_n (z := 0) (am_r 20 rfl) rfl rfl ?_
      refine AW.getO (am_r 21 rfl) rfl klX9 (k := 0) (by omega) q392 xh_0 rfl ?_
      refine AW.getO (am_r 22 rfl) rfl klX7 (k := 6) (by omega) q235 (xl_get (fun _ => sb_st)) rfl ?_
      refine AW.iload_n (z := 3) (am_r 23 rfl) rfl rfl ?_
      refine AW.callV (N := MX0_kindOf) (As := [.int (a.2)]) (S := []) (L0 := [some (.ref ((B + 1) + 56)), some (.int (a.2))]) (b := (B + 1) + 56) (am_r 24 rfl) rfl ovX0_kindOf q1333 rfl rfl (xl_get (fun _ => sb_bo)) rfl rfl rfl rfl (AW.heq xh_l (dX0_kindOf (Nat.le_trans hB (by omega))  rfl (cQ_r (AW.heq xh_l.symm ?_))))
      refine AW.iconst (am_r 25 rfl) rfl ci_1 ?_
      refine AW.icmp_ne (tg := 67) (am_r 26 rfl) rfl rfl (fun hc15 => ?_) (fun hc15 => ?_)
      · replace hs := (if_neg hc15).symm.trans hs
        refine AW.iinc (v := a.2 + (1 : Int32)) (L' := [some (.ref (B)), some (.int (p1)), some (.int (a.1)), some (.int (a.2 + (1 : Int32)))]) (am_r 35 rfl) rfl (Nat.le_of_ble_eq_true rfl) rfl (congrArg (fun z => a.2 + z) ci_1) rfl ?_
        refine olet_e (P := fun (y : Int32) => AW g MX9_lost 70 [some (.ref (B)), some (.int (p1)), some (.int (a.1)), some (.int (y))] [] (xh (bw h0 B S.1 S.2.2.1 S.2.2.2.2.2.2) B S.2.1 S.2.2.1 S.2.2.2.1 S.2.2.2.2.1 S.2.2.2.2.2.1) Q) hs (fun v16 hs => ?_)
        refine AW.goto (tg := 9) (am_r 36 rfl) rfl ?_
        have hr := (Option.some.inj hs).symm
        exact hc (a.1, v16) hr 
      · replace hs := (if_pos hc15).symm.trans hs
        refine AW.iload_n (z := 2) (am_r 27 rfl) rfl rfl ?_
        refine AW.aload_n (z := 0) (am_r 28 rfl) rfl rfl ?_
        refine AW.getO (am_r 29 rfl) rfl klX9 (k := 0) (by omega) q392 xh_0 rfl ?_
        refine AW.getO (am_r 30 rfl) rfl klX7 (k := 6) (by omega) q235 (xl_get (fun _ => sb_st)) rfl ?_
        refine AW.iload_n (z := 3) (am_r 31 rfl) rfl rfl ?_
        refine AW.callV (N := MX0_changeOf) (As := [.int (a.2)]) (S := [(.int (a.1))]) (L0 := [some (.ref ((B + 1) + 56)), some (.int (a.2))]) (b := (B + 1) + 56) (am_r 32 rfl) rfl ovX0_changeOf q1351 rfl rfl (xl_get (fun _ => sb_bo)) rfl rfl rfl rfl (AW.heq xh_l (dX0_changeOf (Nat.le_trans hB (by omega))  rfl (cQ_r (AW.heq xh_l.symm ?_))))
        refine AW.isub (am_r 33 rfl) rfl ?_
        refine olet_e (P := fun y => AW g MX9_lost 66 [some (.ref (B)), some (.int (p1)), some (.int (a.1)), some (.int (a.2))] [(.int (y))] (xh (bw h0 B S.1 S.2.2.1 S.2.2.2.2.2.2) B S.2.1 S.2.2.1 S.2.2.2.1 S.2.2.2.2.1 S.2.2.2.2.2.1) Q) hs (fun v19 hs => ?_)
        refine AW.istore_n (L' := [some (.ref (B)), some (.int (p1)), some (.int (v19)), some (.int (a.2))]) (z := 2) (am_r 34 rfl) rfl (Nat.le_of_ble_eq_true rfl) rfl ?_
        refine AW.iinc (v := a.2 + (1 : Int32)) (L' := [some (.ref (B)), some (.int (p1)), some (.int (v19)), some (.int (a.2 + (1 : Int32)))]) (am_r 35 rfl) rfl (Nat.le_of_ble_eq_true rfl) rfl (congrArg (fun z => a.2 + z) ci_1) rfl ?_
        refine olet_e (P := fun (y : Int32) => AW g MX9_lost 70 [some (.ref (B)), some (.int (p1)), some (.int (v19)), some (.int (y))] [] (xh (bw h0 B S.1 S.2.2.1 S.2.2.2.2.2.2) B S.2.1 S.2.2.1 S.2.2.2.1 S.2.2.2.2.1 S.2.2.2.2.2.1) Q) hs (fun v20 hs => ?_)
        refine AW.goto (tg := 9) (am_r 36 rfl) rfl ?_
        have hr := (Option.some.inj hs).symm
        exact hc (v19, v20) hr 
noncomputable def sX9_lost (S : XT) (B : Nat) (p1 : Int32) : Option (Except Nat Int32) :=
  oexc (sX9_requireObject S B p1) (fun e => e) fun w5 =>
  sX9_lost_l9 S B p1 ((0 : Int32), (0 : Int32))
set_option maxRecDepth 100000 in
theorem dX9_lost {g : AG} {h0 : AH} {S : XT} {Q : AO → AH → Prop} {B : Nat} {p1 : Int32} (hB : gB g ≤ B) (hst : Sta g h0)  {r : (Except Nat Int32)} (hs : sX9_lost S B p1 = some r) (hQ : (∀ v : Int32, r = .ok v → Q (.ok (some (.int v))) (xh (bw h0 B S.1 S.2.2.1 S.2.2.2.2.2.2) B S.2.1 S.2.2.1 S.2.2.2.1 S.2.2.2.2.1 S.2.2.2.2.2.1)) ∧ (∀ e : Nat, r = .error e → ∀ z, S.1.1 ≤ z → z ≤ S.1.1 + 1 → Q (.error e) (xh (bw h0 B (z, S.1.2.1 - 1, S.1.2.2 - 6) S.2.2.1 S.2.2.2.2.2.2) B S.2.1 S.2.2.1 S.2.2.2.1 S.2.2.2.2.1 S.2.2.2.2.2.1))) : AW g MX9_lost 0 [some (.ref (B)), some (.int (p1)), none, none] [] (xh (bw h0 B S.1 S.2.2.1 S.2.2.2.2.2.2) B S.2.1 S.2.2.1 S.2.2.2.1 S.2.2.2.2.1 S.2.2.2.2.2.1) Q := by
  unfold sX9_lost at hs
  refine AW.aload_n (z := 0) (am_r 0 rfl) rfl rfl ?_
  refine AW.iload_n (z := 1) (am_r 1 rfl) rfl rfl ?_
  refine oexc_e hs (fun r1 hg3 hs => ?_)
  refine AW.callV (N := MX9_requireObject) (As := [.int (p1)]) (S := []) (L0 := [some (.ref (B)), some (.int (p1))]) (b := B) (am_r 2 rfl) rfl ovX9_requireObject q952 rfl rfl xh_0 rfl rfl rfl rfl (dX9_requireObject hB hst  hg3 ⟨fun w5 hv4 => ?_, fun e hv4 z h1 h2 => ?_⟩)
  · subst hv4
    refine (cQ_v ?_)
    refine AW.iconst (am_r 3 rfl) rfl ci_0 ?_
    refine AW.istore_n (L' := [some (.ref (B)), some (.int (p1)), some (.int ((0 : Int32))), none]) (z := 2) (am_r 4 rfl) rfl (Nat.le_of_ble_eq_true rfl) rfl ?_
    refine AW.iconst (am_r 5 rfl) rfl ci_0 ?_
    refine AW.istore_n (L' := [some (.ref (B)), some (.int (p1)), some (.int ((0 : Int32))), some (.int ((0 : Int32)))]) (z := 3) (am_r 6 rfl) rfl (Nat.le_of_ble_eq_true rfl) rfl ?_
    exact dX9_lost_l9 (a := ((0 : Int32), (0 : Int32))) hB hst   hs hQ
  · subst hv4
    have hr := (Option.some.inj hs).symm
    exact cQ_x (AX.out rfl (hQ.2 _ hr z h1 h2))
noncomputable def sX9_recorded_l9_step (S : XT) (B : Nat) (p1 : Int32) (a : (Int32 × Int32)) : Option ((Int32 × Int32) ⊕ (Except Nat Int32)) :=
  if (gi S.2.2.2.2.2.1 5 2 0) ≤ a.2 then
    oinr (
    some (.ok (a.1)))
  else
    if (sX0_isOf S.2.2.2.2.2.1 a.2 p1) = 0 then
      olet (a.2 + (1 : Int32)) fun v12 =>
      some (.inl (a.1, v12))
    else
      olet (a.1 + (sX0_changeOf S.2.2.2.2.2.1 a.2)) fun v15 =>
      olet (a.2 + (1 : Int32)) fun v16 =>
      some (.inl (v15, v16))
noncomputable def sX9_recorded_l9 (S : XT) (B : Nat) (p1 : Int32) (a : (Int32 × Int32)) : Option (Except Nat Int32) := itw (sX9_recorded_l9_step S B p1) a
set_option maxRecDepth 100000 in
theorem dX9_recorded_l9 {g : AG} {h0 : AH} {S : XT} {Q : AO → AH → Prop} {B : Nat} {p1 : Int32} (hB : gB g ≤ B) (hst : Sta g h0)  {a : (Int32 × Int32)}  {r : (Except Nat Int32)} (hs : sX9_recorded_l9 S B p1 a = some r) (hQ : (∀ v : Int32, r = .ok v → Q (.ok (some (.int v))) (xh (bw h0 B S.1 S.2.2.1 S.2.2.2.2.2.2) B S.2.1 S.2.2.1 S.2.2.2.1 S.2.2.2.2.1 S.2.2.2.2.2.1)) ∧ (∀ e : Nat, r = .error e → ∀ z, S.1.1 ≤ z → z ≤ S.1.1 + 1 → Q (.error e) (xh (bw h0 B (z, S.1.2.1 - 1, S.1.2.2 - 6) S.2.2.1 S.2.2.2.2.2.2) B S.2.1 S.2.2.1 S.2.2.2.1 S.2.2.2.2.1 S.2.2.2.2.2.1))) : AW g MX9_recorded 9 [some (.ref (B)), some (.int (p1)), some (.int (a.1)), some (.int (a.2))] [] (xh (bw h0 B S.1 S.2.2.1 S.2.2.2.2.2.2) B S.2.1 S.2.2.1 S.2.2.2.1 S.2.2.2.2.1 S.2.2.2.2.2.1) Q := by
  refine itw_e (a := a) (b := r) (P := fun (a : (Int32 × Int32)) => AW g MX9_recorded 9 [some (.ref (B)), some (.int (p1)), some (.int (a.1)), some (.int (a.2))] [] (xh (bw h0 B S.1 S.2.2.1 S.2.2.2.2.2.2) B S.2.1 S.2.2.1 S.2.2.2.1 S.2.2.2.2.1 S.2.2.2.2.2.1) Q) (Post := fun r => (∀ v : Int32, r = .ok v → Q (.ok (some (.int v))) (xh (bw h0 B S.1 S.2.2.1 S.2.2.2.2.2.2) B S.2.1 S.2.2.1 S.2.2.2.1 S.2.2.2.2.1 S.2.2.2.2.2.1)) ∧ (∀ e : Nat, r = .error e → ∀ z, S.1.1 ≤ z → z ≤ S.1.1 + 1 → Q (.error e) (xh (bw h0 B (z, S.1.2.1 - 1, S.1.2.2 - 6) S.2.2.1 S.2.2.2.2.2.2) B S.2.1 S.2.2.1 S.2.2.2.1 S.2.2.2.2.1 S.2.2.2.2.2.1))) (fun a r hs hc he  => ?_) hs hQ 
  unfold sX9_recorded_l9_step at hs
  refine AW.iload_n (z := 3) (am_r 7 rfl) rfl rfl ?_
  refine AW.aload_n (z := 0) (am_r 8 rfl) rfl rfl ?_
  refine AW.getO (am_r 9 rfl) rfl klX9 (k := 0) (by omega) q392 xh_0 rfl ?_
  refine AW.getO (am_r 10 rfl) rfl klX7 (k := 6) (by omega) q235 (xl_get (fun _ => sb_st)) rfl ?_
  refine AW.getO (am_r 11 rfl) rfl klX0 (k := 2) (by omega) q220 (xl_get (fun _ => sb_bo)) rfl ?_
  refine AW.icmp_ge (tg := 58) (am_r 12 rfl) rfl rfl (fun hc6 => ?_) (fun hc6 => ?_)
  · replace hs := (if_pos hc6).symm.trans hs
    refine oinr_e hs (fun z7 hz8 hs => ?_)
    have hQ := he _ hz8
    refine AW.iload_n (z := 2) (am_r 30 rfl) rfl rfl ?_
    have hr := (Option.some.inj hs).symm
    exact AW.iret (am_r 31 rfl) rfl (hQ.1 _ hr)
  · replace hs := (if_neg hc6).symm.trans hs
    refine AW.aload_n (z := 0) (am_r 13 rfl) rfl rfl ?_
    refine AW.getO (am_r 14 rfl) rfl klX9 (k := 0) (by omega) q392 xh_0 rfl ?_
    refine AW.getO (am_r 15 rfl) rfl klX7 (k := 6) (by omega) q235 (xl_get (fun _ => sb_st)) rfl ?_
    refine AW.iload_n (z := 3) (am_r 16 rfl) rfl rfl ?_
    refine AW.iload_n (z := 1) (am_r 17 rfl) rfl rfl ?_
    refine AW.callV (N := MX0_isOf) (As := [.int (a.2), .int (p1)]) (S := []) (L0 := [some (.ref ((B + 1) + 56)), some (.int (a.2)), some (.int (p1))]) (b := (B + 1) + 56) (am_r 18 rfl) rfl ovX0_isOf q1328 rfl rfl (xl_get (fun _ => sb_bo)) rfl rfl rfl rfl (AW.heq xh_l (dX0_isOf (Nat.le_trans hB (by omega))  rfl (fun hok10 => (cQ_r (AW.heq xh_l.symm ?_)))))
    refine AW.if_eq (tg := 52) (am_r 19 rfl) rfl rfl (fun hc11 => ?_) (fun hc11 => ?_)
    · replace hs := (if_pos hc11).symm.trans hs
      refine AW.iinc (v := a.2 + (1 : Int32)) (L' := [some (.ref (B)), some (.int (p1)), some (.int (a.1)), some (.int (a.2 + (1 : Int32)))]) (am_r 28 rfl) rfl (Nat.le_of_ble_eq_true rfl) rfl (congrArg (fun z => a.2 + z) ci_1) rfl ?_
      refine olet_e (P := fun (y : Int32) => AW g MX9_recorded 55 [some (.ref (B)), some (.int (p1)), some (.int (a.1)), some (.int (y))] [] (xh (bw h0 B S.1 S.2.2.1 S.2.2.2.2.2.2) B S.2.1 S.2.2.1 S.2.2.2.1 S.2.2.2.2.1 S.2.2.2.2.2.1) Q) hs (fun v12 hs => ?_)
      refine AW.goto (tg := 9) (am_r 29 rfl) rfl ?_
      have hr := (Option.some.inj hs).symm
      exact hc (a.1, v12) hr 
    · replace hs := (if_neg hc11).symm.trans hs
      refine AW.iload_n (z := 2) (am_r 20 rfl) rfl rfl ?_
      refine AW.aload_n (z := 0) (am_r 21 rfl) rfl rfl ?_
      refine AW.getO (am_r 22 rfl) rfl klX9 (k := 0) (by omega) q392 xh_0 rfl ?_
      refine AW.getO (am_r 23 rfl) rfl klX7 (k := 6) (by omega) q235 (xl_get (fun _ => sb_st)) rfl ?_
      refine AW.iload_n (z := 3) (am_r 24 rfl) rfl rfl ?_
      refine AW.callV (N := MX0_changeOf) (As := [.int (a.2)]) (S := [(.int (a.1))]) (L0 := [some (.ref ((B + 1) + 56)), some (.int (a.2))]) (b := (B + 1) + 56) (am_r 25 rfl) rfl ovX0_changeOf q1351 rfl rfl (xl_get (fun _ => sb_bo)) rfl rfl rfl rfl (AW.heq xh_l (dX0_changeOf (Nat.le_trans hB (by omega))  rfl (cQ_r (AW.heq xh_l.symm ?_))))
      refine AW.iadd (am_r 26 rfl) rfl ?_
      refine olet_e (P := fun y => AW g MX9_recorded 51 [some (.ref (B)), some (.int (p1)), some (.int (a.1)), some (.int (a.2))] [(.int (y))] (xh (bw h0 B S.1 S.2.2.1 S.2.2.2.2.2.2) B S.2.1 S.2.2.1 S.2.2.2.1 S.2.2.2.2.1 S.2.2.2.2.2.1) Q) hs (fun v15 hs => ?_)
      refine AW.istore_n (L' := [some (.ref (B)), some (.int (p1)), some (.int (v15)), some (.int (a.2))]) (z := 2) (am_r 27 rfl) rfl (Nat.le_of_ble_eq_true rfl) rfl ?_
      refine AW.iinc (v := a.2 + (1 : Int32)) (L' := [some (.ref (B)), some (.int (p1)), some (.int (v15)), some (.int (a.2 + (1 : Int32)))]) (am_r 28 rfl) rfl (Nat.le_of_ble_eq_true rfl) rfl (congrArg (fun z => a.2 + z) ci_1) rfl ?_
      refine olet_e (P := fun (y : Int32) => AW g MX9_recorded 55 [some (.ref (B)), some (.int (p1)), some (.int (v15)), some (.int (y))] [] (xh (bw h0 B S.1 S.2.2.1 S.2.2.2.2.2.2) B S.2.1 S.2.2.1 S.2.2.2.1 S.2.2.2.2.1 S.2.2.2.2.2.1) Q) hs (fun v16 hs => ?_)
      refine AW.goto (tg := 9) (am_r 29 rfl) rfl ?_
      have hr := (Option.some.inj hs).symm
      exact hc (v15, v16) hr 
noncomputable def sX9_recorded (S : XT) (B : Nat) (p1 : Int32) : Option (Except Nat Int32) :=
  oexc (sX9_requireObject S B p1) (fun e => e) fun w5 =>
  sX9_recorded_l9 S B p1 ((0 : Int32), (0 : Int32))
set_option maxRecDepth 100000 in
theorem dX9_recorded {g : AG} {h0 : AH} {S : XT} {Q : AO → AH → Prop} {B : Nat} {p1 : Int32} (hB : gB g ≤ B) (hst : Sta g h0)  {r : (Except Nat Int32)} (hs : sX9_recorded S B p1 = some r) (hQ : (∀ v : Int32, r = .ok v → Q (.ok (some (.int v))) (xh (bw h0 B S.1 S.2.2.1 S.2.2.2.2.2.2) B S.2.1 S.2.2.1 S.2.2.2.1 S.2.2.2.2.1 S.2.2.2.2.2.1)) ∧ (∀ e : Nat, r = .error e → ∀ z, S.1.1 ≤ z → z ≤ S.1.1 + 1 → Q (.error e) (xh (bw h0 B (z, S.1.2.1 - 1, S.1.2.2 - 6) S.2.2.1 S.2.2.2.2.2.2) B S.2.1 S.2.2.1 S.2.2.2.1 S.2.2.2.2.1 S.2.2.2.2.2.1))) : AW g MX9_recorded 0 [some (.ref (B)), some (.int (p1)), none, none] [] (xh (bw h0 B S.1 S.2.2.1 S.2.2.2.2.2.2) B S.2.1 S.2.2.1 S.2.2.2.1 S.2.2.2.2.1 S.2.2.2.2.2.1) Q := by
  unfold sX9_recorded at hs
  refine AW.aload_n (z := 0) (am_r 0 rfl) rfl rfl ?_
  refine AW.iload_n (z := 1) (am_r 1 rfl) rfl rfl ?_
  refine oexc_e hs (fun r1 hg3 hs => ?_)
  refine AW.callV (N := MX9_requireObject) (As := [.int (p1)]) (S := []) (L0 := [some (.ref (B)), some (.int (p1))]) (b := B) (am_r 2 rfl) rfl ovX9_requireObject q952 rfl rfl xh_0 rfl rfl rfl rfl (dX9_requireObject hB hst  hg3 ⟨fun w5 hv4 => ?_, fun e hv4 z h1 h2 => ?_⟩)
  · subst hv4
    refine (cQ_v ?_)
    refine AW.iconst (am_r 3 rfl) rfl ci_0 ?_
    refine AW.istore_n (L' := [some (.ref (B)), some (.int (p1)), some (.int ((0 : Int32))), none]) (z := 2) (am_r 4 rfl) rfl (Nat.le_of_ble_eq_true rfl) rfl ?_
    refine AW.iconst (am_r 5 rfl) rfl ci_0 ?_
    refine AW.istore_n (L' := [some (.ref (B)), some (.int (p1)), some (.int ((0 : Int32))), some (.int ((0 : Int32)))]) (z := 3) (am_r 6 rfl) rfl (Nat.le_of_ble_eq_true rfl) rfl ?_
    exact dX9_recorded_l9 (a := ((0 : Int32), (0 : Int32))) hB hst   hs hQ
  · subst hv4
    have hr := (Option.some.inj hs).symm
    exact cQ_x (AX.out rfl (hQ.2 _ hr z h1 h2))
noncomputable def sX9_startForecast (S : XT) (B : Nat) : Option (Nat × XT) :=
  obind (sX7_copyFrom S.2.2.2.2.1 S.2.2.2.2.2.1) fun r1 =>
  some ((0, (S.1, S.2.1, S.2.2.1, S.2.2.2.1, r1, S.2.2.2.2.2.1, S.2.2.2.2.2.2)))
set_option maxRecDepth 100000 in
theorem dX9_startForecast {g : AG} {h0 : AH} {S : XT} {Q : AO → AH → Prop} {B : Nat} (hB : gB g ≤ B) (hst : Sta g h0)  {r : (Nat × XT)} (hs : sX9_startForecast S B = some r) (hQ : Q (.ok (some (.ref ((B + 59))))) (xh (bw h0 B r.2.1 r.2.2.2.1 r.2.2.2.2.2.2.2) B r.2.2.1 r.2.2.2.1 r.2.2.2.2.1 r.2.2.2.2.2.1 r.2.2.2.2.2.2.1)) : AW g MX9_startForecast 0 [some (.ref (B))] [] (xh (bw h0 B S.1 S.2.2.1 S.2.2.2.2.2.2) B S.2.1 S.2.2.1 S.2.2.2.1 S.2.2.2.2.1 S.2.2.2.2.2.1) Q := by
  unfold sX9_startForecast at hs
  refine AW.aload_n (z := 0) (am_r 0 rfl) rfl rfl ?_
  refine AW.getO (am_r 1 rfl) rfl klX9 (k := 1) (by omega) q393 xh_0 rfl ?_
  refine AW.aload_n (z := 0) (am_r 2 rfl) rfl rfl ?_
  refine AW.getO (am_r 3 rfl) rfl klX9 (k := 0) (by omega) q392 xh_0 rfl ?_
  refine obind_e hs (fun r1 hg3 hs => ?_)
  refine AW.callV (N := MX7_copyFrom) (As := [.ref ((B + 1))]) (S := []) (L0 := [some (.ref ((B + 59))), some (.ref ((B + 1))), none]) (b := (B + 59)) (am_r 4 rfl) rfl ovX7_copyFrom q632 rfl rfl (xc_get (fun _ => sb_st)) rfl rfl rfl rfl (AW.heq xh_c (dX7_copyFrom (Nat.le_trans hB (by omega)) (Nat.le_trans hB (by omega)) (by omega)  hg3 (cQ_v (AW.heq xh_c.symm ?_))))
  refine AW.aload_n (z := 0) (am_r 5 rfl) rfl rfl ?_
  refine AW.getO (am_r 6 rfl) rfl klX9 (k := 1) (by omega) q393 xh_0 rfl ?_
  have hr := (Option.some.inj hs).symm
  exact AW.aret (am_r 7 rfl) rfl (Or.inl ⟨_, rfl⟩) (Or.inr ⟨_, rfl⟩) (xt_q1 (f := fun v => .ok (some (.ref ((B + 59))))) hr hQ)
noncomputable def sX9_readyAt_j55 (S : XT) (B : Nat) (p1 : Int32) (p2 : Int32) (k0 : Nat) (y1 : Int32) : Option ((Nat × Int32 × XT) ⊕ (Except (Nat × XT) (Int32 × XT))) :=
  if (gi S.2.2.2.2.1 0 12 0) < (20000 : Int32) then
    obind (sX7_passHours S.2.2.2.2.1 (1 : Int32)) fun r21 =>
    olet (y1 + (1 : Int32)) fun v24 =>
    some (.inl (k0, v24, (S.1, S.2.1, S.2.2.1, S.2.2.2.1, r21, S.2.2.2.2.2.1, S.2.2.2.2.2.2)))
  else
    oinr (
    some (.ok (((-1 : Int32), S))))
set_option maxRecDepth 100000 in
theorem dX9_readyAt_j55 {g : AG} {h0 : AH} {S : XT} {Q : AO → AH → Prop} {B : Nat} {p1 : Int32} {p2 : Int32} {k0 : Nat} {y1 : Int32} (hB : gB g ≤ B) (hst : Sta g h0)  (hk0 : iok k0) {r : ((Nat × Int32 × XT) ⊕ (Except (Nat × XT) (Int32 × XT)))} (hs : sX9_readyAt_j55 S B p1 p2 k0 y1 = some r) (hc : ∀ a : (Nat × Int32 × XT), r = .inl a → iok a.1 → AW g MX9_readyAt 28 [none, none, some (.int (p2)), some (.ref ((B + 59))), some (.ref ((B + 59) + 20 + 2 * a.1)), some (.int (a.2.1))] [] (xh (bw h0 B a.2.2.1 a.2.2.2.2.1 a.2.2.2.2.2.2.2.2) B a.2.2.2.1 a.2.2.2.2.1 a.2.2.2.2.2.1 a.2.2.2.2.2.2.1 a.2.2.2.2.2.2.2.1) Q) (he : ∀ z : (Except (Nat × XT) (Int32 × XT)), r = .inr z → (∀ v : (Int32 × XT), z = .ok v → Q (.ok (some (.int v.1))) (xh (bw h0 B v.2.1 v.2.2.2.1 v.2.2.2.2.2.2.2) B v.2.2.1 v.2.2.2.1 v.2.2.2.2.1 v.2.2.2.2.2.1 v.2.2.2.2.2.2.1)) ∧ (∀ e : (Nat × XT), z = .error e → ∀ z, e.2.1.1 ≤ z → z ≤ e.2.1.1 + 1 → Q (.error e.1) (xh (bw h0 B (z, e.2.1.2.1 - 1, e.2.1.2.2 - 6) e.2.2.2.1 e.2.2.2.2.2.2.2) B e.2.2.1 e.2.2.2.1 e.2.2.2.2.1 e.2.2.2.2.2.1 e.2.2.2.2.2.2.1))) : AW g MX9_readyAt 55 [none, none, some (.int (p2)), some (.ref ((B + 59))), some (.ref ((B + 59) + 20 + 2 * k0)), some (.int (y1))] [] (xh (bw h0 B S.1 S.2.2.1 S.2.2.2.2.2.2) B S.2.1 S.2.2.1 S.2.2.2.1 S.2.2.2.2.1 S.2.2.2.2.2.1) Q := by
  unfold sX9_readyAt_j55 at hs
  refine AW.aload_n (z := 3) (am_r 28 rfl) rfl rfl ?_
  refine AW.getO (am_r 29 rfl) rfl klX7 (k := 12) (by omega) q253 (xc_get (fun _ => sb_st)) rfl ?_
  refine AW.sipush (am_r 30 rfl) rfl cs_20000 ?_
  refine AW.icmp_lt (tg := 67) (am_r 31 rfl) rfl rfl (fun hc20 => ?_) (fun hc20 => ?_)
  · replace hs := (if_pos hc20).symm.trans hs
    refine AW.aload_n (z := 3) (am_r 34 rfl) rfl rfl ?_
    refine AW.iconst (am_r 35 rfl) rfl ci_1 ?_
    refine obind_e hs (fun r21 hg23 hs => ?_)
    refine AW.callV (N := MX7_passHours) (As := [.int ((1 : Int32))]) (S := []) (L0 := [some (.ref ((B + 59))), some (.int ((1 : Int32))), none, none]) (b := (B + 59)) (am_r 36 rfl) rfl ovX7_passHours q857 rfl rfl (xc_get (fun _ => sb_st)) rfl rfl rfl rfl (AW.heq xh_c (dX7_passHours (Nat.le_trans hB (by omega))  hg23 (cQ_v (AW.heq xh_c.symm ?_))))
    refine AW.iinc (v := y1 + (1 : Int32)) (L' := [none, none, some (.int (p2)), some (.ref ((B + 59))), some (.ref ((B + 59) + 20 + 2 * k0)), some (.int (y1 + (1 : Int32)))]) (am_r 37 rfl) rfl (Nat.le_of_ble_eq_true rfl) rfl (congrArg (fun z => y1 + z) ci_1) rfl ?_
    refine olet_e (P := fun (y : Int32) => AW g MX9_readyAt 75 [none, none, some (.int (p2)), some (.ref ((B + 59))), some (.ref ((B + 59) + 20 + 2 * k0)), some (.int (y))] [] (xh (bw h0 B S.1 S.2.2.1 S.2.2.2.2.2.2) B S.2.1 S.2.2.1 S.2.2.2.1 r21 S.2.2.2.2.2.1) Q) hs (fun v24 hs => ?_)
    refine AW.goto (tg := 28) (am_r 38 rfl) rfl ?_
    have hr := (Option.some.inj hs).symm
    exact xt_c (S := (S.1, S.2.1, S.2.2.1, S.2.2.2.1, r21, S.2.2.2.2.2.1, S.2.2.2.2.2.2)) rfl (hc (k0, v24, (S.1, S.2.1, S.2.2.1, S.2.2.2.1, r21, S.2.2.2.2.2.1, S.2.2.2.2.2.2)) hr hk0)
  · replace hs := (if_neg hc20).symm.trans hs
    refine oinr_e hs (fun z25 hz26 hs => ?_)
    have hQ := he _ hz26
    refine AW.iconst (am_r 32 rfl) rfl ci_m1 ?_
    have hr := (Option.some.inj hs).symm
    exact AW.iret (am_r 33 rfl) rfl (xt_q1 (f := fun v => .ok (some (.int v))) (r := ((-1 : Int32), S)) rfl (hQ.1 ((-1 : Int32), S) hr))
noncomputable def sX9_readyAt_l28_step  (B : Nat) (p1 : Int32) (p2 : Int32) (a : (Nat × Int32 × XT)) : Option ((Nat × Int32 × XT) ⊕ (Except (Nat × XT) (Int32 × XT))) :=
  if p2 < a.2.1 then
    oinr (
    some (.ok (((-1 : Int32), a.2.2))))
  else
    if (gi a.2.2.2.2.2.2.1 3 5 a.1) = 0 then
      if (gi a.2.2.2.2.2.2.1 3 7 a.1) = 0 then
        oinr (
        some (.ok ((gi a.2.2.2.2.2.2.1 0 12 0, a.2.2))))
      else
        sX9_readyAt_j55 a.2.2 B p1 p2 a.1 a.2.1
    else
      sX9_readyAt_j55 a.2.2 B p1 p2 a.1 a.2.1
noncomputable def sX9_readyAt_l28  (B : Nat) (p1 : Int32) (p2 : Int32) (a : (Nat × Int32 × XT)) : Option (Except (Nat × XT) (Int32 × XT)) := itw (sX9_readyAt_l28_step  B p1 p2) a
set_option maxRecDepth 100000 in
theorem dX9_readyAt_l28 {g : AG} {h0 : AH} {Q : AO → AH → Prop} {B : Nat} {p1 : Int32} {p2 : Int32} (hB : gB g ≤ B) (hst : Sta g h0)  {a : (Nat × Int32 × XT)} (hk0 : iok a.1) {r : (Except (Nat × XT) (Int32 × XT))} (hs : sX9_readyAt_l28  B p1 p2 a = some r) (hQ : (∀ v : (Int32 × XT), r = .ok v → Q (.ok (some (.int v.1))) (xh (bw h0 B v.2.1 v.2.2.2.1 v.2.2.2.2.2.2.2) B v.2.2.1 v.2.2.2.1 v.2.2.2.2.1 v.2.2.2.2.2.1 v.2.2.2.2.2.2.1)) ∧ (∀ e : (Nat × XT), r = .error e → ∀ z, e.2.1.1 ≤ z → z ≤ e.2.1.1 + 1 → Q (.error e.1) (xh (bw h0 B (z, e.2.1.2.1 - 1, e.2.1.2.2 - 6) e.2.2.2.1 e.2.2.2.2.2.2.2) B e.2.2.1 e.2.2.2.1 e.2.2.2.2.1 e.2.2.2.2.2.1 e.2.2.2.2.2.2.1))) : AW g MX9_readyAt 28 [none, none, some (.int (p2)), some (.ref ((B + 59))), some (.ref ((B + 59) + 20 + 2 * a.1)), some (.int (a.2.1))] [] (xh (bw h0 B a.2.2.1 a.2.2.2.2.1 a.2.2.2.2.2.2.2.2) B a.2.2.2.1 a.2.2.2.2.1 a.2.2.2.2.2.1 a.2.2.2.2.2.2.1 a.2.2.2.2.2.2.2.1) Q := by
  refine itw_e (a := a) (b := r) (P := fun (a : (Nat × Int32 × XT)) => iok a.1 → AW g MX9_readyAt 28 [none, none, some (.int (p2)), some (.ref ((B + 59))), some (.ref ((B + 59) + 20 + 2 * a.1)), some (.int (a.2.1))] [] (xh (bw h0 B a.2.2.1 a.2.2.2.2.1 a.2.2.2.2.2.2.2.2) B a.2.2.2.1 a.2.2.2.2.1 a.2.2.2.2.2.1 a.2.2.2.2.2.2.1 a.2.2.2.2.2.2.2.1) Q) (Post := fun r => (∀ v : (Int32 × XT), r = .ok v → Q (.ok (some (.int v.1))) (xh (bw h0 B v.2.1 v.2.2.2.1 v.2.2.2.2.2.2.2) B v.2.2.1 v.2.2.2.1 v.2.2.2.2.1 v.2.2.2.2.2.1 v.2.2.2.2.2.2.1)) ∧ (∀ e : (Nat × XT), r = .error e → ∀ z, e.2.1.1 ≤ z → z ≤ e.2.1.1 + 1 → Q (.error e.1) (xh (bw h0 B (z, e.2.1.2.1 - 1, e.2.1.2.2 - 6) e.2.2.2.1 e.2.2.2.2.2.2.2) B e.2.2.1 e.2.2.2.1 e.2.2.2.2.1 e.2.2.2.2.2.1 e.2.2.2.2.2.2.1))) (fun a r hs hc he hk0 => ?_) hs hQ hk0
  unfold sX9_readyAt_l28_step at hs
  refine AW.iload (am_r 16 rfl) rfl rfl ?_
  refine AW.iload_n (z := 2) (am_r 17 rfl) rfl rfl ?_
  refine AW.icmp_gt (tg := 78) (am_r 18 rfl) rfl rfl (fun hc16 => ?_) (fun hc16 => ?_)
  · replace hs := (if_pos hc16).symm.trans hs
    refine oinr_e hs (fun z17 hz18 hs => ?_)
    have hQ := he _ hz18
    refine AW.iconst (am_r 39 rfl) rfl ci_m1 ?_
    have hr := (Option.some.inj hs).symm
    exact AW.iret (am_r 40 rfl) rfl (xt_q1 (f := fun v => .ok (some (.int v))) (r := ((-1 : Int32), a.2.2)) rfl (hQ.1 ((-1 : Int32), a.2.2) hr))
  · replace hs := (if_neg hc16).symm.trans hs
    refine AW.aload (am_r 19 rfl) rfl rfl ?_
    refine AW.getO (am_r 20 rfl) rfl klX2 (k := 5) (by omega) q134 (xc_get (fun _ => (sb_it hk0))) rfl ?_
    refine AW.if_ne (tg := 55) (am_r 21 rfl) rfl rfl (fun hc19 => ?_) (fun hc19 => ?_)
    · replace hs := (if_neg hc19).symm.trans hs
      exact dX9_readyAt_j55 hB hst  hk0 hs hc he
    · replace hs := (if_pos hc19).symm.trans hs
      refine AW.aload (am_r 22 rfl) rfl rfl ?_
      refine AW.getO (am_r 23 rfl) rfl klX2 (k := 7) (by omega) q140 (xc_get (fun _ => (sb_it hk0))) rfl ?_
      refine AW.if_ne (tg := 55) (am_r 24 rfl) rfl rfl (fun hc27 => ?_) (fun hc27 => ?_)
      · replace hs := (if_neg hc27).symm.trans hs
        exact dX9_readyAt_j55 hB hst  hk0 hs hc he
      · replace hs := (if_pos hc27).symm.trans hs
        refine oinr_e hs (fun z28 hz29 hs => ?_)
        have hQ := he _ hz29
        refine AW.aload_n (z := 3) (am_r 25 rfl) rfl rfl ?_
        refine AW.getO (am_r 26 rfl) rfl klX7 (k := 12) (by omega) q253 (xc_get (fun _ => sb_st)) rfl ?_
        have hr := (Option.some.inj hs).symm
        exact AW.iret (am_r 27 rfl) rfl (xt_q1 (f := fun v => .ok (some (.int v))) (r := (gi a.2.2.2.2.2.2.1 0 12 0, a.2.2)) rfl (hQ.1 (gi a.2.2.2.2.2.2.1 0 12 0, a.2.2) hr))
noncomputable def sX9_readyAt (S : XT) (B : Nat) (p1 : Int32) (p2 : Int32) : Option (Except (Nat × XT) (Int32 × XT)) :=
  oexc (sX9_requireObject S B p1) (fun e => (e, S)) fun w5 =>
  oexc (sX9_requireBetween S B p2 (1 : Int32) (500 : Int32)) (fun e => (e, S)) fun w10 =>
  obind (sX9_startForecast S B) fun r11 =>
  sX9_readyAt_l28  B p1 p2 (sX7_itemAt r11.2.2.2.2.2.1 p1, (0 : Int32), r11.2)
set_option maxRecDepth 100000 in
theorem dX9_readyAt {g : AG} {h0 : AH} {S : XT} {Q : AO → AH → Prop} {B : Nat} {p1 : Int32} {p2 : Int32} (hB : gB g ≤ B) (hst : Sta g h0)  {r : (Except (Nat × XT) (Int32 × XT))} (hs : sX9_readyAt S B p1 p2 = some r) (hQ : (∀ v : (Int32 × XT), r = .ok v → Q (.ok (some (.int v.1))) (xh (bw h0 B v.2.1 v.2.2.2.1 v.2.2.2.2.2.2.2) B v.2.2.1 v.2.2.2.1 v.2.2.2.2.1 v.2.2.2.2.2.1 v.2.2.2.2.2.2.1)) ∧ (∀ e : (Nat × XT), r = .error e → ∀ z, e.2.1.1 ≤ z → z ≤ e.2.1.1 + 1 → Q (.error e.1) (xh (bw h0 B (z, e.2.1.2.1 - 1, e.2.1.2.2 - 6) e.2.2.2.1 e.2.2.2.2.2.2.2) B e.2.2.1 e.2.2.2.1 e.2.2.2.2.1 e.2.2.2.2.2.1 e.2.2.2.2.2.2.1))) : AW g MX9_readyAt 0 [some (.ref (B)), some (.int (p1)), some (.int (p2)), none, none, none] [] (xh (bw h0 B S.1 S.2.2.1 S.2.2.2.2.2.2) B S.2.1 S.2.2.1 S.2.2.2.1 S.2.2.2.2.1 S.2.2.2.2.2.1) Q := by
  unfold sX9_readyAt at hs
  refine AW.aload_n (z := 0) (am_r 0 rfl) rfl rfl ?_
  refine AW.iload_n (z := 1) (am_r 1 rfl) rfl rfl ?_
  refine oexc_e hs (fun r1 hg3 hs => ?_)
  refine AW.callV (N := MX9_requireObject) (As := [.int (p1)]) (S := []) (L0 := [some (.ref (B)), some (.int (p1))]) (b := B) (am_r 2 rfl) rfl ovX9_requireObject q952 rfl rfl xh_0 rfl rfl rfl rfl (dX9_requireObject hB hst  hg3 ⟨fun w5 hv4 => ?_, fun e hv4 z h1 h2 => ?_⟩)
  · subst hv4
    refine (cQ_v ?_)
    refine AW.iload_n (z := 2) (am_r 3 rfl) rfl rfl ?_
    refine AW.iconst (am_r 4 rfl) rfl ci_1 ?_
    refine AW.sipush (am_r 5 rfl) rfl cs_500 ?_
    refine oexc_e hs (fun r6 hg8 hs => ?_)
    refine AW.callS (N := MX9_requireBetween) (As := [.int (p2), .int ((1 : Int32)), .int ((500 : Int32))]) (S := []) (L0 := [some (.int (p2)), some (.int ((1 : Int32))), some (.int ((500 : Int32)))]) (am_r 6 rfl) rfl osX9_requireBetween q777 rfl rfl rfl rfl rfl (dX9_requireBetween hB hst  hg8 ⟨fun w10 hv9 => ?_, fun e hv9 z h1 h2 => ?_⟩)
    · subst hv9
      refine (cQ_v ?_)
      refine AW.aload_n (z := 0) (am_r 7 rfl) rfl rfl ?_
      refine obind_e hs (fun r11 hg13 hs => ?_)
      refine AW.callV (N := MX9_startForecast) (As := []) (S := []) (L0 := [some (.ref (B))]) (b := B) (am_r 8 rfl) rfl ovX9_startForecast q1369 rfl rfl xh_0 rfl rfl rfl rfl (dX9_startForecast hB hst  hg13 (cQ_r ?_))
      refine AW.astore_n (L' := [some (.ref (B)), some (.int (p1)), some (.int (p2)), some (.ref ((B + 59))), none, none]) (z := 3) (am_r 9 rfl) rfl (Nat.le_of_ble_eq_true rfl) rfl ?_
      refine AW.aload_n (z := 3) (am_r 10 rfl) rfl rfl ?_
      refine AW.iload_n (z := 1) (am_r 11 rfl) rfl rfl ?_
      refine AW.callV (N := MX7_itemAt) (As := [.int (p1)]) (S := []) (L0 := [some (.ref ((B + 59))), some (.int (p1))]) (b := (B + 59)) (am_r 12 rfl) rfl ovX7_itemAt q721 rfl rfl (xc_get (fun _ => sb_st)) rfl rfl rfl rfl (AW.heq xh_c (dX7_itemAt (Nat.le_trans hB (by omega))  rfl (fun hok15 => (cQ_r (AW.heq xh_c.symm ?_)))))
      refine AW.astore (L' := [some (.ref (B)), some (.int (p1)), some (.int (p2)), some (.ref ((B + 59))), some (.ref ((B + 59) + 20 + 2 * (sX7_itemAt r11.2.2.2.2.2.1 p1))), none]) (am_r 13 rfl) rfl (Nat.le_of_ble_eq_true rfl) rfl ?_
      refine AW.iconst (am_r 14 rfl) rfl ci_0 ?_
      refine AW.istore (L' := [some (.ref (B)), some (.int (p1)), some (.int (p2)), some (.ref ((B + 59))), some (.ref ((B + 59) + 20 + 2 * (sX7_itemAt r11.2.2.2.2.2.1 p1))), some (.int ((0 : Int32)))]) (am_r 15 rfl) rfl (Nat.le_of_ble_eq_true rfl) rfl ?_
      refine AW.lessL (L' := [none, none, some (.int (p2)), some (.ref ((B + 59))), some (.ref ((B + 59) + 20 + 2 * (sX7_itemAt r11.2.2.2.2.2.1 p1))), some (.int ((0 : Int32)))]) ⟨rfl, rfl, rfl, rfl, trivial⟩ ?_
      exact dX9_readyAt_l28 (a := (sX7_itemAt r11.2.2.2.2.2.1 p1, (0 : Int32), r11.2)) hB hst  hok15 hs hQ
    · subst hv9
      have hr := (Option.some.inj hs).symm
      exact cQ_x (AX.out rfl (hQ.2 _ hr z h1 h2))
  · subst hv4
    have hr := (Option.some.inj hs).symm
    exact cQ_x (AX.out rfl (hQ.2 _ hr z h1 h2))
noncomputable def sX9_scoreIn (S : XT) (B : Nat) (p1 : Int32) (p2 : Int32) : Option (Except (Nat × XT) (Int32 × XT)) :=
  oexc (sX9_requireObject S B p1) (fun e => (e, S)) fun w5 =>
  oexc (sX9_requireBetween S B p2 (1 : Int32) (500 : Int32)) (fun e => (e, S)) fun w10 =>
  obind (sX9_startForecast S B) fun r11 =>
  obind (sX7_passHours r11.2.2.2.2.2.1 p2) fun r14 =>
  some (.ok ((gi r14 3 3 (sX7_itemAt r14 p1), (r11.2.1, r11.2.2.1, r11.2.2.2.1, r11.2.2.2.2.1, r14, r11.2.2.2.2.2.2.1, r11.2.2.2.2.2.2.2))))
set_option maxRecDepth 100000 in
theorem dX9_scoreIn {g : AG} {h0 : AH} {S : XT} {Q : AO → AH → Prop} {B : Nat} {p1 : Int32} {p2 : Int32} (hB : gB g ≤ B) (hst : Sta g h0)  {r : (Except (Nat × XT) (Int32 × XT))} (hs : sX9_scoreIn S B p1 p2 = some r) (hQ : (∀ v : (Int32 × XT), r = .ok v → Q (.ok (some (.int v.1))) (xh (bw h0 B v.2.1 v.2.2.2.1 v.2.2.2.2.2.2.2) B v.2.2.1 v.2.2.2.1 v.2.2.2.2.1 v.2.2.2.2.2.1 v.2.2.2.2.2.2.1)) ∧ (∀ e : (Nat × XT), r = .error e → ∀ z, e.2.1.1 ≤ z → z ≤ e.2.1.1 + 1 → Q (.error e.1) (xh (bw h0 B (z, e.2.1.2.1 - 1, e.2.1.2.2 - 6) e.2.2.2.1 e.2.2.2.2.2.2.2) B e.2.2.1 e.2.2.2.1 e.2.2.2.2.1 e.2.2.2.2.2.1 e.2.2.2.2.2.2.1))) : AW g MX9_scoreIn 0 [some (.ref (B)), some (.int (p1)), some (.int (p2)), none] [] (xh (bw h0 B S.1 S.2.2.1 S.2.2.2.2.2.2) B S.2.1 S.2.2.1 S.2.2.2.1 S.2.2.2.2.1 S.2.2.2.2.2.1) Q := by
  unfold sX9_scoreIn at hs
  refine AW.aload_n (z := 0) (am_r 0 rfl) rfl rfl ?_
  refine AW.iload_n (z := 1) (am_r 1 rfl) rfl rfl ?_
  refine oexc_e hs (fun r1 hg3 hs => ?_)
  refine AW.callV (N := MX9_requireObject) (As := [.int (p1)]) (S := []) (L0 := [some (.ref (B)), some (.int (p1))]) (b := B) (am_r 2 rfl) rfl ovX9_requireObject q952 rfl rfl xh_0 rfl rfl rfl rfl (dX9_requireObject hB hst  hg3 ⟨fun w5 hv4 => ?_, fun e hv4 z h1 h2 => ?_⟩)
  · subst hv4
    refine (cQ_v ?_)
    refine AW.iload_n (z := 2) (am_r 3 rfl) rfl rfl ?_
    refine AW.iconst (am_r 4 rfl) rfl ci_1 ?_
    refine AW.sipush (am_r 5 rfl) rfl cs_500 ?_
    refine oexc_e hs (fun r6 hg8 hs => ?_)
    refine AW.callS (N := MX9_requireBetween) (As := [.int (p2), .int ((1 : Int32)), .int ((500 : Int32))]) (S := []) (L0 := [some (.int (p2)), some (.int ((1 : Int32))), some (.int ((500 : Int32)))]) (am_r 6 rfl) rfl osX9_requireBetween q777 rfl rfl rfl rfl rfl (dX9_requireBetween hB hst  hg8 ⟨fun w10 hv9 => ?_, fun e hv9 z h1 h2 => ?_⟩)
    · subst hv9
      refine (cQ_v ?_)
      refine AW.aload_n (z := 0) (am_r 7 rfl) rfl rfl ?_
      refine obind_e hs (fun r11 hg13 hs => ?_)
      refine AW.callV (N := MX9_startForecast) (As := []) (S := []) (L0 := [some (.ref (B))]) (b := B) (am_r 8 rfl) rfl ovX9_startForecast q1369 rfl rfl xh_0 rfl rfl rfl rfl (dX9_startForecast hB hst  hg13 (cQ_r ?_))
      refine AW.astore_n (L' := [some (.ref (B)), some (.int (p1)), some (.int (p2)), some (.ref ((B + 59)))]) (z := 3) (am_r 9 rfl) rfl (Nat.le_of_ble_eq_true rfl) rfl ?_
      refine AW.aload_n (z := 3) (am_r 10 rfl) rfl rfl ?_
      refine AW.iload_n (z := 2) (am_r 11 rfl) rfl rfl ?_
      refine obind_e hs (fun r14 hg16 hs => ?_)
      refine AW.callV (N := MX7_passHours) (As := [.int (p2)]) (S := []) (L0 := [some (.ref ((B + 59))), some (.int (p2)), none, none]) (b := (B + 59)) (am_r 12 rfl) rfl ovX7_passHours q857 rfl rfl (xc_get (fun _ => sb_st)) rfl rfl rfl rfl (AW.heq xh_c (dX7_passHours (Nat.le_trans hB (by omega))  hg16 (cQ_v (AW.heq xh_c.symm ?_))))
      refine AW.aload_n (z := 3) (am_r 13 rfl) rfl rfl ?_
      refine AW.iload_n (z := 1) (am_r 14 rfl) rfl rfl ?_
      refine AW.callV (N := MX7_itemAt) (As := [.int (p1)]) (S := []) (L0 := [some (.ref ((B + 59))), some (.int (p1))]) (b := (B + 59)) (am_r 15 rfl) rfl ovX7_itemAt q721 rfl rfl (xc_get (fun _ => sb_st)) rfl rfl rfl rfl (AW.heq xh_c (dX7_itemAt (Nat.le_trans hB (by omega))  rfl (fun hok18 => (cQ_r (AW.heq xh_c.symm ?_)))))
      refine AW.getO (am_r 16 rfl) rfl klX2 (k := 3) (by omega) q128 (xc_get (fun _ => (sb_it hok18))) rfl ?_
      have hr := (Option.some.inj hs).symm
      exact AW.iret (am_r 17 rfl) rfl (xt_q1 (f := fun v => .ok (some (.int v))) (r := (gi r14 3 3 (sX7_itemAt r14 p1), (r11.2.1, r11.2.2.1, r11.2.2.2.1, r11.2.2.2.2.1, r14, r11.2.2.2.2.2.2.1, r11.2.2.2.2.2.2.2))) rfl (hQ.1 (gi r14 3 3 (sX7_itemAt r14 p1), (r11.2.1, r11.2.2.1, r11.2.2.2.1, r11.2.2.2.2.1, r14, r11.2.2.2.2.2.2.1, r11.2.2.2.2.2.2.2)) hr))
    · subst hv9
      have hr := (Option.some.inj hs).symm
      exact cQ_x (AX.out rfl (hQ.2 _ hr z h1 h2))
  · subst hv4
    have hr := (Option.some.inj hs).symm
    exact cQ_x (AX.out rfl (hQ.2 _ hr z h1 h2))
noncomputable def sX9_lentIn (S : XT) (B : Nat) (p1 : Int32) : Option (Except (Nat × XT) (Int32 × XT)) :=
  oexc (sX9_requireBetween S B p1 (1 : Int32) (500 : Int32)) (fun e => (e, S)) fun w5 =>
  obind (sX9_startForecast S B) fun r6 =>
  obind (sX7_passHours r6.2.2.2.2.2.1 p1) fun r9 =>
  obind (sX7_itemsIn r9 (4 : Int32)) fun r12 =>
  some (.ok ((r12, (r6.2.1, r6.2.2.1, r6.2.2.2.1, r6.2.2.2.2.1, r9, r6.2.2.2.2.2.2.1, r6.2.2.2.2.2.2.2))))
set_option maxRecDepth 100000 in
theorem dX9_lentIn {g : AG} {h0 : AH} {S : XT} {Q : AO → AH → Prop} {B : Nat} {p1 : Int32} (hB : gB g ≤ B) (hst : Sta g h0)  {r : (Except (Nat × XT) (Int32 × XT))} (hs : sX9_lentIn S B p1 = some r) (hQ : (∀ v : (Int32 × XT), r = .ok v → Q (.ok (some (.int v.1))) (xh (bw h0 B v.2.1 v.2.2.2.1 v.2.2.2.2.2.2.2) B v.2.2.1 v.2.2.2.1 v.2.2.2.2.1 v.2.2.2.2.2.1 v.2.2.2.2.2.2.1)) ∧ (∀ e : (Nat × XT), r = .error e → ∀ z, e.2.1.1 ≤ z → z ≤ e.2.1.1 + 1 → Q (.error e.1) (xh (bw h0 B (z, e.2.1.2.1 - 1, e.2.1.2.2 - 6) e.2.2.2.1 e.2.2.2.2.2.2.2) B e.2.2.1 e.2.2.2.1 e.2.2.2.2.1 e.2.2.2.2.2.1 e.2.2.2.2.2.2.1))) : AW g MX9_lentIn 0 [some (.ref (B)), some (.int (p1)), none] [] (xh (bw h0 B S.1 S.2.2.1 S.2.2.2.2.2.2) B S.2.1 S.2.2.1 S.2.2.2.1 S.2.2.2.2.1 S.2.2.2.2.2.1) Q := by
  unfold sX9_lentIn at hs
  refine AW.iload_n (z := 1) (am_r 0 rfl) rfl rfl ?_
  refine AW.iconst (am_r 1 rfl) rfl ci_1 ?_
  refine AW.sipush (am_r 2 rfl) rfl cs_500 ?_
  refine oexc_e hs (fun r1 hg3 hs => ?_)
  refine AW.callS (N := MX9_requireBetween) (As := [.int (p1), .int ((1 : Int32)), .int ((500 : Int32))]) (S := []) (L0 := [some (.int (p1)), some (.int ((1 : Int32))), some (.int ((500 : Int32)))]) (am_r 3 rfl) rfl osX9_requireBetween q777 rfl rfl rfl rfl rfl (dX9_requireBetween hB hst  hg3 ⟨fun w5 hv4 => ?_, fun e hv4 z h1 h2 => ?_⟩)
  · subst hv4
    refine (cQ_v ?_)
    refine AW.aload_n (z := 0) (am_r 4 rfl) rfl rfl ?_
    refine obind_e hs (fun r6 hg8 hs => ?_)
    refine AW.callV (N := MX9_startForecast) (As := []) (S := []) (L0 := [some (.ref (B))]) (b := B) (am_r 5 rfl) rfl ovX9_startForecast q1369 rfl rfl xh_0 rfl rfl rfl rfl (dX9_startForecast hB hst  hg8 (cQ_r ?_))
    refine AW.astore_n (L' := [some (.ref (B)), some (.int (p1)), some (.ref ((B + 59)))]) (z := 2) (am_r 6 rfl) rfl (Nat.le_of_ble_eq_true rfl) rfl ?_
    refine AW.aload_n (z := 2) (am_r 7 rfl) rfl rfl ?_
    refine AW.iload_n (z := 1) (am_r 8 rfl) rfl rfl ?_
    refine obind_e hs (fun r9 hg11 hs => ?_)
    refine AW.callV (N := MX7_passHours) (As := [.int (p1)]) (S := []) (L0 := [some (.ref ((B + 59))), some (.int (p1)), none, none]) (b := (B + 59)) (am_r 9 rfl) rfl ovX7_passHours q857 rfl rfl (xc_get (fun _ => sb_st)) rfl rfl rfl rfl (AW.heq xh_c (dX7_passHours (Nat.le_trans hB (by omega))  hg11 (cQ_v (AW.heq xh_c.symm ?_))))
    refine AW.aload_n (z := 2) (am_r 10 rfl) rfl rfl ?_
    refine AW.iconst (am_r 11 rfl) rfl ci_4 ?_
    refine obind_e hs (fun r12 hg14 hs => ?_)
    refine AW.callV (N := MX7_itemsIn) (As := [.int ((4 : Int32))]) (S := []) (L0 := [some (.ref ((B + 59))), some (.int ((4 : Int32))), none, none]) (b := (B + 59)) (am_r 12 rfl) rfl ovX7_itemsIn q1387 rfl rfl (xc_get (fun _ => sb_st)) rfl rfl rfl rfl (AW.heq xh_c (dX7_itemsIn (Nat.le_trans hB (by omega))  hg14 (cQ_r (AW.heq xh_c.symm ?_))))
    have hr := (Option.some.inj hs).symm
    exact AW.iret (am_r 13 rfl) rfl (xt_q1 (f := fun v => .ok (some (.int v))) (r := (r12, (r6.2.1, r6.2.2.1, r6.2.2.2.1, r6.2.2.2.2.1, r9, r6.2.2.2.2.2.2.1, r6.2.2.2.2.2.2.2))) rfl (hQ.1 (r12, (r6.2.1, r6.2.2.1, r6.2.2.2.1, r6.2.2.2.2.1, r9, r6.2.2.2.2.2.2.1, r6.2.2.2.2.2.2.2)) hr))
  · subst hv4
    have hr := (Option.some.inj hs).symm
    exact cQ_x (AX.out rfl (hQ.2 _ hr z h1 h2))
noncomputable def sX9_bestBenches_l15_step  (B : Nat) (p1 : Int32) (a : (Int32 × Int32 × Int32 × XT)) : Option ((Int32 × Int32 × Int32 × XT) ⊕ (Except (Nat × XT) (Int32 × XT))) :=
  if (4 : Int32) < a.2.2.1 then
    oinr (
    some (.ok ((a.1, a.2.2.2))))
  else
    obind (sX9_startForecast a.2.2.2 B) fun r9 =>
    olet (si r9.2.2.2.2.2.1 0 10 0 (a.2.2.1)) fun S12 =>
    obind (sX7_passHours S12 p1) fun r13 =>
    if (gi r13 0 13 0) ≤ a.2.1 then
      olet (a.2.2.1 + (1 : Int32)) fun v17 =>
      some (.inl (a.1, a.2.1, v17, (r9.2.1, r9.2.2.1, r9.2.2.2.1, r9.2.2.2.2.1, r13, r9.2.2.2.2.2.2.1, r9.2.2.2.2.2.2.2)))
    else
      olet (a.2.2.1 + (1 : Int32)) fun v18 =>
      some (.inl (a.2.2.1, gi r13 0 13 0, v18, (r9.2.1, r9.2.2.1, r9.2.2.2.1, r9.2.2.2.2.1, r13, r9.2.2.2.2.2.2.1, r9.2.2.2.2.2.2.2)))
noncomputable def sX9_bestBenches_l15  (B : Nat) (p1 : Int32) (a : (Int32 × Int32 × Int32 × XT)) : Option (Except (Nat × XT) (Int32 × XT)) := itw (sX9_bestBenches_l15_step  B p1) a
set_option maxRecDepth 100000 in
theorem dX9_bestBenches_l15 {g : AG} {h0 : AH} {Q : AO → AH → Prop} {B : Nat} {p1 : Int32} (hB : gB g ≤ B) (hst : Sta g h0)  {a : (Int32 × Int32 × Int32 × XT)}  {r : (Except (Nat × XT) (Int32 × XT))} (hs : sX9_bestBenches_l15  B p1 a = some r) (hQ : (∀ v : (Int32 × XT), r = .ok v → Q (.ok (some (.int v.1))) (xh (bw h0 B v.2.1 v.2.2.2.1 v.2.2.2.2.2.2.2) B v.2.2.1 v.2.2.2.1 v.2.2.2.2.1 v.2.2.2.2.2.1 v.2.2.2.2.2.2.1)) ∧ (∀ e : (Nat × XT), r = .error e → ∀ z, e.2.1.1 ≤ z → z ≤ e.2.1.1 + 1 → Q (.error e.1) (xh (bw h0 B (z, e.2.1.2.1 - 1, e.2.1.2.2 - 6) e.2.2.2.1 e.2.2.2.2.2.2.2) B e.2.2.1 e.2.2.2.1 e.2.2.2.2.1 e.2.2.2.2.2.1 e.2.2.2.2.2.2.1))) : AW g MX9_bestBenches 15 [some (.ref (B)), some (.int (p1)), some (.int (a.1)), some (.int (a.2.1)), some (.int (a.2.2.1)), none] [] (xh (bw h0 B a.2.2.2.1 a.2.2.2.2.2.1 a.2.2.2.2.2.2.2.2.2) B a.2.2.2.2.1 a.2.2.2.2.2.1 a.2.2.2.2.2.2.1 a.2.2.2.2.2.2.2.1 a.2.2.2.2.2.2.2.2.1) Q := by
  refine itw_e (a := a) (b := r) (P := fun (a : (Int32 × Int32 × Int32 × XT)) => AW g MX9_bestBenches 15 [some (.ref (B)), some (.int (p1)), some (.int (a.1)), some (.int (a.2.1)), some (.int (a.2.2.1)), none] [] (xh (bw h0 B a.2.2.2.1 a.2.2.2.2.2.1 a.2.2.2.2.2.2.2.2.2) B a.2.2.2.2.1 a.2.2.2.2.2.1 a.2.2.2.2.2.2.1 a.2.2.2.2.2.2.2.1 a.2.2.2.2.2.2.2.2.1) Q) (Post := fun r => (∀ v : (Int32 × XT), r = .ok v → Q (.ok (some (.int v.1))) (xh (bw h0 B v.2.1 v.2.2.2.1 v.2.2.2.2.2.2.2) B v.2.2.1 v.2.2.2.1 v.2.2.2.2.1 v.2.2.2.2.2.1 v.2.2.2.2.2.2.1)) ∧ (∀ e : (Nat × XT), r = .error e → ∀ z, e.2.1.1 ≤ z → z ≤ e.2.1.1 + 1 → Q (.error e.1) (xh (bw h0 B (z, e.2.1.2.1 - 1, e.2.1.2.2 - 6) e.2.2.2.1 e.2.2.2.2.2.2.2) B e.2.2.1 e.2.2.2.1 e.2.2.2.2.1 e.2.2.2.2.2.1 e.2.2.2.2.2.2.1))) (fun a r hs hc he  => ?_) hs hQ 
  unfold sX9_bestBenches_l15_step at hs
  refine AW.iload (am_r 10 rfl) rfl rfl ?_
  refine AW.iconst (am_r 11 rfl) rfl ci_4 ?_
  refine AW.icmp_gt (tg := 64) (am_r 12 rfl) rfl rfl (fun hc6 => ?_) (fun hc6 => ?_)
  · replace hs := (if_pos hc6).symm.trans hs
    refine oinr_e hs (fun z7 hz8 hs => ?_)
    have hQ := he _ hz8
    refine AW.iload_n (z := 2) (am_r 33 rfl) rfl rfl ?_
    have hr := (Option.some.inj hs).symm
    exact AW.iret (am_r 34 rfl) rfl (xt_q1 (f := fun v => .ok (some (.int v))) (r := (a.1, a.2.2.2)) rfl (hQ.1 (a.1, a.2.2.2) hr))
  · replace hs := (if_neg hc6).symm.trans hs
    refine AW.aload_n (z := 0) (am_r 13 rfl) rfl rfl ?_
    refine obind_e hs (fun r9 hg11 hs => ?_)
    refine AW.callV (N := MX9_startForecast) (As := []) (S := []) (L0 := [some (.ref (B))]) (b := B) (am_r 14 rfl) rfl ovX9_startForecast q1369 rfl rfl xh_0 rfl rfl rfl rfl (dX9_startForecast hB hst  hg11 (cQ_r ?_))
    refine AW.astore (L' := [some (.ref (B)), some (.int (p1)), some (.int (a.1)), some (.int (a.2.1)), some (.int (a.2.2.1)), some (.ref ((B + 59)))]) (am_r 15 rfl) rfl (Nat.le_of_ble_eq_true rfl) rfl ?_
    refine AW.aload (am_r 16 rfl) rfl rfl ?_
    refine AW.iload (am_r 17 rfl) rfl rfl ?_
    refine AW.putO (am_r 18 rfl) rfl klX7 (k := 10) (by omega) q247 (Or.inl rfl) (xc_get (fun _ => sb_st)) (Nat.le_trans hB (by omega)) rfl rfl (xc_put (fun _ => (sbp_st (by omega)))) ?_
    refine olet_e (P := fun y => AW g MX9_bestBenches 34 [some (.ref (B)), some (.int (p1)), some (.int (a.1)), some (.int (a.2.1)), some (.int (a.2.2.1)), some (.ref ((B + 59)))] [] (xh (bw h0 B r9.2.1 r9.2.2.2.1 r9.2.2.2.2.2.2.2) B r9.2.2.1 r9.2.2.2.1 r9.2.2.2.2.1 y r9.2.2.2.2.2.2.1) Q) hs (fun S12 hs => ?_)
    refine AW.aload (am_r 19 rfl) rfl rfl ?_
    refine AW.iload_n (z := 1) (am_r 20 rfl) rfl rfl ?_
    refine obind_e hs (fun r13 hg15 hs => ?_)
    refine AW.callV (N := MX7_passHours) (As := [.int (p1)]) (S := []) (L0 := [some (.ref ((B + 59))), some (.int (p1)), none, none]) (b := (B + 59)) (am_r 21 rfl) rfl ovX7_passHours q857 rfl rfl (xc_get (fun _ => sb_st)) rfl rfl rfl rfl (AW.heq xh_c (dX7_passHours (Nat.le_trans hB (by omega))  hg15 (cQ_v (AW.heq xh_c.symm ?_))))
    refine AW.aload (am_r 22 rfl) rfl rfl ?_
    refine AW.getO (am_r 23 rfl) rfl klX7 (k := 13) (by omega) q255 (xc_get (fun _ => sb_st)) rfl ?_
    refine AW.iload_n (z := 3) (am_r 24 rfl) rfl rfl ?_
    refine AW.icmp_le (tg := 58) (am_r 25 rfl) rfl rfl (fun hc16 => ?_) (fun hc16 => ?_)
    · replace hs := (if_pos hc16).symm.trans hs
      refine AW.iinc (v := a.2.2.1 + (1 : Int32)) (L' := [some (.ref (B)), some (.int (p1)), some (.int (a.1)), some (.int (a.2.1)), some (.int (a.2.2.1 + (1 : Int32))), some (.ref ((B + 59)))]) (am_r 31 rfl) rfl (Nat.le_of_ble_eq_true rfl) rfl (congrArg (fun z => a.2.2.1 + z) ci_1) rfl ?_
      refine olet_e (P := fun (y : Int32) => AW g MX9_bestBenches 61 [some (.ref (B)), some (.int (p1)), some (.int (a.1)), some (.int (a.2.1)), some (.int (y)), some (.ref ((B + 59)))] [] (xh (bw h0 B r9.2.1 r9.2.2.2.1 r9.2.2.2.2.2.2.2) B r9.2.2.1 r9.2.2.2.1 r9.2.2.2.2.1 r13 r9.2.2.2.2.2.2.1) Q) hs (fun v17 hs => ?_)
      refine AW.goto (tg := 15) (am_r 32 rfl) rfl ?_
      refine AW.lessL (L' := [some (.ref (B)), some (.int (p1)), some (.int (a.1)), some (.int (a.2.1)), some (.int (v17)), none]) ⟨rfl, rfl, rfl, rfl, rfl, trivial⟩ ?_
      have hr := (Option.some.inj hs).symm
      exact xt_c (S := (r9.2.1, r9.2.2.1, r9.2.2.2.1, r9.2.2.2.2.1, r13, r9.2.2.2.2.2.2.1, r9.2.2.2.2.2.2.2)) rfl (hc (a.1, a.2.1, v17, (r9.2.1, r9.2.2.1, r9.2.2.2.1, r9.2.2.2.2.1, r13, r9.2.2.2.2.2.2.1, r9.2.2.2.2.2.2.2)) hr )
    · replace hs := (if_neg hc16).symm.trans hs
      refine AW.iload (am_r 26 rfl) rfl rfl ?_
      refine AW.istore_n (L' := [some (.ref (B)), some (.int (p1)), some (.int (a.2.2.1)), some (.int (a.2.1)), some (.int (a.2.2.1)), some (.ref ((B + 59)))]) (z := 2) (am_r 27 rfl) rfl (Nat.le_of_ble_eq_true rfl) rfl ?_
      refine AW.aload (am_r 28 rfl) rfl rfl ?_
      refine AW.getO (am_r 29 rfl) rfl klX7 (k := 13) (by omega) q255 (xc_get (fun _ => sb_st)) rfl ?_
      refine AW.istore_n (L' := [some (.ref (B)), some (.int (p1)), some (.int (a.2.2.1)), some (.int (gi r13 0 13 0)), some (.int (a.2.2.1)), some (.ref ((B + 59)))]) (z := 3) (am_r 30 rfl) rfl (Nat.le_of_ble_eq_true rfl) rfl ?_
      refine AW.iinc (v := a.2.2.1 + (1 : Int32)) (L' := [some (.ref (B)), some (.int (p1)), some (.int (a.2.2.1)), some (.int (gi r13 0 13 0)), some (.int (a.2.2.1 + (1 : Int32))), some (.ref ((B + 59)))]) (am_r 31 rfl) rfl (Nat.le_of_ble_eq_true rfl) rfl (congrArg (fun z => a.2.2.1 + z) ci_1) rfl ?_
      refine olet_e (P := fun (y : Int32) => AW g MX9_bestBenches 61 [some (.ref (B)), some (.int (p1)), some (.int (a.2.2.1)), some (.int (gi r13 0 13 0)), some (.int (y)), some (.ref ((B + 59)))] [] (xh (bw h0 B r9.2.1 r9.2.2.2.1 r9.2.2.2.2.2.2.2) B r9.2.2.1 r9.2.2.2.1 r9.2.2.2.2.1 r13 r9.2.2.2.2.2.2.1) Q) hs (fun v18 hs => ?_)
      refine AW.goto (tg := 15) (am_r 32 rfl) rfl ?_
      refine AW.lessL (L' := [some (.ref (B)), some (.int (p1)), some (.int (a.2.2.1)), some (.int (gi r13 0 13 0)), some (.int (v18)), none]) ⟨rfl, rfl, rfl, rfl, rfl, trivial⟩ ?_
      have hr := (Option.some.inj hs).symm
      exact xt_c (S := (r9.2.1, r9.2.2.1, r9.2.2.2.1, r9.2.2.2.2.1, r13, r9.2.2.2.2.2.2.1, r9.2.2.2.2.2.2.2)) rfl (hc (a.2.2.1, gi r13 0 13 0, v18, (r9.2.1, r9.2.2.1, r9.2.2.2.1, r9.2.2.2.2.1, r13, r9.2.2.2.2.2.2.1, r9.2.2.2.2.2.2.2)) hr )
noncomputable def sX9_bestBenches (S : XT) (B : Nat) (p1 : Int32) : Option (Except (Nat × XT) (Int32 × XT)) :=
  oexc (sX9_requireBetween S B p1 (1 : Int32) (200 : Int32)) (fun e => (e, S)) fun w5 =>
  sX9_bestBenches_l15  B p1 ((1 : Int32), (-1 : Int32), (1 : Int32), S)
set_option maxRecDepth 100000 in
theorem dX9_bestBenches {g : AG} {h0 : AH} {S : XT} {Q : AO → AH → Prop} {B : Nat} {p1 : Int32} (hB : gB g ≤ B) (hst : Sta g h0)  {r : (Except (Nat × XT) (Int32 × XT))} (hs : sX9_bestBenches S B p1 = some r) (hQ : (∀ v : (Int32 × XT), r = .ok v → Q (.ok (some (.int v.1))) (xh (bw h0 B v.2.1 v.2.2.2.1 v.2.2.2.2.2.2.2) B v.2.2.1 v.2.2.2.1 v.2.2.2.2.1 v.2.2.2.2.2.1 v.2.2.2.2.2.2.1)) ∧ (∀ e : (Nat × XT), r = .error e → ∀ z, e.2.1.1 ≤ z → z ≤ e.2.1.1 + 1 → Q (.error e.1) (xh (bw h0 B (z, e.2.1.2.1 - 1, e.2.1.2.2 - 6) e.2.2.2.1 e.2.2.2.2.2.2.2) B e.2.2.1 e.2.2.2.1 e.2.2.2.2.1 e.2.2.2.2.2.1 e.2.2.2.2.2.2.1))) : AW g MX9_bestBenches 0 [some (.ref (B)), some (.int (p1)), none, none, none, none] [] (xh (bw h0 B S.1 S.2.2.1 S.2.2.2.2.2.2) B S.2.1 S.2.2.1 S.2.2.2.1 S.2.2.2.2.1 S.2.2.2.2.2.1) Q := by
  unfold sX9_bestBenches at hs
  refine AW.iload_n (z := 1) (am_r 0 rfl) rfl rfl ?_
  refine AW.iconst (am_r 1 rfl) rfl ci_1 ?_
  refine AW.sipush (am_r 2 rfl) rfl cs_200 ?_
  refine oexc_e hs (fun r1 hg3 hs => ?_)
  refine AW.callS (N := MX9_requireBetween) (As := [.int (p1), .int ((1 : Int32)), .int ((200 : Int32))]) (S := []) (L0 := [some (.int (p1)), some (.int ((1 : Int32))), some (.int ((200 : Int32)))]) (am_r 3 rfl) rfl osX9_requireBetween q777 rfl rfl rfl rfl rfl (dX9_requireBetween hB hst  hg3 ⟨fun w5 hv4 => ?_, fun e hv4 z h1 h2 => ?_⟩)
  · subst hv4
    refine (cQ_v ?_)
    refine AW.iconst (am_r 4 rfl) rfl ci_1 ?_
    refine AW.istore_n (L' := [some (.ref (B)), some (.int (p1)), some (.int ((1 : Int32))), none, none, none]) (z := 2) (am_r 5 rfl) rfl (Nat.le_of_ble_eq_true rfl) rfl ?_
    refine AW.iconst (am_r 6 rfl) rfl ci_m1 ?_
    refine AW.istore_n (L' := [some (.ref (B)), some (.int (p1)), some (.int ((1 : Int32))), some (.int ((-1 : Int32))), none, none]) (z := 3) (am_r 7 rfl) rfl (Nat.le_of_ble_eq_true rfl) rfl ?_
    refine AW.iconst (am_r 8 rfl) rfl ci_1 ?_
    refine AW.istore (L' := [some (.ref (B)), some (.int (p1)), some (.int ((1 : Int32))), some (.int ((-1 : Int32))), some (.int ((1 : Int32))), none]) (am_r 9 rfl) rfl (Nat.le_of_ble_eq_true rfl) rfl ?_
    exact dX9_bestBenches_l15 (a := ((1 : Int32), (-1 : Int32), (1 : Int32), S)) hB hst   hs hQ
  · subst hv4
    have hr := (Option.some.inj hs).symm
    exact cQ_x (AX.out rfl (hQ.2 _ hr z h1 h2))
noncomputable def sX9_quietAt_l15_step  (B : Nat) (p1 : Int32) (a : (Int32 × XT)) : Option ((Int32 × XT) ⊕ (Except (Nat × XT) (Int32 × XT))) :=
  if p1 < a.1 then
    oinr (
    some (.ok (((-1 : Int32), a.2))))
  else
    obind (sX7_isQuiet a.2.2.2.2.2.1 ) fun r12 =>
    if r12 = 0 then
      if (gi a.2.2.2.2.2.1 0 12 0) < (20000 : Int32) then
        obind (sX7_passHours a.2.2.2.2.2.1 (1 : Int32)) fun r17 =>
        olet (a.1 + (1 : Int32)) fun v20 =>
        some (.inl (v20, (a.2.1, a.2.2.1, a.2.2.2.1, a.2.2.2.2.1, r17, a.2.2.2.2.2.2.1, a.2.2.2.2.2.2.2)))
      else
        oinr (
        some (.ok (((-1 : Int32), a.2))))
    else
      oinr (
      some (.ok ((gi a.2.2.2.2.2.1 0 12 0, a.2))))
noncomputable def sX9_quietAt_l15  (B : Nat) (p1 : Int32) (a : (Int32 × XT)) : Option (Except (Nat × XT) (Int32 × XT)) := itw (sX9_quietAt_l15_step  B p1) a
set_option maxRecDepth 100000 in
theorem dX9_quietAt_l15 {g : AG} {h0 : AH} {Q : AO → AH → Prop} {B : Nat} {p1 : Int32} (hB : gB g ≤ B) (hst : Sta g h0)  {a : (Int32 × XT)}  {r : (Except (Nat × XT) (Int32 × XT))} (hs : sX9_quietAt_l15  B p1 a = some r) (hQ : (∀ v : (Int32 × XT), r = .ok v → Q (.ok (some (.int v.1))) (xh (bw h0 B v.2.1 v.2.2.2.1 v.2.2.2.2.2.2.2) B v.2.2.1 v.2.2.2.1 v.2.2.2.2.1 v.2.2.2.2.2.1 v.2.2.2.2.2.2.1)) ∧ (∀ e : (Nat × XT), r = .error e → ∀ z, e.2.1.1 ≤ z → z ≤ e.2.1.1 + 1 → Q (.error e.1) (xh (bw h0 B (z, e.2.1.2.1 - 1, e.2.1.2.2 - 6) e.2.2.2.1 e.2.2.2.2.2.2.2) B e.2.2.1 e.2.2.2.1 e.2.2.2.2.1 e.2.2.2.2.2.1 e.2.2.2.2.2.2.1))) : AW g MX9_quietAt 15 [none, some (.int (p1)), some (.ref ((B + 59))), some (.int (a.1))] [] (xh (bw h0 B a.2.1 a.2.2.2.1 a.2.2.2.2.2.2.2) B a.2.2.1 a.2.2.2.1 a.2.2.2.2.1 a.2.2.2.2.2.1 a.2.2.2.2.2.2.1) Q := by
  refine itw_e (a := a) (b := r) (P := fun (a : (Int32 × XT)) => AW g MX9_quietAt 15 [none, some (.int (p1)), some (.ref ((B + 59))), some (.int (a.1))] [] (xh (bw h0 B a.2.1 a.2.2.2.1 a.2.2.2.2.2.2.2) B a.2.2.1 a.2.2.2.1 a.2.2.2.2.1 a.2.2.2.2.2.1 a.2.2.2.2.2.2.1) Q) (Post := fun r => (∀ v : (Int32 × XT), r = .ok v → Q (.ok (some (.int v.1))) (xh (bw h0 B v.2.1 v.2.2.2.1 v.2.2.2.2.2.2.2) B v.2.2.1 v.2.2.2.1 v.2.2.2.2.1 v.2.2.2.2.2.1 v.2.2.2.2.2.2.1)) ∧ (∀ e : (Nat × XT), r = .error e → ∀ z, e.2.1.1 ≤ z → z ≤ e.2.1.1 + 1 → Q (.error e.1) (xh (bw h0 B (z, e.2.1.2.1 - 1, e.2.1.2.2 - 6) e.2.2.2.1 e.2.2.2.2.2.2.2) B e.2.2.1 e.2.2.2.1 e.2.2.2.2.1 e.2.2.2.2.2.1 e.2.2.2.2.2.2.1))) (fun a r hs hc he  => ?_) hs hQ 
  unfold sX9_quietAt_l15_step at hs
  refine AW.iload_n (z := 3) (am_r 9 rfl) rfl rfl ?_
  refine AW.iload_n (z := 1) (am_r 10 rfl) rfl rfl ?_
  refine AW.icmp_gt (tg := 55) (am_r 11 rfl) rfl rfl (fun hc9 => ?_) (fun hc9 => ?_)
  · replace hs := (if_pos hc9).symm.trans hs
    refine oinr_e hs (fun z10 hz11 hs => ?_)
    have hQ := he _ hz11
    refine AW.iconst (am_r 29 rfl) rfl ci_m1 ?_
    have hr := (Option.some.inj hs).symm
    exact AW.iret (am_r 30 rfl) rfl (xt_q1 (f := fun v => .ok (some (.int v))) (r := ((-1 : Int32), a.2)) rfl (hQ.1 ((-1 : Int32), a.2) hr))
  · replace hs := (if_neg hc9).symm.trans hs
    refine AW.aload_n (z := 2) (am_r 12 rfl) rfl rfl ?_
    refine obind_e hs (fun r12 hg14 hs => ?_)
    refine AW.callV (N := MX7_isQuiet) (As := []) (S := []) (L0 := [some (.ref ((B + 59)))]) (b := (B + 59)) (am_r 13 rfl) rfl ovX7_isQuiet q1405 rfl rfl (xc_get (fun _ => sb_st)) rfl rfl rfl rfl (AW.heq xh_c (dX7_isQuiet (Nat.le_trans hB (by omega))  hg14 (fun hok13 => (cQ_r (AW.heq xh_c.symm ?_)))))
    refine AW.if_eq (tg := 32) (am_r 14 rfl) rfl rfl (fun hc15 => ?_) (fun hc15 => ?_)
    · replace hs := (if_pos hc15).symm.trans hs
      refine AW.aload_n (z := 2) (am_r 18 rfl) rfl rfl ?_
      refine AW.getO (am_r 19 rfl) rfl klX7 (k := 12) (by omega) q253 (xc_get (fun _ => sb_st)) rfl ?_
      refine AW.sipush (am_r 20 rfl) rfl cs_20000 ?_
      refine AW.icmp_lt (tg := 44) (am_r 21 rfl) rfl rfl (fun hc16 => ?_) (fun hc16 => ?_)
      · replace hs := (if_pos hc16).symm.trans hs
        refine AW.aload_n (z := 2) (am_r 24 rfl) rfl rfl ?_
        refine AW.iconst (am_r 25 rfl) rfl ci_1 ?_
        refine obind_e hs (fun r17 hg19 hs => ?_)
        refine AW.callV (N := MX7_passHours) (As := [.int ((1 : Int32))]) (S := []) (L0 := [some (.ref ((B + 59))), some (.int ((1 : Int32))), none, none]) (b := (B + 59)) (am_r 26 rfl) rfl ovX7_passHours q857 rfl rfl (xc_get (fun _ => sb_st)) rfl rfl rfl rfl (AW.heq xh_c (dX7_passHours (Nat.le_trans hB (by omega))  hg19 (cQ_v (AW.heq xh_c.symm ?_))))
        refine AW.iinc (v := a.1 + (1 : Int32)) (L' := [none, some (.int (p1)), some (.ref ((B + 59))), some (.int (a.1 + (1 : Int32)))]) (am_r 27 rfl) rfl (Nat.le_of_ble_eq_true rfl) rfl (congrArg (fun z => a.1 + z) ci_1) rfl ?_
        refine olet_e (P := fun (y : Int32) => AW g MX9_quietAt 52 [none, some (.int (p1)), some (.ref ((B + 59))), some (.int (y))] [] (xh (bw h0 B a.2.1 a.2.2.2.1 a.2.2.2.2.2.2.2) B a.2.2.1 a.2.2.2.1 a.2.2.2.2.1 r17 a.2.2.2.2.2.2.1) Q) hs (fun v20 hs => ?_)
        refine AW.goto (tg := 15) (am_r 28 rfl) rfl ?_
        have hr := (Option.some.inj hs).symm
        exact xt_c (S := (a.2.1, a.2.2.1, a.2.2.2.1, a.2.2.2.2.1, r17, a.2.2.2.2.2.2.1, a.2.2.2.2.2.2.2)) rfl (hc (v20, (a.2.1, a.2.2.1, a.2.2.2.1, a.2.2.2.2.1, r17, a.2.2.2.2.2.2.1, a.2.2.2.2.2.2.2)) hr )
      · replace hs := (if_neg hc16).symm.trans hs
        refine oinr_e hs (fun z21 hz22 hs => ?_)
        have hQ := he _ hz22
        refine AW.iconst (am_r 22 rfl) rfl ci_m1 ?_
        have hr := (Option.some.inj hs).symm
        exact AW.iret (am_r 23 rfl) rfl (xt_q1 (f := fun v => .ok (some (.int v))) (r := ((-1 : Int32), a.2)) rfl (hQ.1 ((-1 : Int32), a.2) hr))
    · replace hs := (if_neg hc15).symm.trans hs
      refine oinr_e hs (fun z23 hz24 hs => ?_)
      have hQ := he _ hz24
      refine AW.aload_n (z := 2) (am_r 15 rfl) rfl rfl ?_
      refine AW.getO (am_r 16 rfl) rfl klX7 (k := 12) (by omega) q253 (xc_get (fun _ => sb_st)) rfl ?_
      have hr := (Option.some.inj hs).symm
      exact AW.iret (am_r 17 rfl) rfl (xt_q1 (f := fun v => .ok (some (.int v))) (r := (gi a.2.2.2.2.2.1 0 12 0, a.2)) rfl (hQ.1 (gi a.2.2.2.2.2.1 0 12 0, a.2) hr))
noncomputable def sX9_quietAt (S : XT) (B : Nat) (p1 : Int32) : Option (Except (Nat × XT) (Int32 × XT)) :=
  oexc (sX9_requireBetween S B p1 (1 : Int32) (500 : Int32)) (fun e => (e, S)) fun w5 =>
  obind (sX9_startForecast S B) fun r6 =>
  sX9_quietAt_l15  B p1 ((0 : Int32), r6.2)
set_option maxRecDepth 100000 in
theorem dX9_quietAt {g : AG} {h0 : AH} {S : XT} {Q : AO → AH → Prop} {B : Nat} {p1 : Int32} (hB : gB g ≤ B) (hst : Sta g h0)  {r : (Except (Nat × XT) (Int32 × XT))} (hs : sX9_quietAt S B p1 = some r) (hQ : (∀ v : (Int32 × XT), r = .ok v → Q (.ok (some (.int v.1))) (xh (bw h0 B v.2.1 v.2.2.2.1 v.2.2.2.2.2.2.2) B v.2.2.1 v.2.2.2.1 v.2.2.2.2.1 v.2.2.2.2.2.1 v.2.2.2.2.2.2.1)) ∧ (∀ e : (Nat × XT), r = .error e → ∀ z, e.2.1.1 ≤ z → z ≤ e.2.1.1 + 1 → Q (.error e.1) (xh (bw h0 B (z, e.2.1.2.1 - 1, e.2.1.2.2 - 6) e.2.2.2.1 e.2.2.2.2.2.2.2) B e.2.2.1 e.2.2.2.1 e.2.2.2.2.1 e.2.2.2.2.2.1 e.2.2.2.2.2.2.1))) : AW g MX9_quietAt 0 [some (.ref (B)), some (.int (p1)), none, none] [] (xh (bw h0 B S.1 S.2.2.1 S.2.2.2.2.2.2) B S.2.1 S.2.2.1 S.2.2.2.1 S.2.2.2.2.1 S.2.2.2.2.2.1) Q := by
  unfold sX9_quietAt at hs
  refine AW.iload_n (z := 1) (am_r 0 rfl) rfl rfl ?_
  refine AW.iconst (am_r 1 rfl) rfl ci_1 ?_
  refine AW.sipush (am_r 2 rfl) rfl cs_500 ?_
  refine oexc_e hs (fun r1 hg3 hs => ?_)
  refine AW.callS (N := MX9_requireBetween) (As := [.int (p1), .int ((1 : Int32)), .int ((500 : Int32))]) (S := []) (L0 := [some (.int (p1)), some (.int ((1 : Int32))), some (.int ((500 : Int32)))]) (am_r 3 rfl) rfl osX9_requireBetween q777 rfl rfl rfl rfl rfl (dX9_requireBetween hB hst  hg3 ⟨fun w5 hv4 => ?_, fun e hv4 z h1 h2 => ?_⟩)
  · subst hv4
    refine (cQ_v ?_)
    refine AW.aload_n (z := 0) (am_r 4 rfl) rfl rfl ?_
    refine obind_e hs (fun r6 hg8 hs => ?_)
    refine AW.callV (N := MX9_startForecast) (As := []) (S := []) (L0 := [some (.ref (B))]) (b := B) (am_r 5 rfl) rfl ovX9_startForecast q1369 rfl rfl xh_0 rfl rfl rfl rfl (dX9_startForecast hB hst  hg8 (cQ_r ?_))
    refine AW.astore_n (L' := [some (.ref (B)), some (.int (p1)), some (.ref ((B + 59))), none]) (z := 2) (am_r 6 rfl) rfl (Nat.le_of_ble_eq_true rfl) rfl ?_
    refine AW.iconst (am_r 7 rfl) rfl ci_0 ?_
    refine AW.istore_n (L' := [some (.ref (B)), some (.int (p1)), some (.ref ((B + 59))), some (.int ((0 : Int32)))]) (z := 3) (am_r 8 rfl) rfl (Nat.le_of_ble_eq_true rfl) rfl ?_
    refine AW.lessL (L' := [none, some (.int (p1)), some (.ref ((B + 59))), some (.int ((0 : Int32)))]) ⟨rfl, rfl, rfl, trivial⟩ ?_
    exact dX9_quietAt_l15 (a := ((0 : Int32), r6.2)) hB hst   hs hQ
  · subst hv4
    have hr := (Option.some.inj hs).symm
    exact cQ_x (AX.out rfl (hQ.2 _ hr z h1 h2))
noncomputable def sX9_lateness (S : XT) (B : Nat) (p1 : Int32) : Option (Except Nat Int32) :=
  oexc (sX9_itemOf S B p1) (fun e => e) fun w5 =>
  if (bz (gi S.2.2.2.2.2.1 3 15 w5)) = 0 then
    some (.ok ((-1 : Int32)))
  else
    some (.ok (jmax (0 : Int32) ((gi S.2.2.2.2.2.1 0 12 0) - (gi S.2.2.2.2.2.1 3 16 w5))))
set_option maxRecDepth 100000 in
theorem dX9_lateness {g : AG} {h0 : AH} {S : XT} {Q : AO → AH → Prop} {B : Nat} {p1 : Int32} (hB : gB g ≤ B) (hst : Sta g h0)  {r : (Except Nat Int32)} (hs : sX9_lateness S B p1 = some r) (hQ : (∀ v : Int32, r = .ok v → Q (.ok (some (.int v))) (xh (bw h0 B S.1 S.2.2.1 S.2.2.2.2.2.2) B S.2.1 S.2.2.1 S.2.2.2.1 S.2.2.2.2.1 S.2.2.2.2.2.1)) ∧ (∀ e : Nat, r = .error e → ∀ z, S.1.1 ≤ z → z ≤ S.1.1 + 1 → Q (.error e) (xh (bw h0 B (z, S.1.2.1 - 1, S.1.2.2 - 6) S.2.2.1 S.2.2.2.2.2.2) B S.2.1 S.2.2.1 S.2.2.2.1 S.2.2.2.2.1 S.2.2.2.2.2.1))) : AW g MX9_lateness 0 [some (.ref (B)), some (.int (p1)), none] [] (xh (bw h0 B S.1 S.2.2.1 S.2.2.2.2.2.2) B S.2.1 S.2.2.1 S.2.2.2.1 S.2.2.2.2.1 S.2.2.2.2.2.1) Q := by
  unfold sX9_lateness at hs
  refine AW.aload_n (z := 0) (am_r 0 rfl) rfl rfl ?_
  refine AW.iload_n (z := 1) (am_r 1 rfl) rfl rfl ?_
  refine oexc_e hs (fun r1 hg3 hs => ?_)
  refine AW.callV (N := MX9_itemOf) (As := [.int (p1)]) (S := []) (L0 := [some (.ref (B)), some (.int (p1))]) (b := B) (am_r 2 rfl) rfl ovX9_itemOf q948 rfl rfl xh_0 rfl rfl rfl rfl (dX9_itemOf hB hst  hg3 ⟨fun w5 hv4 => ?_, fun e hv4 z h1 h2 => ?_⟩)
  · subst hv4
    refine fun hok2 => (cQ_r ?_)
    refine AW.astore_n (L' := [some (.ref (B)), some (.int (p1)), some (.ref ((B + 1) + 20 + 2 * w5))]) (z := 2) (am_r 3 rfl) rfl (Nat.le_of_ble_eq_true rfl) rfl ?_
    refine AW.aload_n (z := 2) (am_r 4 rfl) rfl rfl ?_
    refine AW.getO (am_r 5 rfl) rfl klX2 (k := 15) (by omega) q161 (xl_get (fun _ => (sb_it hok2))) rfl ?_
    refine AW.if_eq (tg := 32) (am_r 6 rfl) rfl rfl (fun hc6 => ?_) (fun hc6 => ?_)
    · replace hs := (if_pos hc6).symm.trans hs
      refine AW.iconst (am_r 16 rfl) rfl ci_m1 ?_
      have hr := (Option.some.inj hs).symm
      exact AW.iret (am_r 17 rfl) rfl (hQ.1 _ hr)
    · replace hs := (if_neg hc6).symm.trans hs
      refine AW.iconst (am_r 7 rfl) rfl ci_0 ?_
      refine AW.aload_n (z := 0) (am_r 8 rfl) rfl rfl ?_
      refine AW.getO (am_r 9 rfl) rfl klX9 (k := 0) (by omega) q392 xh_0 rfl ?_
      refine AW.getO (am_r 10 rfl) rfl klX7 (k := 12) (by omega) q253 (xl_get (fun _ => sb_st)) rfl ?_
      refine AW.aload_n (z := 2) (am_r 11 rfl) rfl rfl ?_
      refine AW.getO (am_r 12 rfl) rfl klX2 (k := 16) (by omega) q164 (xl_get (fun _ => (sb_it hok2))) rfl ?_
      refine AW.isub (am_r 13 rfl) rfl ?_
      refine AW.jmax (am_r 14 rfl) rfl q1417 rfl ?_
      refine AW.goto (tg := 33) (am_r 15 rfl) rfl ?_
      have hr := (Option.some.inj hs).symm
      exact AW.iret (am_r 17 rfl) rfl (hQ.1 _ hr)
  · subst hv4
    have hr := (Option.some.inj hs).symm
    exact cQ_x (AX.out rfl (hQ.2 _ hr z h1 h2))
noncomputable def sX9_waitingLoan_l2_step (S : XT) (B : Nat) (p1 : Int32) (a : Int32) : Option (Int32 ⊕ Int32) :=
  if (gi S.2.2.2.2.2.1 0 9 0) ≤ a then
    oinr (
    some ((-1 : Int32)))
  else
    if (bz (gi S.2.2.2.2.2.1 3 15 (sX7_itemAt S.2.2.2.2.2.1 a))) = 0 then
      olet (a + (1 : Int32)) fun v7 =>
      some (.inl v7)
    else
      obind (sX7_loansAheadOf S.2.2.2.2.2.1 a) fun r8 =>
      if r8 = p1 then
        oinr (
        some (a))
      else
        olet (a + (1 : Int32)) fun v12 =>
        some (.inl v12)
noncomputable def sX9_waitingLoan_l2 (S : XT) (B : Nat) (p1 : Int32) (a : Int32) : Option Int32 := itw (sX9_waitingLoan_l2_step S B p1) a
set_option maxRecDepth 100000 in
theorem dX9_waitingLoan_l2 {g : AG} {h0 : AH} {S : XT} {Q : AO → AH → Prop} {B : Nat} {p1 : Int32} (hB : gB g ≤ B) (hst : Sta g h0)  {a : Int32}  {r : Int32} (hs : sX9_waitingLoan_l2 S B p1 a = some r) (hQ : Q (.ok (some (.int r))) (xh (bw h0 B S.1 S.2.2.1 S.2.2.2.2.2.2) B S.2.1 S.2.2.1 S.2.2.2.1 S.2.2.2.2.1 S.2.2.2.2.2.1)) : AW g MX9_waitingLoan 2 [some (.ref (B)), some (.int (p1)), some (.int (a))] [] (xh (bw h0 B S.1 S.2.2.1 S.2.2.2.2.2.2) B S.2.1 S.2.2.1 S.2.2.2.1 S.2.2.2.2.1 S.2.2.2.2.2.1) Q := by
  refine itw_e (a := a) (b := r) (P := fun (a : Int32) => AW g MX9_waitingLoan 2 [some (.ref (B)), some (.int (p1)), some (.int (a))] [] (xh (bw h0 B S.1 S.2.2.1 S.2.2.2.2.2.2) B S.2.1 S.2.2.1 S.2.2.2.1 S.2.2.2.2.1 S.2.2.2.2.2.1) Q) (Post := fun r => Q (.ok (some (.int r))) (xh (bw h0 B S.1 S.2.2.1 S.2.2.2.2.2.2) B S.2.1 S.2.2.1 S.2.2.2.1 S.2.2.2.2.1 S.2.2.2.2.2.1)) (fun a r hs hc he  => ?_) hs hQ 
  unfold sX9_waitingLoan_l2_step at hs
  refine AW.iload_n (z := 2) (am_r 2 rfl) rfl rfl ?_
  refine AW.aload_n (z := 0) (am_r 3 rfl) rfl rfl ?_
  refine AW.getO (am_r 4 rfl) rfl klX9 (k := 0) (by omega) q392 xh_0 rfl ?_
  refine AW.getO (am_r 5 rfl) rfl klX7 (k := 9) (by omega) q244 (xl_get (fun _ => sb_st)) rfl ?_
  refine AW.icmp_ge (tg := 47) (am_r 6 rfl) rfl rfl (fun hc1 => ?_) (fun hc1 => ?_)
  · replace hs := (if_pos hc1).symm.trans hs
    refine oinr_e hs (fun z2 hz3 hs => ?_)
    have hQ := he _ hz3
    refine AW.iconst (am_r 23 rfl) rfl ci_m1 ?_
    have hr := (Option.some.inj hs).symm
    subst hr
    exact AW.iret (am_r 24 rfl) rfl hQ
  · replace hs := (if_neg hc1).symm.trans hs
    refine AW.aload_n (z := 0) (am_r 7 rfl) rfl rfl ?_
    refine AW.getO (am_r 8 rfl) rfl klX9 (k := 0) (by omega) q392 xh_0 rfl ?_
    refine AW.iload_n (z := 2) (am_r 9 rfl) rfl rfl ?_
    refine AW.callV (N := MX7_itemAt) (As := [.int (a)]) (S := []) (L0 := [some (.ref ((B + 1))), some (.int (a))]) (b := (B + 1)) (am_r 10 rfl) rfl ovX7_itemAt q721 rfl rfl (xl_get (fun _ => sb_st)) rfl rfl rfl rfl (AW.heq xh_l (dX7_itemAt (Nat.le_trans hB (by omega))  rfl (fun hok5 => (cQ_r (AW.heq xh_l.symm ?_)))))
    refine AW.getO (am_r 11 rfl) rfl klX2 (k := 15) (by omega) q161 (xl_get (fun _ => (sb_it hok5))) rfl ?_
    refine AW.if_eq (tg := 41) (am_r 12 rfl) rfl rfl (fun hc6 => ?_) (fun hc6 => ?_)
    · replace hs := (if_pos hc6).symm.trans hs
      refine AW.iinc (v := a + (1 : Int32)) (L' := [some (.ref (B)), some (.int (p1)), some (.int (a + (1 : Int32)))]) (am_r 21 rfl) rfl (Nat.le_of_ble_eq_true rfl) rfl (congrArg (fun z => a + z) ci_1) rfl ?_
      refine olet_e (P := fun (y : Int32) => AW g MX9_waitingLoan 44 [some (.ref (B)), some (.int (p1)), some (.int (y))] [] (xh (bw h0 B S.1 S.2.2.1 S.2.2.2.2.2.2) B S.2.1 S.2.2.1 S.2.2.2.1 S.2.2.2.2.1 S.2.2.2.2.2.1) Q) hs (fun v7 hs => ?_)
      refine AW.goto (tg := 2) (am_r 22 rfl) rfl ?_
      have hr := (Option.some.inj hs).symm
      exact hc v7 hr 
    · replace hs := (if_neg hc6).symm.trans hs
      refine AW.aload_n (z := 0) (am_r 13 rfl) rfl rfl ?_
      refine AW.getO (am_r 14 rfl) rfl klX9 (k := 0) (by omega) q392 xh_0 rfl ?_
      refine AW.iload_n (z := 2) (am_r 15 rfl) rfl rfl ?_
      refine obind_e hs (fun r8 hg10 hs => ?_)
      refine AW.callV (N := MX7_loansAheadOf) (As := [.int (a)]) (S := []) (L0 := [some (.ref ((B + 1))), some (.int (a)), none, none, none, none]) (b := (B + 1)) (am_r 16 rfl) rfl ovX7_loansAheadOf q722 rfl rfl (xl_get (fun _ => sb_st)) rfl rfl rfl rfl (AW.heq xh_l (dX7_loansAheadOf (Nat.le_trans hB (by omega))  hg10 (cQ_r (AW.heq xh_l.symm ?_))))
      refine AW.iload_n (z := 1) (am_r 17 rfl) rfl rfl ?_
      refine AW.icmp_ne (tg := 41) (am_r 18 rfl) rfl rfl (fun hc11 => ?_) (fun hc11 => ?_)
      · replace hs := (if_neg hc11).symm.trans hs
        refine AW.iinc (v := a + (1 : Int32)) (L' := [some (.ref (B)), some (.int (p1)), some (.int (a + (1 : Int32)))]) (am_r 21 rfl) rfl (Nat.le_of_ble_eq_true rfl) rfl (congrArg (fun z => a + z) ci_1) rfl ?_
        refine olet_e (P := fun (y : Int32) => AW g MX9_waitingLoan 44 [some (.ref (B)), some (.int (p1)), some (.int (y))] [] (xh (bw h0 B S.1 S.2.2.1 S.2.2.2.2.2.2) B S.2.1 S.2.2.1 S.2.2.2.1 S.2.2.2.2.1 S.2.2.2.2.2.1) Q) hs (fun v12 hs => ?_)
        refine AW.goto (tg := 2) (am_r 22 rfl) rfl ?_
        have hr := (Option.some.inj hs).symm
        exact hc v12 hr 
      · replace hs := (if_pos hc11).symm.trans hs
        refine oinr_e hs (fun z13 hz14 hs => ?_)
        have hQ := he _ hz14
        refine AW.iload_n (z := 2) (am_r 19 rfl) rfl rfl ?_
        have hr := (Option.some.inj hs).symm
        subst hr
        exact AW.iret (am_r 20 rfl) rfl hQ
noncomputable def sX9_waitingLoan (S : XT) (B : Nat) (p1 : Int32) : Option Int32 :=
  sX9_waitingLoan_l2 S B p1 (0 : Int32)
set_option maxRecDepth 100000 in
theorem dX9_waitingLoan {g : AG} {h0 : AH} {S : XT} {Q : AO → AH → Prop} {B : Nat} {p1 : Int32} (hB : gB g ≤ B) (hst : Sta g h0)  {r : Int32} (hs : sX9_waitingLoan S B p1 = some r) (hQ : Q (.ok (some (.int r))) (xh (bw h0 B S.1 S.2.2.1 S.2.2.2.2.2.2) B S.2.1 S.2.2.1 S.2.2.2.1 S.2.2.2.2.1 S.2.2.2.2.2.1)) : AW g MX9_waitingLoan 0 [some (.ref (B)), some (.int (p1)), none] [] (xh (bw h0 B S.1 S.2.2.1 S.2.2.2.2.2.2) B S.2.1 S.2.2.1 S.2.2.2.1 S.2.2.2.2.1 S.2.2.2.2.2.1) Q := by
  unfold sX9_waitingLoan at hs
  refine AW.iconst (am_r 0 rfl) rfl ci_0 ?_
  refine AW.istore_n (L' := [some (.ref (B)), some (.int (p1)), some (.int ((0 : Int32)))]) (z := 2) (am_r 1 rfl) rfl (Nat.le_of_ble_eq_true rfl) rfl ?_
  exact dX9_waitingLoan_l2 (a := (0 : Int32)) hB hst   hs hQ
noncomputable def sX9_mostUrgent (S : XT) (B : Nat) : Option Int32 :=
  obind (sX9_waitingLoan S B (0 : Int32)) fun r1 =>
  some (r1)
set_option maxRecDepth 100000 in
theorem dX9_mostUrgent {g : AG} {h0 : AH} {S : XT} {Q : AO → AH → Prop} {B : Nat} (hB : gB g ≤ B) (hst : Sta g h0)  {r : Int32} (hs : sX9_mostUrgent S B = some r) (hQ : Q (.ok (some (.int r))) (xh (bw h0 B S.1 S.2.2.1 S.2.2.2.2.2.2) B S.2.1 S.2.2.1 S.2.2.2.1 S.2.2.2.2.1 S.2.2.2.2.2.1)) : AW g MX9_mostUrgent 0 [some (.ref (B))] [] (xh (bw h0 B S.1 S.2.2.1 S.2.2.2.2.2.2) B S.2.1 S.2.2.1 S.2.2.2.1 S.2.2.2.2.1 S.2.2.2.2.2.1) Q := by
  unfold sX9_mostUrgent at hs
  refine AW.aload_n (z := 0) (am_r 0 rfl) rfl rfl ?_
  refine AW.iconst (am_r 1 rfl) rfl ci_0 ?_
  refine obind_e hs (fun r1 hg3 hs => ?_)
  refine AW.callV (N := MX9_waitingLoan) (As := [.int ((0 : Int32))]) (S := []) (L0 := [some (.ref (B)), some (.int ((0 : Int32))), none]) (b := B) (am_r 2 rfl) rfl ovX9_waitingLoan q717 rfl rfl xh_0 rfl rfl rfl rfl (dX9_waitingLoan hB hst  hg3 (cQ_r ?_))
  have hr := (Option.some.inj hs).symm
  subst hr
  exact AW.iret (am_r 3 rfl) rfl hQ
noncomputable def sX9_uses (S : XT) (B : Nat) (p1 : Int32) : Option (Except Nat Int32) :=
  oexc (sX9_requireRecipe S B p1) (fun e => e) fun w5 =>
  some (.ok (gi S.2.2.2.2.2.1 2 7 (sX7_recipeAt S.2.2.2.2.2.1 p1)))
set_option maxRecDepth 100000 in
theorem dX9_uses {g : AG} {h0 : AH} {S : XT} {Q : AO → AH → Prop} {B : Nat} {p1 : Int32} (hB : gB g ≤ B) (hst : Sta g h0)  {r : (Except Nat Int32)} (hs : sX9_uses S B p1 = some r) (hQ : (∀ v : Int32, r = .ok v → Q (.ok (some (.int v))) (xh (bw h0 B S.1 S.2.2.1 S.2.2.2.2.2.2) B S.2.1 S.2.2.1 S.2.2.2.1 S.2.2.2.2.1 S.2.2.2.2.2.1)) ∧ (∀ e : Nat, r = .error e → ∀ z, S.1.1 ≤ z → z ≤ S.1.1 + 1 → Q (.error e) (xh (bw h0 B (z, S.1.2.1 - 1, S.1.2.2 - 6) S.2.2.1 S.2.2.2.2.2.2) B S.2.1 S.2.2.1 S.2.2.2.1 S.2.2.2.2.1 S.2.2.2.2.2.1))) : AW g MX9_uses 0 [some (.ref (B)), some (.int (p1))] [] (xh (bw h0 B S.1 S.2.2.1 S.2.2.2.2.2.2) B S.2.1 S.2.2.1 S.2.2.2.1 S.2.2.2.2.1 S.2.2.2.2.2.1) Q := by
  unfold sX9_uses at hs
  refine AW.aload_n (z := 0) (am_r 0 rfl) rfl rfl ?_
  refine AW.iload_n (z := 1) (am_r 1 rfl) rfl rfl ?_
  refine oexc_e hs (fun r1 hg3 hs => ?_)
  refine AW.callV (N := MX9_requireRecipe) (As := [.int (p1)]) (S := []) (L0 := [some (.ref (B)), some (.int (p1))]) (b := B) (am_r 2 rfl) rfl ovX9_requireRecipe q975 rfl rfl xh_0 rfl rfl rfl rfl (dX9_requireRecipe hB hst  hg3 ⟨fun w5 hv4 => ?_, fun e hv4 z h1 h2 => ?_⟩)
  · subst hv4
    refine (cQ_v ?_)
    refine AW.aload_n (z := 0) (am_r 3 rfl) rfl rfl ?_
    refine AW.getO (am_r 4 rfl) rfl klX9 (k := 0) (by omega) q392 xh_0 rfl ?_
    refine AW.iload_n (z := 1) (am_r 5 rfl) rfl rfl ?_
    refine AW.callV (N := MX7_recipeAt) (As := [.int (p1)]) (S := []) (L0 := [some (.ref ((B + 1))), some (.int (p1))]) (b := (B + 1)) (am_r 6 rfl) rfl ovX7_recipeAt q1004 rfl rfl (xl_get (fun _ => sb_st)) rfl rfl rfl rfl (AW.heq xh_l (dX7_recipeAt (Nat.le_trans hB (by omega))  rfl (fun hok7 => (cQ_r (AW.heq xh_l.symm ?_)))))
    refine AW.getO (am_r 7 rfl) rfl klX5 (k := 7) (by omega) q96 (xl_get (fun _ => (sb_re hok7))) rfl ?_
    have hr := (Option.some.inj hs).symm
    exact AW.iret (am_r 8 rfl) rfl (hQ.1 _ hr)
  · subst hv4
    have hr := (Option.some.inj hs).symm
    exact cQ_x (AX.out rfl (hQ.2 _ hr z h1 h2))
noncomputable def sX9_pressUse (S : XT) (B : Nat) (p1 : Int32) : Option (Except Nat Int32) :=
  oexc (sX9_requirePress S B p1) (fun e => e) fun w5 =>
  some (.ok (gi S.2.2.2.2.2.1 1 2 (sX7_pressAt S.2.2.2.2.2.1 p1)))
set_option maxRecDepth 100000 in
theorem dX9_pressUse {g : AG} {h0 : AH} {S : XT} {Q : AO → AH → Prop} {B : Nat} {p1 : Int32} (hB : gB g ≤ B) (hst : Sta g h0)  {r : (Except Nat Int32)} (hs : sX9_pressUse S B p1 = some r) (hQ : (∀ v : Int32, r = .ok v → Q (.ok (some (.int v))) (xh (bw h0 B S.1 S.2.2.1 S.2.2.2.2.2.2) B S.2.1 S.2.2.1 S.2.2.2.1 S.2.2.2.2.1 S.2.2.2.2.2.1)) ∧ (∀ e : Nat, r = .error e → ∀ z, S.1.1 ≤ z → z ≤ S.1.1 + 1 → Q (.error e) (xh (bw h0 B (z, S.1.2.1 - 1, S.1.2.2 - 6) S.2.2.1 S.2.2.2.2.2.2) B S.2.1 S.2.2.1 S.2.2.2.1 S.2.2.2.2.1 S.2.2.2.2.2.1))) : AW g MX9_pressUse 0 [some (.ref (B)), some (.int (p1))] [] (xh (bw h0 B S.1 S.2.2.1 S.2.2.2.2.2.2) B S.2.1 S.2.2.1 S.2.2.2.1 S.2.2.2.2.1 S.2.2.2.2.2.1) Q := by
  unfold sX9_pressUse at hs
  refine AW.aload_n (z := 0) (am_r 0 rfl) rfl rfl ?_
  refine AW.iload_n (z := 1) (am_r 1 rfl) rfl rfl ?_
  refine oexc_e hs (fun r1 hg3 hs => ?_)
  refine AW.callV (N := MX9_requirePress) (As := [.int (p1)]) (S := []) (L0 := [some (.ref (B)), some (.int (p1))]) (b := B) (am_r 2 rfl) rfl ovX9_requirePress q1068 rfl rfl xh_0 rfl rfl rfl rfl (dX9_requirePress hB hst  hg3 ⟨fun w5 hv4 => ?_, fun e hv4 z h1 h2 => ?_⟩)
  · subst hv4
    refine (cQ_v ?_)
    refine AW.aload_n (z := 0) (am_r 3 rfl) rfl rfl ?_
    refine AW.getO (am_r 4 rfl) rfl klX9 (k := 0) (by omega) q392 xh_0 rfl ?_
    refine AW.iload_n (z := 1) (am_r 5 rfl) rfl rfl ?_
    refine AW.callV (N := MX7_pressAt) (As := [.int (p1)]) (S := []) (L0 := [some (.ref ((B + 1))), some (.int (p1))]) (b := (B + 1)) (am_r 6 rfl) rfl ovX7_pressAt q1072 rfl rfl (xl_get (fun _ => sb_st)) rfl rfl rfl rfl (AW.heq xh_l (dX7_pressAt (Nat.le_trans hB (by omega))  rfl (fun hok7 => (cQ_r (AW.heq xh_l.symm ?_)))))
    refine AW.getO (am_r 7 rfl) rfl klX3 (k := 2) (by omega) q55 (xl_get (fun _ => (sb_pr hok7))) rfl ?_
    have hr := (Option.some.inj hs).symm
    exact AW.iret (am_r 8 rfl) rfl (hQ.1 _ hr)
  · subst hv4
    have hr := (Option.some.inj hs).symm
    exact cQ_x (AX.out rfl (hQ.2 _ hr z h1 h2))
noncomputable def sX9_inQueues_l9_step (S : XT) (B : Nat) (p1 : Int32) (a : (Int32 × Int32)) : Option ((Int32 × Int32) ⊕ (Except Nat Int32)) :=
  if (gi S.2.2.2.2.2.1 0 9 0) ≤ a.2 then
    oinr (
    some (.ok (a.1)))
  else
    obind (sX2_timesQueued S.2.2.2.2.2.1 (sX7_itemAt S.2.2.2.2.2.1 a.2) p1) fun r11 =>
    olet (a.2 + (1 : Int32)) fun v14 =>
    some (.inl (a.1 + r11, v14))
noncomputable def sX9_inQueues_l9 (S : XT) (B : Nat) (p1 : Int32) (a : (Int32 × Int32)) : Option (Except Nat Int32) := itw (sX9_inQueues_l9_step S B p1) a
set_option maxRecDepth 100000 in
theorem dX9_inQueues_l9 {g : AG} {h0 : AH} {S : XT} {Q : AO → AH → Prop} {B : Nat} {p1 : Int32} (hB : gB g ≤ B) (hst : Sta g h0)  {a : (Int32 × Int32)}  {r : (Except Nat Int32)} (hs : sX9_inQueues_l9 S B p1 a = some r) (hQ : (∀ v : Int32, r = .ok v → Q (.ok (some (.int v))) (xh (bw h0 B S.1 S.2.2.1 S.2.2.2.2.2.2) B S.2.1 S.2.2.1 S.2.2.2.1 S.2.2.2.2.1 S.2.2.2.2.2.1)) ∧ (∀ e : Nat, r = .error e → ∀ z, S.1.1 ≤ z → z ≤ S.1.1 + 1 → Q (.error e) (xh (bw h0 B (z, S.1.2.1 - 1, S.1.2.2 - 6) S.2.2.1 S.2.2.2.2.2.2) B S.2.1 S.2.2.1 S.2.2.2.1 S.2.2.2.2.1 S.2.2.2.2.2.1))) : AW g MX9_inQueues 9 [some (.ref (B)), some (.int (p1)), some (.int (a.1)), some (.int (a.2))] [] (xh (bw h0 B S.1 S.2.2.1 S.2.2.2.2.2.2) B S.2.1 S.2.2.1 S.2.2.2.1 S.2.2.2.2.1 S.2.2.2.2.2.1) Q := by
  refine itw_e (a := a) (b := r) (P := fun (a : (Int32 × Int32)) => AW g MX9_inQueues 9 [some (.ref (B)), some (.int (p1)), some (.int (a.1)), some (.int (a.2))] [] (xh (bw h0 B S.1 S.2.2.1 S.2.2.2.2.2.2) B S.2.1 S.2.2.1 S.2.2.2.1 S.2.2.2.2.1 S.2.2.2.2.2.1) Q) (Post := fun r => (∀ v : Int32, r = .ok v → Q (.ok (some (.int v))) (xh (bw h0 B S.1 S.2.2.1 S.2.2.2.2.2.2) B S.2.1 S.2.2.1 S.2.2.2.1 S.2.2.2.2.1 S.2.2.2.2.2.1)) ∧ (∀ e : Nat, r = .error e → ∀ z, S.1.1 ≤ z → z ≤ S.1.1 + 1 → Q (.error e) (xh (bw h0 B (z, S.1.2.1 - 1, S.1.2.2 - 6) S.2.2.1 S.2.2.2.2.2.2) B S.2.1 S.2.2.1 S.2.2.2.1 S.2.2.2.2.1 S.2.2.2.2.2.1))) (fun a r hs hc he  => ?_) hs hQ 
  unfold sX9_inQueues_l9_step at hs
  refine AW.iload_n (z := 3) (am_r 7 rfl) rfl rfl ?_
  refine AW.aload_n (z := 0) (am_r 8 rfl) rfl rfl ?_
  refine AW.getO (am_r 9 rfl) rfl klX9 (k := 0) (by omega) q392 xh_0 rfl ?_
  refine AW.getO (am_r 10 rfl) rfl klX7 (k := 9) (by omega) q244 (xl_get (fun _ => sb_st)) rfl ?_
  refine AW.icmp_ge (tg := 41) (am_r 11 rfl) rfl rfl (fun hc6 => ?_) (fun hc6 => ?_)
  · replace hs := (if_pos hc6).symm.trans hs
    refine oinr_e hs (fun z7 hz8 hs => ?_)
    have hQ := he _ hz8
    refine AW.iload_n (z := 2) (am_r 23 rfl) rfl rfl ?_
    have hr := (Option.some.inj hs).symm
    exact AW.iret (am_r 24 rfl) rfl (hQ.1 _ hr)
  · replace hs := (if_neg hc6).symm.trans hs
    refine AW.iload_n (z := 2) (am_r 12 rfl) rfl rfl ?_
    refine AW.aload_n (z := 0) (am_r 13 rfl) rfl rfl ?_
    refine AW.getO (am_r 14 rfl) rfl klX9 (k := 0) (by omega) q392 xh_0 rfl ?_
    refine AW.iload_n (z := 3) (am_r 15 rfl) rfl rfl ?_
    refine AW.callV (N := MX7_itemAt) (As := [.int (a.2)]) (S := [(.int (a.1))]) (L0 := [some (.ref ((B + 1))), some (.int (a.2))]) (b := (B + 1)) (am_r 16 rfl) rfl ovX7_itemAt q721 rfl rfl (xl_get (fun _ => sb_st)) rfl rfl rfl rfl (AW.heq xh_l (dX7_itemAt (Nat.le_trans hB (by omega))  rfl (fun hok10 => (cQ_r (AW.heq xh_l.symm ?_)))))
    refine AW.iload_n (z := 1) (am_r 17 rfl) rfl rfl ?_
    refine obind_e hs (fun r11 hg13 hs => ?_)
    refine AW.callV (N := MX2_timesQueued) (As := [.int (p1)]) (S := [(.int (a.1))]) (L0 := [some (.ref ((B + 1) + 20 + 2 * (sX7_itemAt S.2.2.2.2.2.1 a.2))), some (.int (p1)), none, none]) (b := (B + 1) + 20 + 2 * (sX7_itemAt S.2.2.2.2.2.1 a.2)) (am_r 18 rfl) rfl ovX2_timesQueued q1439 rfl rfl (xl_get (fun _ => (sb_it hok10))) rfl rfl rfl rfl (AW.heq xh_l (dX2_timesQueued (Nat.le_trans hB (by omega)) hok10 hg13 (cQ_r (AW.heq xh_l.symm ?_))))
    refine AW.iadd (am_r 19 rfl) rfl ?_
    refine AW.istore_n (L' := [some (.ref (B)), some (.int (p1)), some (.int (a.1 + r11)), some (.int (a.2))]) (z := 2) (am_r 20 rfl) rfl (Nat.le_of_ble_eq_true rfl) rfl ?_
    refine AW.iinc (v := a.2 + (1 : Int32)) (L' := [some (.ref (B)), some (.int (p1)), some (.int (a.1 + r11)), some (.int (a.2 + (1 : Int32)))]) (am_r 21 rfl) rfl (Nat.le_of_ble_eq_true rfl) rfl (congrArg (fun z => a.2 + z) ci_1) rfl ?_
    refine olet_e (P := fun (y : Int32) => AW g MX9_inQueues 38 [some (.ref (B)), some (.int (p1)), some (.int (a.1 + r11)), some (.int (y))] [] (xh (bw h0 B S.1 S.2.2.1 S.2.2.2.2.2.2) B S.2.1 S.2.2.1 S.2.2.2.1 S.2.2.2.2.1 S.2.2.2.2.2.1) Q) hs (fun v14 hs => ?_)
    refine AW.goto (tg := 9) (am_r 22 rfl) rfl ?_
    have hr := (Option.some.inj hs).symm
    exact hc (a.1 + r11, v14) hr 
noncomputable def sX9_inQueues (S : XT) (B : Nat) (p1 : Int32) : Option (Except Nat Int32) :=
  oexc (sX9_requireRecipe S B p1) (fun e => e) fun w5 =>
  sX9_inQueues_l9 S B p1 ((0 : Int32), (0 : Int32))
set_option maxRecDepth 100000 in
theorem dX9_inQueues {g : AG} {h0 : AH} {S : XT} {Q : AO → AH → Prop} {B : Nat} {p1 : Int32} (hB : gB g ≤ B) (hst : Sta g h0)  {r : (Except Nat Int32)} (hs : sX9_inQueues S B p1 = some r) (hQ : (∀ v : Int32, r = .ok v → Q (.ok (some (.int v))) (xh (bw h0 B S.1 S.2.2.1 S.2.2.2.2.2.2) B S.2.1 S.2.2.1 S.2.2.2.1 S.2.2.2.2.1 S.2.2.2.2.2.1)) ∧ (∀ e : Nat, r = .error e → ∀ z, S.1.1 ≤ z → z ≤ S.1.1 + 1 → Q (.error e) (xh (bw h0 B (z, S.1.2.1 - 1, S.1.2.2 - 6) S.2.2.1 S.2.2.2.2.2.2) B S.2.1 S.2.2.1 S.2.2.2.1 S.2.2.2.2.1 S.2.2.2.2.2.1))) : AW g MX9_inQueues 0 [some (.ref (B)), some (.int (p1)), none, none] [] (xh (bw h0 B S.1 S.2.2.1 S.2.2.2.2.2.2) B S.2.1 S.2.2.1 S.2.2.2.1 S.2.2.2.2.1 S.2.2.2.2.2.1) Q := by
  unfold sX9_inQueues at hs
  refine AW.aload_n (z := 0) (am_r 0 rfl) rfl rfl ?_
  refine AW.iload_n (z := 1) (am_r 1 rfl) rfl rfl ?_
  refine oexc_e hs (fun r1 hg3 hs => ?_)
  refine AW.callV (N := MX9_requireRecipe) (As := [.int (p1)]) (S := []) (L0 := [some (.ref (B)), some (.int (p1))]) (b := B) (am_r 2 rfl) rfl ovX9_requireRecipe q975 rfl rfl xh_0 rfl rfl rfl rfl (dX9_requireRecipe hB hst  hg3 ⟨fun w5 hv4 => ?_, fun e hv4 z h1 h2 => ?_⟩)
  · subst hv4
    refine (cQ_v ?_)
    refine AW.iconst (am_r 3 rfl) rfl ci_0 ?_
    refine AW.istore_n (L' := [some (.ref (B)), some (.int (p1)), some (.int ((0 : Int32))), none]) (z := 2) (am_r 4 rfl) rfl (Nat.le_of_ble_eq_true rfl) rfl ?_
    refine AW.iconst (am_r 5 rfl) rfl ci_0 ?_
    refine AW.istore_n (L' := [some (.ref (B)), some (.int (p1)), some (.int ((0 : Int32))), some (.int ((0 : Int32)))]) (z := 3) (am_r 6 rfl) rfl (Nat.le_of_ble_eq_true rfl) rfl ?_
    exact dX9_inQueues_l9 (a := ((0 : Int32), (0 : Int32))) hB hst   hs hQ
  · subst hv4
    have hr := (Option.some.inj hs).symm
    exact cQ_x (AX.out rfl (hQ.2 _ hr z h1 h2))
noncomputable def sX9_dryIn (S : XT) (B : Nat) (p1 : Int32) : Option (Except Nat Int32) :=
  oexc (sX9_requirePress S B p1) (fun e => e) fun w5 =>
  olet (gi S.2.2.2.2.2.1 1 1 (sX7_pressAt S.2.2.2.2.2.1 p1)) fun v8 =>
  if v8 = (-1 : Int32) then
    some (.ok ((0 : Int32)))
  else
    some (.ok (gi S.2.2.2.2.2.1 3 6 (sX7_itemAt S.2.2.2.2.2.1 v8)))
set_option maxRecDepth 100000 in
theorem dX9_dryIn {g : AG} {h0 : AH} {S : XT} {Q : AO → AH → Prop} {B : Nat} {p1 : Int32} (hB : gB g ≤ B) (hst : Sta g h0)  {r : (Except Nat Int32)} (hs : sX9_dryIn S B p1 = some r) (hQ : (∀ v : Int32, r = .ok v → Q (.ok (some (.int v))) (xh (bw h0 B S.1 S.2.2.1 S.2.2.2.2.2.2) B S.2.1 S.2.2.1 S.2.2.2.1 S.2.2.2.2.1 S.2.2.2.2.2.1)) ∧ (∀ e : Nat, r = .error e → ∀ z, S.1.1 ≤ z → z ≤ S.1.1 + 1 → Q (.error e) (xh (bw h0 B (z, S.1.2.1 - 1, S.1.2.2 - 6) S.2.2.1 S.2.2.2.2.2.2) B S.2.1 S.2.2.1 S.2.2.2.1 S.2.2.2.2.1 S.2.2.2.2.2.1))) : AW g MX9_dryIn 0 [some (.ref (B)), some (.int (p1)), none] [] (xh (bw h0 B S.1 S.2.2.1 S.2.2.2.2.2.2) B S.2.1 S.2.2.1 S.2.2.2.1 S.2.2.2.2.1 S.2.2.2.2.2.1) Q := by
  unfold sX9_dryIn at hs
  refine AW.aload_n (z := 0) (am_r 0 rfl) rfl rfl ?_
  refine AW.iload_n (z := 1) (am_r 1 rfl) rfl rfl ?_
  refine oexc_e hs (fun r1 hg3 hs => ?_)
  refine AW.callV (N := MX9_requirePress) (As := [.int (p1)]) (S := []) (L0 := [some (.ref (B)), some (.int (p1))]) (b := B) (am_r 2 rfl) rfl ovX9_requirePress q1068 rfl rfl xh_0 rfl rfl rfl rfl (dX9_requirePress hB hst  hg3 ⟨fun w5 hv4 => ?_, fun e hv4 z h1 h2 => ?_⟩)
  · subst hv4
    refine (cQ_v ?_)
    refine AW.aload_n (z := 0) (am_r 3 rfl) rfl rfl ?_
    refine AW.getO (am_r 4 rfl) rfl klX9 (k := 0) (by omega) q392 xh_0 rfl ?_
    refine AW.iload_n (z := 1) (am_r 5 rfl) rfl rfl ?_
    refine AW.callV (N := MX7_pressAt) (As := [.int (p1)]) (S := []) (L0 := [some (.ref ((B + 1))), some (.int (p1))]) (b := (B + 1)) (am_r 6 rfl) rfl ovX7_pressAt q1072 rfl rfl (xl_get (fun _ => sb_st)) rfl rfl rfl rfl (AW.heq xh_l (dX7_pressAt (Nat.le_trans hB (by omega))  rfl (fun hok7 => (cQ_r (AW.heq xh_l.symm ?_)))))
    refine AW.getO (am_r 7 rfl) rfl klX3 (k := 1) (by omega) q51 (xl_get (fun _ => (sb_pr hok7))) rfl ?_
    refine olet_e (P := fun y => AW g MX9_dryIn 16 [some (.ref (B)), some (.int (p1)), none] [(.int (y))] (xh (bw h0 B S.1 S.2.2.1 S.2.2.2.2.2.2) B S.2.1 S.2.2.1 S.2.2.2.1 S.2.2.2.2.1 S.2.2.2.2.2.1) Q) hs (fun v8 hs => ?_)
    refine AW.istore_n (L' := [some (.ref (B)), some (.int (p1)), some (.int (v8))]) (z := 2) (am_r 8 rfl) rfl (Nat.le_of_ble_eq_true rfl) rfl ?_
    refine AW.iload_n (z := 2) (am_r 9 rfl) rfl rfl ?_
    refine AW.iconst (am_r 10 rfl) rfl ci_m1 ?_
    refine AW.icmp_ne (tg := 26) (am_r 11 rfl) rfl rfl (fun hc9 => ?_) (fun hc9 => ?_)
    · replace hs := (if_neg hc9).symm.trans hs
      refine AW.aload_n (z := 0) (am_r 14 rfl) rfl rfl ?_
      refine AW.getO (am_r 15 rfl) rfl klX9 (k := 0) (by omega) q392 xh_0 rfl ?_
      refine AW.iload_n (z := 2) (am_r 16 rfl) rfl rfl ?_
      refine AW.callV (N := MX7_itemAt) (As := [.int (v8)]) (S := []) (L0 := [some (.ref ((B + 1))), some (.int (v8))]) (b := (B + 1)) (am_r 17 rfl) rfl ovX7_itemAt q721 rfl rfl (xl_get (fun _ => sb_st)) rfl rfl rfl rfl (AW.heq xh_l (dX7_itemAt (Nat.le_trans hB (by omega))  rfl (fun hok11 => (cQ_r (AW.heq xh_l.symm ?_)))))
      refine AW.getO (am_r 18 rfl) rfl klX2 (k := 6) (by omega) q137 (xl_get (fun _ => (sb_it hok11))) rfl ?_
      have hr := (Option.some.inj hs).symm
      exact AW.iret (am_r 19 rfl) rfl (hQ.1 _ hr)
    · replace hs := (if_pos hc9).symm.trans hs
      refine AW.iconst (am_r 12 rfl) rfl ci_0 ?_
      refine AW.goto (tg := 37) (am_r 13 rfl) rfl ?_
      have hr := (Option.some.inj hs).symm
      exact AW.iret (am_r 19 rfl) rfl (hQ.1 _ hr)
  · subst hv4
    have hr := (Option.some.inj hs).symm
    exact cQ_x (AX.out rfl (hQ.2 _ hr z h1 h2))
noncomputable def sX9_below (S : XT) (B : Nat) (p1 : Int32) : Option Int32 :=
  obind (sX7_itemsBelow S.2.2.2.2.2.1 p1) fun r1 =>
  some (r1)
set_option maxRecDepth 100000 in
theorem dX9_below {g : AG} {h0 : AH} {S : XT} {Q : AO → AH → Prop} {B : Nat} {p1 : Int32} (hB : gB g ≤ B) (hst : Sta g h0)  {r : Int32} (hs : sX9_below S B p1 = some r) (hQ : Q (.ok (some (.int r))) (xh (bw h0 B S.1 S.2.2.1 S.2.2.2.2.2.2) B S.2.1 S.2.2.1 S.2.2.2.1 S.2.2.2.2.1 S.2.2.2.2.2.1)) : AW g MX9_below 0 [some (.ref (B)), some (.int (p1))] [] (xh (bw h0 B S.1 S.2.2.1 S.2.2.2.2.2.2) B S.2.1 S.2.2.1 S.2.2.2.1 S.2.2.2.2.1 S.2.2.2.2.2.1) Q := by
  unfold sX9_below at hs
  refine AW.aload_n (z := 0) (am_r 0 rfl) rfl rfl ?_
  refine AW.getO (am_r 1 rfl) rfl klX9 (k := 0) (by omega) q392 xh_0 rfl ?_
  refine AW.iload_n (z := 1) (am_r 2 rfl) rfl rfl ?_
  refine obind_e hs (fun r1 hg3 hs => ?_)
  refine AW.callV (N := MX7_itemsBelow) (As := [.int (p1)]) (S := []) (L0 := [some (.ref ((B + 1))), some (.int (p1)), none, none]) (b := (B + 1)) (am_r 3 rfl) rfl ovX7_itemsBelow q731 rfl rfl (xl_get (fun _ => sb_st)) rfl rfl rfl rfl (AW.heq xh_l (dX7_itemsBelow (Nat.le_trans hB (by omega))  hg3 (cQ_r (AW.heq xh_l.symm ?_))))
  have hr := (Option.some.inj hs).symm
  subst hr
  exact AW.iret (am_r 4 rfl) rfl hQ
noncomputable def sX9_objectsIn (S : XT) (B : Nat) (p1 : Int32) : Option (Except Nat Int32) :=
  oexc (sX9_requireBetween S B p1 (0 : Int32) (4 : Int32)) (fun e => e) fun w5 =>
  obind (sX7_itemsIn S.2.2.2.2.2.1 p1) fun r6 =>
  some (.ok (r6))
set_option maxRecDepth 100000 in
theorem dX9_objectsIn {g : AG} {h0 : AH} {S : XT} {Q : AO → AH → Prop} {B : Nat} {p1 : Int32} (hB : gB g ≤ B) (hst : Sta g h0)  {r : (Except Nat Int32)} (hs : sX9_objectsIn S B p1 = some r) (hQ : (∀ v : Int32, r = .ok v → Q (.ok (some (.int v))) (xh (bw h0 B S.1 S.2.2.1 S.2.2.2.2.2.2) B S.2.1 S.2.2.1 S.2.2.2.1 S.2.2.2.2.1 S.2.2.2.2.2.1)) ∧ (∀ e : Nat, r = .error e → ∀ z, S.1.1 ≤ z → z ≤ S.1.1 + 1 → Q (.error e) (xh (bw h0 B (z, S.1.2.1 - 1, S.1.2.2 - 6) S.2.2.1 S.2.2.2.2.2.2) B S.2.1 S.2.2.1 S.2.2.2.1 S.2.2.2.2.1 S.2.2.2.2.2.1))) : AW g MX9_objectsIn 0 [some (.ref (B)), some (.int (p1))] [] (xh (bw h0 B S.1 S.2.2.1 S.2.2.2.2.2.2) B S.2.1 S.2.2.1 S.2.2.2.1 S.2.2.2.2.1 S.2.2.2.2.2.1) Q := by
  unfold sX9_objectsIn at hs
  refine AW.iload_n (z := 1) (am_r 0 rfl) rfl rfl ?_
  refine AW.iconst (am_r 1 rfl) rfl ci_0 ?_
  refine AW.iconst (am_r 2 rfl) rfl ci_4 ?_
  refine oexc_e hs (fun r1 hg3 hs => ?_)
  refine AW.callS (N := MX9_requireBetween) (As := [.int (p1), .int ((0 : Int32)), .int ((4 : Int32))]) (S := []) (L0 := [some (.int (p1)), some (.int ((0 : Int32))), some (.int ((4 : Int32)))]) (am_r 3 rfl) rfl osX9_requireBetween q777 rfl rfl rfl rfl rfl (dX9_requireBetween hB hst  hg3 ⟨fun w5 hv4 => ?_, fun e hv4 z h1 h2 => ?_⟩)
  · subst hv4
    refine (cQ_v ?_)
    refine AW.aload_n (z := 0) (am_r 4 rfl) rfl rfl ?_
    refine AW.getO (am_r 5 rfl) rfl klX9 (k := 0) (by omega) q392 xh_0 rfl ?_
    refine AW.iload_n (z := 1) (am_r 6 rfl) rfl rfl ?_
    refine obind_e hs (fun r6 hg8 hs => ?_)
    refine AW.callV (N := MX7_itemsIn) (As := [.int (p1)]) (S := []) (L0 := [some (.ref ((B + 1))), some (.int (p1)), none, none]) (b := (B + 1)) (am_r 7 rfl) rfl ovX7_itemsIn q1387 rfl rfl (xl_get (fun _ => sb_st)) rfl rfl rfl rfl (AW.heq xh_l (dX7_itemsIn (Nat.le_trans hB (by omega))  hg8 (cQ_r (AW.heq xh_l.symm ?_))))
    have hr := (Option.some.inj hs).symm
    exact AW.iret (am_r 8 rfl) rfl (hQ.1 _ hr)
  · subst hv4
    have hr := (Option.some.inj hs).symm
    exact cQ_x (AX.out rfl (hQ.2 _ hr z h1 h2))
noncomputable def sX9_put (S : XT) (B : Nat) (p1 : Int32) : Option XT :=
  if (gi S.2.1 0 8 0) < 0 then
    some (S)
  else
    if (32 : Int32) ≤ (gi S.2.1 0 8 0) then
      some (S)
    else
      olet (si S.2.1 3 (gi S.2.1 0 8 0).toNatClampNeg 0 (p1.toInt8.toInt32.toInt8.toInt32)) fun S3 =>
      olet (si S3 0 8 0 ((gi S3 0 8 0) + (1 : Int32))) fun S4 =>
      some ((S.1, S4, S.2.2.1, S.2.2.2.1, S.2.2.2.2.1, S.2.2.2.2.2.1, S.2.2.2.2.2.2))
set_option maxRecDepth 100000 in
theorem dX9_put {g : AG} {h0 : AH} {S : XT} {Q : AO → AH → Prop} {B : Nat} {p1 : Int32} (hB : gB g ≤ B) (hst : Sta g h0)  {r : XT} (hs : sX9_put S B p1 = some r) (hQ : Q (.ok none) (xh (bw h0 B r.1 r.2.2.1 r.2.2.2.2.2.2) B r.2.1 r.2.2.1 r.2.2.2.1 r.2.2.2.2.1 r.2.2.2.2.2.1)) : AW g MX9_put 0 [some (.ref (B)), some (.int (p1))] [] (xh (bw h0 B S.1 S.2.2.1 S.2.2.2.2.2.2) B S.2.1 S.2.2.1 S.2.2.2.1 S.2.2.2.2.1 S.2.2.2.2.2.1) Q := by
  unfold sX9_put at hs
  refine AW.aload_n (z := 0) (am_r 0 rfl) rfl rfl ?_
  refine AW.getO (am_r 1 rfl) rfl klX9 (k := 8) (by omega) q400 xh_0 rfl ?_
  refine AW.if_lt (tg := 40) (am_r 2 rfl) rfl rfl (fun hc1 => ?_) (fun hc1 => ?_)
  · replace hs := (if_pos hc1).symm.trans hs
    have hr := (Option.some.inj hs).symm
    exact AW.vret (am_r 22 rfl) rfl (xt_q hr hQ)
  · replace hs := (if_neg hc1).symm.trans hs
    refine AW.aload_n (z := 0) (am_r 3 rfl) rfl rfl ?_
    refine AW.getO (am_r 4 rfl) rfl klX9 (k := 8) (by omega) q400 xh_0 rfl ?_
    refine AW.aload_n (z := 0) (am_r 5 rfl) rfl rfl ?_
    refine AW.getO (am_r 6 rfl) rfl klX9 (k := 7) (by omega) q399 xh_0 rfl ?_
    refine AW.alen (am_r 7 rfl) rfl rfl xh_128 cn_32 ?_
    refine AW.icmp_ge (tg := 40) (am_r 8 rfl) rfl rfl (fun hc2 => ?_) (fun hc2 => ?_)
    · replace hs := (if_pos hc2).symm.trans hs
      have hr := (Option.some.inj hs).symm
      exact AW.vret (am_r 22 rfl) rfl (xt_q hr hQ)
    · replace hs := (if_neg hc2).symm.trans hs
      refine AW.aload_n (z := 0) (am_r 9 rfl) rfl rfl ?_
      refine AW.getO (am_r 10 rfl) rfl klX9 (k := 7) (by omega) q399 xh_0 rfl ?_
      refine AW.aload_n (z := 0) (am_r 11 rfl) rfl rfl ?_
      refine AW.getO (am_r 12 rfl) rfl klX9 (k := 8) (by omega) q400 xh_0 rfl ?_
      refine AW.iload_n (z := 1) (am_r 13 rfl) rfl rfl ?_
      refine AW.i2b (am_r 14 rfl) rfl ?_
      refine AW.bast (am_r 15 rfl) rfl xh_128 (Nat.le_trans hB (by omega)) (vp_mk hc1 (by decide) (vp_hi hc2)) rfl ?_
      rw [show _ = _ from xhp_128]
      refine olet_e (P := fun y => AW g MX9_put 30 [some (.ref (B)), some (.int (p1))] [] (xh (bw h0 B S.1 S.2.2.1 S.2.2.2.2.2.2) B y S.2.2.1 S.2.2.2.1 S.2.2.2.2.1 S.2.2.2.2.2.1) Q) hs (fun S3 hs => ?_)
      refine AW.aload_n (z := 0) (am_r 16 rfl) rfl rfl ?_
      refine AW.dup (am_r 17 rfl) rfl rfl ?_
      refine AW.getO (am_r 18 rfl) rfl klX9 (k := 8) (by omega) q400 xh_0 rfl ?_
      refine AW.iconst (am_r 19 rfl) rfl ci_1 ?_
      refine AW.iadd (am_r 20 rfl) rfl ?_
      refine AW.putO (am_r 21 rfl) rfl klX9 (k := 8) (by omega) q400 (Or.inl rfl) xh_0 hB rfl rfl (xhp_0 (by omega)) ?_
      refine olet_e (P := fun y => AW g MX9_put 40 [some (.ref (B)), some (.int (p1))] [] (xh (bw h0 B S.1 S.2.2.1 S.2.2.2.2.2.2) B y S.2.2.1 S.2.2.2.1 S.2.2.2.2.1 S.2.2.2.2.2.1) Q) hs (fun S4 hs => ?_)
      have hr := (Option.some.inj hs).symm
      exact AW.vret (am_r 22 rfl) rfl (xt_q hr hQ)
noncomputable def sX9_write_j38 (S : XT) (B : Nat) (p1 : Int32) (k0 : Nat) (y1 : Int32) (y2 : Int32) : Option ((Nat × Int32 × XT) ⊕ (Except (Nat × XT) (Int32 × XT))) :=
  obind (sX9_put S B ((48 : Int32) + y2)) fun r14 =>
  if (sX5_asksApproval r14.2.2.2.2.2.1 (sX7_recipeAt r14.2.2.2.2.2.1 y2) (gi r14.2.2.2.2.2.1 3 4 k0)) = 0 then
    olet (y1 + (1 : Int32)) fun v22 =>
    some (.inl (k0, v22, r14))
  else
    obind (sX9_put r14 B (33 : Int32)) fun r23 =>
    olet (y1 + (1 : Int32)) fun v26 =>
    some (.inl (k0, v26, r23))
set_option maxRecDepth 100000 in
theorem dX9_write_j38 {g : AG} {h0 : AH} {S : XT} {Q : AO → AH → Prop} {B : Nat} {p1 : Int32} {k0 : Nat} {y1 : Int32} {y2 : Int32} (hB : gB g ≤ B) (hst : Sta g h0)  (hk0 : iok k0) {r : ((Nat × Int32 × XT) ⊕ (Except (Nat × XT) (Int32 × XT)))} (hs : sX9_write_j38 S B p1 k0 y1 y2 = some r) (hc : ∀ a : (Nat × Int32 × XT), r = .inl a → iok a.1 → AW g MX9_write 13 [some (.ref (B)), none, some (.ref ((B + 1) + 20 + 2 * a.1)), some (.int (a.2.1)), none] [] (xh (bw h0 B a.2.2.1 a.2.2.2.2.1 a.2.2.2.2.2.2.2.2) B a.2.2.2.1 a.2.2.2.2.1 a.2.2.2.2.2.1 a.2.2.2.2.2.2.1 a.2.2.2.2.2.2.2.1) Q) (he : ∀ z : (Except (Nat × XT) (Int32 × XT)), r = .inr z → (∀ v : (Int32 × XT), z = .ok v → Q (.ok (some (.int v.1))) (xh (bw h0 B v.2.1 v.2.2.2.1 v.2.2.2.2.2.2.2) B v.2.2.1 v.2.2.2.1 v.2.2.2.2.1 v.2.2.2.2.2.1 v.2.2.2.2.2.2.1)) ∧ (∀ e : (Nat × XT), z = .error e → ∀ z, e.2.1.1 ≤ z → z ≤ e.2.1.1 + 1 → Q (.error e.1) (xh (bw h0 B (z, e.2.1.2.1 - 1, e.2.1.2.2 - 6) e.2.2.2.1 e.2.2.2.2.2.2.2) B e.2.2.1 e.2.2.2.1 e.2.2.2.2.1 e.2.2.2.2.2.1 e.2.2.2.2.2.2.1))) : AW g MX9_write 38 [some (.ref (B)), none, some (.ref ((B + 1) + 20 + 2 * k0)), some (.int (y1)), some (.int (y2))] [] (xh (bw h0 B S.1 S.2.2.1 S.2.2.2.2.2.2) B S.2.1 S.2.2.1 S.2.2.2.1 S.2.2.2.2.1 S.2.2.2.2.2.1) Q := by
  unfold sX9_write_j38 at hs
  refine AW.aload_n (z := 0) (am_r 22 rfl) rfl rfl ?_
  refine AW.bipush (am_r 23 rfl) rfl cb_48 ?_
  refine AW.iload (am_r 24 rfl) rfl rfl ?_
  refine AW.iadd (am_r 25 rfl) rfl ?_
  refine obind_e hs (fun r14 hg16 hs => ?_)
  refine AW.callV (N := MX9_put) (As := [.int ((48 : Int32) + y2)]) (S := []) (L0 := [some (.ref (B)), some (.int ((48 : Int32) + y2))]) (b := B) (am_r 26 rfl) rfl ovX9_put q1489 rfl rfl xh_0 rfl rfl rfl rfl (dX9_put hB hst  hg16 (cQ_v ?_))
  refine AW.aload_n (z := 0) (am_r 27 rfl) rfl rfl ?_
  refine AW.getO (am_r 28 rfl) rfl klX9 (k := 0) (by omega) q392 xh_0 rfl ?_
  refine AW.iload (am_r 29 rfl) rfl rfl ?_
  refine AW.callV (N := MX7_recipeAt) (As := [.int (y2)]) (S := []) (L0 := [some (.ref ((B + 1))), some (.int (y2))]) (b := (B + 1)) (am_r 30 rfl) rfl ovX7_recipeAt q1004 rfl rfl (xl_get (fun _ => sb_st)) rfl rfl rfl rfl (AW.heq xh_l (dX7_recipeAt (Nat.le_trans hB (by omega))  rfl (fun hok18 => (cQ_r (AW.heq xh_l.symm ?_)))))
  refine AW.aload_n (z := 2) (am_r 31 rfl) rfl rfl ?_
  refine AW.getO (am_r 32 rfl) rfl klX2 (k := 4) (by omega) q131 (xl_get (fun _ => (sb_it hk0))) rfl ?_
  refine AW.callV (N := MX5_asksApproval) (As := [.int (gi r14.2.2.2.2.2.1 3 4 k0)]) (S := []) (L0 := [some (.ref ((B + 1) + 9 + (sX7_recipeAt r14.2.2.2.2.2.1 y2))), some (.int (gi r14.2.2.2.2.2.1 3 4 k0))]) (b := (B + 1) + 9 + (sX7_recipeAt r14.2.2.2.2.2.1 y2)) (am_r 33 rfl) rfl ovX5_asksApproval q1005 rfl rfl (xl_get (fun _ => (sb_re hok18))) rfl rfl rfl rfl (AW.heq xh_l (dX5_asksApproval (Nat.le_trans hB (by omega)) hok18 rfl (fun hok20 => (cQ_r (AW.heq xh_l.symm ?_)))))
  refine AW.if_eq (tg := 72) (am_r 34 rfl) rfl rfl (fun hc21 => ?_) (fun hc21 => ?_)
  · replace hs := (if_pos hc21).symm.trans hs
    refine AW.iinc (v := y1 + (1 : Int32)) (L' := [some (.ref (B)), none, some (.ref ((B + 1) + 20 + 2 * k0)), some (.int (y1 + (1 : Int32))), some (.int (y2))]) (am_r 38 rfl) rfl (Nat.le_of_ble_eq_true rfl) rfl (congrArg (fun z => y1 + z) ci_1) rfl ?_
    refine olet_e (P := fun (y : Int32) => AW g MX9_write 75 [some (.ref (B)), none, some (.ref ((B + 1) + 20 + 2 * k0)), some (.int (y)), some (.int (y2))] [] (xh (bw h0 B r14.1 r14.2.2.1 r14.2.2.2.2.2.2) B r14.2.1 r14.2.2.1 r14.2.2.2.1 r14.2.2.2.2.1 r14.2.2.2.2.2.1) Q) hs (fun v22 hs => ?_)
    refine AW.goto (tg := 13) (am_r 39 rfl) rfl ?_
    refine AW.lessL (L' := [some (.ref (B)), none, some (.ref ((B + 1) + 20 + 2 * k0)), some (.int (v22)), none]) ⟨rfl, rfl, rfl, trivial⟩ ?_
    have hr := (Option.some.inj hs).symm
    exact hc (k0, v22, r14) hr hk0
  · replace hs := (if_neg hc21).symm.trans hs
    refine AW.aload_n (z := 0) (am_r 35 rfl) rfl rfl ?_
    refine AW.bipush (am_r 36 rfl) rfl cb_33 ?_
    refine obind_e hs (fun r23 hg25 hs => ?_)
    refine AW.callV (N := MX9_put) (As := [.int ((33 : Int32))]) (S := []) (L0 := [some (.ref (B)), some (.int ((33 : Int32)))]) (b := B) (am_r 37 rfl) rfl ovX9_put q1489 rfl rfl xh_0 rfl rfl rfl rfl (dX9_put hB hst  hg25 (cQ_v ?_))
    refine AW.iinc (v := y1 + (1 : Int32)) (L' := [some (.ref (B)), none, some (.ref ((B + 1) + 20 + 2 * k0)), some (.int (y1 + (1 : Int32))), some (.int (y2))]) (am_r 38 rfl) rfl (Nat.le_of_ble_eq_true rfl) rfl (congrArg (fun z => y1 + z) ci_1) rfl ?_
    refine olet_e (P := fun (y : Int32) => AW g MX9_write 75 [some (.ref (B)), none, some (.ref ((B + 1) + 20 + 2 * k0)), some (.int (y)), some (.int (y2))] [] (xh (bw h0 B r23.1 r23.2.2.1 r23.2.2.2.2.2.2) B r23.2.1 r23.2.2.1 r23.2.2.2.1 r23.2.2.2.2.1 r23.2.2.2.2.2.1) Q) hs (fun v26 hs => ?_)
    refine AW.goto (tg := 13) (am_r 39 rfl) rfl ?_
    refine AW.lessL (L' := [some (.ref (B)), none, some (.ref ((B + 1) + 20 + 2 * k0)), some (.int (v26)), none]) ⟨rfl, rfl, rfl, trivial⟩ ?_
    have hr := (Option.some.inj hs).symm
    exact hc (k0, v26, r23) hr hk0
noncomputable def sX9_write_l13_step  (B : Nat) (p1 : Int32) (a : (Nat × Int32 × XT)) : Option ((Nat × Int32 × XT) ⊕ (Except (Nat × XT) (Int32 × XT))) :=
  if (gi a.2.2.2.2.2.2.2.1 3 7 a.1) ≤ a.2.1 then
    oinr (
    some (.ok ((gi a.2.2.2.1 0 8 0, a.2.2))))
  else
    obind (sX2_queuedAt a.2.2.2.2.2.2.2.1 a.1 a.2.1) fun r10 =>
    if a.2.1 ≤ 0 then
      sX9_write_j38 a.2.2 B p1 a.1 a.2.1 r10
    else
      obind (sX9_put a.2.2 B (44 : Int32)) fun r27 =>
      sX9_write_j38 r27 B p1 a.1 a.2.1 r10
noncomputable def sX9_write_l13  (B : Nat) (p1 : Int32) (a : (Nat × Int32 × XT)) : Option (Except (Nat × XT) (Int32 × XT)) := itw (sX9_write_l13_step  B p1) a
set_option maxRecDepth 100000 in
theorem dX9_write_l13 {g : AG} {h0 : AH} {Q : AO → AH → Prop} {B : Nat} {p1 : Int32} (hB : gB g ≤ B) (hst : Sta g h0)  {a : (Nat × Int32 × XT)} (hk0 : iok a.1) {r : (Except (Nat × XT) (Int32 × XT))} (hs : sX9_write_l13  B p1 a = some r) (hQ : (∀ v : (Int32 × XT), r = .ok v → Q (.ok (some (.int v.1))) (xh (bw h0 B v.2.1 v.2.2.2.1 v.2.2.2.2.2.2.2) B v.2.2.1 v.2.2.2.1 v.2.2.2.2.1 v.2.2.2.2.2.1 v.2.2.2.2.2.2.1)) ∧ (∀ e : (Nat × XT), r = .error e → ∀ z, e.2.1.1 ≤ z → z ≤ e.2.1.1 + 1 → Q (.error e.1) (xh (bw h0 B (z, e.2.1.2.1 - 1, e.2.1.2.2 - 6) e.2.2.2.1 e.2.2.2.2.2.2.2) B e.2.2.1 e.2.2.2.1 e.2.2.2.2.1 e.2.2.2.2.2.1 e.2.2.2.2.2.2.1))) : AW g MX9_write 13 [some (.ref (B)), none, some (.ref ((B + 1) + 20 + 2 * a.1)), some (.int (a.2.1)), none] [] (xh (bw h0 B a.2.2.1 a.2.2.2.2.1 a.2.2.2.2.2.2.2.2) B a.2.2.2.1 a.2.2.2.2.1 a.2.2.2.2.2.1 a.2.2.2.2.2.2.1 a.2.2.2.2.2.2.2.1) Q := by
  refine itw_e (a := a) (b := r) (P := fun (a : (Nat × Int32 × XT)) => iok a.1 → AW g MX9_write 13 [some (.ref (B)), none, some (.ref ((B + 1) + 20 + 2 * a.1)), some (.int (a.2.1)), none] [] (xh (bw h0 B a.2.2.1 a.2.2.2.2.1 a.2.2.2.2.2.2.2.2) B a.2.2.2.1 a.2.2.2.2.1 a.2.2.2.2.2.1 a.2.2.2.2.2.2.1 a.2.2.2.2.2.2.2.1) Q) (Post := fun r => (∀ v : (Int32 × XT), r = .ok v → Q (.ok (some (.int v.1))) (xh (bw h0 B v.2.1 v.2.2.2.1 v.2.2.2.2.2.2.2) B v.2.2.1 v.2.2.2.1 v.2.2.2.2.1 v.2.2.2.2.2.1 v.2.2.2.2.2.2.1)) ∧ (∀ e : (Nat × XT), r = .error e → ∀ z, e.2.1.1 ≤ z → z ≤ e.2.1.1 + 1 → Q (.error e.1) (xh (bw h0 B (z, e.2.1.2.1 - 1, e.2.1.2.2 - 6) e.2.2.2.1 e.2.2.2.2.2.2.2) B e.2.2.1 e.2.2.2.1 e.2.2.2.2.1 e.2.2.2.2.2.1 e.2.2.2.2.2.2.1))) (fun a r hs hc he hk0 => ?_) hs hQ hk0
  unfold sX9_write_l13_step at hs
  refine AW.iload_n (z := 3) (am_r 9 rfl) rfl rfl ?_
  refine AW.aload_n (z := 2) (am_r 10 rfl) rfl rfl ?_
  refine AW.getO (am_r 11 rfl) rfl klX2 (k := 7) (by omega) q140 (xl_get (fun _ => (sb_it hk0))) rfl ?_
  refine AW.icmp_ge (tg := 78) (am_r 12 rfl) rfl rfl (fun hc7 => ?_) (fun hc7 => ?_)
  · replace hs := (if_pos hc7).symm.trans hs
    refine oinr_e hs (fun z8 hz9 hs => ?_)
    have hQ := he _ hz9
    refine AW.aload_n (z := 0) (am_r 40 rfl) rfl rfl ?_
    refine AW.getO (am_r 41 rfl) rfl klX9 (k := 8) (by omega) q400 xh_0 rfl ?_
    have hr := (Option.some.inj hs).symm
    exact AW.iret (am_r 42 rfl) rfl (xt_q1 (f := fun v => .ok (some (.int v))) (r := (gi a.2.2.2.1 0 8 0, a.2.2)) rfl (hQ.1 (gi a.2.2.2.1 0 8 0, a.2.2) hr))
  · replace hs := (if_neg hc7).symm.trans hs
    refine AW.aload_n (z := 2) (am_r 13 rfl) rfl rfl ?_
    refine AW.iload_n (z := 3) (am_r 14 rfl) rfl rfl ?_
    refine obind_e hs (fun r10 hg12 hs => ?_)
    refine AW.callV (N := MX2_queuedAt) (As := [.int (a.2.1)]) (S := []) (L0 := [some (.ref ((B + 1) + 20 + 2 * a.1)), some (.int (a.2.1))]) (b := (B + 1) + 20 + 2 * a.1) (am_r 15 rfl) rfl ovX2_queuedAt q1094 rfl rfl (xl_get (fun _ => (sb_it hk0))) rfl rfl rfl rfl (AW.heq xh_l (dX2_queuedAt (Nat.le_trans hB (by omega)) hk0 hg12 (cQ_r (AW.heq xh_l.symm ?_))))
    refine AW.istore (L' := [some (.ref (B)), none, some (.ref ((B + 1) + 20 + 2 * a.1)), some (.int (a.2.1)), some (.int (r10))]) (am_r 16 rfl) rfl (Nat.le_of_ble_eq_true rfl) rfl ?_
    refine AW.iload_n (z := 3) (am_r 17 rfl) rfl rfl ?_
    refine AW.if_le (tg := 38) (am_r 18 rfl) rfl rfl (fun hc13 => ?_) (fun hc13 => ?_)
    · replace hs := (if_pos hc13).symm.trans hs
      exact dX9_write_j38 hB hst  hk0 hs hc he
    · replace hs := (if_neg hc13).symm.trans hs
      refine AW.aload_n (z := 0) (am_r 19 rfl) rfl rfl ?_
      refine AW.bipush (am_r 20 rfl) rfl cb_44 ?_
      refine obind_e hs (fun r27 hg29 hs => ?_)
      refine AW.callV (N := MX9_put) (As := [.int ((44 : Int32))]) (S := []) (L0 := [some (.ref (B)), some (.int ((44 : Int32)))]) (b := B) (am_r 21 rfl) rfl ovX9_put q1489 rfl rfl xh_0 rfl rfl rfl rfl (dX9_put hB hst  hg29 (cQ_v ?_))
      exact dX9_write_j38 hB hst  hk0 hs hc he
noncomputable def sX9_write (S : XT) (B : Nat) (p1 : Int32) : Option (Except (Nat × XT) (Int32 × XT)) :=
  oexc (sX9_itemOf S B p1) (fun e => (e, S)) fun w5 =>
  olet (si S.2.1 0 8 0 ((0 : Int32))) fun S6 =>
  sX9_write_l13  B p1 (w5, (0 : Int32), (S.1, S6, S.2.2.1, S.2.2.2.1, S.2.2.2.2.1, S.2.2.2.2.2.1, S.2.2.2.2.2.2))
set_option maxRecDepth 100000 in
theorem dX9_write {g : AG} {h0 : AH} {S : XT} {Q : AO → AH → Prop} {B : Nat} {p1 : Int32} (hB : gB g ≤ B) (hst : Sta g h0)  {r : (Except (Nat × XT) (Int32 × XT))} (hs : sX9_write S B p1 = some r) (hQ : (∀ v : (Int32 × XT), r = .ok v → Q (.ok (some (.int v.1))) (xh (bw h0 B v.2.1 v.2.2.2.1 v.2.2.2.2.2.2.2) B v.2.2.1 v.2.2.2.1 v.2.2.2.2.1 v.2.2.2.2.2.1 v.2.2.2.2.2.2.1)) ∧ (∀ e : (Nat × XT), r = .error e → ∀ z, e.2.1.1 ≤ z → z ≤ e.2.1.1 + 1 → Q (.error e.1) (xh (bw h0 B (z, e.2.1.2.1 - 1, e.2.1.2.2 - 6) e.2.2.2.1 e.2.2.2.2.2.2.2) B e.2.2.1 e.2.2.2.1 e.2.2.2.2.1 e.2.2.2.2.2.1 e.2.2.2.2.2.2.1))) : AW g MX9_write 0 [some (.ref (B)), some (.int (p1)), none, none, none] [] (xh (bw h0 B S.1 S.2.2.1 S.2.2.2.2.2.2) B S.2.1 S.2.2.1 S.2.2.2.1 S.2.2.2.2.1 S.2.2.2.2.2.1) Q := by
  unfold sX9_write at hs
  refine AW.aload_n (z := 0) (am_r 0 rfl) rfl rfl ?_
  refine AW.iload_n (z := 1) (am_r 1 rfl) rfl rfl ?_
  refine oexc_e hs (fun r1 hg3 hs => ?_)
  refine AW.callV (N := MX9_itemOf) (As := [.int (p1)]) (S := []) (L0 := [some (.ref (B)), some (.int (p1))]) (b := B) (am_r 2 rfl) rfl ovX9_itemOf q948 rfl rfl xh_0 rfl rfl rfl rfl (dX9_itemOf hB hst  hg3 ⟨fun w5 hv4 => ?_, fun e hv4 z h1 h2 => ?_⟩)
  · subst hv4
    refine fun hok2 => (cQ_r ?_)
    refine AW.astore_n (L' := [some (.ref (B)), some (.int (p1)), some (.ref ((B + 1) + 20 + 2 * w5)), none, none]) (z := 2) (am_r 3 rfl) rfl (Nat.le_of_ble_eq_true rfl) rfl ?_
    refine AW.aload_n (z := 0) (am_r 4 rfl) rfl rfl ?_
    refine AW.iconst (am_r 5 rfl) rfl ci_0 ?_
    refine AW.putO (am_r 6 rfl) rfl klX9 (k := 8) (by omega) q400 (Or.inl rfl) xh_0 hB rfl rfl (xhp_0 (by omega)) ?_
    refine olet_e (P := fun y => AW g MX9_write 11 [some (.ref (B)), some (.int (p1)), some (.ref ((B + 1) + 20 + 2 * w5)), none, none] [] (xh (bw h0 B S.1 S.2.2.1 S.2.2.2.2.2.2) B y S.2.2.1 S.2.2.2.1 S.2.2.2.2.1 S.2.2.2.2.2.1) Q) hs (fun S6 hs => ?_)
    refine AW.iconst (am_r 7 rfl) rfl ci_0 ?_
    refine AW.istore_n (L' := [some (.ref (B)), some (.int (p1)), some (.ref ((B + 1) + 20 + 2 * w5)), some (.int ((0 : Int32))), none]) (z := 3) (am_r 8 rfl) rfl (Nat.le_of_ble_eq_true rfl) rfl ?_
    refine AW.lessL (L' := [some (.ref (B)), none, some (.ref ((B + 1) + 20 + 2 * w5)), some (.int ((0 : Int32))), none]) ⟨rfl, rfl, rfl, trivial⟩ ?_
    exact xt_c (S := (S.1, S6, S.2.2.1, S.2.2.2.1, S.2.2.2.2.1, S.2.2.2.2.2.1, S.2.2.2.2.2.2)) rfl (dX9_write_l13 (a := (w5, (0 : Int32), (S.1, S6, S.2.2.1, S.2.2.2.1, S.2.2.2.2.1, S.2.2.2.2.2.1, S.2.2.2.2.2.2))) hB hst  hok2 hs hQ)
  · subst hv4
    have hr := (Option.some.inj hs).symm
    exact cQ_x (AX.out rfl (hQ.2 _ hr z h1 h2))
noncomputable def sX9_outputByte (S : XT) (B : Nat) (p1 : Int32) : Option Int32 :=
  if p1 < 0 then
    some ((-1 : Int32))
  else
    if (gi S.2.1 0 8 0) ≤ p1 then
      some ((-1 : Int32))
    else
      if (32 : Int32) ≤ p1 then
        some ((-1 : Int32))
      else
        some (gi S.2.1 3 p1.toNatClampNeg 0)
set_option maxRecDepth 100000 in
theorem dX9_outputByte {g : AG} {h0 : AH} {S : XT} {Q : AO → AH → Prop} {B : Nat} {p1 : Int32} (hB : gB g ≤ B) (hst : Sta g h0)  {r : Int32} (hs : sX9_outputByte S B p1 = some r) (hQ : Q (.ok (some (.int r))) (xh (bw h0 B S.1 S.2.2.1 S.2.2.2.2.2.2) B S.2.1 S.2.2.1 S.2.2.2.1 S.2.2.2.2.1 S.2.2.2.2.2.1)) : AW g MX9_outputByte 0 [some (.ref (B)), some (.int (p1))] [] (xh (bw h0 B S.1 S.2.2.1 S.2.2.2.2.2.2) B S.2.1 S.2.2.1 S.2.2.2.1 S.2.2.2.2.1 S.2.2.2.2.2.1) Q := by
  unfold sX9_outputByte at hs
  refine AW.iload_n (z := 1) (am_r 0 rfl) rfl rfl ?_
  refine AW.if_lt (tg := 30) (am_r 1 rfl) rfl rfl (fun hc1 => ?_) (fun hc1 => ?_)
  · replace hs := (if_pos hc1).symm.trans hs
    refine AW.iconst (am_r 16 rfl) rfl ci_m1 ?_
    have hr := (Option.some.inj hs).symm
    subst hr
    exact AW.iret (am_r 17 rfl) rfl hQ
  · replace hs := (if_neg hc1).symm.trans hs
    refine AW.iload_n (z := 1) (am_r 2 rfl) rfl rfl ?_
    refine AW.aload_n (z := 0) (am_r 3 rfl) rfl rfl ?_
    refine AW.getO (am_r 4 rfl) rfl klX9 (k := 8) (by omega) q400 xh_0 rfl ?_
    refine AW.icmp_ge (tg := 30) (am_r 5 rfl) rfl rfl (fun hc2 => ?_) (fun hc2 => ?_)
    · replace hs := (if_pos hc2).symm.trans hs
      refine AW.iconst (am_r 16 rfl) rfl ci_m1 ?_
      have hr := (Option.some.inj hs).symm
      subst hr
      exact AW.iret (am_r 17 rfl) rfl hQ
    · replace hs := (if_neg hc2).symm.trans hs
      refine AW.iload_n (z := 1) (am_r 6 rfl) rfl rfl ?_
      refine AW.aload_n (z := 0) (am_r 7 rfl) rfl rfl ?_
      refine AW.getO (am_r 8 rfl) rfl klX9 (k := 7) (by omega) q399 xh_0 rfl ?_
      refine AW.alen (am_r 9 rfl) rfl rfl xh_128 cn_32 ?_
      refine AW.icmp_ge (tg := 30) (am_r 10 rfl) rfl rfl (fun hc3 => ?_) (fun hc3 => ?_)
      · replace hs := (if_pos hc3).symm.trans hs
        refine AW.iconst (am_r 16 rfl) rfl ci_m1 ?_
        have hr := (Option.some.inj hs).symm
        subst hr
        exact AW.iret (am_r 17 rfl) rfl hQ
      · replace hs := (if_neg hc3).symm.trans hs
        refine AW.aload_n (z := 0) (am_r 11 rfl) rfl rfl ?_
        refine AW.getO (am_r 12 rfl) rfl klX9 (k := 7) (by omega) q399 xh_0 rfl ?_
        refine AW.iload_n (z := 1) (am_r 13 rfl) rfl rfl ?_
        refine AW.bald (am_r 14 rfl) rfl xh_128 (vp_mk hc1 (by decide) (vp_hi hc3)) rfl ?_
        refine AW.goto (tg := 31) (am_r 15 rfl) rfl ?_
        have hr := (Option.some.inj hs).symm
        subst hr
        exact AW.iret (am_r 17 rfl) rfl hQ
noncomputable def sX9_perform_j74 (S : XT) (B : Nat) (p1 : Int32) (y0 : Int32) (y1 : Int32) (y2 : Int32) : Option (Except (Nat × XT) (Int32 × XT)) :=
  if y0 = (5 : Int32) then
    oexc (sX9_plan S B y1 y2) (fun e => (e.1, e.2)) fun w18 =>
    some (.ok ((w18.1, w18.2)))
  else
  if y0 = (6 : Int32) then
    oexc (sX9_cancel S B y1) (fun e => (e.1, e.2)) fun w24 =>
    some (.ok ((w24.1, w24.2)))
  else
  if y0 = (7 : Int32) then
    oexc (sX9_approve S B y1) (fun e => (e.1, e.2)) fun w30 =>
    some (.ok ((w30.1, w30.2)))
  else
  if y0 = (8 : Int32) then
    oexc (sX9_lend S B y1 y2 (sX4_commandPart S.2.2.2.1 p1 (3 : Int32)) (sX4_commandPart S.2.2.2.1 p1 (4 : Int32))) (fun e => (e.1, e.2)) fun w40 =>
    some (.ok ((w40.1, w40.2)))
  else
  if y0 = (9 : Int32) then
    oexc (sX9_recall S B y1) (fun e => (e.1, e.2)) fun w46 =>
    some (.ok ((w46.1, w46.2)))
  else
  some (.ok (((-4 : Int32), S)))
set_option maxRecDepth 100000 in
theorem dX9_perform_j74 {g : AG} {h0 : AH} {S : XT} {Q : AO → AH → Prop} {B : Nat} {p1 : Int32} {y0 : Int32} {y1 : Int32} {y2 : Int32} (hB : gB g ≤ B) (hst : Sta g h0)   {r : (Except (Nat × XT) (Int32 × XT))} (hs : sX9_perform_j74 S B p1 y0 y1 y2 = some r) (hQ : (∀ v : (Int32 × XT), r = .ok v → Q (.ok (some (.int v.1))) (xh (bw h0 B v.2.1 v.2.2.2.1 v.2.2.2.2.2.2.2) B v.2.2.1 v.2.2.2.1 v.2.2.2.2.1 v.2.2.2.2.2.1 v.2.2.2.2.2.2.1)) ∧ (∀ e : (Nat × XT), r = .error e → ∀ z, e.2.1.1 ≤ z → z ≤ e.2.1.1 + 1 → Q (.error e.1) (xh (bw h0 B (z, e.2.1.2.1 - 1, e.2.1.2.2 - 6) e.2.2.2.1 e.2.2.2.2.2.2.2) B e.2.2.1 e.2.2.2.1 e.2.2.2.2.1 e.2.2.2.2.2.1 e.2.2.2.2.2.2.1))) : AW g MX9_perform 74 [some (.ref (B)), some (.int (p1)), some (.int (y0)), some (.int (y1)), some (.int (y2))] [] (xh (bw h0 B S.1 S.2.2.1 S.2.2.2.2.2.2) B S.2.1 S.2.2.1 S.2.2.2.1 S.2.2.2.2.1 S.2.2.2.2.2.1) Q := by
  unfold sX9_perform_j74 at hs
  refine AW.iload_n (z := 2) (am_r 40 rfl) rfl rfl ?_
  by_cases hw13 : y0 = (5 : Int32)
  · replace hs := (if_pos hw13).symm.trans hs
    refine AW.tabsw_at (tg := 108) (i := 0) (am_r 41 rfl) hw13 rfl rfl rfl (by decide) ?_
    refine AW.aload_n (z := 0) (am_r 42 rfl) rfl rfl ?_
    refine AW.iload_n (z := 3) (am_r 43 rfl) rfl rfl ?_
    refine AW.iload (am_r 44 rfl) rfl rfl ?_
    refine oexc_e hs (fun r14 hg16 hs => ?_)
    refine AW.callV (N := MX9_plan) (As := [.int (y1), .int (y2)]) (S := []) (L0 := [some (.ref (B)), some (.int (y1)), some (.int (y2)), none]) (b := B) (am_r 45 rfl) rfl ovX9_plan q944 rfl rfl xh_0 rfl rfl rfl rfl (dX9_plan hB hst  hg16 ⟨fun w18 hv17 => ?_, fun e hv17 z h1 h2 => ?_⟩)
    · subst hv17
      refine (cQ_r ?_)
      have hr := (Option.some.inj hs).symm
      exact AW.iret (am_r 46 rfl) rfl (xt_q1 (f := fun v => .ok (some (.int v))) (r := (w18.1, w18.2)) rfl (hQ.1 (w18.1, w18.2) hr))
    · subst hv17
      have hr := (Option.some.inj hs).symm
      exact cQ_x (AX.out rfl (hQ.2 _ hr z h1 h2))
  replace hs := (if_neg hw13).symm.trans hs
  by_cases hw19 : y0 = (6 : Int32)
  · replace hs := (if_pos hw19).symm.trans hs
    refine AW.tabsw_at (tg := 116) (i := 1) (am_r 41 rfl) hw19 rfl rfl rfl (by decide) ?_
    refine AW.aload_n (z := 0) (am_r 47 rfl) rfl rfl ?_
    refine AW.iload_n (z := 3) (am_r 48 rfl) rfl rfl ?_
    refine oexc_e hs (fun r20 hg22 hs => ?_)
    refine AW.callV (N := MX9_cancel) (As := [.int (y1)]) (S := []) (L0 := [some (.ref (B)), some (.int (y1)), none]) (b := B) (am_r 49 rfl) rfl ovX9_cancel q983 rfl rfl xh_0 rfl rfl rfl rfl (dX9_cancel hB hst  hg22 ⟨fun w24 hv23 => ?_, fun e hv23 z h1 h2 => ?_⟩)
    · subst hv23
      refine (cQ_r ?_)
      have hr := (Option.some.inj hs).symm
      exact AW.iret (am_r 50 rfl) rfl (xt_q1 (f := fun v => .ok (some (.int v))) (r := (w24.1, w24.2)) rfl (hQ.1 (w24.1, w24.2) hr))
    · subst hv23
      have hr := (Option.some.inj hs).symm
      exact cQ_x (AX.out rfl (hQ.2 _ hr z h1 h2))
  replace hs := (if_neg hw19).symm.trans hs
  by_cases hw25 : y0 = (7 : Int32)
  · replace hs := (if_pos hw25).symm.trans hs
    refine AW.tabsw_at (tg := 122) (i := 2) (am_r 41 rfl) hw25 rfl rfl rfl (by decide) ?_
    refine AW.aload_n (z := 0) (am_r 51 rfl) rfl rfl ?_
    refine AW.iload_n (z := 3) (am_r 52 rfl) rfl rfl ?_
    refine oexc_e hs (fun r26 hg28 hs => ?_)
    refine AW.callV (N := MX9_approve) (As := [.int (y1)]) (S := []) (L0 := [some (.ref (B)), some (.int (y1)), none]) (b := B) (am_r 53 rfl) rfl ovX9_approve q999 rfl rfl xh_0 rfl rfl rfl rfl (dX9_approve hB hst  hg28 ⟨fun w30 hv29 => ?_, fun e hv29 z h1 h2 => ?_⟩)
    · subst hv29
      refine (cQ_r ?_)
      have hr := (Option.some.inj hs).symm
      exact AW.iret (am_r 54 rfl) rfl (xt_q1 (f := fun v => .ok (some (.int v))) (r := (w30.1, w30.2)) rfl (hQ.1 (w30.1, w30.2) hr))
    · subst hv29
      have hr := (Option.some.inj hs).symm
      exact cQ_x (AX.out rfl (hQ.2 _ hr z h1 h2))
  replace hs := (if_neg hw25).symm.trans hs
  by_cases hw31 : y0 = (8 : Int32)
  · replace hs := (if_pos hw31).symm.trans hs
    refine AW.tabsw_at (tg := 128) (i := 3) (am_r 41 rfl) hw31 rfl rfl rfl (by decide) ?_
    refine AW.aload_n (z := 0) (am_r 55 rfl) rfl rfl ?_
    refine AW.iload_n (z := 3) (am_r 56 rfl) rfl rfl ?_
    refine AW.iload (am_r 57 rfl) rfl rfl ?_
    refine AW.aload_n (z := 0) (am_r 58 rfl) rfl rfl ?_
    refine AW.getO (am_r 59 rfl) rfl klX9 (k := 5) (by omega) q397 xh_0 rfl ?_
    refine AW.iload_n (z := 1) (am_r 60 rfl) rfl rfl ?_
    refine AW.iconst (am_r 61 rfl) rfl ci_3 ?_
    refine AW.callV (N := MX4_commandPart) (As := [.int (p1), .int ((3 : Int32))]) (S := [(.int (y2)), (.int (y1)), (.ref (B))]) (L0 := [some (.ref ((B + 121))), some (.int (p1)), some (.int ((3 : Int32))), none]) (b := (B + 121)) (am_r 62 rfl) rfl ovX4_commandPart q769 rfl rfl (xr_get (fun _ => rb_0)) rfl rfl rfl rfl (AW.heq xh_r (dX4_commandPart (Nat.le_trans hB (by omega)) (Sta.blk (Sta.blk (Sta.blk (sta_bw hst hB) hB) (Nat.le_trans hB (by omega))) (Nat.le_trans hB (by omega)))  rfl (cQ_r (AW.heq xh_r.symm ?_))))
    refine AW.aload_n (z := 0) (am_r 63 rfl) rfl rfl ?_
    refine AW.getO (am_r 64 rfl) rfl klX9 (k := 5) (by omega) q397 xh_0 rfl ?_
    refine AW.iload_n (z := 1) (am_r 65 rfl) rfl rfl ?_
    refine AW.iconst (am_r 66 rfl) rfl ci_4 ?_
    refine AW.callV (N := MX4_commandPart) (As := [.int (p1), .int ((4 : Int32))]) (S := [(.int (sX4_commandPart S.2.2.2.1 p1 (3 : Int32))), (.int (y2)), (.int (y1)), (.ref (B))]) (L0 := [some (.ref ((B + 121))), some (.int (p1)), some (.int ((4 : Int32))), none]) (b := (B + 121)) (am_r 67 rfl) rfl ovX4_commandPart q769 rfl rfl (xr_get (fun _ => rb_0)) rfl rfl rfl rfl (AW.heq xh_r (dX4_commandPart (Nat.le_trans hB (by omega)) (Sta.blk (Sta.blk (Sta.blk (sta_bw hst hB) hB) (Nat.le_trans hB (by omega))) (Nat.le_trans hB (by omega)))  rfl (cQ_r (AW.heq xh_r.symm ?_))))
    refine oexc_e hs (fun r36 hg38 hs => ?_)
    refine AW.callV (N := MX9_lend) (As := [.int (y1), .int (y2), .int (sX4_commandPart S.2.2.2.1 p1 (3 : Int32)), .int (sX4_commandPart S.2.2.2.1 p1 (4 : Int32))]) (S := []) (L0 := [some (.ref (B)), some (.int (y1)), some (.int (y2)), some (.int (sX4_commandPart S.2.2.2.1 p1 (3 : Int32))), some (.int (sX4_commandPart S.2.2.2.1 p1 (4 : Int32))), none]) (b := B) (am_r 68 rfl) rfl ovX9_lend q1006 rfl rfl xh_0 rfl rfl rfl rfl (dX9_lend hB hst  hg38 ⟨fun w40 hv39 => ?_, fun e hv39 z h1 h2 => ?_⟩)
    · subst hv39
      refine (cQ_r ?_)
      have hr := (Option.some.inj hs).symm
      exact AW.iret (am_r 69 rfl) rfl (xt_q1 (f := fun v => .ok (some (.int v))) (r := (w40.1, w40.2)) rfl (hQ.1 (w40.1, w40.2) hr))
    · subst hv39
      have hr := (Option.some.inj hs).symm
      exact cQ_x (AX.out rfl (hQ.2 _ hr z h1 h2))
  replace hs := (if_neg hw31).symm.trans hs
  by_cases hw41 : y0 = (9 : Int32)
  · replace hs := (if_pos hw41).symm.trans hs
    refine AW.tabsw_at (tg := 154) (i := 4) (am_r 41 rfl) hw41 rfl rfl rfl (by decide) ?_
    refine AW.aload_n (z := 0) (am_r 70 rfl) rfl rfl ?_
    refine AW.iload_n (z := 3) (am_r 71 rfl) rfl rfl ?_
    refine oexc_e hs (fun r42 hg44 hs => ?_)
    refine AW.callV (N := MX9_recall) (As := [.int (y1)]) (S := []) (L0 := [some (.ref (B)), some (.int (y1)), none]) (b := B) (am_r 72 rfl) rfl ovX9_recall q1015 rfl rfl xh_0 rfl rfl rfl rfl (dX9_recall hB hst  hg44 ⟨fun w46 hv45 => ?_, fun e hv45 z h1 h2 => ?_⟩)
    · subst hv45
      refine (cQ_r ?_)
      have hr := (Option.some.inj hs).symm
      exact AW.iret (am_r 73 rfl) rfl (xt_q1 (f := fun v => .ok (some (.int v))) (r := (w46.1, w46.2)) rfl (hQ.1 (w46.1, w46.2) hr))
    · subst hv45
      have hr := (Option.some.inj hs).symm
      exact cQ_x (AX.out rfl (hQ.2 _ hr z h1 h2))
  replace hs := (if_neg hw41).symm.trans hs
  refine AW.tabsw_d (tg := 160) [5, 6, 7, 8, 9] (am_r 41 rfl) rfl (by decide) (by decide) (List.forall_mem_cons.mpr ⟨hw13, List.forall_mem_cons.mpr ⟨hw19, List.forall_mem_cons.mpr ⟨hw25, List.forall_mem_cons.mpr ⟨hw31, List.forall_mem_cons.mpr ⟨hw41, fun _ h => nomatch h⟩⟩⟩⟩⟩) ?_
  refine AW.bipush (am_r 74 rfl) rfl cb_m4 ?_
  have hr := (Option.some.inj hs).symm
  exact AW.iret (am_r 75 rfl) rfl (xt_q1 (f := fun v => .ok (some (.int v))) (r := ((-4 : Int32), S)) rfl (hQ.1 ((-4 : Int32), S) hr))
noncomputable def sX9_perform (S : XT) (B : Nat) (p1 : Int32) : Option (Except (Nat × XT) (Int32 × XT)) :=
  olet (sX4_commandPart S.2.2.2.1 p1 (0 : Int32)) fun v3 =>
  olet (sX4_commandPart S.2.2.2.1 p1 (1 : Int32)) fun v6 =>
  olet (sX4_commandPart S.2.2.2.1 p1 (2 : Int32)) fun v9 =>
  if v3 = (10 : Int32) then
    oexc (sX9_tick S B v6) (fun e => (e.1, e.2)) fun w52 =>
    some (.ok ((w52.1, w52.2)))
  else
    if (gi S.2.2.2.2.2.1 0 9 0) ≤ v6 then
      some (.ok (((-4 : Int32), S)))
    else
      if v3 = (5 : Int32) then
        if v9 < (gi S.2.2.2.2.2.1 0 8 0) then
          sX9_perform_j74 S B p1 v3 v6 v9
        else
          some (.ok (((-4 : Int32), S)))
      else
        sX9_perform_j74 S B p1 v3 v6 v9
set_option maxRecDepth 100000 in
theorem dX9_perform {g : AG} {h0 : AH} {S : XT} {Q : AO → AH → Prop} {B : Nat} {p1 : Int32} (hB : gB g ≤ B) (hst : Sta g h0)  {r : (Except (Nat × XT) (Int32 × XT))} (hs : sX9_perform S B p1 = some r) (hQ : (∀ v : (Int32 × XT), r = .ok v → Q (.ok (some (.int v.1))) (xh (bw h0 B v.2.1 v.2.2.2.1 v.2.2.2.2.2.2.2) B v.2.2.1 v.2.2.2.1 v.2.2.2.2.1 v.2.2.2.2.2.1 v.2.2.2.2.2.2.1)) ∧ (∀ e : (Nat × XT), r = .error e → ∀ z, e.2.1.1 ≤ z → z ≤ e.2.1.1 + 1 → Q (.error e.1) (xh (bw h0 B (z, e.2.1.2.1 - 1, e.2.1.2.2 - 6) e.2.2.2.1 e.2.2.2.2.2.2.2) B e.2.2.1 e.2.2.2.1 e.2.2.2.2.1 e.2.2.2.2.2.1 e.2.2.2.2.2.2.1))) : AW g MX9_perform 0 [some (.ref (B)), some (.int (p1)), none, none, none] [] (xh (bw h0 B S.1 S.2.2.1 S.2.2.2.2.2.2) B S.2.1 S.2.2.1 S.2.2.2.1 S.2.2.2.2.1 S.2.2.2.2.2.1) Q := by
  unfold sX9_perform at hs
  refine AW.aload_n (z := 0) (am_r 0 rfl) rfl rfl ?_
  refine AW.getO (am_r 1 rfl) rfl klX9 (k := 5) (by omega) q397 xh_0 rfl ?_
  refine AW.iload_n (z := 1) (am_r 2 rfl) rfl rfl ?_
  refine AW.iconst (am_r 3 rfl) rfl ci_0 ?_
  refine AW.callV (N := MX4_commandPart) (As := [.int (p1), .int ((0 : Int32))]) (S := []) (L0 := [some (.ref ((B + 121))), some (.int (p1)), some (.int ((0 : Int32))), none]) (b := (B + 121)) (am_r 4 rfl) rfl ovX4_commandPart q769 rfl rfl (xr_get (fun _ => rb_0)) rfl rfl rfl rfl (AW.heq xh_r (dX4_commandPart (Nat.le_trans hB (by omega)) (Sta.blk (Sta.blk (Sta.blk (sta_bw hst hB) hB) (Nat.le_trans hB (by omega))) (Nat.le_trans hB (by omega)))  rfl (cQ_r (AW.heq xh_r.symm ?_))))
  refine olet_e (P := fun y => AW g MX9_perform 9 [some (.ref (B)), some (.int (p1)), none, none, none] [(.int (y))] (xh (bw h0 B S.1 S.2.2.1 S.2.2.2.2.2.2) B S.2.1 S.2.2.1 S.2.2.2.1 S.2.2.2.2.1 S.2.2.2.2.2.1) Q) hs (fun v3 hs => ?_)
  refine AW.istore_n (L' := [some (.ref (B)), some (.int (p1)), some (.int (v3)), none, none]) (z := 2) (am_r 5 rfl) rfl (Nat.le_of_ble_eq_true rfl) rfl ?_
  refine AW.aload_n (z := 0) (am_r 6 rfl) rfl rfl ?_
  refine AW.getO (am_r 7 rfl) rfl klX9 (k := 5) (by omega) q397 xh_0 rfl ?_
  refine AW.iload_n (z := 1) (am_r 8 rfl) rfl rfl ?_
  refine AW.iconst (am_r 9 rfl) rfl ci_1 ?_
  refine AW.callV (N := MX4_commandPart) (As := [.int (p1), .int ((1 : Int32))]) (S := []) (L0 := [some (.ref ((B + 121))), some (.int (p1)), some (.int ((1 : Int32))), none]) (b := (B + 121)) (am_r 10 rfl) rfl ovX4_commandPart q769 rfl rfl (xr_get (fun _ => rb_0)) rfl rfl rfl rfl (AW.heq xh_r (dX4_commandPart (Nat.le_trans hB (by omega)) (Sta.blk (Sta.blk (Sta.blk (sta_bw hst hB) hB) (Nat.le_trans hB (by omega))) (Nat.le_trans hB (by omega)))  rfl (cQ_r (AW.heq xh_r.symm ?_))))
  refine olet_e (P := fun y => AW g MX9_perform 19 [some (.ref (B)), some (.int (p1)), some (.int (v3)), none, none] [(.int (y))] (xh (bw h0 B S.1 S.2.2.1 S.2.2.2.2.2.2) B S.2.1 S.2.2.1 S.2.2.2.1 S.2.2.2.2.1 S.2.2.2.2.2.1) Q) hs (fun v6 hs => ?_)
  refine AW.istore_n (L' := [some (.ref (B)), some (.int (p1)), some (.int (v3)), some (.int (v6)), none]) (z := 3) (am_r 11 rfl) rfl (Nat.le_of_ble_eq_true rfl) rfl ?_
  refine AW.aload_n (z := 0) (am_r 12 rfl) rfl rfl ?_
  refine AW.getO (am_r 13 rfl) rfl klX9 (k := 5) (by omega) q397 xh_0 rfl ?_
  refine AW.iload_n (z := 1) (am_r 14 rfl) rfl rfl ?_
  refine AW.iconst (am_r 15 rfl) rfl ci_2 ?_
  refine AW.callV (N := MX4_commandPart) (As := [.int (p1), .int ((2 : Int32))]) (S := []) (L0 := [some (.ref ((B + 121))), some (.int (p1)), some (.int ((2 : Int32))), none]) (b := (B + 121)) (am_r 16 rfl) rfl ovX4_commandPart q769 rfl rfl (xr_get (fun _ => rb_0)) rfl rfl rfl rfl (AW.heq xh_r (dX4_commandPart (Nat.le_trans hB (by omega)) (Sta.blk (Sta.blk (Sta.blk (sta_bw hst hB) hB) (Nat.le_trans hB (by omega))) (Nat.le_trans hB (by omega)))  rfl (cQ_r (AW.heq xh_r.symm ?_))))
  refine olet_e (P := fun y => AW g MX9_perform 29 [some (.ref (B)), some (.int (p1)), some (.int (v3)), some (.int (v6)), none] [(.int (y))] (xh (bw h0 B S.1 S.2.2.1 S.2.2.2.2.2.2) B S.2.1 S.2.2.1 S.2.2.2.1 S.2.2.2.2.1 S.2.2.2.2.2.1) Q) hs (fun v9 hs => ?_)
  refine AW.istore (L' := [some (.ref (B)), some (.int (p1)), some (.int (v3)), some (.int (v6)), some (.int (v9))]) (am_r 17 rfl) rfl (Nat.le_of_ble_eq_true rfl) rfl ?_
  refine AW.iload_n (z := 2) (am_r 18 rfl) rfl rfl ?_
  refine AW.bipush (am_r 19 rfl) rfl cb_10 ?_
  refine AW.icmp_ne (tg := 43) (am_r 20 rfl) rfl rfl (fun hc10 => ?_) (fun hc10 => ?_)
  · replace hs := (if_neg hc10).symm.trans hs
    refine AW.iload_n (z := 3) (am_r 25 rfl) rfl rfl ?_
    refine AW.aload_n (z := 0) (am_r 26 rfl) rfl rfl ?_
    refine AW.getO (am_r 27 rfl) rfl klX9 (k := 0) (by omega) q392 xh_0 rfl ?_
    refine AW.getO (am_r 28 rfl) rfl klX7 (k := 9) (by omega) q244 (xl_get (fun _ => sb_st)) rfl ?_
    refine AW.icmp_ge (tg := 71) (am_r 29 rfl) rfl rfl (fun hc11 => ?_) (fun hc11 => ?_)
    · replace hs := (if_pos hc11).symm.trans hs
      refine AW.bipush (am_r 38 rfl) rfl cb_m4 ?_
      have hr := (Option.some.inj hs).symm
      exact AW.iret (am_r 39 rfl) rfl (xt_q1 (f := fun v => .ok (some (.int v))) (r := ((-4 : Int32), S)) rfl (hQ.1 ((-4 : Int32), S) hr))
    · replace hs := (if_neg hc11).symm.trans hs
      refine AW.iload_n (z := 2) (am_r 30 rfl) rfl rfl ?_
      refine AW.iconst (am_r 31 rfl) rfl ci_5 ?_
      refine AW.icmp_ne (tg := 74) (am_r 32 rfl) rfl rfl (fun hc12 => ?_) (fun hc12 => ?_)
      · replace hs := (if_neg hc12).symm.trans hs
        exact dX9_perform_j74 hB hst   hs hQ
      · replace hs := (if_pos hc12).symm.trans hs
        refine AW.iload (am_r 33 rfl) rfl rfl ?_
        refine AW.aload_n (z := 0) (am_r 34 rfl) rfl rfl ?_
        refine AW.getO (am_r 35 rfl) rfl klX9 (k := 0) (by omega) q392 xh_0 rfl ?_
        refine AW.getO (am_r 36 rfl) rfl klX7 (k := 8) (by omega) q242 (xl_get (fun _ => sb_st)) rfl ?_
        refine AW.icmp_lt (tg := 74) (am_r 37 rfl) rfl rfl (fun hc47 => ?_) (fun hc47 => ?_)
        · replace hs := (if_pos hc47).symm.trans hs
          exact dX9_perform_j74 hB hst   hs hQ
        · replace hs := (if_neg hc47).symm.trans hs
          refine AW.bipush (am_r 38 rfl) rfl cb_m4 ?_
          have hr := (Option.some.inj hs).symm
          exact AW.iret (am_r 39 rfl) rfl (xt_q1 (f := fun v => .ok (some (.int v))) (r := ((-4 : Int32), S)) rfl (hQ.1 ((-4 : Int32), S) hr))
  · replace hs := (if_pos hc10).symm.trans hs
    refine AW.aload_n (z := 0) (am_r 21 rfl) rfl rfl ?_
    refine AW.iload_n (z := 3) (am_r 22 rfl) rfl rfl ?_
    refine oexc_e hs (fun r48 hg50 hs => ?_)
    refine AW.callV (N := MX9_tick) (As := [.int (v6)]) (S := []) (L0 := [some (.ref (B)), some (.int (v6))]) (b := B) (am_r 23 rfl) rfl ovX9_tick q773 rfl rfl xh_0 rfl rfl rfl rfl (dX9_tick hB hst  hg50 ⟨fun w52 hv51 => ?_, fun e hv51 z h1 h2 => ?_⟩)
    · subst hv51
      refine (cQ_r ?_)
      have hr := (Option.some.inj hs).symm
      exact AW.iret (am_r 24 rfl) rfl (xt_q1 (f := fun v => .ok (some (.int v))) (r := (w52.1, w52.2)) rfl (hQ.1 (w52.1, w52.2) hr))
    · subst hv51
      have hr := (Option.some.inj hs).symm
      exact cQ_x (AX.out rfl (hQ.2 _ hr z h1 h2))
noncomputable def sX9_play_l15_step  (B : Nat) (a : (Int32 × XT)) : Option ((Int32 × XT) ⊕ (Except (Nat × XT) (Int32 × XT))) :=
  if (gi a.2.2.2.2.1 0 3 0) ≤ a.1 then
    oinr (
    some (.ok ((gi a.2.2.2.2.1 0 3 0, a.2))))
  else
    oexcl (sX9_perform a.2 B a.1) (fun e => (e.1, e.2)) fun w12 =>
    if 0 ≤ w12.1 then
      olet (a.1 + (1 : Int32)) fun v14 =>
      some (.inl (v14, w12.2))
    else
      oinr (
      some (.ok ((a.1, w12.2))))
noncomputable def sX9_play_l15  (B : Nat) (a : (Int32 × XT)) : Option (Except (Nat × XT) (Int32 × XT)) := itw (sX9_play_l15_step  B) a
set_option maxRecDepth 100000 in
theorem dX9_play_l15 {g : AG} {h0 : AH} {Q : AO → AH → Prop} {B : Nat} (hB : gB g ≤ B) (hst : Sta g h0)  {a : (Int32 × XT)}  {r : (Except (Nat × XT) (Int32 × XT))} (hs : sX9_play_l15  B a = some r) (hQ : (∀ v : (Int32 × XT), r = .ok v → Q (.ok (some (.int v.1))) (xh (bw h0 B v.2.1 v.2.2.2.1 v.2.2.2.2.2.2.2) B v.2.2.1 v.2.2.2.1 v.2.2.2.2.1 v.2.2.2.2.2.1 v.2.2.2.2.2.2.1)) ∧ (∀ e : (Nat × XT), r = .error e → ∀ z, e.2.1.1 ≤ z → z ≤ e.2.1.1 + 1 → Q (.error e.1) (xh (bw h0 B (z, e.2.1.2.1 - 1, e.2.1.2.2 - 6) e.2.2.2.1 e.2.2.2.2.2.2.2) B e.2.2.1 e.2.2.2.1 e.2.2.2.2.1 e.2.2.2.2.2.1 e.2.2.2.2.2.2.1))) : AW g MX9_play 15 [some (.ref (B)), some (.int (a.1))] [] (xh (bw h0 B a.2.1 a.2.2.2.1 a.2.2.2.2.2.2.2) B a.2.2.1 a.2.2.2.1 a.2.2.2.2.1 a.2.2.2.2.2.1 a.2.2.2.2.2.2.1) Q := by
  refine itw_e (a := a) (b := r) (P := fun (a : (Int32 × XT)) => AW g MX9_play 15 [some (.ref (B)), some (.int (a.1))] [] (xh (bw h0 B a.2.1 a.2.2.2.1 a.2.2.2.2.2.2.2) B a.2.2.1 a.2.2.2.1 a.2.2.2.2.1 a.2.2.2.2.2.1 a.2.2.2.2.2.2.1) Q) (Post := fun r => (∀ v : (Int32 × XT), r = .ok v → Q (.ok (some (.int v.1))) (xh (bw h0 B v.2.1 v.2.2.2.1 v.2.2.2.2.2.2.2) B v.2.2.1 v.2.2.2.1 v.2.2.2.2.1 v.2.2.2.2.2.1 v.2.2.2.2.2.2.1)) ∧ (∀ e : (Nat × XT), r = .error e → ∀ z, e.2.1.1 ≤ z → z ≤ e.2.1.1 + 1 → Q (.error e.1) (xh (bw h0 B (z, e.2.1.2.1 - 1, e.2.1.2.2 - 6) e.2.2.2.1 e.2.2.2.2.2.2.2) B e.2.2.1 e.2.2.2.1 e.2.2.2.2.1 e.2.2.2.2.2.1 e.2.2.2.2.2.2.1))) (fun a r hs hc he  => ?_) hs hQ 
  unfold sX9_play_l15_step at hs
  refine AW.iload_n (z := 1) (am_r 8 rfl) rfl rfl ?_
  refine AW.aload_n (z := 0) (am_r 9 rfl) rfl rfl ?_
  refine AW.getO (am_r 10 rfl) rfl klX9 (k := 5) (by omega) q397 xh_0 rfl ?_
  refine AW.getO (am_r 11 rfl) rfl klX4 (k := 3) (by omega) q357 (xr_get (fun _ => rb_0)) rfl ?_
  refine AW.icmp_ge (tg := 42) (am_r 12 rfl) rfl rfl (fun hc5 => ?_) (fun hc5 => ?_)
  · replace hs := (if_pos hc5).symm.trans hs
    refine oinr_e hs (fun z6 hz7 hs => ?_)
    have hQ := he _ hz7
    refine AW.aload_n (z := 0) (am_r 21 rfl) rfl rfl ?_
    refine AW.getO (am_r 22 rfl) rfl klX9 (k := 5) (by omega) q397 xh_0 rfl ?_
    refine AW.getO (am_r 23 rfl) rfl klX4 (k := 3) (by omega) q357 (xr_get (fun _ => rb_0)) rfl ?_
    have hr := (Option.some.inj hs).symm
    exact AW.iret (am_r 24 rfl) rfl (xt_q1 (f := fun v => .ok (some (.int v))) (r := (gi a.2.2.2.2.1 0 3 0, a.2)) rfl (hQ.1 (gi a.2.2.2.2.1 0 3 0, a.2) hr))
  · replace hs := (if_neg hc5).symm.trans hs
    refine AW.aload_n (z := 0) (am_r 13 rfl) rfl rfl ?_
    refine AW.iload_n (z := 1) (am_r 14 rfl) rfl rfl ?_
    refine oexcl_e hs (fun r8 hg10 hs => ?_)
    refine AW.callV (N := MX9_perform) (As := [.int (a.1)]) (S := []) (L0 := [some (.ref (B)), some (.int (a.1)), none, none, none]) (b := B) (am_r 15 rfl) rfl ovX9_perform q765 rfl rfl xh_0 rfl rfl rfl rfl (dX9_perform hB hst  hg10 ⟨fun w12 hv11 => ?_, fun e hv11 z h1 h2 => ?_⟩)
    · subst hv11
      refine (cQ_r ?_)
      refine AW.if_ge (tg := 36) (am_r 16 rfl) rfl rfl (fun hc13 => ?_) (fun hc13 => ?_)
      · replace hs := (if_pos hc13).symm.trans hs
        refine AW.iinc (v := a.1 + (1 : Int32)) (L' := [some (.ref (B)), some (.int (a.1 + (1 : Int32)))]) (am_r 19 rfl) rfl (Nat.le_of_ble_eq_true rfl) rfl (congrArg (fun z => a.1 + z) ci_1) rfl ?_
        refine olet_e (P := fun (y : Int32) => AW g MX9_play 39 [some (.ref (B)), some (.int (y))] [] (xh (bw h0 B w12.2.1 w12.2.2.2.1 w12.2.2.2.2.2.2.2) B w12.2.2.1 w12.2.2.2.1 w12.2.2.2.2.1 w12.2.2.2.2.2.1 w12.2.2.2.2.2.2.1) Q) hs (fun v14 hs => ?_)
        refine AW.goto (tg := 15) (am_r 20 rfl) rfl ?_
        have hr := (Option.some.inj hs).symm
        exact hc (v14, w12.2) hr 
      · replace hs := (if_neg hc13).symm.trans hs
        refine oinr_e hs (fun z15 hz16 hs => ?_)
        have hQ := he _ hz16
        refine AW.iload_n (z := 1) (am_r 17 rfl) rfl rfl ?_
        have hr := (Option.some.inj hs).symm
        exact AW.iret (am_r 18 rfl) rfl (xt_q1 (f := fun v => .ok (some (.int v))) (r := (a.1, w12.2)) rfl (hQ.1 (a.1, w12.2) hr))
    · subst hv11
      have hr := (Option.some.inj hs).symm
      exact cQ_x (AX.out rfl ((he _ hr).2 _ rfl z h1 h2))
noncomputable def sX9_play (S : XT) (B : Nat) : Option (Except (Nat × XT) (Int32 × XT)) :=
  obind (sX4_readScript S.2.2.2.1 ) fun r1 =>
  if r1.1 = 0 then
    some (.ok (((-3 : Int32), (S.1, S.2.1, S.2.2.1, r1.2, S.2.2.2.2.1, S.2.2.2.2.2.1, S.2.2.2.2.2.2))))
  else
    sX9_play_l15  B ((0 : Int32), (S.1, S.2.1, S.2.2.1, r1.2, S.2.2.2.2.1, S.2.2.2.2.2.1, S.2.2.2.2.2.2))
set_option maxRecDepth 100000 in
theorem dX9_play {g : AG} {h0 : AH} {S : XT} {Q : AO → AH → Prop} {B : Nat} (hB : gB g ≤ B) (hst : Sta g h0)  {r : (Except (Nat × XT) (Int32 × XT))} (hs : sX9_play S B = some r) (hQ : (∀ v : (Int32 × XT), r = .ok v → Q (.ok (some (.int v.1))) (xh (bw h0 B v.2.1 v.2.2.2.1 v.2.2.2.2.2.2.2) B v.2.2.1 v.2.2.2.1 v.2.2.2.2.1 v.2.2.2.2.2.1 v.2.2.2.2.2.2.1)) ∧ (∀ e : (Nat × XT), r = .error e → ∀ z, e.2.1.1 ≤ z → z ≤ e.2.1.1 + 1 → Q (.error e.1) (xh (bw h0 B (z, e.2.1.2.1 - 1, e.2.1.2.2 - 6) e.2.2.2.1 e.2.2.2.2.2.2.2) B e.2.2.1 e.2.2.2.1 e.2.2.2.2.1 e.2.2.2.2.2.1 e.2.2.2.2.2.2.1))) : AW g MX9_play 0 [some (.ref (B)), none] [] (xh (bw h0 B S.1 S.2.2.1 S.2.2.2.2.2.2) B S.2.1 S.2.2.1 S.2.2.2.1 S.2.2.2.2.1 S.2.2.2.2.2.1) Q := by
  unfold sX9_play at hs
  refine AW.aload_n (z := 0) (am_r 0 rfl) rfl rfl ?_
  refine AW.getO (am_r 1 rfl) rfl klX9 (k := 5) (by omega) q397 xh_0 rfl ?_
  refine obind_e hs (fun r1 hg3 hs => ?_)
  refine AW.callV (N := MX4_readScript) (As := []) (S := []) (L0 := [some (.ref ((B + 121))), none, none]) (b := (B + 121)) (am_r 2 rfl) rfl ovX4_readScript q743 rfl rfl (xr_get (fun _ => rb_0)) rfl rfl rfl rfl (AW.heq xh_r (dX4_readScript (Nat.le_trans hB (by omega)) (Sta.blk (Sta.blk (Sta.blk (sta_bw hst hB) hB) (Nat.le_trans hB (by omega))) (Nat.le_trans hB (by omega)))  hg3 (fun hok2 => (cQ_r (AW.heq xh_r.symm ?_)))))
  refine AW.if_ne (tg := 13) (am_r 3 rfl) rfl rfl (fun hc4 => ?_) (fun hc4 => ?_)
  · replace hs := (if_neg hc4).symm.trans hs
    refine AW.iconst (am_r 6 rfl) rfl ci_0 ?_
    refine AW.istore_n (L' := [some (.ref (B)), some (.int ((0 : Int32)))]) (z := 1) (am_r 7 rfl) rfl (Nat.le_of_ble_eq_true rfl) rfl ?_
    exact xt_c (S := (S.1, S.2.1, S.2.2.1, r1.2, S.2.2.2.2.1, S.2.2.2.2.2.1, S.2.2.2.2.2.2)) rfl (dX9_play_l15 (a := ((0 : Int32), (S.1, S.2.1, S.2.2.1, r1.2, S.2.2.2.2.1, S.2.2.2.2.2.1, S.2.2.2.2.2.2))) hB hst   hs hQ)
  · replace hs := (if_pos hc4).symm.trans hs
    refine AW.bipush (am_r 4 rfl) rfl cb_m3 ?_
    have hr := (Option.some.inj hs).symm
    exact AW.iret (am_r 5 rfl) rfl (xt_q1 (f := fun v => .ok (some (.int v))) (r := ((-3 : Int32), (S.1, S.2.1, S.2.2.1, r1.2, S.2.2.2.2.1, S.2.2.2.2.2.1, S.2.2.2.2.2.2))) rfl (hQ.1 ((-3 : Int32), (S.1, S.2.1, S.2.2.1, r1.2, S.2.2.2.2.1, S.2.2.2.2.2.1, S.2.2.2.2.2.2)) hr))
noncomputable def sX9_undo (S : XT) (B : Nat) : Option (Int32 × XT) :=
  obind (sX1_stepBack S B) fun r1 =>
  if r1.1 = 0 then
    some (((-1 : Int32), r1.2))
  else
    some ((gi r1.2.2.1 1 2 0, r1.2))
set_option maxRecDepth 100000 in
theorem dX9_undo {g : AG} {h0 : AH} {S : XT} {Q : AO → AH → Prop} {B : Nat} (hB : gB g ≤ B) (hst : Sta g h0)  {r : (Int32 × XT)} (hs : sX9_undo S B = some r) (hQ : Q (.ok (some (.int r.1))) (xh (bw h0 B r.2.1 r.2.2.2.1 r.2.2.2.2.2.2.2) B r.2.2.1 r.2.2.2.1 r.2.2.2.2.1 r.2.2.2.2.2.1 r.2.2.2.2.2.2.1)) : AW g MX9_undo 0 [some (.ref (B))] [] (xh (bw h0 B S.1 S.2.2.1 S.2.2.2.2.2.2) B S.2.1 S.2.2.1 S.2.2.2.1 S.2.2.2.2.1 S.2.2.2.2.2.1) Q := by
  unfold sX9_undo at hs
  refine AW.aload_n (z := 0) (am_r 0 rfl) rfl rfl ?_
  refine AW.getO (am_r 1 rfl) rfl klX9 (k := 2) (by omega) q394 xh_0 rfl ?_
  refine AW.aload_n (z := 0) (am_r 2 rfl) rfl rfl ?_
  refine AW.getO (am_r 3 rfl) rfl klX9 (k := 0) (by omega) q392 xh_0 rfl ?_
  refine obind_e hs (fun r1 hg3 hs => ?_)
  refine AW.callV (N := MX1_stepBack) (As := [.ref ((B + 1))]) (S := []) (L0 := [some (.ref (B + 117)), some (.ref ((B + 1)))]) (b := B + 117) (am_r 4 rfl) rfl ovX1_stepBack q1023 rfl rfl xh_117 rfl rfl rfl rfl (dX1_stepBack hB hst  hg3 (fun hok2 => (cQ_r ?_)))
  refine AW.if_eq (tg := 24) (am_r 5 rfl) rfl rfl (fun hc4 => ?_) (fun hc4 => ?_)
  · replace hs := (if_pos hc4).symm.trans hs
    refine AW.iconst (am_r 10 rfl) rfl ci_m1 ?_
    have hr := (Option.some.inj hs).symm
    exact AW.iret (am_r 11 rfl) rfl (xt_q1 (f := fun v => .ok (some (.int v))) hr hQ)
  · replace hs := (if_neg hc4).symm.trans hs
    refine AW.aload_n (z := 0) (am_r 6 rfl) rfl rfl ?_
    refine AW.getO (am_r 7 rfl) rfl klX9 (k := 2) (by omega) q394 xh_0 rfl ?_
    refine AW.getO (am_r 8 rfl) rfl klX1 (k := 2) (by omega) q304 xh_117 rfl ?_
    refine AW.goto (tg := 25) (am_r 9 rfl) rfl ?_
    have hr := (Option.some.inj hs).symm
    exact AW.iret (am_r 11 rfl) rfl (xt_q1 (f := fun v => .ok (some (.int v))) hr hQ)
noncomputable def sX9_digest_l13_step (S : XT) (B : Nat) (a : (Int32 × Int32)) : Option ((Int32 × Int32) ⊕ Int32) :=
  if (gi S.2.2.2.2.2.1 0 9 0) ≤ a.2 then
    oinr (
    some (a.1))
  else
    olet (((31 : Int32) * a.1) + (gi S.2.2.2.2.2.1 3 3 (sX7_itemAt S.2.2.2.2.2.1 a.2))) fun v7 =>
    olet (((31 : Int32) * v7) + (gi S.2.2.2.2.2.1 3 5 (sX7_itemAt S.2.2.2.2.2.1 a.2))) fun v8 =>
    olet (((31 : Int32) * v8) + (gi S.2.2.2.2.2.1 3 6 (sX7_itemAt S.2.2.2.2.2.1 a.2))) fun v9 =>
    olet (a.2 + (1 : Int32)) fun v10 =>
    some (.inl (v9, v10))
noncomputable def sX9_digest_l13 (S : XT) (B : Nat) (a : (Int32 × Int32)) : Option Int32 := itw (sX9_digest_l13_step S B) a
set_option maxRecDepth 100000 in
theorem dX9_digest_l13 {g : AG} {h0 : AH} {S : XT} {Q : AO → AH → Prop} {B : Nat} (hB : gB g ≤ B) (hst : Sta g h0)  {a : (Int32 × Int32)}  {r : Int32} (hs : sX9_digest_l13 S B a = some r) (hQ : Q (.ok (some (.int r))) (xh (bw h0 B S.1 S.2.2.1 S.2.2.2.2.2.2) B S.2.1 S.2.2.1 S.2.2.2.1 S.2.2.2.2.1 S.2.2.2.2.2.1)) : AW g MX9_digest 13 [some (.ref (B)), some (.int (a.1)), some (.int (a.2)), none] [] (xh (bw h0 B S.1 S.2.2.1 S.2.2.2.2.2.2) B S.2.1 S.2.2.1 S.2.2.2.1 S.2.2.2.2.1 S.2.2.2.2.2.1) Q := by
  refine itw_e (a := a) (b := r) (P := fun (a : (Int32 × Int32)) => AW g MX9_digest 13 [some (.ref (B)), some (.int (a.1)), some (.int (a.2)), none] [] (xh (bw h0 B S.1 S.2.2.1 S.2.2.2.2.2.2) B S.2.1 S.2.2.1 S.2.2.2.1 S.2.2.2.2.1 S.2.2.2.2.2.1) Q) (Post := fun r => Q (.ok (some (.int r))) (xh (bw h0 B S.1 S.2.2.1 S.2.2.2.2.2.2) B S.2.1 S.2.2.1 S.2.2.2.1 S.2.2.2.2.1 S.2.2.2.2.2.1)) (fun a r hs hc he  => ?_) hs hQ 
  unfold sX9_digest_l13_step at hs
  refine AW.iload_n (z := 2) (am_r 8 rfl) rfl rfl ?_
  refine AW.aload_n (z := 0) (am_r 9 rfl) rfl rfl ?_
  refine AW.getO (am_r 10 rfl) rfl klX9 (k := 0) (by omega) q392 xh_0 rfl ?_
  refine AW.getO (am_r 11 rfl) rfl klX7 (k := 9) (by omega) q244 (xl_get (fun _ => sb_st)) rfl ?_
  refine AW.icmp_ge (tg := 69) (am_r 12 rfl) rfl rfl (fun hc2 => ?_) (fun hc2 => ?_)
  · replace hs := (if_pos hc2).symm.trans hs
    refine oinr_e hs (fun z3 hz4 hs => ?_)
    have hQ := he _ hz4
    refine AW.iload_n (z := 1) (am_r 41 rfl) rfl rfl ?_
    have hr := (Option.some.inj hs).symm
    subst hr
    exact AW.iret (am_r 42 rfl) rfl hQ
  · replace hs := (if_neg hc2).symm.trans hs
    refine AW.aload_n (z := 0) (am_r 13 rfl) rfl rfl ?_
    refine AW.getO (am_r 14 rfl) rfl klX9 (k := 0) (by omega) q392 xh_0 rfl ?_
    refine AW.iload_n (z := 2) (am_r 15 rfl) rfl rfl ?_
    refine AW.callV (N := MX7_itemAt) (As := [.int (a.2)]) (S := []) (L0 := [some (.ref ((B + 1))), some (.int (a.2))]) (b := (B + 1)) (am_r 16 rfl) rfl ovX7_itemAt q721 rfl rfl (xl_get (fun _ => sb_st)) rfl rfl rfl rfl (AW.heq xh_l (dX7_itemAt (Nat.le_trans hB (by omega))  rfl (fun hok6 => (cQ_r (AW.heq xh_l.symm ?_)))))
    refine AW.astore_n (L' := [some (.ref (B)), some (.int (a.1)), some (.int (a.2)), some (.ref ((B + 1) + 20 + 2 * (sX7_itemAt S.2.2.2.2.2.1 a.2)))]) (z := 3) (am_r 17 rfl) rfl (Nat.le_of_ble_eq_true rfl) rfl ?_
    refine AW.bipush (am_r 18 rfl) rfl cb_31 ?_
    refine AW.iload_n (z := 1) (am_r 19 rfl) rfl rfl ?_
    refine AW.imul (am_r 20 rfl) rfl ?_
    refine AW.aload_n (z := 3) (am_r 21 rfl) rfl rfl ?_
    refine AW.getO (am_r 22 rfl) rfl klX2 (k := 3) (by omega) q128 (xl_get (fun _ => (sb_it hok6))) rfl ?_
    refine AW.iadd (am_r 23 rfl) rfl ?_
    refine olet_e (P := fun y => AW g MX9_digest 42 [some (.ref (B)), some (.int (a.1)), some (.int (a.2)), some (.ref ((B + 1) + 20 + 2 * (sX7_itemAt S.2.2.2.2.2.1 a.2)))] [(.int (y))] (xh (bw h0 B S.1 S.2.2.1 S.2.2.2.2.2.2) B S.2.1 S.2.2.1 S.2.2.2.1 S.2.2.2.2.1 S.2.2.2.2.2.1) Q) hs (fun v7 hs => ?_)
    refine AW.istore_n (L' := [some (.ref (B)), some (.int (v7)), some (.int (a.2)), some (.ref ((B + 1) + 20 + 2 * (sX7_itemAt S.2.2.2.2.2.1 a.2)))]) (z := 1) (am_r 24 rfl) rfl (Nat.le_of_ble_eq_true rfl) rfl ?_
    refine AW.bipush (am_r 25 rfl) rfl cb_31 ?_
    refine AW.iload_n (z := 1) (am_r 26 rfl) rfl rfl ?_
    refine AW.imul (am_r 27 rfl) rfl ?_
    refine AW.aload_n (z := 3) (am_r 28 rfl) rfl rfl ?_
    refine AW.getO (am_r 29 rfl) rfl klX2 (k := 5) (by omega) q134 (xl_get (fun _ => (sb_it hok6))) rfl ?_
    refine AW.iadd (am_r 30 rfl) rfl ?_
    refine olet_e (P := fun y => AW g MX9_digest 52 [some (.ref (B)), some (.int (v7)), some (.int (a.2)), some (.ref ((B + 1) + 20 + 2 * (sX7_itemAt S.2.2.2.2.2.1 a.2)))] [(.int (y))] (xh (bw h0 B S.1 S.2.2.1 S.2.2.2.2.2.2) B S.2.1 S.2.2.1 S.2.2.2.1 S.2.2.2.2.1 S.2.2.2.2.2.1) Q) hs (fun v8 hs => ?_)
    refine AW.istore_n (L' := [some (.ref (B)), some (.int (v8)), some (.int (a.2)), some (.ref ((B + 1) + 20 + 2 * (sX7_itemAt S.2.2.2.2.2.1 a.2)))]) (z := 1) (am_r 31 rfl) rfl (Nat.le_of_ble_eq_true rfl) rfl ?_
    refine AW.bipush (am_r 32 rfl) rfl cb_31 ?_
    refine AW.iload_n (z := 1) (am_r 33 rfl) rfl rfl ?_
    refine AW.imul (am_r 34 rfl) rfl ?_
    refine AW.aload_n (z := 3) (am_r 35 rfl) rfl rfl ?_
    refine AW.getO (am_r 36 rfl) rfl klX2 (k := 6) (by omega) q137 (xl_get (fun _ => (sb_it hok6))) rfl ?_
    refine AW.iadd (am_r 37 rfl) rfl ?_
    refine olet_e (P := fun y => AW g MX9_digest 62 [some (.ref (B)), some (.int (v8)), some (.int (a.2)), some (.ref ((B + 1) + 20 + 2 * (sX7_itemAt S.2.2.2.2.2.1 a.2)))] [(.int (y))] (xh (bw h0 B S.1 S.2.2.1 S.2.2.2.2.2.2) B S.2.1 S.2.2.1 S.2.2.2.1 S.2.2.2.2.1 S.2.2.2.2.2.1) Q) hs (fun v9 hs => ?_)
    refine AW.istore_n (L' := [some (.ref (B)), some (.int (v9)), some (.int (a.2)), some (.ref ((B + 1) + 20 + 2 * (sX7_itemAt S.2.2.2.2.2.1 a.2)))]) (z := 1) (am_r 38 rfl) rfl (Nat.le_of_ble_eq_true rfl) rfl ?_
    refine AW.iinc (v := a.2 + (1 : Int32)) (L' := [some (.ref (B)), some (.int (v9)), some (.int (a.2 + (1 : Int32))), some (.ref ((B + 1) + 20 + 2 * (sX7_itemAt S.2.2.2.2.2.1 a.2)))]) (am_r 39 rfl) rfl (Nat.le_of_ble_eq_true rfl) rfl (congrArg (fun z => a.2 + z) ci_1) rfl ?_
    refine olet_e (P := fun (y : Int32) => AW g MX9_digest 66 [some (.ref (B)), some (.int (v9)), some (.int (y)), some (.ref ((B + 1) + 20 + 2 * (sX7_itemAt S.2.2.2.2.2.1 a.2)))] [] (xh (bw h0 B S.1 S.2.2.1 S.2.2.2.2.2.2) B S.2.1 S.2.2.1 S.2.2.2.1 S.2.2.2.2.1 S.2.2.2.2.2.1) Q) hs (fun v10 hs => ?_)
    refine AW.goto (tg := 13) (am_r 40 rfl) rfl ?_
    refine AW.lessL (L' := [some (.ref (B)), some (.int (v9)), some (.int (v10)), none]) ⟨rfl, rfl, rfl, trivial⟩ ?_
    have hr := (Option.some.inj hs).symm
    exact hc (v9, v10) hr 
noncomputable def sX9_digest (S : XT) (B : Nat) : Option Int32 :=
  olet ((31 : Int32) + (gi S.2.2.2.2.2.1 0 12 0)) fun v1 =>
  sX9_digest_l13 S B (v1, (0 : Int32))
set_option maxRecDepth 100000 in
theorem dX9_digest {g : AG} {h0 : AH} {S : XT} {Q : AO → AH → Prop} {B : Nat} (hB : gB g ≤ B) (hst : Sta g h0)  {r : Int32} (hs : sX9_digest S B = some r) (hQ : Q (.ok (some (.int r))) (xh (bw h0 B S.1 S.2.2.1 S.2.2.2.2.2.2) B S.2.1 S.2.2.1 S.2.2.2.1 S.2.2.2.2.1 S.2.2.2.2.2.1)) : AW g MX9_digest 0 [some (.ref (B)), none, none, none] [] (xh (bw h0 B S.1 S.2.2.1 S.2.2.2.2.2.2) B S.2.1 S.2.2.1 S.2.2.2.1 S.2.2.2.2.1 S.2.2.2.2.2.1) Q := by
  unfold sX9_digest at hs
  refine AW.bipush (am_r 0 rfl) rfl cb_31 ?_
  refine AW.aload_n (z := 0) (am_r 1 rfl) rfl rfl ?_
  refine AW.getO (am_r 2 rfl) rfl klX9 (k := 0) (by omega) q392 xh_0 rfl ?_
  refine AW.getO (am_r 3 rfl) rfl klX7 (k := 12) (by omega) q253 (xl_get (fun _ => sb_st)) rfl ?_
  refine AW.iadd (am_r 4 rfl) rfl ?_
  refine olet_e (P := fun y => AW g MX9_digest 10 [some (.ref (B)), none, none, none] [(.int (y))] (xh (bw h0 B S.1 S.2.2.1 S.2.2.2.2.2.2) B S.2.1 S.2.2.1 S.2.2.2.1 S.2.2.2.2.1 S.2.2.2.2.2.1) Q) hs (fun v1 hs => ?_)
  refine AW.istore_n (L' := [some (.ref (B)), some (.int (v1)), none, none]) (z := 1) (am_r 5 rfl) rfl (Nat.le_of_ble_eq_true rfl) rfl ?_
  refine AW.iconst (am_r 6 rfl) rfl ci_0 ?_
  refine AW.istore_n (L' := [some (.ref (B)), some (.int (v1)), some (.int ((0 : Int32))), none]) (z := 2) (am_r 7 rfl) rfl (Nat.le_of_ble_eq_true rfl) rfl ?_
  exact dX9_digest_l13 (a := (v1, (0 : Int32))) hB hst   hs hQ
noncomputable def sX9_requireItems (S : XT) (B : Nat) : Option (Except Nat Unit) :=
  if (gi S.2.2.2.2.2.1 0 9 0) = 0 then
    oif (xrm S.1) (some (.error 3))
  else
    some (.ok (()))
set_option maxRecDepth 100000 in
theorem dX9_requireItems {g : AG} {h0 : AH} {S : XT} {Q : AO → AH → Prop} {B : Nat} (hB : gB g ≤ B) (hst : Sta g h0)  {r : (Except Nat Unit)} (hs : sX9_requireItems S B = some r) (hQ : (∀ v : Unit, r = .ok v → Q (.ok none) (xh (bw h0 B S.1 S.2.2.1 S.2.2.2.2.2.2) B S.2.1 S.2.2.1 S.2.2.2.1 S.2.2.2.2.1 S.2.2.2.2.2.1)) ∧ (∀ e : Nat, r = .error e → ∀ z, S.1.1 ≤ z → z ≤ S.1.1 + 1 → Q (.error e) (xh (bw h0 B (z, S.1.2.1 - 1, S.1.2.2 - 6) S.2.2.1 S.2.2.2.2.2.2) B S.2.1 S.2.2.1 S.2.2.2.1 S.2.2.2.2.1 S.2.2.2.2.2.1))) : AW g MX9_requireItems 0 [some (.ref (B))] [] (xh (bw h0 B S.1 S.2.2.1 S.2.2.2.2.2.2) B S.2.1 S.2.2.1 S.2.2.2.1 S.2.2.2.2.1 S.2.2.2.2.2.1) Q := by
  unfold sX9_requireItems at hs
  refine AW.aload_n (z := 0) (am_r 0 rfl) rfl rfl ?_
  refine AW.getO (am_r 1 rfl) rfl klX9 (k := 0) (by omega) q392 xh_0 rfl ?_
  refine AW.getO (am_r 2 rfl) rfl klX7 (k := 9) (by omega) q244 (xl_get (fun _ => sb_st)) rfl ?_
  refine AW.if_ne (tg := 21) (am_r 3 rfl) rfl rfl (fun hc1 => ?_) (fun hc1 => ?_)
  · replace hs := (if_neg hc1).symm.trans hs
    have hr := (Option.some.inj hs).symm
    exact AW.vret (am_r 9 rfl) rfl (hQ.1 _ hr)
  · replace hs := (if_pos hc1).symm.trans hs
    refine oif_g hs (fun hg2 hs => ?_)
    have hr := (Option.some.inj hs).symm
    exact AW.throwSW (k := 3) (nt := 0) (names := ["java/lang/RuntimeException", "java/lang/Exception"]) (am_r 4 rfl) (am_r 5 rfl) (am_r 6 rfl) (am_r 7 rfl) (am_r 8 rfl) rfl rfl (by decide +kernel) (by decide +kernel) q1292 q24 rfl am_tri am_trn (List.forall_mem_cons.mpr ⟨rfl, List.forall_mem_cons.mpr ⟨rfl, am_tro⟩⟩) rfl (xrm_1 hg2) (xrm_2 hg2) (fun z h1 h2 => hQ.2 _ hr z h1 h2)
