/-! ===== THE RepairStudio'S METHODS, DECOMPILED (laid by a program), 2 ===== -/
noncomputable def sX9_plan (S : XT) (B : Nat) (p1 : Int32) (p2 : Int32) : Option (Except (Nat × XT) (Int32 × XT)) :=
  oexc (sX9_itemOf S B p1) (fun e => (e, S)) fun w5 =>
  oexc (sX9_requireRecipe S B p2) (fun e => (e, S)) fun w10 =>
  if (gi S.2.2.2.2.2.1 3 7 w5) < (8 : Int32) then
    obind (sX1_remember S B) fun r12 =>
    olet (sX2_enqueue r12.2.2.2.2.2.1 w5 p2) fun S17 =>
    some (.ok ((gi S17 3 7 w5, (r12.1, r12.2.1, r12.2.2.1, r12.2.2.2.1, r12.2.2.2.2.1, S17, r12.2.2.2.2.2.2))))
  else
    some (.ok (((-2 : Int32), S)))
set_option maxRecDepth 100000 in
theorem dX9_plan {g : AG} {h0 : AH} {S : XT} {Q : AO → AH → Prop} {B : Nat} {p1 : Int32} {p2 : Int32} (hB : gB g ≤ B) (hst : Sta g h0)  {r : (Except (Nat × XT) (Int32 × XT))} (hs : sX9_plan S B p1 p2 = some r) (hQ : (∀ v : (Int32 × XT), r = .ok v → Q (.ok (some (.int v.1))) (xh (bw h0 B v.2.1 v.2.2.2.1 v.2.2.2.2.2.2.2) B v.2.2.1 v.2.2.2.1 v.2.2.2.2.1 v.2.2.2.2.2.1 v.2.2.2.2.2.2.1)) ∧ (∀ e : (Nat × XT), r = .error e → ∀ z, e.2.1.1 ≤ z → z ≤ e.2.1.1 + 1 → Q (.error e.1) (xh (bw h0 B (z, e.2.1.2.1 - 1, e.2.1.2.2 - 6) e.2.2.2.1 e.2.2.2.2.2.2.2) B e.2.2.1 e.2.2.2.1 e.2.2.2.2.1 e.2.2.2.2.2.1 e.2.2.2.2.2.2.1))) : AW g MX9_plan 0 [some (.ref (B)), some (.int (p1)), some (.int (p2)), none] [] (xh (bw h0 B S.1 S.2.2.1 S.2.2.2.2.2.2) B S.2.1 S.2.2.1 S.2.2.2.1 S.2.2.2.2.1 S.2.2.2.2.2.1) Q := by
  unfold sX9_plan at hs
  refine AW.aload_n (z := 0) (am_r 0 rfl) rfl rfl ?_
  refine AW.iload_n (z := 1) (am_r 1 rfl) rfl rfl ?_
  refine oexc_e hs (fun r1 hg3 hs => ?_)
  refine AW.callV (N := MX9_itemOf) (As := [.int (p1)]) (S := []) (L0 := [some (.ref (B)), some (.int (p1))]) (b := B) (am_r 2 rfl) rfl ovX9_itemOf q948 rfl rfl xh_0 rfl rfl rfl rfl (dX9_itemOf hB hst  hg3 ⟨fun w5 hv4 => ?_, fun e hv4 z h1 h2 => ?_⟩)
  · subst hv4
    refine fun hok2 => (cQ_r ?_)
    refine AW.astore_n (L' := [some (.ref (B)), some (.int (p1)), some (.int (p2)), some (.ref ((B + 1) + 20 + 2 * w5))]) (z := 3) (am_r 3 rfl) rfl (Nat.le_of_ble_eq_true rfl) rfl ?_
    refine AW.aload_n (z := 0) (am_r 4 rfl) rfl rfl ?_
    refine AW.iload_n (z := 2) (am_r 5 rfl) rfl rfl ?_
    refine oexc_e hs (fun r6 hg8 hs => ?_)
    refine AW.callV (N := MX9_requireRecipe) (As := [.int (p2)]) (S := []) (L0 := [some (.ref (B)), some (.int (p2))]) (b := B) (am_r 6 rfl) rfl ovX9_requireRecipe q975 rfl rfl xh_0 rfl rfl rfl rfl (dX9_requireRecipe hB hst  hg8 ⟨fun w10 hv9 => ?_, fun e hv9 z h1 h2 => ?_⟩)
    · subst hv9
      refine (cQ_v ?_)
      refine AW.aload_n (z := 3) (am_r 7 rfl) rfl rfl ?_
      refine AW.getO (am_r 8 rfl) rfl klX2 (k := 7) (by omega) q140 (xl_get (fun _ => (sb_it hok2))) rfl ?_
      refine AW.bipush (am_r 9 rfl) rfl cb_8 ?_
      refine AW.icmp_lt (tg := 23) (am_r 10 rfl) rfl rfl (fun hc11 => ?_) (fun hc11 => ?_)
      · replace hs := (if_pos hc11).symm.trans hs
        refine AW.aload_n (z := 0) (am_r 13 rfl) rfl rfl ?_
        refine AW.getO (am_r 14 rfl) rfl klX9 (k := 2) (by omega) q394 xh_0 rfl ?_
        refine AW.aload_n (z := 0) (am_r 15 rfl) rfl rfl ?_
        refine AW.getO (am_r 16 rfl) rfl klX9 (k := 0) (by omega) q392 xh_0 rfl ?_
        refine obind_e hs (fun r12 hg14 hs => ?_)
        refine AW.callV (N := MX1_remember) (As := [.ref ((B + 1))]) (S := []) (L0 := [some (.ref (B + 117)), some (.ref ((B + 1)))]) (b := B + 117) (am_r 17 rfl) rfl ovX1_remember q848 rfl rfl xh_117 rfl rfl rfl rfl (dX1_remember hB hst  hg14 (cQ_v ?_))
        refine AW.aload_n (z := 3) (am_r 18 rfl) rfl rfl ?_
        refine AW.iload_n (z := 2) (am_r 19 rfl) rfl rfl ?_
        refine AW.callV (N := MX2_enqueue) (As := [.int (p2)]) (S := []) (L0 := [some (.ref ((B + 1) + 20 + 2 * w5)), some (.int (p2))]) (b := (B + 1) + 20 + 2 * w5) (am_r 20 rfl) rfl ovX2_enqueue q979 rfl rfl (xl_get (fun _ => (sb_it hok2))) rfl rfl rfl rfl (AW.heq xh_l (dX2_enqueue (Nat.le_trans hB (by omega)) hok2 rfl (cQ_v (AW.heq xh_l.symm ?_))))
        refine olet_e (P := fun (y : Mem) => AW g MX9_plan 39 [some (.ref (B)), some (.int (p1)), some (.int (p2)), some (.ref ((B + 1) + 20 + 2 * w5))] [] (xh (bw h0 B r12.1 r12.2.2.1 r12.2.2.2.2.2.2) B r12.2.1 r12.2.2.1 r12.2.2.2.1 r12.2.2.2.2.1 y) Q) hs (fun S17 hs => ?_)
        refine AW.aload_n (z := 3) (am_r 21 rfl) rfl rfl ?_
        refine AW.getO (am_r 22 rfl) rfl klX2 (k := 7) (by omega) q140 (xl_get (fun _ => (sb_it hok2))) rfl ?_
        have hr := (Option.some.inj hs).symm
        exact AW.iret (am_r 23 rfl) rfl (xt_q1 (f := fun v => .ok (some (.int v))) (r := (gi S17 3 7 w5, (r12.1, r12.2.1, r12.2.2.1, r12.2.2.2.1, r12.2.2.2.2.1, S17, r12.2.2.2.2.2.2))) rfl (hQ.1 (gi S17 3 7 w5, (r12.1, r12.2.1, r12.2.2.1, r12.2.2.2.1, r12.2.2.2.2.1, S17, r12.2.2.2.2.2.2)) hr))
      · replace hs := (if_neg hc11).symm.trans hs
        refine AW.bipush (am_r 11 rfl) rfl cb_m2 ?_
        have hr := (Option.some.inj hs).symm
        exact AW.iret (am_r 12 rfl) rfl (xt_q1 (f := fun v => .ok (some (.int v))) (r := ((-2 : Int32), S)) rfl (hQ.1 ((-2 : Int32), S) hr))
    · subst hv9
      have hr := (Option.some.inj hs).symm
      exact cQ_x (AX.out rfl (hQ.2 _ hr z h1 h2))
  · subst hv4
    have hr := (Option.some.inj hs).symm
    exact cQ_x (AX.out rfl (hQ.2 _ hr z h1 h2))
noncomputable def sX9_cancel (S : XT) (B : Nat) (p1 : Int32) : Option (Except (Nat × XT) (Int32 × XT)) :=
  oexc (sX9_itemOf S B p1) (fun e => (e, S)) fun w5 =>
  if (gi S.2.2.2.2.2.1 3 7 w5) = 0 then
    some (.ok (((-4 : Int32), S)))
  else
    obind (sX1_remember S B) fun r7 =>
    obind (sX2_dropLast r7.2.2.2.2.2.1 w5) fun r10 =>
    some (.ok ((r10.1, (r7.1, r7.2.1, r7.2.2.1, r7.2.2.2.1, r7.2.2.2.2.1, r10.2, r7.2.2.2.2.2.2))))
set_option maxRecDepth 100000 in
theorem dX9_cancel {g : AG} {h0 : AH} {S : XT} {Q : AO → AH → Prop} {B : Nat} {p1 : Int32} (hB : gB g ≤ B) (hst : Sta g h0)  {r : (Except (Nat × XT) (Int32 × XT))} (hs : sX9_cancel S B p1 = some r) (hQ : (∀ v : (Int32 × XT), r = .ok v → Q (.ok (some (.int v.1))) (xh (bw h0 B v.2.1 v.2.2.2.1 v.2.2.2.2.2.2.2) B v.2.2.1 v.2.2.2.1 v.2.2.2.2.1 v.2.2.2.2.2.1 v.2.2.2.2.2.2.1)) ∧ (∀ e : (Nat × XT), r = .error e → ∀ z, e.2.1.1 ≤ z → z ≤ e.2.1.1 + 1 → Q (.error e.1) (xh (bw h0 B (z, e.2.1.2.1 - 1, e.2.1.2.2 - 6) e.2.2.2.1 e.2.2.2.2.2.2.2) B e.2.2.1 e.2.2.2.1 e.2.2.2.2.1 e.2.2.2.2.2.1 e.2.2.2.2.2.2.1))) : AW g MX9_cancel 0 [some (.ref (B)), some (.int (p1)), none] [] (xh (bw h0 B S.1 S.2.2.1 S.2.2.2.2.2.2) B S.2.1 S.2.2.1 S.2.2.2.1 S.2.2.2.2.1 S.2.2.2.2.2.1) Q := by
  unfold sX9_cancel at hs
  refine AW.aload_n (z := 0) (am_r 0 rfl) rfl rfl ?_
  refine AW.iload_n (z := 1) (am_r 1 rfl) rfl rfl ?_
  refine oexc_e hs (fun r1 hg3 hs => ?_)
  refine AW.callV (N := MX9_itemOf) (As := [.int (p1)]) (S := []) (L0 := [some (.ref (B)), some (.int (p1))]) (b := B) (am_r 2 rfl) rfl ovX9_itemOf q948 rfl rfl xh_0 rfl rfl rfl rfl (dX9_itemOf hB hst  hg3 ⟨fun w5 hv4 => ?_, fun e hv4 z h1 h2 => ?_⟩)
  · subst hv4
    refine fun hok2 => (cQ_r ?_)
    refine AW.astore_n (L' := [some (.ref (B)), some (.int (p1)), some (.ref ((B + 1) + 20 + 2 * w5))]) (z := 2) (am_r 3 rfl) rfl (Nat.le_of_ble_eq_true rfl) rfl ?_
    refine AW.aload_n (z := 2) (am_r 4 rfl) rfl rfl ?_
    refine AW.getO (am_r 5 rfl) rfl klX2 (k := 7) (by omega) q140 (xl_get (fun _ => (sb_it hok2))) rfl ?_
    refine AW.if_ne (tg := 16) (am_r 6 rfl) rfl rfl (fun hc6 => ?_) (fun hc6 => ?_)
    · replace hs := (if_neg hc6).symm.trans hs
      refine AW.aload_n (z := 0) (am_r 9 rfl) rfl rfl ?_
      refine AW.getO (am_r 10 rfl) rfl klX9 (k := 2) (by omega) q394 xh_0 rfl ?_
      refine AW.aload_n (z := 0) (am_r 11 rfl) rfl rfl ?_
      refine AW.getO (am_r 12 rfl) rfl klX9 (k := 0) (by omega) q392 xh_0 rfl ?_
      refine obind_e hs (fun r7 hg9 hs => ?_)
      refine AW.callV (N := MX1_remember) (As := [.ref ((B + 1))]) (S := []) (L0 := [some (.ref (B + 117)), some (.ref ((B + 1)))]) (b := B + 117) (am_r 13 rfl) rfl ovX1_remember q848 rfl rfl xh_117 rfl rfl rfl rfl (dX1_remember hB hst  hg9 (cQ_v ?_))
      refine AW.aload_n (z := 2) (am_r 14 rfl) rfl rfl ?_
      refine obind_e hs (fun r10 hg12 hs => ?_)
      refine AW.callV (N := MX2_dropLast) (As := []) (S := []) (L0 := [some (.ref ((B + 1) + 20 + 2 * w5)), none]) (b := (B + 1) + 20 + 2 * w5) (am_r 15 rfl) rfl ovX2_dropLast q987 rfl rfl (xl_get (fun _ => (sb_it hok2))) rfl rfl rfl rfl (AW.heq xh_l (dX2_dropLast (Nat.le_trans hB (by omega)) hok2 hg12 (cQ_r (AW.heq xh_l.symm ?_))))
      have hr := (Option.some.inj hs).symm
      exact AW.iret (am_r 16 rfl) rfl (xt_q1 (f := fun v => .ok (some (.int v))) (r := (r10.1, (r7.1, r7.2.1, r7.2.2.1, r7.2.2.2.1, r7.2.2.2.2.1, r10.2, r7.2.2.2.2.2.2))) rfl (hQ.1 (r10.1, (r7.1, r7.2.1, r7.2.2.1, r7.2.2.2.1, r7.2.2.2.2.1, r10.2, r7.2.2.2.2.2.2)) hr))
    · replace hs := (if_pos hc6).symm.trans hs
      refine AW.bipush (am_r 7 rfl) rfl cb_m4 ?_
      have hr := (Option.some.inj hs).symm
      exact AW.iret (am_r 8 rfl) rfl (xt_q1 (f := fun v => .ok (some (.int v))) (r := ((-4 : Int32), S)) rfl (hQ.1 ((-4 : Int32), S) hr))
  · subst hv4
    have hr := (Option.some.inj hs).symm
    exact cQ_x (AX.out rfl (hQ.2 _ hr z h1 h2))
noncomputable def sX9_clearQueue (S : XT) (B : Nat) (p1 : Int32) : Option (Except (Nat × XT) (Int32 × XT)) :=
  oexc (sX9_itemOf S B p1) (fun e => (e, S)) fun w5 =>
  olet (gi S.2.2.2.2.2.1 3 7 w5) fun v6 =>
  if v6 = 0 then
    some (.ok (((-4 : Int32), S)))
  else
    obind (sX1_remember S B) fun r8 =>
    olet (si r8.2.2.2.2.2.1 3 7 w5 ((0 : Int32))) fun S11 =>
    olet (si S11 3 8 w5 ((-1 : Int32))) fun S12 =>
    some (.ok ((v6, (r8.1, r8.2.1, r8.2.2.1, r8.2.2.2.1, r8.2.2.2.2.1, S12, r8.2.2.2.2.2.2))))
set_option maxRecDepth 100000 in
theorem dX9_clearQueue {g : AG} {h0 : AH} {S : XT} {Q : AO → AH → Prop} {B : Nat} {p1 : Int32} (hB : gB g ≤ B) (hst : Sta g h0)  {r : (Except (Nat × XT) (Int32 × XT))} (hs : sX9_clearQueue S B p1 = some r) (hQ : (∀ v : (Int32 × XT), r = .ok v → Q (.ok (some (.int v.1))) (xh (bw h0 B v.2.1 v.2.2.2.1 v.2.2.2.2.2.2.2) B v.2.2.1 v.2.2.2.1 v.2.2.2.2.1 v.2.2.2.2.2.1 v.2.2.2.2.2.2.1)) ∧ (∀ e : (Nat × XT), r = .error e → ∀ z, e.2.1.1 ≤ z → z ≤ e.2.1.1 + 1 → Q (.error e.1) (xh (bw h0 B (z, e.2.1.2.1 - 1, e.2.1.2.2 - 6) e.2.2.2.1 e.2.2.2.2.2.2.2) B e.2.2.1 e.2.2.2.1 e.2.2.2.2.1 e.2.2.2.2.2.1 e.2.2.2.2.2.2.1))) : AW g MX9_clearQueue 0 [some (.ref (B)), some (.int (p1)), none, none] [] (xh (bw h0 B S.1 S.2.2.1 S.2.2.2.2.2.2) B S.2.1 S.2.2.1 S.2.2.2.1 S.2.2.2.2.1 S.2.2.2.2.2.1) Q := by
  unfold sX9_clearQueue at hs
  refine AW.aload_n (z := 0) (am_r 0 rfl) rfl rfl ?_
  refine AW.iload_n (z := 1) (am_r 1 rfl) rfl rfl ?_
  refine oexc_e hs (fun r1 hg3 hs => ?_)
  refine AW.callV (N := MX9_itemOf) (As := [.int (p1)]) (S := []) (L0 := [some (.ref (B)), some (.int (p1))]) (b := B) (am_r 2 rfl) rfl ovX9_itemOf q948 rfl rfl xh_0 rfl rfl rfl rfl (dX9_itemOf hB hst  hg3 ⟨fun w5 hv4 => ?_, fun e hv4 z h1 h2 => ?_⟩)
  · subst hv4
    refine fun hok2 => (cQ_r ?_)
    refine AW.astore_n (L' := [some (.ref (B)), some (.int (p1)), some (.ref ((B + 1) + 20 + 2 * w5)), none]) (z := 2) (am_r 3 rfl) rfl (Nat.le_of_ble_eq_true rfl) rfl ?_
    refine AW.aload_n (z := 2) (am_r 4 rfl) rfl rfl ?_
    refine AW.getO (am_r 5 rfl) rfl klX2 (k := 7) (by omega) q140 (xl_get (fun _ => (sb_it hok2))) rfl ?_
    refine olet_e (P := fun y => AW g MX9_clearQueue 10 [some (.ref (B)), some (.int (p1)), some (.ref ((B + 1) + 20 + 2 * w5)), none] [(.int (y))] (xh (bw h0 B S.1 S.2.2.1 S.2.2.2.2.2.2) B S.2.1 S.2.2.1 S.2.2.2.1 S.2.2.2.2.1 S.2.2.2.2.2.1) Q) hs (fun v6 hs => ?_)
    refine AW.istore_n (L' := [some (.ref (B)), some (.int (p1)), some (.ref ((B + 1) + 20 + 2 * w5)), some (.int (v6))]) (z := 3) (am_r 6 rfl) rfl (Nat.le_of_ble_eq_true rfl) rfl ?_
    refine AW.iload_n (z := 3) (am_r 7 rfl) rfl rfl ?_
    refine AW.if_ne (tg := 18) (am_r 8 rfl) rfl rfl (fun hc7 => ?_) (fun hc7 => ?_)
    · replace hs := (if_neg hc7).symm.trans hs
      refine AW.aload_n (z := 0) (am_r 11 rfl) rfl rfl ?_
      refine AW.getO (am_r 12 rfl) rfl klX9 (k := 2) (by omega) q394 xh_0 rfl ?_
      refine AW.aload_n (z := 0) (am_r 13 rfl) rfl rfl ?_
      refine AW.getO (am_r 14 rfl) rfl klX9 (k := 0) (by omega) q392 xh_0 rfl ?_
      refine obind_e hs (fun r8 hg10 hs => ?_)
      refine AW.callV (N := MX1_remember) (As := [.ref ((B + 1))]) (S := []) (L0 := [some (.ref (B + 117)), some (.ref ((B + 1)))]) (b := B + 117) (am_r 15 rfl) rfl ovX1_remember q848 rfl rfl xh_117 rfl rfl rfl rfl (dX1_remember hB hst  hg10 (cQ_v ?_))
      refine AW.aload_n (z := 2) (am_r 16 rfl) rfl rfl ?_
      refine AW.iconst (am_r 17 rfl) rfl ci_0 ?_
      refine AW.putO (am_r 18 rfl) rfl klX2 (k := 7) (by omega) q140 (Or.inl rfl) (xl_get (fun _ => (sb_it hok2))) (Nat.le_trans hB (by omega)) rfl rfl (xl_put (fun _ => (sbp_it hok2 (by decide) (fun z => by omega)))) ?_
      refine olet_e (P := fun y => AW g MX9_clearQueue 34 [some (.ref (B)), some (.int (p1)), some (.ref ((B + 1) + 20 + 2 * w5)), some (.int (v6))] [] (xh (bw h0 B r8.1 r8.2.2.1 r8.2.2.2.2.2.2) B r8.2.1 r8.2.2.1 r8.2.2.2.1 r8.2.2.2.2.1 y) Q) hs (fun S11 hs => ?_)
      refine AW.aload_n (z := 2) (am_r 19 rfl) rfl rfl ?_
      refine AW.iconst (am_r 20 rfl) rfl ci_m1 ?_
      refine AW.putO (am_r 21 rfl) rfl klX2 (k := 8) (by omega) q143 (Or.inl rfl) (xl_get (fun _ => (sb_it hok2))) (Nat.le_trans hB (by omega)) rfl rfl (xl_put (fun _ => (sbp_it hok2 (by decide) (fun z => by omega)))) ?_
      refine olet_e (P := fun y => AW g MX9_clearQueue 39 [some (.ref (B)), some (.int (p1)), some (.ref ((B + 1) + 20 + 2 * w5)), some (.int (v6))] [] (xh (bw h0 B r8.1 r8.2.2.1 r8.2.2.2.2.2.2) B r8.2.1 r8.2.2.1 r8.2.2.2.1 r8.2.2.2.2.1 y) Q) hs (fun S12 hs => ?_)
      refine AW.iload_n (z := 3) (am_r 22 rfl) rfl rfl ?_
      have hr := (Option.some.inj hs).symm
      exact AW.iret (am_r 23 rfl) rfl (xt_q1 (f := fun v => .ok (some (.int v))) (r := (v6, (r8.1, r8.2.1, r8.2.2.1, r8.2.2.2.1, r8.2.2.2.2.1, S12, r8.2.2.2.2.2.2))) rfl (hQ.1 (v6, (r8.1, r8.2.1, r8.2.2.1, r8.2.2.2.1, r8.2.2.2.2.1, S12, r8.2.2.2.2.2.2)) hr))
    · replace hs := (if_pos hc7).symm.trans hs
      refine AW.bipush (am_r 9 rfl) rfl cb_m4 ?_
      have hr := (Option.some.inj hs).symm
      exact AW.iret (am_r 10 rfl) rfl (xt_q1 (f := fun v => .ok (some (.int v))) (r := ((-4 : Int32), S)) rfl (hQ.1 ((-4 : Int32), S) hr))
  · subst hv4
    have hr := (Option.some.inj hs).symm
    exact cQ_x (AX.out rfl (hQ.2 _ hr z h1 h2))
noncomputable def sX9_exchange (S : XT) (B : Nat) (p1 : Int32) (p2 : Int32) (p3 : Int32) : Option (Except (Nat × XT) (Int32 × XT)) :=
  oexc (sX9_itemOf S B p1) (fun e => (e, S)) fun w5 =>
  if p2 = p3 then
    some (.ok (((-4 : Int32), S)))
  else
    if (sX2_hasPlace S.2.2.2.2.2.1 w5 p2) = 0 then
      some (.ok (((-4 : Int32), S)))
    else
      if (sX2_hasPlace S.2.2.2.2.2.1 w5 p3) = 0 then
        some (.ok (((-4 : Int32), S)))
      else
        obind (sX1_remember S B) fun r13 =>
        obind (sX2_swap r13.2.2.2.2.2.1 w5 p2 p3) fun r16 =>
        obind (sX2_queuedAt r16 w5 p2) fun r19 =>
        some (.ok ((r19, (r13.1, r13.2.1, r13.2.2.1, r13.2.2.2.1, r13.2.2.2.2.1, r16, r13.2.2.2.2.2.2))))
set_option maxRecDepth 100000 in
theorem dX9_exchange {g : AG} {h0 : AH} {S : XT} {Q : AO → AH → Prop} {B : Nat} {p1 : Int32} {p2 : Int32} {p3 : Int32} (hB : gB g ≤ B) (hst : Sta g h0)  {r : (Except (Nat × XT) (Int32 × XT))} (hs : sX9_exchange S B p1 p2 p3 = some r) (hQ : (∀ v : (Int32 × XT), r = .ok v → Q (.ok (some (.int v.1))) (xh (bw h0 B v.2.1 v.2.2.2.1 v.2.2.2.2.2.2.2) B v.2.2.1 v.2.2.2.1 v.2.2.2.2.1 v.2.2.2.2.2.1 v.2.2.2.2.2.2.1)) ∧ (∀ e : (Nat × XT), r = .error e → ∀ z, e.2.1.1 ≤ z → z ≤ e.2.1.1 + 1 → Q (.error e.1) (xh (bw h0 B (z, e.2.1.2.1 - 1, e.2.1.2.2 - 6) e.2.2.2.1 e.2.2.2.2.2.2.2) B e.2.2.1 e.2.2.2.1 e.2.2.2.2.1 e.2.2.2.2.2.1 e.2.2.2.2.2.2.1))) : AW g MX9_exchange 0 [some (.ref (B)), some (.int (p1)), some (.int (p2)), some (.int (p3)), none] [] (xh (bw h0 B S.1 S.2.2.1 S.2.2.2.2.2.2) B S.2.1 S.2.2.1 S.2.2.2.1 S.2.2.2.2.1 S.2.2.2.2.2.1) Q := by
  unfold sX9_exchange at hs
  refine AW.aload_n (z := 0) (am_r 0 rfl) rfl rfl ?_
  refine AW.iload_n (z := 1) (am_r 1 rfl) rfl rfl ?_
  refine oexc_e hs (fun r1 hg3 hs => ?_)
  refine AW.callV (N := MX9_itemOf) (As := [.int (p1)]) (S := []) (L0 := [some (.ref (B)), some (.int (p1))]) (b := B) (am_r 2 rfl) rfl ovX9_itemOf q948 rfl rfl xh_0 rfl rfl rfl rfl (dX9_itemOf hB hst  hg3 ⟨fun w5 hv4 => ?_, fun e hv4 z h1 h2 => ?_⟩)
  · subst hv4
    refine fun hok2 => (cQ_r ?_)
    refine AW.astore (L' := [some (.ref (B)), some (.int (p1)), some (.int (p2)), some (.int (p3)), some (.ref ((B + 1) + 20 + 2 * w5))]) (am_r 3 rfl) rfl (Nat.le_of_ble_eq_true rfl) rfl ?_
    refine AW.iload_n (z := 2) (am_r 4 rfl) rfl rfl ?_
    refine AW.iload_n (z := 3) (am_r 5 rfl) rfl rfl ?_
    refine AW.icmp_eq (tg := 30) (am_r 6 rfl) rfl rfl (fun hc6 => ?_) (fun hc6 => ?_)
    · replace hs := (if_pos hc6).symm.trans hs
      refine AW.bipush (am_r 15 rfl) rfl cb_m4 ?_
      have hr := (Option.some.inj hs).symm
      exact AW.iret (am_r 16 rfl) rfl (xt_q1 (f := fun v => .ok (some (.int v))) (r := ((-4 : Int32), S)) rfl (hQ.1 ((-4 : Int32), S) hr))
    · replace hs := (if_neg hc6).symm.trans hs
      refine AW.aload (am_r 7 rfl) rfl rfl ?_
      refine AW.iload_n (z := 2) (am_r 8 rfl) rfl rfl ?_
      refine AW.callV (N := MX2_hasPlace) (As := [.int (p2)]) (S := []) (L0 := [some (.ref ((B + 1) + 20 + 2 * w5)), some (.int (p2))]) (b := (B + 1) + 20 + 2 * w5) (am_r 9 rfl) rfl ovX2_hasPlace q1124 rfl rfl (xl_get (fun _ => (sb_it hok2))) rfl rfl rfl rfl (AW.heq xh_l (dX2_hasPlace (Nat.le_trans hB (by omega)) hok2 rfl (fun hok8 => (cQ_r (AW.heq xh_l.symm ?_)))))
      refine AW.if_eq (tg := 30) (am_r 10 rfl) rfl rfl (fun hc9 => ?_) (fun hc9 => ?_)
      · replace hs := (if_pos hc9).symm.trans hs
        refine AW.bipush (am_r 15 rfl) rfl cb_m4 ?_
        have hr := (Option.some.inj hs).symm
        exact AW.iret (am_r 16 rfl) rfl (xt_q1 (f := fun v => .ok (some (.int v))) (r := ((-4 : Int32), S)) rfl (hQ.1 ((-4 : Int32), S) hr))
      · replace hs := (if_neg hc9).symm.trans hs
        refine AW.aload (am_r 11 rfl) rfl rfl ?_
        refine AW.iload_n (z := 3) (am_r 12 rfl) rfl rfl ?_
        refine AW.callV (N := MX2_hasPlace) (As := [.int (p3)]) (S := []) (L0 := [some (.ref ((B + 1) + 20 + 2 * w5)), some (.int (p3))]) (b := (B + 1) + 20 + 2 * w5) (am_r 13 rfl) rfl ovX2_hasPlace q1124 rfl rfl (xl_get (fun _ => (sb_it hok2))) rfl rfl rfl rfl (AW.heq xh_l (dX2_hasPlace (Nat.le_trans hB (by omega)) hok2 rfl (fun hok11 => (cQ_r (AW.heq xh_l.symm ?_)))))
        refine AW.if_ne (tg := 33) (am_r 14 rfl) rfl rfl (fun hc12 => ?_) (fun hc12 => ?_)
        · replace hs := (if_neg hc12).symm.trans hs
          refine AW.aload_n (z := 0) (am_r 17 rfl) rfl rfl ?_
          refine AW.getO (am_r 18 rfl) rfl klX9 (k := 2) (by omega) q394 xh_0 rfl ?_
          refine AW.aload_n (z := 0) (am_r 19 rfl) rfl rfl ?_
          refine AW.getO (am_r 20 rfl) rfl klX9 (k := 0) (by omega) q392 xh_0 rfl ?_
          refine obind_e hs (fun r13 hg15 hs => ?_)
          refine AW.callV (N := MX1_remember) (As := [.ref ((B + 1))]) (S := []) (L0 := [some (.ref (B + 117)), some (.ref ((B + 1)))]) (b := B + 117) (am_r 21 rfl) rfl ovX1_remember q848 rfl rfl xh_117 rfl rfl rfl rfl (dX1_remember hB hst  hg15 (cQ_v ?_))
          refine AW.aload (am_r 22 rfl) rfl rfl ?_
          refine AW.iload_n (z := 2) (am_r 23 rfl) rfl rfl ?_
          refine AW.iload_n (z := 3) (am_r 24 rfl) rfl rfl ?_
          refine obind_e hs (fun r16 hg18 hs => ?_)
          refine AW.callV (N := MX2_swap) (As := [.int (p2), .int (p3)]) (S := []) (L0 := [some (.ref ((B + 1) + 20 + 2 * w5)), some (.int (p2)), some (.int (p3)), none]) (b := (B + 1) + 20 + 2 * w5) (am_r 25 rfl) rfl ovX2_swap q1125 rfl rfl (xl_get (fun _ => (sb_it hok2))) rfl rfl rfl rfl (AW.heq xh_l (dX2_swap (Nat.le_trans hB (by omega)) hok2 hg18 (cQ_v (AW.heq xh_l.symm ?_))))
          refine AW.aload (am_r 26 rfl) rfl rfl ?_
          refine AW.iload_n (z := 2) (am_r 27 rfl) rfl rfl ?_
          refine obind_e hs (fun r19 hg21 hs => ?_)
          refine AW.callV (N := MX2_queuedAt) (As := [.int (p2)]) (S := []) (L0 := [some (.ref ((B + 1) + 20 + 2 * w5)), some (.int (p2))]) (b := (B + 1) + 20 + 2 * w5) (am_r 28 rfl) rfl ovX2_queuedAt q1094 rfl rfl (xl_get (fun _ => (sb_it hok2))) rfl rfl rfl rfl (AW.heq xh_l (dX2_queuedAt (Nat.le_trans hB (by omega)) hok2 hg21 (cQ_r (AW.heq xh_l.symm ?_))))
          have hr := (Option.some.inj hs).symm
          exact AW.iret (am_r 29 rfl) rfl (xt_q1 (f := fun v => .ok (some (.int v))) (r := (r19, (r13.1, r13.2.1, r13.2.2.1, r13.2.2.2.1, r13.2.2.2.2.1, r16, r13.2.2.2.2.2.2))) rfl (hQ.1 (r19, (r13.1, r13.2.1, r13.2.2.1, r13.2.2.2.1, r13.2.2.2.2.1, r16, r13.2.2.2.2.2.2)) hr))
        · replace hs := (if_pos hc12).symm.trans hs
          refine AW.bipush (am_r 15 rfl) rfl cb_m4 ?_
          have hr := (Option.some.inj hs).symm
          exact AW.iret (am_r 16 rfl) rfl (xt_q1 (f := fun v => .ok (some (.int v))) (r := ((-4 : Int32), S)) rfl (hQ.1 ((-4 : Int32), S) hr))
  · subst hv4
    have hr := (Option.some.inj hs).symm
    exact cQ_x (AX.out rfl (hQ.2 _ hr z h1 h2))
noncomputable def sX9_approve (S : XT) (B : Nat) (p1 : Int32) : Option (Except (Nat × XT) (Int32 × XT)) :=
  oexc (sX9_itemOf S B p1) (fun e => (e, S)) fun w5 =>
  if (gi S.2.2.2.2.2.1 3 7 w5) = 0 then
    some (.ok (((-4 : Int32), S)))
  else
    if (sX5_asksApproval S.2.2.2.2.2.1 (sX7_recipeAt S.2.2.2.2.2.1 (sX2_firstQueued S.2.2.2.2.2.1 w5)) (gi S.2.2.2.2.2.1 3 4 w5)) = 0 then
      some (.ok (((-4 : Int32), S)))
    else
      obind (sX1_remember S B) fun r14 =>
      olet (si r14.2.2.2.2.2.1 3 8 w5 ((gi r14.2.2.2.2.2.1 0 12 0) + (gi r14.2.2.2.2.2.1 0 11 0))) fun S17 =>
      some (.ok ((gi S17 3 8 w5, (r14.1, r14.2.1, r14.2.2.1, r14.2.2.2.1, r14.2.2.2.2.1, S17, r14.2.2.2.2.2.2))))
set_option maxRecDepth 100000 in
theorem dX9_approve {g : AG} {h0 : AH} {S : XT} {Q : AO → AH → Prop} {B : Nat} {p1 : Int32} (hB : gB g ≤ B) (hst : Sta g h0)  {r : (Except (Nat × XT) (Int32 × XT))} (hs : sX9_approve S B p1 = some r) (hQ : (∀ v : (Int32 × XT), r = .ok v → Q (.ok (some (.int v.1))) (xh (bw h0 B v.2.1 v.2.2.2.1 v.2.2.2.2.2.2.2) B v.2.2.1 v.2.2.2.1 v.2.2.2.2.1 v.2.2.2.2.2.1 v.2.2.2.2.2.2.1)) ∧ (∀ e : (Nat × XT), r = .error e → ∀ z, e.2.1.1 ≤ z → z ≤ e.2.1.1 + 1 → Q (.error e.1) (xh (bw h0 B (z, e.2.1.2.1 - 1, e.2.1.2.2 - 6) e.2.2.2.1 e.2.2.2.2.2.2.2) B e.2.2.1 e.2.2.2.1 e.2.2.2.2.1 e.2.2.2.2.2.1 e.2.2.2.2.2.2.1))) : AW g MX9_approve 0 [some (.ref (B)), some (.int (p1)), none] [] (xh (bw h0 B S.1 S.2.2.1 S.2.2.2.2.2.2) B S.2.1 S.2.2.1 S.2.2.2.1 S.2.2.2.2.1 S.2.2.2.2.2.1) Q := by
  unfold sX9_approve at hs
  refine AW.aload_n (z := 0) (am_r 0 rfl) rfl rfl ?_
  refine AW.iload_n (z := 1) (am_r 1 rfl) rfl rfl ?_
  refine oexc_e hs (fun r1 hg3 hs => ?_)
  refine AW.callV (N := MX9_itemOf) (As := [.int (p1)]) (S := []) (L0 := [some (.ref (B)), some (.int (p1))]) (b := B) (am_r 2 rfl) rfl ovX9_itemOf q948 rfl rfl xh_0 rfl rfl rfl rfl (dX9_itemOf hB hst  hg3 ⟨fun w5 hv4 => ?_, fun e hv4 z h1 h2 => ?_⟩)
  · subst hv4
    refine fun hok2 => (cQ_r ?_)
    refine AW.astore_n (L' := [some (.ref (B)), some (.int (p1)), some (.ref ((B + 1) + 20 + 2 * w5))]) (z := 2) (am_r 3 rfl) rfl (Nat.le_of_ble_eq_true rfl) rfl ?_
    refine AW.aload_n (z := 2) (am_r 4 rfl) rfl rfl ?_
    refine AW.getO (am_r 5 rfl) rfl klX2 (k := 7) (by omega) q140 (xl_get (fun _ => (sb_it hok2))) rfl ?_
    refine AW.if_eq (tg := 34) (am_r 6 rfl) rfl rfl (fun hc6 => ?_) (fun hc6 => ?_)
    · replace hs := (if_pos hc6).symm.trans hs
      refine AW.bipush (am_r 16 rfl) rfl cb_m4 ?_
      have hr := (Option.some.inj hs).symm
      exact AW.iret (am_r 17 rfl) rfl (xt_q1 (f := fun v => .ok (some (.int v))) (r := ((-4 : Int32), S)) rfl (hQ.1 ((-4 : Int32), S) hr))
    · replace hs := (if_neg hc6).symm.trans hs
      refine AW.aload_n (z := 0) (am_r 7 rfl) rfl rfl ?_
      refine AW.getO (am_r 8 rfl) rfl klX9 (k := 0) (by omega) q392 xh_0 rfl ?_
      refine AW.aload_n (z := 2) (am_r 9 rfl) rfl rfl ?_
      refine AW.callV (N := MX2_firstQueued) (As := []) (S := [(.ref ((B + 1)))]) (L0 := [some (.ref ((B + 1) + 20 + 2 * w5))]) (b := (B + 1) + 20 + 2 * w5) (am_r 10 rfl) rfl ovX2_firstQueued q1003 rfl rfl (xl_get (fun _ => (sb_it hok2))) rfl rfl rfl rfl (AW.heq xh_l (dX2_firstQueued (Nat.le_trans hB (by omega)) hok2 rfl (cQ_r (AW.heq xh_l.symm ?_))))
      refine AW.callV (N := MX7_recipeAt) (As := [.int (sX2_firstQueued S.2.2.2.2.2.1 w5)]) (S := []) (L0 := [some (.ref ((B + 1))), some (.int (sX2_firstQueued S.2.2.2.2.2.1 w5))]) (b := (B + 1)) (am_r 11 rfl) rfl ovX7_recipeAt q1004 rfl rfl (xl_get (fun _ => sb_st)) rfl rfl rfl rfl (AW.heq xh_l (dX7_recipeAt (Nat.le_trans hB (by omega))  rfl (fun hok10 => (cQ_r (AW.heq xh_l.symm ?_)))))
      refine AW.aload_n (z := 2) (am_r 12 rfl) rfl rfl ?_
      refine AW.getO (am_r 13 rfl) rfl klX2 (k := 4) (by omega) q131 (xl_get (fun _ => (sb_it hok2))) rfl ?_
      refine AW.callV (N := MX5_asksApproval) (As := [.int (gi S.2.2.2.2.2.1 3 4 w5)]) (S := []) (L0 := [some (.ref ((B + 1) + 9 + (sX7_recipeAt S.2.2.2.2.2.1 (sX2_firstQueued S.2.2.2.2.2.1 w5)))), some (.int (gi S.2.2.2.2.2.1 3 4 w5))]) (b := (B + 1) + 9 + (sX7_recipeAt S.2.2.2.2.2.1 (sX2_firstQueued S.2.2.2.2.2.1 w5))) (am_r 14 rfl) rfl ovX5_asksApproval q1005 rfl rfl (xl_get (fun _ => (sb_re hok10))) rfl rfl rfl rfl (AW.heq xh_l (dX5_asksApproval (Nat.le_trans hB (by omega)) hok10 rfl (fun hok12 => (cQ_r (AW.heq xh_l.symm ?_)))))
      refine AW.if_ne (tg := 37) (am_r 15 rfl) rfl rfl (fun hc13 => ?_) (fun hc13 => ?_)
      · replace hs := (if_neg hc13).symm.trans hs
        refine AW.aload_n (z := 0) (am_r 18 rfl) rfl rfl ?_
        refine AW.getO (am_r 19 rfl) rfl klX9 (k := 2) (by omega) q394 xh_0 rfl ?_
        refine AW.aload_n (z := 0) (am_r 20 rfl) rfl rfl ?_
        refine AW.getO (am_r 21 rfl) rfl klX9 (k := 0) (by omega) q392 xh_0 rfl ?_
        refine obind_e hs (fun r14 hg16 hs => ?_)
        refine AW.callV (N := MX1_remember) (As := [.ref ((B + 1))]) (S := []) (L0 := [some (.ref (B + 117)), some (.ref ((B + 1)))]) (b := B + 117) (am_r 22 rfl) rfl ovX1_remember q848 rfl rfl xh_117 rfl rfl rfl rfl (dX1_remember hB hst  hg16 (cQ_v ?_))
        refine AW.aload_n (z := 2) (am_r 23 rfl) rfl rfl ?_
        refine AW.aload_n (z := 0) (am_r 24 rfl) rfl rfl ?_
        refine AW.getO (am_r 25 rfl) rfl klX9 (k := 0) (by omega) q392 xh_0 rfl ?_
        refine AW.getO (am_r 26 rfl) rfl klX7 (k := 12) (by omega) q253 (xl_get (fun _ => sb_st)) rfl ?_
        refine AW.aload_n (z := 0) (am_r 27 rfl) rfl rfl ?_
        refine AW.getO (am_r 28 rfl) rfl klX9 (k := 0) (by omega) q392 xh_0 rfl ?_
        refine AW.getO (am_r 29 rfl) rfl klX7 (k := 11) (by omega) q250 (xl_get (fun _ => sb_st)) rfl ?_
        refine AW.iadd (am_r 30 rfl) rfl ?_
        refine AW.putO (am_r 31 rfl) rfl klX2 (k := 8) (by omega) q143 (Or.inl rfl) (xl_get (fun _ => (sb_it hok2))) (Nat.le_trans hB (by omega)) rfl rfl (xl_put (fun _ => (sbp_it hok2 (by decide) (fun z => by omega)))) ?_
        refine olet_e (P := fun y => AW g MX9_approve 67 [some (.ref (B)), some (.int (p1)), some (.ref ((B + 1) + 20 + 2 * w5))] [] (xh (bw h0 B r14.1 r14.2.2.1 r14.2.2.2.2.2.2) B r14.2.1 r14.2.2.1 r14.2.2.2.1 r14.2.2.2.2.1 y) Q) hs (fun S17 hs => ?_)
        refine AW.aload_n (z := 2) (am_r 32 rfl) rfl rfl ?_
        refine AW.getO (am_r 33 rfl) rfl klX2 (k := 8) (by omega) q143 (xl_get (fun _ => (sb_it hok2))) rfl ?_
        have hr := (Option.some.inj hs).symm
        exact AW.iret (am_r 34 rfl) rfl (xt_q1 (f := fun v => .ok (some (.int v))) (r := (gi S17 3 8 w5, (r14.1, r14.2.1, r14.2.2.1, r14.2.2.2.1, r14.2.2.2.2.1, S17, r14.2.2.2.2.2.2))) rfl (hQ.1 (gi S17 3 8 w5, (r14.1, r14.2.1, r14.2.2.1, r14.2.2.2.1, r14.2.2.2.2.1, S17, r14.2.2.2.2.2.2)) hr))
      · replace hs := (if_pos hc13).symm.trans hs
        refine AW.bipush (am_r 16 rfl) rfl cb_m4 ?_
        have hr := (Option.some.inj hs).symm
        exact AW.iret (am_r 17 rfl) rfl (xt_q1 (f := fun v => .ok (some (.int v))) (r := ((-4 : Int32), S)) rfl (hQ.1 ((-4 : Int32), S) hr))
  · subst hv4
    have hr := (Option.some.inj hs).symm
    exact cQ_x (AX.out rfl (hQ.2 _ hr z h1 h2))
noncomputable def sX9_requireBetween (S : XT) (B : Nat) (p1 : Int32) (p2 : Int32) (p3 : Int32) : Option (Except Nat Unit) :=
  if p1 < p2 then
    oif (xrm S.1) (some (.error 2))
  else
    if p1 ≤ p3 then
      some (.ok (()))
    else
      oif (xrm S.1) (some (.error 2))
set_option maxRecDepth 100000 in
theorem dX9_requireBetween {g : AG} {h0 : AH} {S : XT} {Q : AO → AH → Prop} {B : Nat} {p1 : Int32} {p2 : Int32} {p3 : Int32} (hB : gB g ≤ B) (hst : Sta g h0)  {r : (Except Nat Unit)} (hs : sX9_requireBetween S B p1 p2 p3 = some r) (hQ : (∀ v : Unit, r = .ok v → Q (.ok none) (xh (bw h0 B S.1 S.2.2.1 S.2.2.2.2.2.2) B S.2.1 S.2.2.1 S.2.2.2.1 S.2.2.2.2.1 S.2.2.2.2.2.1)) ∧ (∀ e : Nat, r = .error e → ∀ z, S.1.1 ≤ z → z ≤ S.1.1 + 1 → Q (.error e) (xh (bw h0 B (z, S.1.2.1 - 1, S.1.2.2 - 6) S.2.2.1 S.2.2.2.2.2.2) B S.2.1 S.2.2.1 S.2.2.2.1 S.2.2.2.2.1 S.2.2.2.2.2.1))) : AW g MX9_requireBetween 0 [some (.int (p1)), some (.int (p2)), some (.int (p3))] [] (xh (bw h0 B S.1 S.2.2.1 S.2.2.2.2.2.2) B S.2.1 S.2.2.1 S.2.2.2.1 S.2.2.2.2.1 S.2.2.2.2.2.1) Q := by
  unfold sX9_requireBetween at hs
  refine AW.iload_n (z := 0) (am_r 0 rfl) rfl rfl ?_
  refine AW.iload_n (z := 1) (am_r 1 rfl) rfl rfl ?_
  refine AW.icmp_lt (tg := 10) (am_r 2 rfl) rfl rfl (fun hc1 => ?_) (fun hc1 => ?_)
  · replace hs := (if_pos hc1).symm.trans hs
    refine oif_g hs (fun hg2 hs => ?_)
    have hr := (Option.some.inj hs).symm
    exact AW.throwSW (k := 2) (nt := 2) (names := ["java/lang/RuntimeException", "java/lang/Exception"]) (am_r 6 rfl) (am_r 7 rfl) (am_r 8 rfl) (am_r 9 rfl) (am_r 10 rfl) rfl rfl (by decide +kernel) (by decide +kernel) q780 q23 rfl am_tai am_tan (List.forall_mem_cons.mpr ⟨rfl, List.forall_mem_cons.mpr ⟨rfl, am_tao⟩⟩) rfl (xrm_1 hg2) (xrm_2 hg2) (fun z h1 h2 => hQ.2 _ hr z h1 h2)
  · replace hs := (if_neg hc1).symm.trans hs
    refine AW.iload_n (z := 0) (am_r 3 rfl) rfl rfl ?_
    refine AW.iload_n (z := 2) (am_r 4 rfl) rfl rfl ?_
    refine AW.icmp_le (tg := 21) (am_r 5 rfl) rfl rfl (fun hc3 => ?_) (fun hc3 => ?_)
    · replace hs := (if_pos hc3).symm.trans hs
      have hr := (Option.some.inj hs).symm
      exact AW.vret (am_r 11 rfl) rfl (hQ.1 _ hr)
    · replace hs := (if_neg hc3).symm.trans hs
      refine oif_g hs (fun hg4 hs => ?_)
      have hr := (Option.some.inj hs).symm
      exact AW.throwSW (k := 2) (nt := 2) (names := ["java/lang/RuntimeException", "java/lang/Exception"]) (am_r 6 rfl) (am_r 7 rfl) (am_r 8 rfl) (am_r 9 rfl) (am_r 10 rfl) rfl rfl (by decide +kernel) (by decide +kernel) q780 q23 rfl am_tai am_tan (List.forall_mem_cons.mpr ⟨rfl, List.forall_mem_cons.mpr ⟨rfl, am_tao⟩⟩) rfl (xrm_1 hg4) (xrm_2 hg4) (fun z h1 h2 => hQ.2 _ hr z h1 h2)
noncomputable def sX9_lend (S : XT) (B : Nat) (p1 : Int32) (p2 : Int32) (p3 : Int32) (p4 : Int32) : Option (Except (Nat × XT) (Int32 × XT)) :=
  oexc (sX9_itemOf S B p1) (fun e => (e, S)) fun w5 =>
  oexc (sX9_requireBetween S B p2 (0 : Int32) (20000 : Int32)) (fun e => (e, S)) fun w10 =>
  oexc (sX9_requireBetween S B p3 (0 : Int32) (1000 : Int32)) (fun e => (e, S)) fun w15 =>
  oexc (sX9_requireBetween S B p4 (1 : Int32) (500 : Int32)) (fun e => (e, S)) fun w20 =>
  if (bz (gi S.2.2.2.2.2.1 3 15 w5)) = 0 then
    obind (sX1_remember S B) fun r22 =>
    olet (sX2_awaitLoan r22.2.2.2.2.2.1 w5 p2 p3 p4) fun S27 =>
    some (.ok ((sX2_urgency S27 w5, (r22.1, r22.2.1, r22.2.2.1, r22.2.2.2.1, r22.2.2.2.2.1, S27, r22.2.2.2.2.2.2))))
  else
    some (.ok (((-4 : Int32), S)))
set_option maxRecDepth 100000 in
theorem dX9_lend {g : AG} {h0 : AH} {S : XT} {Q : AO → AH → Prop} {B : Nat} {p1 : Int32} {p2 : Int32} {p3 : Int32} {p4 : Int32} (hB : gB g ≤ B) (hst : Sta g h0)  {r : (Except (Nat × XT) (Int32 × XT))} (hs : sX9_lend S B p1 p2 p3 p4 = some r) (hQ : (∀ v : (Int32 × XT), r = .ok v → Q (.ok (some (.int v.1))) (xh (bw h0 B v.2.1 v.2.2.2.1 v.2.2.2.2.2.2.2) B v.2.2.1 v.2.2.2.1 v.2.2.2.2.1 v.2.2.2.2.2.1 v.2.2.2.2.2.2.1)) ∧ (∀ e : (Nat × XT), r = .error e → ∀ z, e.2.1.1 ≤ z → z ≤ e.2.1.1 + 1 → Q (.error e.1) (xh (bw h0 B (z, e.2.1.2.1 - 1, e.2.1.2.2 - 6) e.2.2.2.1 e.2.2.2.2.2.2.2) B e.2.2.1 e.2.2.2.1 e.2.2.2.2.1 e.2.2.2.2.2.1 e.2.2.2.2.2.2.1))) : AW g MX9_lend 0 [some (.ref (B)), some (.int (p1)), some (.int (p2)), some (.int (p3)), some (.int (p4)), none] [] (xh (bw h0 B S.1 S.2.2.1 S.2.2.2.2.2.2) B S.2.1 S.2.2.1 S.2.2.2.1 S.2.2.2.2.1 S.2.2.2.2.2.1) Q := by
  unfold sX9_lend at hs
  refine AW.aload_n (z := 0) (am_r 0 rfl) rfl rfl ?_
  refine AW.iload_n (z := 1) (am_r 1 rfl) rfl rfl ?_
  refine oexc_e hs (fun r1 hg3 hs => ?_)
  refine AW.callV (N := MX9_itemOf) (As := [.int (p1)]) (S := []) (L0 := [some (.ref (B)), some (.int (p1))]) (b := B) (am_r 2 rfl) rfl ovX9_itemOf q948 rfl rfl xh_0 rfl rfl rfl rfl (dX9_itemOf hB hst  hg3 ⟨fun w5 hv4 => ?_, fun e hv4 z h1 h2 => ?_⟩)
  · subst hv4
    refine fun hok2 => (cQ_r ?_)
    refine AW.astore (L' := [some (.ref (B)), some (.int (p1)), some (.int (p2)), some (.int (p3)), some (.int (p4)), some (.ref ((B + 1) + 20 + 2 * w5))]) (am_r 3 rfl) rfl (Nat.le_of_ble_eq_true rfl) rfl ?_
    refine AW.iload_n (z := 2) (am_r 4 rfl) rfl rfl ?_
    refine AW.iconst (am_r 5 rfl) rfl ci_0 ?_
    refine AW.sipush (am_r 6 rfl) rfl cs_20000 ?_
    refine oexc_e hs (fun r6 hg8 hs => ?_)
    refine AW.callS (N := MX9_requireBetween) (As := [.int (p2), .int ((0 : Int32)), .int ((20000 : Int32))]) (S := []) (L0 := [some (.int (p2)), some (.int ((0 : Int32))), some (.int ((20000 : Int32)))]) (am_r 7 rfl) rfl osX9_requireBetween q777 rfl rfl rfl rfl rfl (dX9_requireBetween hB hst  hg8 ⟨fun w10 hv9 => ?_, fun e hv9 z h1 h2 => ?_⟩)
    · subst hv9
      refine (cQ_v ?_)
      refine AW.iload_n (z := 3) (am_r 8 rfl) rfl rfl ?_
      refine AW.iconst (am_r 9 rfl) rfl ci_0 ?_
      refine AW.sipush (am_r 10 rfl) rfl cs_1000 ?_
      refine oexc_e hs (fun r11 hg13 hs => ?_)
      refine AW.callS (N := MX9_requireBetween) (As := [.int (p3), .int ((0 : Int32)), .int ((1000 : Int32))]) (S := []) (L0 := [some (.int (p3)), some (.int ((0 : Int32))), some (.int ((1000 : Int32)))]) (am_r 11 rfl) rfl osX9_requireBetween q777 rfl rfl rfl rfl rfl (dX9_requireBetween hB hst  hg13 ⟨fun w15 hv14 => ?_, fun e hv14 z h1 h2 => ?_⟩)
      · subst hv14
        refine (cQ_v ?_)
        refine AW.iload (am_r 12 rfl) rfl rfl ?_
        refine AW.iconst (am_r 13 rfl) rfl ci_1 ?_
        refine AW.sipush (am_r 14 rfl) rfl cs_500 ?_
        refine oexc_e hs (fun r16 hg18 hs => ?_)
        refine AW.callS (N := MX9_requireBetween) (As := [.int (p4), .int ((1 : Int32)), .int ((500 : Int32))]) (S := []) (L0 := [some (.int (p4)), some (.int ((1 : Int32))), some (.int ((500 : Int32)))]) (am_r 15 rfl) rfl osX9_requireBetween q777 rfl rfl rfl rfl rfl (dX9_requireBetween hB hst  hg18 ⟨fun w20 hv19 => ?_, fun e hv19 z h1 h2 => ?_⟩)
        · subst hv19
          refine (cQ_v ?_)
          refine AW.aload (am_r 16 rfl) rfl rfl ?_
          refine AW.getO (am_r 17 rfl) rfl klX2 (k := 15) (by omega) q161 (xl_get (fun _ => (sb_it hok2))) rfl ?_
          refine AW.if_eq (tg := 43) (am_r 18 rfl) rfl rfl (fun hc21 => ?_) (fun hc21 => ?_)
          · replace hs := (if_pos hc21).symm.trans hs
            refine AW.aload_n (z := 0) (am_r 21 rfl) rfl rfl ?_
            refine AW.getO (am_r 22 rfl) rfl klX9 (k := 2) (by omega) q394 xh_0 rfl ?_
            refine AW.aload_n (z := 0) (am_r 23 rfl) rfl rfl ?_
            refine AW.getO (am_r 24 rfl) rfl klX9 (k := 0) (by omega) q392 xh_0 rfl ?_
            refine obind_e hs (fun r22 hg24 hs => ?_)
            refine AW.callV (N := MX1_remember) (As := [.ref ((B + 1))]) (S := []) (L0 := [some (.ref (B + 117)), some (.ref ((B + 1)))]) (b := B + 117) (am_r 25 rfl) rfl ovX1_remember q848 rfl rfl xh_117 rfl rfl rfl rfl (dX1_remember hB hst  hg24 (cQ_v ?_))
            refine AW.aload (am_r 26 rfl) rfl rfl ?_
            refine AW.iload_n (z := 2) (am_r 27 rfl) rfl rfl ?_
            refine AW.iload_n (z := 3) (am_r 28 rfl) rfl rfl ?_
            refine AW.iload (am_r 29 rfl) rfl rfl ?_
            refine AW.callV (N := MX2_awaitLoan) (As := [.int (p2), .int (p3), .int (p4)]) (S := []) (L0 := [some (.ref ((B + 1) + 20 + 2 * w5)), some (.int (p2)), some (.int (p3)), some (.int (p4))]) (b := (B + 1) + 20 + 2 * w5) (am_r 30 rfl) rfl ovX2_awaitLoan q1010 rfl rfl (xl_get (fun _ => (sb_it hok2))) rfl rfl rfl rfl (AW.heq xh_l (dX2_awaitLoan (Nat.le_trans hB (by omega)) hok2 rfl (cQ_v (AW.heq xh_l.symm ?_))))
            refine olet_e (P := fun (y : Mem) => AW g MX9_lend 63 [some (.ref (B)), some (.int (p1)), some (.int (p2)), some (.int (p3)), some (.int (p4)), some (.ref ((B + 1) + 20 + 2 * w5))] [] (xh (bw h0 B r22.1 r22.2.2.1 r22.2.2.2.2.2.2) B r22.2.1 r22.2.2.1 r22.2.2.2.1 r22.2.2.2.2.1 y) Q) hs (fun S27 hs => ?_)
            refine AW.aload (am_r 31 rfl) rfl rfl ?_
            refine AW.callV (N := MX2_urgency) (As := []) (S := []) (L0 := [some (.ref ((B + 1) + 20 + 2 * w5))]) (b := (B + 1) + 20 + 2 * w5) (am_r 32 rfl) rfl ovX2_urgency q1014 rfl rfl (xl_get (fun _ => (sb_it hok2))) rfl rfl rfl rfl (AW.heq xh_l (dX2_urgency (Nat.le_trans hB (by omega)) hok2 rfl (cQ_r (AW.heq xh_l.symm ?_))))
            have hr := (Option.some.inj hs).symm
            exact AW.iret (am_r 33 rfl) rfl (xt_q1 (f := fun v => .ok (some (.int v))) (r := (sX2_urgency S27 w5, (r22.1, r22.2.1, r22.2.2.1, r22.2.2.2.1, r22.2.2.2.2.1, S27, r22.2.2.2.2.2.2))) rfl (hQ.1 (sX2_urgency S27 w5, (r22.1, r22.2.1, r22.2.2.1, r22.2.2.2.1, r22.2.2.2.2.1, S27, r22.2.2.2.2.2.2)) hr))
          · replace hs := (if_neg hc21).symm.trans hs
            refine AW.bipush (am_r 19 rfl) rfl cb_m4 ?_
            have hr := (Option.some.inj hs).symm
            exact AW.iret (am_r 20 rfl) rfl (xt_q1 (f := fun v => .ok (some (.int v))) (r := ((-4 : Int32), S)) rfl (hQ.1 ((-4 : Int32), S) hr))
        · subst hv19
          have hr := (Option.some.inj hs).symm
          exact cQ_x (AX.out rfl (hQ.2 _ hr z h1 h2))
      · subst hv14
        have hr := (Option.some.inj hs).symm
        exact cQ_x (AX.out rfl (hQ.2 _ hr z h1 h2))
    · subst hv9
      have hr := (Option.some.inj hs).symm
      exact cQ_x (AX.out rfl (hQ.2 _ hr z h1 h2))
  · subst hv4
    have hr := (Option.some.inj hs).symm
    exact cQ_x (AX.out rfl (hQ.2 _ hr z h1 h2))
noncomputable def sX9_recall (S : XT) (B : Nat) (p1 : Int32) : Option (Except (Nat × XT) (Int32 × XT)) :=
  oexc (sX9_itemOf S B p1) (fun e => (e, S)) fun w5 =>
  if (bz (gi S.2.2.2.2.2.1 3 15 w5)) = 0 then
    some (.ok (((-4 : Int32), S)))
  else
    obind (sX1_remember S B) fun r7 =>
    olet (si r7.2.2.2.2.2.1 3 15 w5 ((0 : Int32))) fun S10 =>
    some (.ok ((gi S10 3 16 w5, (r7.1, r7.2.1, r7.2.2.1, r7.2.2.2.1, r7.2.2.2.2.1, S10, r7.2.2.2.2.2.2))))
set_option maxRecDepth 100000 in
theorem dX9_recall {g : AG} {h0 : AH} {S : XT} {Q : AO → AH → Prop} {B : Nat} {p1 : Int32} (hB : gB g ≤ B) (hst : Sta g h0)  {r : (Except (Nat × XT) (Int32 × XT))} (hs : sX9_recall S B p1 = some r) (hQ : (∀ v : (Int32 × XT), r = .ok v → Q (.ok (some (.int v.1))) (xh (bw h0 B v.2.1 v.2.2.2.1 v.2.2.2.2.2.2.2) B v.2.2.1 v.2.2.2.1 v.2.2.2.2.1 v.2.2.2.2.2.1 v.2.2.2.2.2.2.1)) ∧ (∀ e : (Nat × XT), r = .error e → ∀ z, e.2.1.1 ≤ z → z ≤ e.2.1.1 + 1 → Q (.error e.1) (xh (bw h0 B (z, e.2.1.2.1 - 1, e.2.1.2.2 - 6) e.2.2.2.1 e.2.2.2.2.2.2.2) B e.2.2.1 e.2.2.2.1 e.2.2.2.2.1 e.2.2.2.2.2.1 e.2.2.2.2.2.2.1))) : AW g MX9_recall 0 [some (.ref (B)), some (.int (p1)), none] [] (xh (bw h0 B S.1 S.2.2.1 S.2.2.2.2.2.2) B S.2.1 S.2.2.1 S.2.2.2.1 S.2.2.2.2.1 S.2.2.2.2.2.1) Q := by
  unfold sX9_recall at hs
  refine AW.aload_n (z := 0) (am_r 0 rfl) rfl rfl ?_
  refine AW.iload_n (z := 1) (am_r 1 rfl) rfl rfl ?_
  refine oexc_e hs (fun r1 hg3 hs => ?_)
  refine AW.callV (N := MX9_itemOf) (As := [.int (p1)]) (S := []) (L0 := [some (.ref (B)), some (.int (p1))]) (b := B) (am_r 2 rfl) rfl ovX9_itemOf q948 rfl rfl xh_0 rfl rfl rfl rfl (dX9_itemOf hB hst  hg3 ⟨fun w5 hv4 => ?_, fun e hv4 z h1 h2 => ?_⟩)
  · subst hv4
    refine fun hok2 => (cQ_r ?_)
    refine AW.astore_n (L' := [some (.ref (B)), some (.int (p1)), some (.ref ((B + 1) + 20 + 2 * w5))]) (z := 2) (am_r 3 rfl) rfl (Nat.le_of_ble_eq_true rfl) rfl ?_
    refine AW.aload_n (z := 2) (am_r 4 rfl) rfl rfl ?_
    refine AW.getO (am_r 5 rfl) rfl klX2 (k := 15) (by omega) q161 (xl_get (fun _ => (sb_it hok2))) rfl ?_
    refine AW.if_ne (tg := 16) (am_r 6 rfl) rfl rfl (fun hc6 => ?_) (fun hc6 => ?_)
    · replace hs := (if_neg hc6).symm.trans hs
      refine AW.aload_n (z := 0) (am_r 9 rfl) rfl rfl ?_
      refine AW.getO (am_r 10 rfl) rfl klX9 (k := 2) (by omega) q394 xh_0 rfl ?_
      refine AW.aload_n (z := 0) (am_r 11 rfl) rfl rfl ?_
      refine AW.getO (am_r 12 rfl) rfl klX9 (k := 0) (by omega) q392 xh_0 rfl ?_
      refine obind_e hs (fun r7 hg9 hs => ?_)
      refine AW.callV (N := MX1_remember) (As := [.ref ((B + 1))]) (S := []) (L0 := [some (.ref (B + 117)), some (.ref ((B + 1)))]) (b := B + 117) (am_r 13 rfl) rfl ovX1_remember q848 rfl rfl xh_117 rfl rfl rfl rfl (dX1_remember hB hst  hg9 (cQ_v ?_))
      refine AW.aload_n (z := 2) (am_r 14 rfl) rfl rfl ?_
      refine AW.iconst (am_r 15 rfl) rfl ci_0 ?_
      refine AW.putO (am_r 16 rfl) rfl klX2 (k := 15) (by omega) q161 (Or.inl rfl) (xl_get (fun _ => (sb_it hok2))) (Nat.le_trans hB (by omega)) (nar_b (Or.inl rfl)) rfl (xl_put (fun _ => (sbp_it hok2 (by decide) (fun _ => Or.inl rfl)))) ?_
      refine olet_e (P := fun y => AW g MX9_recall 32 [some (.ref (B)), some (.int (p1)), some (.ref ((B + 1) + 20 + 2 * w5))] [] (xh (bw h0 B r7.1 r7.2.2.1 r7.2.2.2.2.2.2) B r7.2.1 r7.2.2.1 r7.2.2.2.1 r7.2.2.2.2.1 y) Q) hs (fun S10 hs => ?_)
      refine AW.aload_n (z := 2) (am_r 17 rfl) rfl rfl ?_
      refine AW.getO (am_r 18 rfl) rfl klX2 (k := 16) (by omega) q164 (xl_get (fun _ => (sb_it hok2))) rfl ?_
      have hr := (Option.some.inj hs).symm
      exact AW.iret (am_r 19 rfl) rfl (xt_q1 (f := fun v => .ok (some (.int v))) (r := (gi S10 3 16 w5, (r7.1, r7.2.1, r7.2.2.1, r7.2.2.2.1, r7.2.2.2.2.1, S10, r7.2.2.2.2.2.2))) rfl (hQ.1 (gi S10 3 16 w5, (r7.1, r7.2.1, r7.2.2.1, r7.2.2.2.1, r7.2.2.2.2.1, S10, r7.2.2.2.2.2.2)) hr))
    · replace hs := (if_pos hc6).symm.trans hs
      refine AW.bipush (am_r 7 rfl) rfl cb_m4 ?_
      have hr := (Option.some.inj hs).symm
      exact AW.iret (am_r 8 rfl) rfl (xt_q1 (f := fun v => .ok (some (.int v))) (r := ((-4 : Int32), S)) rfl (hQ.1 ((-4 : Int32), S) hr))
  · subst hv4
    have hr := (Option.some.inj hs).symm
    exact cQ_x (AX.out rfl (hQ.2 _ hr z h1 h2))
noncomputable def sX9_tick (S : XT) (B : Nat) (p1 : Int32) : Option (Except (Nat × XT) (Int32 × XT)) :=
  oexc (sX9_requireBetween S B p1 (1 : Int32) (1000 : Int32)) (fun e => (e, S)) fun w5 =>
  if ((gi S.2.2.2.2.2.1 0 12 0) + p1) ≤ (20000 : Int32) then
    obind (sX1_remember S B) fun r7 =>
    obind (sX7_passHours r7.2.2.2.2.2.1 p1) fun r10 =>
    some (.ok ((gi r10 0 12 0, (r7.1, r7.2.1, r7.2.2.1, r7.2.2.2.1, r7.2.2.2.2.1, r10, r7.2.2.2.2.2.2))))
  else
    some (.ok (((-2 : Int32), S)))
set_option maxRecDepth 100000 in
theorem dX9_tick {g : AG} {h0 : AH} {S : XT} {Q : AO → AH → Prop} {B : Nat} {p1 : Int32} (hB : gB g ≤ B) (hst : Sta g h0)  {r : (Except (Nat × XT) (Int32 × XT))} (hs : sX9_tick S B p1 = some r) (hQ : (∀ v : (Int32 × XT), r = .ok v → Q (.ok (some (.int v.1))) (xh (bw h0 B v.2.1 v.2.2.2.1 v.2.2.2.2.2.2.2) B v.2.2.1 v.2.2.2.1 v.2.2.2.2.1 v.2.2.2.2.2.1 v.2.2.2.2.2.2.1)) ∧ (∀ e : (Nat × XT), r = .error e → ∀ z, e.2.1.1 ≤ z → z ≤ e.2.1.1 + 1 → Q (.error e.1) (xh (bw h0 B (z, e.2.1.2.1 - 1, e.2.1.2.2 - 6) e.2.2.2.1 e.2.2.2.2.2.2.2) B e.2.2.1 e.2.2.2.1 e.2.2.2.2.1 e.2.2.2.2.2.1 e.2.2.2.2.2.2.1))) : AW g MX9_tick 0 [some (.ref (B)), some (.int (p1))] [] (xh (bw h0 B S.1 S.2.2.1 S.2.2.2.2.2.2) B S.2.1 S.2.2.1 S.2.2.2.1 S.2.2.2.2.1 S.2.2.2.2.2.1) Q := by
  unfold sX9_tick at hs
  refine AW.iload_n (z := 1) (am_r 0 rfl) rfl rfl ?_
  refine AW.iconst (am_r 1 rfl) rfl ci_1 ?_
  refine AW.sipush (am_r 2 rfl) rfl cs_1000 ?_
  refine oexc_e hs (fun r1 hg3 hs => ?_)
  refine AW.callS (N := MX9_requireBetween) (As := [.int (p1), .int ((1 : Int32)), .int ((1000 : Int32))]) (S := []) (L0 := [some (.int (p1)), some (.int ((1 : Int32))), some (.int ((1000 : Int32)))]) (am_r 3 rfl) rfl osX9_requireBetween q777 rfl rfl rfl rfl rfl (dX9_requireBetween hB hst  hg3 ⟨fun w5 hv4 => ?_, fun e hv4 z h1 h2 => ?_⟩)
  · subst hv4
    refine (cQ_v ?_)
    refine AW.aload_n (z := 0) (am_r 4 rfl) rfl rfl ?_
    refine AW.getO (am_r 5 rfl) rfl klX9 (k := 0) (by omega) q392 xh_0 rfl ?_
    refine AW.getO (am_r 6 rfl) rfl klX7 (k := 12) (by omega) q253 (xl_get (fun _ => sb_st)) rfl ?_
    refine AW.iload_n (z := 1) (am_r 7 rfl) rfl rfl ?_
    refine AW.iadd (am_r 8 rfl) rfl ?_
    refine AW.sipush (am_r 9 rfl) rfl cs_20000 ?_
    refine AW.icmp_le (tg := 26) (am_r 10 rfl) rfl rfl (fun hc6 => ?_) (fun hc6 => ?_)
    · replace hs := (if_pos hc6).symm.trans hs
      refine AW.aload_n (z := 0) (am_r 13 rfl) rfl rfl ?_
      refine AW.getO (am_r 14 rfl) rfl klX9 (k := 2) (by omega) q394 xh_0 rfl ?_
      refine AW.aload_n (z := 0) (am_r 15 rfl) rfl rfl ?_
      refine AW.getO (am_r 16 rfl) rfl klX9 (k := 0) (by omega) q392 xh_0 rfl ?_
      refine obind_e hs (fun r7 hg9 hs => ?_)
      refine AW.callV (N := MX1_remember) (As := [.ref ((B + 1))]) (S := []) (L0 := [some (.ref (B + 117)), some (.ref ((B + 1)))]) (b := B + 117) (am_r 17 rfl) rfl ovX1_remember q848 rfl rfl xh_117 rfl rfl rfl rfl (dX1_remember hB hst  hg9 (cQ_v ?_))
      refine AW.aload_n (z := 0) (am_r 18 rfl) rfl rfl ?_
      refine AW.getO (am_r 19 rfl) rfl klX9 (k := 0) (by omega) q392 xh_0 rfl ?_
      refine AW.iload_n (z := 1) (am_r 20 rfl) rfl rfl ?_
      refine obind_e hs (fun r10 hg12 hs => ?_)
      refine AW.callV (N := MX7_passHours) (As := [.int (p1)]) (S := []) (L0 := [some (.ref ((B + 1))), some (.int (p1)), none, none]) (b := (B + 1)) (am_r 21 rfl) rfl ovX7_passHours q857 rfl rfl (xl_get (fun _ => sb_st)) rfl rfl rfl rfl (AW.heq xh_l (dX7_passHours (Nat.le_trans hB (by omega))  hg12 (cQ_v (AW.heq xh_l.symm ?_))))
      refine AW.aload_n (z := 0) (am_r 22 rfl) rfl rfl ?_
      refine AW.getO (am_r 23 rfl) rfl klX9 (k := 0) (by omega) q392 xh_0 rfl ?_
      refine AW.getO (am_r 24 rfl) rfl klX7 (k := 12) (by omega) q253 (xl_get (fun _ => sb_st)) rfl ?_
      have hr := (Option.some.inj hs).symm
      exact AW.iret (am_r 25 rfl) rfl (xt_q1 (f := fun v => .ok (some (.int v))) (r := (gi r10 0 12 0, (r7.1, r7.2.1, r7.2.2.1, r7.2.2.2.1, r7.2.2.2.2.1, r10, r7.2.2.2.2.2.2))) rfl (hQ.1 (gi r10 0 12 0, (r7.1, r7.2.1, r7.2.2.1, r7.2.2.2.1, r7.2.2.2.2.1, r10, r7.2.2.2.2.2.2)) hr))
    · replace hs := (if_neg hc6).symm.trans hs
      refine AW.bipush (am_r 11 rfl) rfl cb_m2 ?_
      have hr := (Option.some.inj hs).symm
      exact AW.iret (am_r 12 rfl) rfl (xt_q1 (f := fun v => .ok (some (.int v))) (r := ((-2 : Int32), S)) rfl (hQ.1 ((-2 : Int32), S) hr))
  · subst hv4
    have hr := (Option.some.inj hs).symm
    exact cQ_x (AX.out rfl (hQ.2 _ hr z h1 h2))
noncomputable def sX9_reason (S : XT) (B : Nat) (p1 : Int32) : Option (Except Nat Int32) :=
  oexc (sX9_itemOf S B p1) (fun e => e) fun w5 =>
  obind (sX7_reasonOf S.2.2.2.2.2.1 w5) fun r6 =>
  some (.ok (r6))
set_option maxRecDepth 100000 in
theorem dX9_reason {g : AG} {h0 : AH} {S : XT} {Q : AO → AH → Prop} {B : Nat} {p1 : Int32} (hB : gB g ≤ B) (hst : Sta g h0)  {r : (Except Nat Int32)} (hs : sX9_reason S B p1 = some r) (hQ : (∀ v : Int32, r = .ok v → Q (.ok (some (.int v))) (xh (bw h0 B S.1 S.2.2.1 S.2.2.2.2.2.2) B S.2.1 S.2.2.1 S.2.2.2.1 S.2.2.2.2.1 S.2.2.2.2.2.1)) ∧ (∀ e : Nat, r = .error e → ∀ z, S.1.1 ≤ z → z ≤ S.1.1 + 1 → Q (.error e) (xh (bw h0 B (z, S.1.2.1 - 1, S.1.2.2 - 6) S.2.2.1 S.2.2.2.2.2.2) B S.2.1 S.2.2.1 S.2.2.2.1 S.2.2.2.2.1 S.2.2.2.2.2.1))) : AW g MX9_reason 0 [some (.ref (B)), some (.int (p1))] [] (xh (bw h0 B S.1 S.2.2.1 S.2.2.2.2.2.2) B S.2.1 S.2.2.1 S.2.2.2.1 S.2.2.2.2.1 S.2.2.2.2.2.1) Q := by
  unfold sX9_reason at hs
  refine AW.aload_n (z := 0) (am_r 0 rfl) rfl rfl ?_
  refine AW.getO (am_r 1 rfl) rfl klX9 (k := 0) (by omega) q392 xh_0 rfl ?_
  refine AW.aload_n (z := 0) (am_r 2 rfl) rfl rfl ?_
  refine AW.iload_n (z := 1) (am_r 3 rfl) rfl rfl ?_
  refine oexc_e hs (fun r1 hg3 hs => ?_)
  refine AW.callV (N := MX9_itemOf) (As := [.int (p1)]) (S := [(.ref ((B + 1)))]) (L0 := [some (.ref (B)), some (.int (p1))]) (b := B) (am_r 4 rfl) rfl ovX9_itemOf q948 rfl rfl xh_0 rfl rfl rfl rfl (dX9_itemOf hB hst  hg3 ⟨fun w5 hv4 => ?_, fun e hv4 z h1 h2 => ?_⟩)
  · subst hv4
    refine fun hok2 => (cQ_r ?_)
    refine obind_e hs (fun r6 hg8 hs => ?_)
    refine AW.callV (N := MX7_reasonOf) (As := [.ref ((B + 1) + 20 + 2 * w5)]) (S := []) (L0 := [some (.ref ((B + 1))), some (.ref ((B + 1) + 20 + 2 * w5)), none]) (b := (B + 1)) (am_r 5 rfl) rfl ovX7_reasonOf q1153 rfl rfl (xl_get (fun _ => sb_st)) rfl rfl rfl rfl (AW.heq xh_l (dX7_reasonOf (Nat.le_trans hB (by omega)) hok2 hg8 (cQ_r (AW.heq xh_l.symm ?_))))
    have hr := (Option.some.inj hs).symm
    exact AW.iret (am_r 6 rfl) rfl (hQ.1 _ hr)
  · subst hv4
    have hr := (Option.some.inj hs).symm
    exact cQ_x (AX.out rfl (hQ.2 _ hr z h1 h2))
noncomputable def sX9_cause (S : XT) (B : Nat) (p1 : Int32) : Option (Except Nat Int32) :=
  oexc (sX9_itemOf S B p1) (fun e => e) fun w5 =>
  obind (sX7_reasonOf S.2.2.2.2.2.1 w5) fun r6 =>
  if r6 = (1 : Int32) then
    some (.ok (gi S.2.2.2.2.2.1 3 5 w5))
  else
  if r6 = (2 : Int32) then
    some (.ok ((-1 : Int32)))
  else
  if r6 = (3 : Int32) then
    obind (sX7_greatestPress S.2.2.2.2.2.1 ) fun r12 =>
    some (.ok (r12))
  else
  if r6 = (4 : Int32) then
    some (.ok ((-1 : Int32)))
  else
  if r6 = (5 : Int32) then
    some (.ok (gi S.2.2.2.2.2.1 3 8 w5))
  else
  some (.ok ((-1 : Int32)))
set_option maxRecDepth 100000 in
theorem dX9_cause {g : AG} {h0 : AH} {S : XT} {Q : AO → AH → Prop} {B : Nat} {p1 : Int32} (hB : gB g ≤ B) (hst : Sta g h0)  {r : (Except Nat Int32)} (hs : sX9_cause S B p1 = some r) (hQ : (∀ v : Int32, r = .ok v → Q (.ok (some (.int v))) (xh (bw h0 B S.1 S.2.2.1 S.2.2.2.2.2.2) B S.2.1 S.2.2.1 S.2.2.2.1 S.2.2.2.2.1 S.2.2.2.2.2.1)) ∧ (∀ e : Nat, r = .error e → ∀ z, S.1.1 ≤ z → z ≤ S.1.1 + 1 → Q (.error e) (xh (bw h0 B (z, S.1.2.1 - 1, S.1.2.2 - 6) S.2.2.1 S.2.2.2.2.2.2) B S.2.1 S.2.2.1 S.2.2.2.1 S.2.2.2.2.1 S.2.2.2.2.2.1))) : AW g MX9_cause 0 [some (.ref (B)), some (.int (p1)), none] [] (xh (bw h0 B S.1 S.2.2.1 S.2.2.2.2.2.2) B S.2.1 S.2.2.1 S.2.2.2.1 S.2.2.2.2.1 S.2.2.2.2.2.1) Q := by
  unfold sX9_cause at hs
  refine AW.aload_n (z := 0) (am_r 0 rfl) rfl rfl ?_
  refine AW.iload_n (z := 1) (am_r 1 rfl) rfl rfl ?_
  refine oexc_e hs (fun r1 hg3 hs => ?_)
  refine AW.callV (N := MX9_itemOf) (As := [.int (p1)]) (S := []) (L0 := [some (.ref (B)), some (.int (p1))]) (b := B) (am_r 2 rfl) rfl ovX9_itemOf q948 rfl rfl xh_0 rfl rfl rfl rfl (dX9_itemOf hB hst  hg3 ⟨fun w5 hv4 => ?_, fun e hv4 z h1 h2 => ?_⟩)
  · subst hv4
    refine fun hok2 => (cQ_r ?_)
    refine AW.astore_n (L' := [some (.ref (B)), some (.int (p1)), some (.ref ((B + 1) + 20 + 2 * w5))]) (z := 2) (am_r 3 rfl) rfl (Nat.le_of_ble_eq_true rfl) rfl ?_
    refine AW.aload_n (z := 0) (am_r 4 rfl) rfl rfl ?_
    refine AW.getO (am_r 5 rfl) rfl klX9 (k := 0) (by omega) q392 xh_0 rfl ?_
    refine AW.aload_n (z := 2) (am_r 6 rfl) rfl rfl ?_
    refine obind_e hs (fun r6 hg8 hs => ?_)
    refine AW.callV (N := MX7_reasonOf) (As := [.ref ((B + 1) + 20 + 2 * w5)]) (S := []) (L0 := [some (.ref ((B + 1))), some (.ref ((B + 1) + 20 + 2 * w5)), none]) (b := (B + 1)) (am_r 7 rfl) rfl ovX7_reasonOf q1153 rfl rfl (xl_get (fun _ => sb_st)) rfl rfl rfl rfl (AW.heq xh_l (dX7_reasonOf (Nat.le_trans hB (by omega)) hok2 hg8 (cQ_r (AW.heq xh_l.symm ?_))))
    by_cases hw9 : r6 = (1 : Int32)
    · replace hs := (if_pos hw9).symm.trans hs
      refine AW.tabsw_at (tg := 48) (i := 0) (am_r 8 rfl) hw9 rfl rfl rfl (by decide) ?_
      refine AW.aload_n (z := 2) (am_r 9 rfl) rfl rfl ?_
      refine AW.getO (am_r 10 rfl) rfl klX2 (k := 5) (by omega) q134 (xl_get (fun _ => (sb_it hok2))) rfl ?_
      have hr := (Option.some.inj hs).symm
      exact AW.iret (am_r 11 rfl) rfl (hQ.1 _ hr)
    replace hs := (if_neg hw9).symm.trans hs
    by_cases hw10 : r6 = (2 : Int32)
    · replace hs := (if_pos hw10).symm.trans hs
      refine AW.tabsw_at (tg := 66) (i := 1) (am_r 8 rfl) hw10 rfl rfl rfl (by decide) ?_
      refine AW.iconst (am_r 19 rfl) rfl ci_m1 ?_
      have hr := (Option.some.inj hs).symm
      exact AW.iret (am_r 20 rfl) rfl (hQ.1 _ hr)
    replace hs := (if_neg hw10).symm.trans hs
    by_cases hw11 : r6 = (3 : Int32)
    · replace hs := (if_pos hw11).symm.trans hs
      refine AW.tabsw_at (tg := 53) (i := 2) (am_r 8 rfl) hw11 rfl rfl rfl (by decide) ?_
      refine AW.aload_n (z := 0) (am_r 12 rfl) rfl rfl ?_
      refine AW.getO (am_r 13 rfl) rfl klX9 (k := 0) (by omega) q392 xh_0 rfl ?_
      refine obind_e hs (fun r12 hg14 hs => ?_)
      refine AW.callV (N := MX7_greatestPress) (As := []) (S := []) (L0 := [some (.ref ((B + 1))), none, none]) (b := (B + 1)) (am_r 14 rfl) rfl ovX7_greatestPress q1161 rfl rfl (xl_get (fun _ => sb_st)) rfl rfl rfl rfl (AW.heq xh_l (dX7_greatestPress (Nat.le_trans hB (by omega))  hg14 (cQ_r (AW.heq xh_l.symm ?_))))
      have hr := (Option.some.inj hs).symm
      exact AW.iret (am_r 15 rfl) rfl (hQ.1 _ hr)
    replace hs := (if_neg hw11).symm.trans hs
    by_cases hw15 : r6 = (4 : Int32)
    · replace hs := (if_pos hw15).symm.trans hs
      refine AW.tabsw_at (tg := 66) (i := 3) (am_r 8 rfl) hw15 rfl rfl rfl (by decide) ?_
      refine AW.iconst (am_r 19 rfl) rfl ci_m1 ?_
      have hr := (Option.some.inj hs).symm
      exact AW.iret (am_r 20 rfl) rfl (hQ.1 _ hr)
    replace hs := (if_neg hw15).symm.trans hs
    by_cases hw16 : r6 = (5 : Int32)
    · replace hs := (if_pos hw16).symm.trans hs
      refine AW.tabsw_at (tg := 61) (i := 4) (am_r 8 rfl) hw16 rfl rfl rfl (by decide) ?_
      refine AW.aload_n (z := 2) (am_r 16 rfl) rfl rfl ?_
      refine AW.getO (am_r 17 rfl) rfl klX2 (k := 8) (by omega) q143 (xl_get (fun _ => (sb_it hok2))) rfl ?_
      have hr := (Option.some.inj hs).symm
      exact AW.iret (am_r 18 rfl) rfl (hQ.1 _ hr)
    replace hs := (if_neg hw16).symm.trans hs
    refine AW.tabsw_d (tg := 66) [1, 2, 3, 4, 5] (am_r 8 rfl) rfl (by decide) (by decide) (List.forall_mem_cons.mpr ⟨hw9, List.forall_mem_cons.mpr ⟨hw10, List.forall_mem_cons.mpr ⟨hw11, List.forall_mem_cons.mpr ⟨hw15, List.forall_mem_cons.mpr ⟨hw16, fun _ h => nomatch h⟩⟩⟩⟩⟩) ?_
    refine AW.iconst (am_r 19 rfl) rfl ci_m1 ?_
    have hr := (Option.some.inj hs).symm
    exact AW.iret (am_r 20 rfl) rfl (hQ.1 _ hr)
  · subst hv4
    have hr := (Option.some.inj hs).symm
    exact cQ_x (AX.out rfl (hQ.2 _ hr z h1 h2))
noncomputable def sX9_objectsWith_l11_step (S : XT) (B : Nat) (p1 : Int32) (a : (Int32 × Int32)) : Option ((Int32 × Int32) ⊕ (Except Nat Int32)) :=
  if (gi S.2.2.2.2.2.1 0 9 0) ≤ a.2 then
    oinr (
    some (.ok (a.1)))
  else
    obind (sX7_reasonOf S.2.2.2.2.2.1 (sX7_itemAt S.2.2.2.2.2.1 a.2)) fun r11 =>
    if r11 = p1 then
      olet (a.1 ||| ((1 : Int32) <<< (a.2 &&& 31))) fun v16 =>
      olet (a.2 + (1 : Int32)) fun v17 =>
      some (.inl (v16, v17))
    else
      olet (a.2 + (1 : Int32)) fun v15 =>
      some (.inl (a.1, v15))
noncomputable def sX9_objectsWith_l11 (S : XT) (B : Nat) (p1 : Int32) (a : (Int32 × Int32)) : Option (Except Nat Int32) := itw (sX9_objectsWith_l11_step S B p1) a
set_option maxRecDepth 100000 in
theorem dX9_objectsWith_l11 {g : AG} {h0 : AH} {S : XT} {Q : AO → AH → Prop} {B : Nat} {p1 : Int32} (hB : gB g ≤ B) (hst : Sta g h0)  {a : (Int32 × Int32)}  {r : (Except Nat Int32)} (hs : sX9_objectsWith_l11 S B p1 a = some r) (hQ : (∀ v : Int32, r = .ok v → Q (.ok (some (.int v))) (xh (bw h0 B S.1 S.2.2.1 S.2.2.2.2.2.2) B S.2.1 S.2.2.1 S.2.2.2.1 S.2.2.2.2.1 S.2.2.2.2.2.1)) ∧ (∀ e : Nat, r = .error e → ∀ z, S.1.1 ≤ z → z ≤ S.1.1 + 1 → Q (.error e) (xh (bw h0 B (z, S.1.2.1 - 1, S.1.2.2 - 6) S.2.2.1 S.2.2.2.2.2.2) B S.2.1 S.2.2.1 S.2.2.2.1 S.2.2.2.2.1 S.2.2.2.2.2.1))) : AW g MX9_objectsWith 11 [some (.ref (B)), some (.int (p1)), some (.int (a.1)), some (.int (a.2))] [] (xh (bw h0 B S.1 S.2.2.1 S.2.2.2.2.2.2) B S.2.1 S.2.2.1 S.2.2.2.1 S.2.2.2.2.1 S.2.2.2.2.2.1) Q := by
  refine itw_e (a := a) (b := r) (P := fun (a : (Int32 × Int32)) => AW g MX9_objectsWith 11 [some (.ref (B)), some (.int (p1)), some (.int (a.1)), some (.int (a.2))] [] (xh (bw h0 B S.1 S.2.2.1 S.2.2.2.2.2.2) B S.2.1 S.2.2.1 S.2.2.2.1 S.2.2.2.2.1 S.2.2.2.2.2.1) Q) (Post := fun r => (∀ v : Int32, r = .ok v → Q (.ok (some (.int v))) (xh (bw h0 B S.1 S.2.2.1 S.2.2.2.2.2.2) B S.2.1 S.2.2.1 S.2.2.2.1 S.2.2.2.2.1 S.2.2.2.2.2.1)) ∧ (∀ e : Nat, r = .error e → ∀ z, S.1.1 ≤ z → z ≤ S.1.1 + 1 → Q (.error e) (xh (bw h0 B (z, S.1.2.1 - 1, S.1.2.2 - 6) S.2.2.1 S.2.2.2.2.2.2) B S.2.1 S.2.2.1 S.2.2.2.1 S.2.2.2.2.1 S.2.2.2.2.2.1))) (fun a r hs hc he  => ?_) hs hQ 
  unfold sX9_objectsWith_l11_step at hs
  refine AW.iload_n (z := 3) (am_r 8 rfl) rfl rfl ?_
  refine AW.aload_n (z := 0) (am_r 9 rfl) rfl rfl ?_
  refine AW.getO (am_r 10 rfl) rfl klX9 (k := 0) (by omega) q392 xh_0 rfl ?_
  refine AW.getO (am_r 11 rfl) rfl klX7 (k := 9) (by omega) q244 (xl_get (fun _ => sb_st)) rfl ?_
  refine AW.icmp_ge (tg := 53) (am_r 12 rfl) rfl rfl (fun hc6 => ?_) (fun hc6 => ?_)
  · replace hs := (if_pos hc6).symm.trans hs
    refine oinr_e hs (fun z7 hz8 hs => ?_)
    have hQ := he _ hz8
    refine AW.iload_n (z := 2) (am_r 30 rfl) rfl rfl ?_
    have hr := (Option.some.inj hs).symm
    exact AW.iret (am_r 31 rfl) rfl (hQ.1 _ hr)
  · replace hs := (if_neg hc6).symm.trans hs
    refine AW.aload_n (z := 0) (am_r 13 rfl) rfl rfl ?_
    refine AW.getO (am_r 14 rfl) rfl klX9 (k := 0) (by omega) q392 xh_0 rfl ?_
    refine AW.aload_n (z := 0) (am_r 15 rfl) rfl rfl ?_
    refine AW.getO (am_r 16 rfl) rfl klX9 (k := 0) (by omega) q392 xh_0 rfl ?_
    refine AW.iload_n (z := 3) (am_r 17 rfl) rfl rfl ?_
    refine AW.callV (N := MX7_itemAt) (As := [.int (a.2)]) (S := [(.ref ((B + 1)))]) (L0 := [some (.ref ((B + 1))), some (.int (a.2))]) (b := (B + 1)) (am_r 18 rfl) rfl ovX7_itemAt q721 rfl rfl (xl_get (fun _ => sb_st)) rfl rfl rfl rfl (AW.heq xh_l (dX7_itemAt (Nat.le_trans hB (by omega))  rfl (fun hok10 => (cQ_r (AW.heq xh_l.symm ?_)))))
    refine obind_e hs (fun r11 hg13 hs => ?_)
    refine AW.callV (N := MX7_reasonOf) (As := [.ref ((B + 1) + 20 + 2 * (sX7_itemAt S.2.2.2.2.2.1 a.2))]) (S := []) (L0 := [some (.ref ((B + 1))), some (.ref ((B + 1) + 20 + 2 * (sX7_itemAt S.2.2.2.2.2.1 a.2))), none]) (b := (B + 1)) (am_r 19 rfl) rfl ovX7_reasonOf q1153 rfl rfl (xl_get (fun _ => sb_st)) rfl rfl rfl rfl (AW.heq xh_l (dX7_reasonOf (Nat.le_trans hB (by omega)) hok10 hg13 (cQ_r (AW.heq xh_l.symm ?_))))
    refine AW.iload_n (z := 1) (am_r 20 rfl) rfl rfl ?_
    refine AW.icmp_ne (tg := 47) (am_r 21 rfl) rfl rfl (fun hc14 => ?_) (fun hc14 => ?_)
    · replace hs := (if_neg hc14).symm.trans hs
      refine AW.iinc (v := a.2 + (1 : Int32)) (L' := [some (.ref (B)), some (.int (p1)), some (.int (a.1)), some (.int (a.2 + (1 : Int32)))]) (am_r 28 rfl) rfl (Nat.le_of_ble_eq_true rfl) rfl (congrArg (fun z => a.2 + z) ci_1) rfl ?_
      refine olet_e (P := fun (y : Int32) => AW g MX9_objectsWith 50 [some (.ref (B)), some (.int (p1)), some (.int (a.1)), some (.int (y))] [] (xh (bw h0 B S.1 S.2.2.1 S.2.2.2.2.2.2) B S.2.1 S.2.2.1 S.2.2.2.1 S.2.2.2.2.1 S.2.2.2.2.2.1) Q) hs (fun v15 hs => ?_)
      refine AW.goto (tg := 11) (am_r 29 rfl) rfl ?_
      have hr := (Option.some.inj hs).symm
      exact hc (a.1, v15) hr 
    · replace hs := (if_pos hc14).symm.trans hs
      refine AW.iload_n (z := 2) (am_r 22 rfl) rfl rfl ?_
      refine AW.iconst (am_r 23 rfl) rfl ci_1 ?_
      refine AW.iload_n (z := 3) (am_r 24 rfl) rfl rfl ?_
      refine AW.ishl (am_r 25 rfl) rfl ?_
      refine AW.ior (am_r 26 rfl) rfl ?_
      refine olet_e (P := fun y => AW g MX9_objectsWith 46 [some (.ref (B)), some (.int (p1)), some (.int (a.1)), some (.int (a.2))] [(.int (y))] (xh (bw h0 B S.1 S.2.2.1 S.2.2.2.2.2.2) B S.2.1 S.2.2.1 S.2.2.2.1 S.2.2.2.2.1 S.2.2.2.2.2.1) Q) hs (fun v16 hs => ?_)
      refine AW.istore_n (L' := [some (.ref (B)), some (.int (p1)), some (.int (v16)), some (.int (a.2))]) (z := 2) (am_r 27 rfl) rfl (Nat.le_of_ble_eq_true rfl) rfl ?_
      refine AW.iinc (v := a.2 + (1 : Int32)) (L' := [some (.ref (B)), some (.int (p1)), some (.int (v16)), some (.int (a.2 + (1 : Int32)))]) (am_r 28 rfl) rfl (Nat.le_of_ble_eq_true rfl) rfl (congrArg (fun z => a.2 + z) ci_1) rfl ?_
      refine olet_e (P := fun (y : Int32) => AW g MX9_objectsWith 50 [some (.ref (B)), some (.int (p1)), some (.int (v16)), some (.int (y))] [] (xh (bw h0 B S.1 S.2.2.1 S.2.2.2.2.2.2) B S.2.1 S.2.2.1 S.2.2.2.1 S.2.2.2.2.1 S.2.2.2.2.2.1) Q) hs (fun v17 hs => ?_)
      refine AW.goto (tg := 11) (am_r 29 rfl) rfl ?_
      have hr := (Option.some.inj hs).symm
      exact hc (v16, v17) hr 
noncomputable def sX9_objectsWith (S : XT) (B : Nat) (p1 : Int32) : Option (Except Nat Int32) :=
  oexc (sX9_requireBetween S B p1 (0 : Int32) (6 : Int32)) (fun e => e) fun w5 =>
  sX9_objectsWith_l11 S B p1 ((0 : Int32), (0 : Int32))
set_option maxRecDepth 100000 in
theorem dX9_objectsWith {g : AG} {h0 : AH} {S : XT} {Q : AO → AH → Prop} {B : Nat} {p1 : Int32} (hB : gB g ≤ B) (hst : Sta g h0)  {r : (Except Nat Int32)} (hs : sX9_objectsWith S B p1 = some r) (hQ : (∀ v : Int32, r = .ok v → Q (.ok (some (.int v))) (xh (bw h0 B S.1 S.2.2.1 S.2.2.2.2.2.2) B S.2.1 S.2.2.1 S.2.2.2.1 S.2.2.2.2.1 S.2.2.2.2.2.1)) ∧ (∀ e : Nat, r = .error e → ∀ z, S.1.1 ≤ z → z ≤ S.1.1 + 1 → Q (.error e) (xh (bw h0 B (z, S.1.2.1 - 1, S.1.2.2 - 6) S.2.2.1 S.2.2.2.2.2.2) B S.2.1 S.2.2.1 S.2.2.2.1 S.2.2.2.2.1 S.2.2.2.2.2.1))) : AW g MX9_objectsWith 0 [some (.ref (B)), some (.int (p1)), none, none] [] (xh (bw h0 B S.1 S.2.2.1 S.2.2.2.2.2.2) B S.2.1 S.2.2.1 S.2.2.2.1 S.2.2.2.2.1 S.2.2.2.2.2.1) Q := by
  unfold sX9_objectsWith at hs
  refine AW.iload_n (z := 1) (am_r 0 rfl) rfl rfl ?_
  refine AW.iconst (am_r 1 rfl) rfl ci_0 ?_
  refine AW.bipush (am_r 2 rfl) rfl cb_6 ?_
  refine oexc_e hs (fun r1 hg3 hs => ?_)
  refine AW.callS (N := MX9_requireBetween) (As := [.int (p1), .int ((0 : Int32)), .int ((6 : Int32))]) (S := []) (L0 := [some (.int (p1)), some (.int ((0 : Int32))), some (.int ((6 : Int32)))]) (am_r 3 rfl) rfl osX9_requireBetween q777 rfl rfl rfl rfl rfl (dX9_requireBetween hB hst  hg3 ⟨fun w5 hv4 => ?_, fun e hv4 z h1 h2 => ?_⟩)
  · subst hv4
    refine (cQ_v ?_)
    refine AW.iconst (am_r 4 rfl) rfl ci_0 ?_
    refine AW.istore_n (L' := [some (.ref (B)), some (.int (p1)), some (.int ((0 : Int32))), none]) (z := 2) (am_r 5 rfl) rfl (Nat.le_of_ble_eq_true rfl) rfl ?_
    refine AW.iconst (am_r 6 rfl) rfl ci_0 ?_
    refine AW.istore_n (L' := [some (.ref (B)), some (.int (p1)), some (.int ((0 : Int32))), some (.int ((0 : Int32)))]) (z := 3) (am_r 7 rfl) rfl (Nat.le_of_ble_eq_true rfl) rfl ?_
    exact dX9_objectsWith_l11 (a := ((0 : Int32), (0 : Int32))) hB hst   hs hQ
  · subst hv4
    have hr := (Option.some.inj hs).symm
    exact cQ_x (AX.out rfl (hQ.2 _ hr z h1 h2))
noncomputable def sX9_next (S : XT) (B : Nat) : Option Int32 :=
  obind (sX7_firstToBegin S.2.2.2.2.2.1 ) fun r1 =>
  some (r1)
set_option maxRecDepth 100000 in
theorem dX9_next {g : AG} {h0 : AH} {S : XT} {Q : AO → AH → Prop} {B : Nat} (hB : gB g ≤ B) (hst : Sta g h0)  {r : Int32} (hs : sX9_next S B = some r) (hQ : Q (.ok (some (.int r))) (xh (bw h0 B S.1 S.2.2.1 S.2.2.2.2.2.2) B S.2.1 S.2.2.1 S.2.2.2.1 S.2.2.2.2.1 S.2.2.2.2.2.1)) : AW g MX9_next 0 [some (.ref (B))] [] (xh (bw h0 B S.1 S.2.2.1 S.2.2.2.2.2.2) B S.2.1 S.2.2.1 S.2.2.2.1 S.2.2.2.2.1 S.2.2.2.2.2.1) Q := by
  unfold sX9_next at hs
  refine AW.aload_n (z := 0) (am_r 0 rfl) rfl rfl ?_
  refine AW.getO (am_r 1 rfl) rfl klX9 (k := 0) (by omega) q392 xh_0 rfl ?_
  refine obind_e hs (fun r1 hg3 hs => ?_)
  refine AW.callV (N := MX7_firstToBegin) (As := []) (S := []) (L0 := [some (.ref ((B + 1))), none, none, none, none]) (b := (B + 1)) (am_r 2 rfl) rfl ovX7_firstToBegin q688 rfl rfl (xl_get (fun _ => sb_st)) rfl rfl rfl rfl (AW.heq xh_l (dX7_firstToBegin (Nat.le_trans hB (by omega))  hg3 (cQ_r (AW.heq xh_l.symm ?_))))
  have hr := (Option.some.inj hs).symm
  subst hr
  exact AW.iret (am_r 3 rfl) rfl hQ
noncomputable def sX9_needsApproval (S : XT) (B : Nat) (p1 : Int32) (p2 : Int32) : Option (Except Nat Int32) :=
  oexc (sX9_itemOf S B p1) (fun e => e) fun w5 =>
  oexc (sX9_requireRecipe S B p2) (fun e => e) fun w10 =>
  some (.ok (sX5_asksApproval S.2.2.2.2.2.1 (sX7_recipeAt S.2.2.2.2.2.1 p2) (gi S.2.2.2.2.2.1 3 4 w5)))
set_option maxRecDepth 100000 in
theorem dX9_needsApproval {g : AG} {h0 : AH} {S : XT} {Q : AO → AH → Prop} {B : Nat} {p1 : Int32} {p2 : Int32} (hB : gB g ≤ B) (hst : Sta g h0)  {r : (Except Nat Int32)} (hs : sX9_needsApproval S B p1 p2 = some r) (hQ : (∀ v : Int32, r = .ok v → (v = 0 ∨ v = 1) → Q (.ok (some (.int v))) (xh (bw h0 B S.1 S.2.2.1 S.2.2.2.2.2.2) B S.2.1 S.2.2.1 S.2.2.2.1 S.2.2.2.2.1 S.2.2.2.2.2.1)) ∧ (∀ e : Nat, r = .error e → ∀ z, S.1.1 ≤ z → z ≤ S.1.1 + 1 → Q (.error e) (xh (bw h0 B (z, S.1.2.1 - 1, S.1.2.2 - 6) S.2.2.1 S.2.2.2.2.2.2) B S.2.1 S.2.2.1 S.2.2.2.1 S.2.2.2.2.1 S.2.2.2.2.2.1))) : AW g MX9_needsApproval 0 [some (.ref (B)), some (.int (p1)), some (.int (p2)), none] [] (xh (bw h0 B S.1 S.2.2.1 S.2.2.2.2.2.2) B S.2.1 S.2.2.1 S.2.2.2.1 S.2.2.2.2.1 S.2.2.2.2.2.1) Q := by
  unfold sX9_needsApproval at hs
  refine AW.aload_n (z := 0) (am_r 0 rfl) rfl rfl ?_
  refine AW.iload_n (z := 1) (am_r 1 rfl) rfl rfl ?_
  refine oexc_e hs (fun r1 hg3 hs => ?_)
  refine AW.callV (N := MX9_itemOf) (As := [.int (p1)]) (S := []) (L0 := [some (.ref (B)), some (.int (p1))]) (b := B) (am_r 2 rfl) rfl ovX9_itemOf q948 rfl rfl xh_0 rfl rfl rfl rfl (dX9_itemOf hB hst  hg3 ⟨fun w5 hv4 => ?_, fun e hv4 z h1 h2 => ?_⟩)
  · subst hv4
    refine fun hok2 => (cQ_r ?_)
    refine AW.astore_n (L' := [some (.ref (B)), some (.int (p1)), some (.int (p2)), some (.ref ((B + 1) + 20 + 2 * w5))]) (z := 3) (am_r 3 rfl) rfl (Nat.le_of_ble_eq_true rfl) rfl ?_
    refine AW.aload_n (z := 0) (am_r 4 rfl) rfl rfl ?_
    refine AW.iload_n (z := 2) (am_r 5 rfl) rfl rfl ?_
    refine oexc_e hs (fun r6 hg8 hs => ?_)
    refine AW.callV (N := MX9_requireRecipe) (As := [.int (p2)]) (S := []) (L0 := [some (.ref (B)), some (.int (p2))]) (b := B) (am_r 6 rfl) rfl ovX9_requireRecipe q975 rfl rfl xh_0 rfl rfl rfl rfl (dX9_requireRecipe hB hst  hg8 ⟨fun w10 hv9 => ?_, fun e hv9 z h1 h2 => ?_⟩)
    · subst hv9
      refine (cQ_v ?_)
      refine AW.aload_n (z := 0) (am_r 7 rfl) rfl rfl ?_
      refine AW.getO (am_r 8 rfl) rfl klX9 (k := 0) (by omega) q392 xh_0 rfl ?_
      refine AW.iload_n (z := 2) (am_r 9 rfl) rfl rfl ?_
      refine AW.callV (N := MX7_recipeAt) (As := [.int (p2)]) (S := []) (L0 := [some (.ref ((B + 1))), some (.int (p2))]) (b := (B + 1)) (am_r 10 rfl) rfl ovX7_recipeAt q1004 rfl rfl (xl_get (fun _ => sb_st)) rfl rfl rfl rfl (AW.heq xh_l (dX7_recipeAt (Nat.le_trans hB (by omega))  rfl (fun hok12 => (cQ_r (AW.heq xh_l.symm ?_)))))
      refine AW.aload_n (z := 3) (am_r 11 rfl) rfl rfl ?_
      refine AW.getO (am_r 12 rfl) rfl klX2 (k := 4) (by omega) q131 (xl_get (fun _ => (sb_it hok2))) rfl ?_
      refine AW.callV (N := MX5_asksApproval) (As := [.int (gi S.2.2.2.2.2.1 3 4 w5)]) (S := []) (L0 := [some (.ref ((B + 1) + 9 + (sX7_recipeAt S.2.2.2.2.2.1 p2))), some (.int (gi S.2.2.2.2.2.1 3 4 w5))]) (b := (B + 1) + 9 + (sX7_recipeAt S.2.2.2.2.2.1 p2)) (am_r 13 rfl) rfl ovX5_asksApproval q1005 rfl rfl (xl_get (fun _ => (sb_re hok12))) rfl rfl rfl rfl (AW.heq xh_l (dX5_asksApproval (Nat.le_trans hB (by omega)) hok12 rfl (fun hok14 => (cQ_r (AW.heq xh_l.symm ?_)))))
      have hr := (Option.some.inj hs).symm
      exact AW.zret (am_r 14 rfl) rfl hok14 ((hQ.1 _ hr) hok14)
    · subst hv9
      have hr := (Option.some.inj hs).symm
      exact cQ_x (AX.out rfl (hQ.2 _ hr z h1 h2))
  · subst hv4
    have hr := (Option.some.inj hs).symm
    exact cQ_x (AX.out rfl (hQ.2 _ hr z h1 h2))
noncomputable def sX9_approvalsAhead_l11_step (S : XT) (B : Nat) (p1 : Int32) (a : (Nat × Int32 × Int32)) : Option ((Nat × Int32 × Int32) ⊕ (Except Nat Int32)) :=
  if (gi S.2.2.2.2.2.1 3 7 a.1) ≤ a.2.2 then
    oinr (
    some (.ok (a.2.1)))
  else
    obind (sX2_queuedAt S.2.2.2.2.2.1 a.1 a.2.2) fun r9 =>
    if (sX5_asksApproval S.2.2.2.2.2.1 (sX7_recipeAt S.2.2.2.2.2.1 r9) (gi S.2.2.2.2.2.1 3 4 a.1)) = 0 then
      olet (a.2.2 + (1 : Int32)) fun v17 =>
      some (.inl (a.1, a.2.1, v17))
    else
      olet (a.2.1 + (1 : Int32)) fun v18 =>
      olet (a.2.2 + (1 : Int32)) fun v19 =>
      some (.inl (a.1, v18, v19))
noncomputable def sX9_approvalsAhead_l11 (S : XT) (B : Nat) (p1 : Int32) (a : (Nat × Int32 × Int32)) : Option (Except Nat Int32) := itw (sX9_approvalsAhead_l11_step S B p1) a
set_option maxRecDepth 100000 in
theorem dX9_approvalsAhead_l11 {g : AG} {h0 : AH} {S : XT} {Q : AO → AH → Prop} {B : Nat} {p1 : Int32} (hB : gB g ≤ B) (hst : Sta g h0)  {a : (Nat × Int32 × Int32)} (hk0 : iok a.1) {r : (Except Nat Int32)} (hs : sX9_approvalsAhead_l11 S B p1 a = some r) (hQ : (∀ v : Int32, r = .ok v → Q (.ok (some (.int v))) (xh (bw h0 B S.1 S.2.2.1 S.2.2.2.2.2.2) B S.2.1 S.2.2.1 S.2.2.2.1 S.2.2.2.2.1 S.2.2.2.2.2.1)) ∧ (∀ e : Nat, r = .error e → ∀ z, S.1.1 ≤ z → z ≤ S.1.1 + 1 → Q (.error e) (xh (bw h0 B (z, S.1.2.1 - 1, S.1.2.2 - 6) S.2.2.1 S.2.2.2.2.2.2) B S.2.1 S.2.2.1 S.2.2.2.1 S.2.2.2.2.1 S.2.2.2.2.2.1))) : AW g MX9_approvalsAhead 11 [some (.ref (B)), none, some (.ref ((B + 1) + 20 + 2 * a.1)), some (.int (a.2.1)), some (.int (a.2.2))] [] (xh (bw h0 B S.1 S.2.2.1 S.2.2.2.2.2.2) B S.2.1 S.2.2.1 S.2.2.2.1 S.2.2.2.2.1 S.2.2.2.2.2.1) Q := by
  refine itw_e (a := a) (b := r) (P := fun (a : (Nat × Int32 × Int32)) => iok a.1 → AW g MX9_approvalsAhead 11 [some (.ref (B)), none, some (.ref ((B + 1) + 20 + 2 * a.1)), some (.int (a.2.1)), some (.int (a.2.2))] [] (xh (bw h0 B S.1 S.2.2.1 S.2.2.2.2.2.2) B S.2.1 S.2.2.1 S.2.2.2.1 S.2.2.2.2.1 S.2.2.2.2.2.1) Q) (Post := fun r => (∀ v : Int32, r = .ok v → Q (.ok (some (.int v))) (xh (bw h0 B S.1 S.2.2.1 S.2.2.2.2.2.2) B S.2.1 S.2.2.1 S.2.2.2.1 S.2.2.2.2.1 S.2.2.2.2.2.1)) ∧ (∀ e : Nat, r = .error e → ∀ z, S.1.1 ≤ z → z ≤ S.1.1 + 1 → Q (.error e) (xh (bw h0 B (z, S.1.2.1 - 1, S.1.2.2 - 6) S.2.2.1 S.2.2.2.2.2.2) B S.2.1 S.2.2.1 S.2.2.2.1 S.2.2.2.2.1 S.2.2.2.2.2.1))) (fun a r hs hc he hk0 => ?_) hs hQ hk0
  unfold sX9_approvalsAhead_l11_step at hs
  refine AW.iload (am_r 8 rfl) rfl rfl ?_
  refine AW.aload_n (z := 2) (am_r 9 rfl) rfl rfl ?_
  refine AW.getO (am_r 10 rfl) rfl klX2 (k := 7) (by omega) q140 (xl_get (fun _ => (sb_it hk0))) rfl ?_
  refine AW.icmp_ge (tg := 52) (am_r 11 rfl) rfl rfl (fun hc6 => ?_) (fun hc6 => ?_)
  · replace hs := (if_pos hc6).symm.trans hs
    refine oinr_e hs (fun z7 hz8 hs => ?_)
    have hQ := he _ hz8
    refine AW.iload_n (z := 3) (am_r 25 rfl) rfl rfl ?_
    have hr := (Option.some.inj hs).symm
    exact AW.iret (am_r 26 rfl) rfl (hQ.1 _ hr)
  · replace hs := (if_neg hc6).symm.trans hs
    refine AW.aload_n (z := 0) (am_r 12 rfl) rfl rfl ?_
    refine AW.getO (am_r 13 rfl) rfl klX9 (k := 0) (by omega) q392 xh_0 rfl ?_
    refine AW.aload_n (z := 2) (am_r 14 rfl) rfl rfl ?_
    refine AW.iload (am_r 15 rfl) rfl rfl ?_
    refine obind_e hs (fun r9 hg11 hs => ?_)
    refine AW.callV (N := MX2_queuedAt) (As := [.int (a.2.2)]) (S := [(.ref ((B + 1)))]) (L0 := [some (.ref ((B + 1) + 20 + 2 * a.1)), some (.int (a.2.2))]) (b := (B + 1) + 20 + 2 * a.1) (am_r 16 rfl) rfl ovX2_queuedAt q1094 rfl rfl (xl_get (fun _ => (sb_it hk0))) rfl rfl rfl rfl (AW.heq xh_l (dX2_queuedAt (Nat.le_trans hB (by omega)) hk0 hg11 (cQ_r (AW.heq xh_l.symm ?_))))
    refine AW.callV (N := MX7_recipeAt) (As := [.int (r9)]) (S := []) (L0 := [some (.ref ((B + 1))), some (.int (r9))]) (b := (B + 1)) (am_r 17 rfl) rfl ovX7_recipeAt q1004 rfl rfl (xl_get (fun _ => sb_st)) rfl rfl rfl rfl (AW.heq xh_l (dX7_recipeAt (Nat.le_trans hB (by omega))  rfl (fun hok13 => (cQ_r (AW.heq xh_l.symm ?_)))))
    refine AW.aload_n (z := 2) (am_r 18 rfl) rfl rfl ?_
    refine AW.getO (am_r 19 rfl) rfl klX2 (k := 4) (by omega) q131 (xl_get (fun _ => (sb_it hk0))) rfl ?_
    refine AW.callV (N := MX5_asksApproval) (As := [.int (gi S.2.2.2.2.2.1 3 4 a.1)]) (S := []) (L0 := [some (.ref ((B + 1) + 9 + (sX7_recipeAt S.2.2.2.2.2.1 r9))), some (.int (gi S.2.2.2.2.2.1 3 4 a.1))]) (b := (B + 1) + 9 + (sX7_recipeAt S.2.2.2.2.2.1 r9)) (am_r 20 rfl) rfl ovX5_asksApproval q1005 rfl rfl (xl_get (fun _ => (sb_re hok13))) rfl rfl rfl rfl (AW.heq xh_l (dX5_asksApproval (Nat.le_trans hB (by omega)) hok13 rfl (fun hok15 => (cQ_r (AW.heq xh_l.symm ?_)))))
    refine AW.if_eq (tg := 46) (am_r 21 rfl) rfl rfl (fun hc16 => ?_) (fun hc16 => ?_)
    · replace hs := (if_pos hc16).symm.trans hs
      refine AW.iinc (v := a.2.2 + (1 : Int32)) (L' := [some (.ref (B)), none, some (.ref ((B + 1) + 20 + 2 * a.1)), some (.int (a.2.1)), some (.int (a.2.2 + (1 : Int32)))]) (am_r 23 rfl) rfl (Nat.le_of_ble_eq_true rfl) rfl (congrArg (fun z => a.2.2 + z) ci_1) rfl ?_
      refine olet_e (P := fun (y : Int32) => AW g MX9_approvalsAhead 49 [some (.ref (B)), none, some (.ref ((B + 1) + 20 + 2 * a.1)), some (.int (a.2.1)), some (.int (y))] [] (xh (bw h0 B S.1 S.2.2.1 S.2.2.2.2.2.2) B S.2.1 S.2.2.1 S.2.2.2.1 S.2.2.2.2.1 S.2.2.2.2.2.1) Q) hs (fun v17 hs => ?_)
      refine AW.goto (tg := 11) (am_r 24 rfl) rfl ?_
      have hr := (Option.some.inj hs).symm
      exact hc (a.1, a.2.1, v17) hr hk0
    · replace hs := (if_neg hc16).symm.trans hs
      refine AW.iinc (v := a.2.1 + (1 : Int32)) (L' := [some (.ref (B)), none, some (.ref ((B + 1) + 20 + 2 * a.1)), some (.int (a.2.1 + (1 : Int32))), some (.int (a.2.2))]) (am_r 22 rfl) rfl (Nat.le_of_ble_eq_true rfl) rfl (congrArg (fun z => a.2.1 + z) ci_1) rfl ?_
      refine olet_e (P := fun (y : Int32) => AW g MX9_approvalsAhead 46 [some (.ref (B)), none, some (.ref ((B + 1) + 20 + 2 * a.1)), some (.int (y)), some (.int (a.2.2))] [] (xh (bw h0 B S.1 S.2.2.1 S.2.2.2.2.2.2) B S.2.1 S.2.2.1 S.2.2.2.1 S.2.2.2.2.1 S.2.2.2.2.2.1) Q) hs (fun v18 hs => ?_)
      refine AW.iinc (v := a.2.2 + (1 : Int32)) (L' := [some (.ref (B)), none, some (.ref ((B + 1) + 20 + 2 * a.1)), some (.int (v18)), some (.int (a.2.2 + (1 : Int32)))]) (am_r 23 rfl) rfl (Nat.le_of_ble_eq_true rfl) rfl (congrArg (fun z => a.2.2 + z) ci_1) rfl ?_
      refine olet_e (P := fun (y : Int32) => AW g MX9_approvalsAhead 49 [some (.ref (B)), none, some (.ref ((B + 1) + 20 + 2 * a.1)), some (.int (v18)), some (.int (y))] [] (xh (bw h0 B S.1 S.2.2.1 S.2.2.2.2.2.2) B S.2.1 S.2.2.1 S.2.2.2.1 S.2.2.2.2.1 S.2.2.2.2.2.1) Q) hs (fun v19 hs => ?_)
      refine AW.goto (tg := 11) (am_r 24 rfl) rfl ?_
      have hr := (Option.some.inj hs).symm
      exact hc (a.1, v18, v19) hr hk0
noncomputable def sX9_approvalsAhead (S : XT) (B : Nat) (p1 : Int32) : Option (Except Nat Int32) :=
  oexc (sX9_itemOf S B p1) (fun e => e) fun w5 =>
  sX9_approvalsAhead_l11 S B p1 (w5, (0 : Int32), (0 : Int32))
set_option maxRecDepth 100000 in
theorem dX9_approvalsAhead {g : AG} {h0 : AH} {S : XT} {Q : AO → AH → Prop} {B : Nat} {p1 : Int32} (hB : gB g ≤ B) (hst : Sta g h0)  {r : (Except Nat Int32)} (hs : sX9_approvalsAhead S B p1 = some r) (hQ : (∀ v : Int32, r = .ok v → Q (.ok (some (.int v))) (xh (bw h0 B S.1 S.2.2.1 S.2.2.2.2.2.2) B S.2.1 S.2.2.1 S.2.2.2.1 S.2.2.2.2.1 S.2.2.2.2.2.1)) ∧ (∀ e : Nat, r = .error e → ∀ z, S.1.1 ≤ z → z ≤ S.1.1 + 1 → Q (.error e) (xh (bw h0 B (z, S.1.2.1 - 1, S.1.2.2 - 6) S.2.2.1 S.2.2.2.2.2.2) B S.2.1 S.2.2.1 S.2.2.2.1 S.2.2.2.2.1 S.2.2.2.2.2.1))) : AW g MX9_approvalsAhead 0 [some (.ref (B)), some (.int (p1)), none, none, none] [] (xh (bw h0 B S.1 S.2.2.1 S.2.2.2.2.2.2) B S.2.1 S.2.2.1 S.2.2.2.1 S.2.2.2.2.1 S.2.2.2.2.2.1) Q := by
  unfold sX9_approvalsAhead at hs
  refine AW.aload_n (z := 0) (am_r 0 rfl) rfl rfl ?_
  refine AW.iload_n (z := 1) (am_r 1 rfl) rfl rfl ?_
  refine oexc_e hs (fun r1 hg3 hs => ?_)
  refine AW.callV (N := MX9_itemOf) (As := [.int (p1)]) (S := []) (L0 := [some (.ref (B)), some (.int (p1))]) (b := B) (am_r 2 rfl) rfl ovX9_itemOf q948 rfl rfl xh_0 rfl rfl rfl rfl (dX9_itemOf hB hst  hg3 ⟨fun w5 hv4 => ?_, fun e hv4 z h1 h2 => ?_⟩)
  · subst hv4
    refine fun hok2 => (cQ_r ?_)
    refine AW.astore_n (L' := [some (.ref (B)), some (.int (p1)), some (.ref ((B + 1) + 20 + 2 * w5)), none, none]) (z := 2) (am_r 3 rfl) rfl (Nat.le_of_ble_eq_true rfl) rfl ?_
    refine AW.iconst (am_r 4 rfl) rfl ci_0 ?_
    refine AW.istore_n (L' := [some (.ref (B)), some (.int (p1)), some (.ref ((B + 1) + 20 + 2 * w5)), some (.int ((0 : Int32))), none]) (z := 3) (am_r 5 rfl) rfl (Nat.le_of_ble_eq_true rfl) rfl ?_
    refine AW.iconst (am_r 6 rfl) rfl ci_0 ?_
    refine AW.istore (L' := [some (.ref (B)), some (.int (p1)), some (.ref ((B + 1) + 20 + 2 * w5)), some (.int ((0 : Int32))), some (.int ((0 : Int32)))]) (am_r 7 rfl) rfl (Nat.le_of_ble_eq_true rfl) rfl ?_
    refine AW.lessL (L' := [some (.ref (B)), none, some (.ref ((B + 1) + 20 + 2 * w5)), some (.int ((0 : Int32))), some (.int ((0 : Int32)))]) ⟨rfl, rfl, rfl, rfl, trivial⟩ ?_
    exact dX9_approvalsAhead_l11 (a := (w5, (0 : Int32), (0 : Int32))) hB hst  hok2 hs hQ
  · subst hv4
    have hr := (Option.some.inj hs).symm
    exact cQ_x (AX.out rfl (hQ.2 _ hr z h1 h2))
noncomputable def sX9_pressFor (S : XT) (B : Nat) (p1 : Int32) : Option (Except Nat Int32) :=
  oexc (sX9_itemOf S B p1) (fun e => e) fun w5 =>
  obind (sX7_fittingPress S.2.2.2.2.2.1 (gi S.2.2.2.2.2.1 3 2 w5) (0 : Int32)) fun r6 =>
  some (.ok (r6))
set_option maxRecDepth 100000 in
theorem dX9_pressFor {g : AG} {h0 : AH} {S : XT} {Q : AO → AH → Prop} {B : Nat} {p1 : Int32} (hB : gB g ≤ B) (hst : Sta g h0)  {r : (Except Nat Int32)} (hs : sX9_pressFor S B p1 = some r) (hQ : (∀ v : Int32, r = .ok v → Q (.ok (some (.int v))) (xh (bw h0 B S.1 S.2.2.1 S.2.2.2.2.2.2) B S.2.1 S.2.2.1 S.2.2.2.1 S.2.2.2.2.1 S.2.2.2.2.2.1)) ∧ (∀ e : Nat, r = .error e → ∀ z, S.1.1 ≤ z → z ≤ S.1.1 + 1 → Q (.error e) (xh (bw h0 B (z, S.1.2.1 - 1, S.1.2.2 - 6) S.2.2.1 S.2.2.2.2.2.2) B S.2.1 S.2.2.1 S.2.2.2.1 S.2.2.2.2.1 S.2.2.2.2.2.1))) : AW g MX9_pressFor 0 [some (.ref (B)), some (.int (p1))] [] (xh (bw h0 B S.1 S.2.2.1 S.2.2.2.2.2.2) B S.2.1 S.2.2.1 S.2.2.2.1 S.2.2.2.2.1 S.2.2.2.2.2.1) Q := by
  unfold sX9_pressFor at hs
  refine AW.aload_n (z := 0) (am_r 0 rfl) rfl rfl ?_
  refine AW.getO (am_r 1 rfl) rfl klX9 (k := 0) (by omega) q392 xh_0 rfl ?_
  refine AW.aload_n (z := 0) (am_r 2 rfl) rfl rfl ?_
  refine AW.iload_n (z := 1) (am_r 3 rfl) rfl rfl ?_
  refine oexc_e hs (fun r1 hg3 hs => ?_)
  refine AW.callV (N := MX9_itemOf) (As := [.int (p1)]) (S := [(.ref ((B + 1)))]) (L0 := [some (.ref (B)), some (.int (p1))]) (b := B) (am_r 4 rfl) rfl ovX9_itemOf q948 rfl rfl xh_0 rfl rfl rfl rfl (dX9_itemOf hB hst  hg3 ⟨fun w5 hv4 => ?_, fun e hv4 z h1 h2 => ?_⟩)
  · subst hv4
    refine fun hok2 => (cQ_r ?_)
    refine AW.getO (am_r 5 rfl) rfl klX2 (k := 2) (by omega) q125 (xl_get (fun _ => (sb_it hok2))) rfl ?_
    refine AW.iconst (am_r 6 rfl) rfl ci_0 ?_
    refine obind_e hs (fun r6 hg8 hs => ?_)
    refine AW.callV (N := MX7_fittingPress) (As := [.int (gi S.2.2.2.2.2.1 3 2 w5), .int ((0 : Int32))]) (S := []) (L0 := [some (.ref ((B + 1))), some (.int (gi S.2.2.2.2.2.1 3 2 w5)), some (.int ((0 : Int32))), none, none, none, none]) (b := (B + 1)) (am_r 7 rfl) rfl ovX7_fittingPress q1190 rfl rfl (xl_get (fun _ => sb_st)) rfl rfl rfl rfl (AW.heq xh_l (dX7_fittingPress (Nat.le_trans hB (by omega))  hg8 (cQ_r (AW.heq xh_l.symm ?_))))
    have hr := (Option.some.inj hs).symm
    exact AW.iret (am_r 8 rfl) rfl (hQ.1 _ hr)
  · subst hv4
    have hr := (Option.some.inj hs).symm
    exact cQ_x (AX.out rfl (hQ.2 _ hr z h1 h2))
noncomputable def sX9_scoreAfter (S : XT) (B : Nat) (p1 : Int32) (p2 : Int32) : Option (Except Nat Int32) :=
  oexc (sX9_itemOf S B p1) (fun e => e) fun w5 =>
  oexc (sX9_requireRecipe S B p2) (fun e => e) fun w10 =>
  some (.ok (sX5_scoreBehind S.2.2.2.2.2.1 (sX7_recipeAt S.2.2.2.2.2.1 p2) (gi S.2.2.2.2.2.1 3 3 w5)))
set_option maxRecDepth 100000 in
theorem dX9_scoreAfter {g : AG} {h0 : AH} {S : XT} {Q : AO → AH → Prop} {B : Nat} {p1 : Int32} {p2 : Int32} (hB : gB g ≤ B) (hst : Sta g h0)  {r : (Except Nat Int32)} (hs : sX9_scoreAfter S B p1 p2 = some r) (hQ : (∀ v : Int32, r = .ok v → Q (.ok (some (.int v))) (xh (bw h0 B S.1 S.2.2.1 S.2.2.2.2.2.2) B S.2.1 S.2.2.1 S.2.2.2.1 S.2.2.2.2.1 S.2.2.2.2.2.1)) ∧ (∀ e : Nat, r = .error e → ∀ z, S.1.1 ≤ z → z ≤ S.1.1 + 1 → Q (.error e) (xh (bw h0 B (z, S.1.2.1 - 1, S.1.2.2 - 6) S.2.2.1 S.2.2.2.2.2.2) B S.2.1 S.2.2.1 S.2.2.2.1 S.2.2.2.2.1 S.2.2.2.2.2.1))) : AW g MX9_scoreAfter 0 [some (.ref (B)), some (.int (p1)), some (.int (p2)), none] [] (xh (bw h0 B S.1 S.2.2.1 S.2.2.2.2.2.2) B S.2.1 S.2.2.1 S.2.2.2.1 S.2.2.2.2.1 S.2.2.2.2.2.1) Q := by
  unfold sX9_scoreAfter at hs
  refine AW.aload_n (z := 0) (am_r 0 rfl) rfl rfl ?_
  refine AW.iload_n (z := 1) (am_r 1 rfl) rfl rfl ?_
  refine oexc_e hs (fun r1 hg3 hs => ?_)
  refine AW.callV (N := MX9_itemOf) (As := [.int (p1)]) (S := []) (L0 := [some (.ref (B)), some (.int (p1))]) (b := B) (am_r 2 rfl) rfl ovX9_itemOf q948 rfl rfl xh_0 rfl rfl rfl rfl (dX9_itemOf hB hst  hg3 ⟨fun w5 hv4 => ?_, fun e hv4 z h1 h2 => ?_⟩)
  · subst hv4
    refine fun hok2 => (cQ_r ?_)
    refine AW.astore_n (L' := [some (.ref (B)), some (.int (p1)), some (.int (p2)), some (.ref ((B + 1) + 20 + 2 * w5))]) (z := 3) (am_r 3 rfl) rfl (Nat.le_of_ble_eq_true rfl) rfl ?_
    refine AW.aload_n (z := 0) (am_r 4 rfl) rfl rfl ?_
    refine AW.iload_n (z := 2) (am_r 5 rfl) rfl rfl ?_
    refine oexc_e hs (fun r6 hg8 hs => ?_)
    refine AW.callV (N := MX9_requireRecipe) (As := [.int (p2)]) (S := []) (L0 := [some (.ref (B)), some (.int (p2))]) (b := B) (am_r 6 rfl) rfl ovX9_requireRecipe q975 rfl rfl xh_0 rfl rfl rfl rfl (dX9_requireRecipe hB hst  hg8 ⟨fun w10 hv9 => ?_, fun e hv9 z h1 h2 => ?_⟩)
    · subst hv9
      refine (cQ_v ?_)
      refine AW.aload_n (z := 0) (am_r 7 rfl) rfl rfl ?_
      refine AW.getO (am_r 8 rfl) rfl klX9 (k := 0) (by omega) q392 xh_0 rfl ?_
      refine AW.iload_n (z := 2) (am_r 9 rfl) rfl rfl ?_
      refine AW.callV (N := MX7_recipeAt) (As := [.int (p2)]) (S := []) (L0 := [some (.ref ((B + 1))), some (.int (p2))]) (b := (B + 1)) (am_r 10 rfl) rfl ovX7_recipeAt q1004 rfl rfl (xl_get (fun _ => sb_st)) rfl rfl rfl rfl (AW.heq xh_l (dX7_recipeAt (Nat.le_trans hB (by omega))  rfl (fun hok12 => (cQ_r (AW.heq xh_l.symm ?_)))))
      refine AW.aload_n (z := 3) (am_r 11 rfl) rfl rfl ?_
      refine AW.getO (am_r 12 rfl) rfl klX2 (k := 3) (by omega) q128 (xl_get (fun _ => (sb_it hok2))) rfl ?_
      refine AW.callV (N := MX5_scoreBehind) (As := [.int (gi S.2.2.2.2.2.1 3 3 w5)]) (S := []) (L0 := [some (.ref ((B + 1) + 9 + (sX7_recipeAt S.2.2.2.2.2.1 p2))), some (.int (gi S.2.2.2.2.2.1 3 3 w5))]) (b := (B + 1) + 9 + (sX7_recipeAt S.2.2.2.2.2.1 p2)) (am_r 13 rfl) rfl ovX5_scoreBehind q1198 rfl rfl (xl_get (fun _ => (sb_re hok12))) rfl rfl rfl rfl (AW.heq xh_l (dX5_scoreBehind (Nat.le_trans hB (by omega)) hok12 rfl (cQ_r (AW.heq xh_l.symm ?_))))
      have hr := (Option.some.inj hs).symm
      exact AW.iret (am_r 14 rfl) rfl (hQ.1 _ hr)
    · subst hv9
      have hr := (Option.some.inj hs).symm
      exact cQ_x (AX.out rfl (hQ.2 _ hr z h1 h2))
  · subst hv4
    have hr := (Option.some.inj hs).symm
    exact cQ_x (AX.out rfl (hQ.2 _ hr z h1 h2))
noncomputable def sX9_scoreAhead_l14_step (S : XT) (B : Nat) (p1 : Int32) (a : (Nat × Int32 × Int32)) : Option ((Nat × Int32 × Int32) ⊕ (Except Nat Int32)) :=
  if (gi S.2.2.2.2.2.1 3 7 a.1) ≤ a.2.2 then
    oinr (
    some (.ok (a.2.1)))
  else
    obind (sX2_queuedAt S.2.2.2.2.2.1 a.1 a.2.2) fun r10 =>
    olet (sX5_scoreBehind S.2.2.2.2.2.1 (sX7_recipeAt S.2.2.2.2.2.1 r10) a.2.1) fun v17 =>
    olet (a.2.2 + (1 : Int32)) fun v18 =>
    some (.inl (a.1, v17, v18))
noncomputable def sX9_scoreAhead_l14 (S : XT) (B : Nat) (p1 : Int32) (a : (Nat × Int32 × Int32)) : Option (Except Nat Int32) := itw (sX9_scoreAhead_l14_step S B p1) a
set_option maxRecDepth 100000 in
theorem dX9_scoreAhead_l14 {g : AG} {h0 : AH} {S : XT} {Q : AO → AH → Prop} {B : Nat} {p1 : Int32} (hB : gB g ≤ B) (hst : Sta g h0)  {a : (Nat × Int32 × Int32)} (hk0 : iok a.1) {r : (Except Nat Int32)} (hs : sX9_scoreAhead_l14 S B p1 a = some r) (hQ : (∀ v : Int32, r = .ok v → Q (.ok (some (.int v))) (xh (bw h0 B S.1 S.2.2.1 S.2.2.2.2.2.2) B S.2.1 S.2.2.1 S.2.2.2.1 S.2.2.2.2.1 S.2.2.2.2.2.1)) ∧ (∀ e : Nat, r = .error e → ∀ z, S.1.1 ≤ z → z ≤ S.1.1 + 1 → Q (.error e) (xh (bw h0 B (z, S.1.2.1 - 1, S.1.2.2 - 6) S.2.2.1 S.2.2.2.2.2.2) B S.2.1 S.2.2.1 S.2.2.2.1 S.2.2.2.2.1 S.2.2.2.2.2.1))) : AW g MX9_scoreAhead 14 [some (.ref (B)), none, some (.ref ((B + 1) + 20 + 2 * a.1)), some (.int (a.2.1)), some (.int (a.2.2))] [] (xh (bw h0 B S.1 S.2.2.1 S.2.2.2.2.2.2) B S.2.1 S.2.2.1 S.2.2.2.1 S.2.2.2.2.1 S.2.2.2.2.2.1) Q := by
  refine itw_e (a := a) (b := r) (P := fun (a : (Nat × Int32 × Int32)) => iok a.1 → AW g MX9_scoreAhead 14 [some (.ref (B)), none, some (.ref ((B + 1) + 20 + 2 * a.1)), some (.int (a.2.1)), some (.int (a.2.2))] [] (xh (bw h0 B S.1 S.2.2.1 S.2.2.2.2.2.2) B S.2.1 S.2.2.1 S.2.2.2.1 S.2.2.2.2.1 S.2.2.2.2.2.1) Q) (Post := fun r => (∀ v : Int32, r = .ok v → Q (.ok (some (.int v))) (xh (bw h0 B S.1 S.2.2.1 S.2.2.2.2.2.2) B S.2.1 S.2.2.1 S.2.2.2.1 S.2.2.2.2.1 S.2.2.2.2.2.1)) ∧ (∀ e : Nat, r = .error e → ∀ z, S.1.1 ≤ z → z ≤ S.1.1 + 1 → Q (.error e) (xh (bw h0 B (z, S.1.2.1 - 1, S.1.2.2 - 6) S.2.2.1 S.2.2.2.2.2.2) B S.2.1 S.2.2.1 S.2.2.2.1 S.2.2.2.2.1 S.2.2.2.2.2.1))) (fun a r hs hc he hk0 => ?_) hs hQ hk0
  unfold sX9_scoreAhead_l14_step at hs
  refine AW.iload (am_r 9 rfl) rfl rfl ?_
  refine AW.aload_n (z := 2) (am_r 10 rfl) rfl rfl ?_
  refine AW.getO (am_r 11 rfl) rfl klX2 (k := 7) (by omega) q140 (xl_get (fun _ => (sb_it hk0))) rfl ?_
  refine AW.icmp_ge (tg := 47) (am_r 12 rfl) rfl rfl (fun hc7 => ?_) (fun hc7 => ?_)
  · replace hs := (if_pos hc7).symm.trans hs
    refine oinr_e hs (fun z8 hz9 hs => ?_)
    have hQ := he _ hz9
    refine AW.iload_n (z := 3) (am_r 24 rfl) rfl rfl ?_
    have hr := (Option.some.inj hs).symm
    exact AW.iret (am_r 25 rfl) rfl (hQ.1 _ hr)
  · replace hs := (if_neg hc7).symm.trans hs
    refine AW.aload_n (z := 0) (am_r 13 rfl) rfl rfl ?_
    refine AW.getO (am_r 14 rfl) rfl klX9 (k := 0) (by omega) q392 xh_0 rfl ?_
    refine AW.aload_n (z := 2) (am_r 15 rfl) rfl rfl ?_
    refine AW.iload (am_r 16 rfl) rfl rfl ?_
    refine obind_e hs (fun r10 hg12 hs => ?_)
    refine AW.callV (N := MX2_queuedAt) (As := [.int (a.2.2)]) (S := [(.ref ((B + 1)))]) (L0 := [some (.ref ((B + 1) + 20 + 2 * a.1)), some (.int (a.2.2))]) (b := (B + 1) + 20 + 2 * a.1) (am_r 17 rfl) rfl ovX2_queuedAt q1094 rfl rfl (xl_get (fun _ => (sb_it hk0))) rfl rfl rfl rfl (AW.heq xh_l (dX2_queuedAt (Nat.le_trans hB (by omega)) hk0 hg12 (cQ_r (AW.heq xh_l.symm ?_))))
    refine AW.callV (N := MX7_recipeAt) (As := [.int (r10)]) (S := []) (L0 := [some (.ref ((B + 1))), some (.int (r10))]) (b := (B + 1)) (am_r 18 rfl) rfl ovX7_recipeAt q1004 rfl rfl (xl_get (fun _ => sb_st)) rfl rfl rfl rfl (AW.heq xh_l (dX7_recipeAt (Nat.le_trans hB (by omega))  rfl (fun hok14 => (cQ_r (AW.heq xh_l.symm ?_)))))
    refine AW.iload_n (z := 3) (am_r 19 rfl) rfl rfl ?_
    refine AW.callV (N := MX5_scoreBehind) (As := [.int (a.2.1)]) (S := []) (L0 := [some (.ref ((B + 1) + 9 + (sX7_recipeAt S.2.2.2.2.2.1 r10))), some (.int (a.2.1))]) (b := (B + 1) + 9 + (sX7_recipeAt S.2.2.2.2.2.1 r10)) (am_r 20 rfl) rfl ovX5_scoreBehind q1198 rfl rfl (xl_get (fun _ => (sb_re hok14))) rfl rfl rfl rfl (AW.heq xh_l (dX5_scoreBehind (Nat.le_trans hB (by omega)) hok14 rfl (cQ_r (AW.heq xh_l.symm ?_))))
    refine olet_e (P := fun y => AW g MX9_scoreAhead 40 [some (.ref (B)), none, some (.ref ((B + 1) + 20 + 2 * a.1)), some (.int (a.2.1)), some (.int (a.2.2))] [(.int (y))] (xh (bw h0 B S.1 S.2.2.1 S.2.2.2.2.2.2) B S.2.1 S.2.2.1 S.2.2.2.1 S.2.2.2.2.1 S.2.2.2.2.2.1) Q) hs (fun v17 hs => ?_)
    refine AW.istore_n (L' := [some (.ref (B)), none, some (.ref ((B + 1) + 20 + 2 * a.1)), some (.int (v17)), some (.int (a.2.2))]) (z := 3) (am_r 21 rfl) rfl (Nat.le_of_ble_eq_true rfl) rfl ?_
    refine AW.iinc (v := a.2.2 + (1 : Int32)) (L' := [some (.ref (B)), none, some (.ref ((B + 1) + 20 + 2 * a.1)), some (.int (v17)), some (.int (a.2.2 + (1 : Int32)))]) (am_r 22 rfl) rfl (Nat.le_of_ble_eq_true rfl) rfl (congrArg (fun z => a.2.2 + z) ci_1) rfl ?_
    refine olet_e (P := fun (y : Int32) => AW g MX9_scoreAhead 44 [some (.ref (B)), none, some (.ref ((B + 1) + 20 + 2 * a.1)), some (.int (v17)), some (.int (y))] [] (xh (bw h0 B S.1 S.2.2.1 S.2.2.2.2.2.2) B S.2.1 S.2.2.1 S.2.2.2.1 S.2.2.2.2.1 S.2.2.2.2.2.1) Q) hs (fun v18 hs => ?_)
    refine AW.goto (tg := 14) (am_r 23 rfl) rfl ?_
    have hr := (Option.some.inj hs).symm
    exact hc (a.1, v17, v18) hr hk0
noncomputable def sX9_scoreAhead (S : XT) (B : Nat) (p1 : Int32) : Option (Except Nat Int32) :=
  oexc (sX9_itemOf S B p1) (fun e => e) fun w5 =>
  olet (gi S.2.2.2.2.2.1 3 3 w5) fun v6 =>
  sX9_scoreAhead_l14 S B p1 (w5, v6, (0 : Int32))
set_option maxRecDepth 100000 in
theorem dX9_scoreAhead {g : AG} {h0 : AH} {S : XT} {Q : AO → AH → Prop} {B : Nat} {p1 : Int32} (hB : gB g ≤ B) (hst : Sta g h0)  {r : (Except Nat Int32)} (hs : sX9_scoreAhead S B p1 = some r) (hQ : (∀ v : Int32, r = .ok v → Q (.ok (some (.int v))) (xh (bw h0 B S.1 S.2.2.1 S.2.2.2.2.2.2) B S.2.1 S.2.2.1 S.2.2.2.1 S.2.2.2.2.1 S.2.2.2.2.2.1)) ∧ (∀ e : Nat, r = .error e → ∀ z, S.1.1 ≤ z → z ≤ S.1.1 + 1 → Q (.error e) (xh (bw h0 B (z, S.1.2.1 - 1, S.1.2.2 - 6) S.2.2.1 S.2.2.2.2.2.2) B S.2.1 S.2.2.1 S.2.2.2.1 S.2.2.2.2.1 S.2.2.2.2.2.1))) : AW g MX9_scoreAhead 0 [some (.ref (B)), some (.int (p1)), none, none, none] [] (xh (bw h0 B S.1 S.2.2.1 S.2.2.2.2.2.2) B S.2.1 S.2.2.1 S.2.2.2.1 S.2.2.2.2.1 S.2.2.2.2.2.1) Q := by
  unfold sX9_scoreAhead at hs
  refine AW.aload_n (z := 0) (am_r 0 rfl) rfl rfl ?_
  refine AW.iload_n (z := 1) (am_r 1 rfl) rfl rfl ?_
  refine oexc_e hs (fun r1 hg3 hs => ?_)
  refine AW.callV (N := MX9_itemOf) (As := [.int (p1)]) (S := []) (L0 := [some (.ref (B)), some (.int (p1))]) (b := B) (am_r 2 rfl) rfl ovX9_itemOf q948 rfl rfl xh_0 rfl rfl rfl rfl (dX9_itemOf hB hst  hg3 ⟨fun w5 hv4 => ?_, fun e hv4 z h1 h2 => ?_⟩)
  · subst hv4
    refine fun hok2 => (cQ_r ?_)
    refine AW.astore_n (L' := [some (.ref (B)), some (.int (p1)), some (.ref ((B + 1) + 20 + 2 * w5)), none, none]) (z := 2) (am_r 3 rfl) rfl (Nat.le_of_ble_eq_true rfl) rfl ?_
    refine AW.aload_n (z := 2) (am_r 4 rfl) rfl rfl ?_
    refine AW.getO (am_r 5 rfl) rfl klX2 (k := 3) (by omega) q128 (xl_get (fun _ => (sb_it hok2))) rfl ?_
    refine olet_e (P := fun y => AW g MX9_scoreAhead 10 [some (.ref (B)), some (.int (p1)), some (.ref ((B + 1) + 20 + 2 * w5)), none, none] [(.int (y))] (xh (bw h0 B S.1 S.2.2.1 S.2.2.2.2.2.2) B S.2.1 S.2.2.1 S.2.2.2.1 S.2.2.2.2.1 S.2.2.2.2.2.1) Q) hs (fun v6 hs => ?_)
    refine AW.istore_n (L' := [some (.ref (B)), some (.int (p1)), some (.ref ((B + 1) + 20 + 2 * w5)), some (.int (v6)), none]) (z := 3) (am_r 6 rfl) rfl (Nat.le_of_ble_eq_true rfl) rfl ?_
    refine AW.iconst (am_r 7 rfl) rfl ci_0 ?_
    refine AW.istore (L' := [some (.ref (B)), some (.int (p1)), some (.ref ((B + 1) + 20 + 2 * w5)), some (.int (v6)), some (.int ((0 : Int32)))]) (am_r 8 rfl) rfl (Nat.le_of_ble_eq_true rfl) rfl ?_
    refine AW.lessL (L' := [some (.ref (B)), none, some (.ref ((B + 1) + 20 + 2 * w5)), some (.int (v6)), some (.int ((0 : Int32)))]) ⟨rfl, rfl, rfl, rfl, trivial⟩ ?_
    exact dX9_scoreAhead_l14 (a := (w5, v6, (0 : Int32))) hB hst  hok2 hs hQ
  · subst hv4
    have hr := (Option.some.inj hs).symm
    exact cQ_x (AX.out rfl (hQ.2 _ hr z h1 h2))
noncomputable def sX9_bestRecipe_l20_step (S : XT) (B : Nat) (p1 : Int32) (a : (Int32 × Int32 × Int32 × Int32 × Int32)) : Option ((Int32 × Int32 × Int32 × Int32 × Int32) ⊕ (Except Nat Int32)) :=
  if (gi S.2.2.2.2.2.1 0 8 0) ≤ a.2.2.2.2 then
    oinr (
    some (.ok (a.2.1)))
  else
    olet ((sX5_scoreBehind S.2.2.2.2.2.1 (sX7_recipeAt S.2.2.2.2.2.1 a.2.2.2.2) a.1) - a.1) fun v14 =>
    if (v14 * a.2.2.2.1) ≤ (a.2.2.1 * (sX5_hours S.2.2.2.2.2.1 (sX7_recipeAt S.2.2.2.2.2.1 a.2.2.2.2))) then
      olet (a.2.2.2.2 + (1 : Int32)) fun v18 =>
      some (.inl (a.1, a.2.1, a.2.2.1, a.2.2.2.1, v18))
    else
      olet (sX5_hours S.2.2.2.2.2.1 (sX7_recipeAt S.2.2.2.2.2.1 a.2.2.2.2)) fun v21 =>
      olet (a.2.2.2.2 + (1 : Int32)) fun v22 =>
      some (.inl (a.1, a.2.2.2.2, v14, v21, v22))
noncomputable def sX9_bestRecipe_l20 (S : XT) (B : Nat) (p1 : Int32) (a : (Int32 × Int32 × Int32 × Int32 × Int32)) : Option (Except Nat Int32) := itw (sX9_bestRecipe_l20_step S B p1) a
set_option maxRecDepth 100000 in
theorem dX9_bestRecipe_l20 {g : AG} {h0 : AH} {S : XT} {Q : AO → AH → Prop} {B : Nat} {p1 : Int32} (hB : gB g ≤ B) (hst : Sta g h0)  {a : (Int32 × Int32 × Int32 × Int32 × Int32)}  {r : (Except Nat Int32)} (hs : sX9_bestRecipe_l20 S B p1 a = some r) (hQ : (∀ v : Int32, r = .ok v → Q (.ok (some (.int v))) (xh (bw h0 B S.1 S.2.2.1 S.2.2.2.2.2.2) B S.2.1 S.2.2.1 S.2.2.2.1 S.2.2.2.2.1 S.2.2.2.2.2.1)) ∧ (∀ e : Nat, r = .error e → ∀ z, S.1.1 ≤ z → z ≤ S.1.1 + 1 → Q (.error e) (xh (bw h0 B (z, S.1.2.1 - 1, S.1.2.2 - 6) S.2.2.1 S.2.2.2.2.2.2) B S.2.1 S.2.2.1 S.2.2.2.1 S.2.2.2.2.1 S.2.2.2.2.2.1))) : AW g MX9_bestRecipe 20 [some (.ref (B)), none, some (.int (a.1)), some (.int (a.2.1)), some (.int (a.2.2.1)), some (.int (a.2.2.2.1)), some (.int (a.2.2.2.2)), none, none] [] (xh (bw h0 B S.1 S.2.2.1 S.2.2.2.2.2.2) B S.2.1 S.2.2.1 S.2.2.2.1 S.2.2.2.2.1 S.2.2.2.2.2.1) Q := by
  refine itw_e (a := a) (b := r) (P := fun (a : (Int32 × Int32 × Int32 × Int32 × Int32)) => AW g MX9_bestRecipe 20 [some (.ref (B)), none, some (.int (a.1)), some (.int (a.2.1)), some (.int (a.2.2.1)), some (.int (a.2.2.2.1)), some (.int (a.2.2.2.2)), none, none] [] (xh (bw h0 B S.1 S.2.2.1 S.2.2.2.2.2.2) B S.2.1 S.2.2.1 S.2.2.2.1 S.2.2.2.2.1 S.2.2.2.2.2.1) Q) (Post := fun r => (∀ v : Int32, r = .ok v → Q (.ok (some (.int v))) (xh (bw h0 B S.1 S.2.2.1 S.2.2.2.2.2.2) B S.2.1 S.2.2.1 S.2.2.2.1 S.2.2.2.2.1 S.2.2.2.2.2.1)) ∧ (∀ e : Nat, r = .error e → ∀ z, S.1.1 ≤ z → z ≤ S.1.1 + 1 → Q (.error e) (xh (bw h0 B (z, S.1.2.1 - 1, S.1.2.2 - 6) S.2.2.1 S.2.2.2.2.2.2) B S.2.1 S.2.2.1 S.2.2.2.1 S.2.2.2.2.1 S.2.2.2.2.2.1))) (fun a r hs hc he  => ?_) hs hQ 
  unfold sX9_bestRecipe_l20_step at hs
  refine AW.iload (am_r 13 rfl) rfl rfl ?_
  refine AW.aload_n (z := 0) (am_r 14 rfl) rfl rfl ?_
  refine AW.getO (am_r 15 rfl) rfl klX9 (k := 0) (by omega) q392 xh_0 rfl ?_
  refine AW.getO (am_r 16 rfl) rfl klX7 (k := 8) (by omega) q242 (xl_get (fun _ => sb_st)) rfl ?_
  refine AW.icmp_ge (tg := 89) (am_r 17 rfl) rfl rfl (fun hc7 => ?_) (fun hc7 => ?_)
  · replace hs := (if_pos hc7).symm.trans hs
    refine oinr_e hs (fun z8 hz9 hs => ?_)
    have hQ := he _ hz9
    refine AW.iload_n (z := 3) (am_r 46 rfl) rfl rfl ?_
    have hr := (Option.some.inj hs).symm
    exact AW.iret (am_r 47 rfl) rfl (hQ.1 _ hr)
  · replace hs := (if_neg hc7).symm.trans hs
    refine AW.aload_n (z := 0) (am_r 18 rfl) rfl rfl ?_
    refine AW.getO (am_r 19 rfl) rfl klX9 (k := 0) (by omega) q392 xh_0 rfl ?_
    refine AW.iload (am_r 20 rfl) rfl rfl ?_
    refine AW.callV (N := MX7_recipeAt) (As := [.int (a.2.2.2.2)]) (S := []) (L0 := [some (.ref ((B + 1))), some (.int (a.2.2.2.2))]) (b := (B + 1)) (am_r 21 rfl) rfl ovX7_recipeAt q1004 rfl rfl (xl_get (fun _ => sb_st)) rfl rfl rfl rfl (AW.heq xh_l (dX7_recipeAt (Nat.le_trans hB (by omega))  rfl (fun hok11 => (cQ_r (AW.heq xh_l.symm ?_)))))
    refine AW.astore (L' := [some (.ref (B)), none, some (.int (a.1)), some (.int (a.2.1)), some (.int (a.2.2.1)), some (.int (a.2.2.2.1)), some (.int (a.2.2.2.2)), some (.ref ((B + 1) + 9 + (sX7_recipeAt S.2.2.2.2.2.1 a.2.2.2.2))), none]) (am_r 22 rfl) rfl (Nat.le_of_ble_eq_true rfl) rfl ?_
    refine AW.aload (am_r 23 rfl) rfl rfl ?_
    refine AW.iload_n (z := 2) (am_r 24 rfl) rfl rfl ?_
    refine AW.callV (N := MX5_scoreBehind) (As := [.int (a.1)]) (S := []) (L0 := [some (.ref ((B + 1) + 9 + (sX7_recipeAt S.2.2.2.2.2.1 a.2.2.2.2))), some (.int (a.1))]) (b := (B + 1) + 9 + (sX7_recipeAt S.2.2.2.2.2.1 a.2.2.2.2)) (am_r 25 rfl) rfl ovX5_scoreBehind q1198 rfl rfl (xl_get (fun _ => (sb_re hok11))) rfl rfl rfl rfl (AW.heq xh_l (dX5_scoreBehind (Nat.le_trans hB (by omega)) hok11 rfl (cQ_r (AW.heq xh_l.symm ?_))))
    refine AW.iload_n (z := 2) (am_r 26 rfl) rfl rfl ?_
    refine AW.isub (am_r 27 rfl) rfl ?_
    refine olet_e (P := fun y => AW g MX9_bestRecipe 51 [some (.ref (B)), none, some (.int (a.1)), some (.int (a.2.1)), some (.int (a.2.2.1)), some (.int (a.2.2.2.1)), some (.int (a.2.2.2.2)), some (.ref ((B + 1) + 9 + (sX7_recipeAt S.2.2.2.2.2.1 a.2.2.2.2))), none] [(.int (y))] (xh (bw h0 B S.1 S.2.2.1 S.2.2.2.2.2.2) B S.2.1 S.2.2.1 S.2.2.2.1 S.2.2.2.2.1 S.2.2.2.2.2.1) Q) hs (fun v14 hs => ?_)
    refine AW.istore (L' := [some (.ref (B)), none, some (.int (a.1)), some (.int (a.2.1)), some (.int (a.2.2.1)), some (.int (a.2.2.2.1)), some (.int (a.2.2.2.2)), some (.ref ((B + 1) + 9 + (sX7_recipeAt S.2.2.2.2.2.1 a.2.2.2.2))), some (.int (v14))]) (am_r 28 rfl) rfl (Nat.le_of_ble_eq_true rfl) rfl ?_
    refine AW.iload (am_r 29 rfl) rfl rfl ?_
    refine AW.iload (am_r 30 rfl) rfl rfl ?_
    refine AW.imul (am_r 31 rfl) rfl ?_
    refine AW.iload (am_r 32 rfl) rfl rfl ?_
    refine AW.aload (am_r 33 rfl) rfl rfl ?_
    refine AW.callV (N := MX5_hours) (As := []) (S := [(.int (a.2.2.1)), (.int (v14 * a.2.2.2.1))]) (L0 := [some (.ref ((B + 1) + 9 + (sX7_recipeAt S.2.2.2.2.2.1 a.2.2.2.2)))]) (b := (B + 1) + 9 + (sX7_recipeAt S.2.2.2.2.2.1 a.2.2.2.2)) (am_r 34 rfl) rfl ovX5_hours q1213 rfl rfl (xl_get (fun _ => (sb_re hok11))) rfl rfl rfl rfl (AW.heq xh_l (dX5_hours (Nat.le_trans hB (by omega)) hok11 rfl (cQ_r (AW.heq xh_l.symm ?_))))
    refine AW.imul (am_r 35 rfl) rfl ?_
    refine AW.icmp_le (tg := 83) (am_r 36 rfl) rfl rfl (fun hc17 => ?_) (fun hc17 => ?_)
    · replace hs := (if_pos hc17).symm.trans hs
      refine AW.iinc (v := a.2.2.2.2 + (1 : Int32)) (L' := [some (.ref (B)), none, some (.int (a.1)), some (.int (a.2.1)), some (.int (a.2.2.1)), some (.int (a.2.2.2.1)), some (.int (a.2.2.2.2 + (1 : Int32))), some (.ref ((B + 1) + 9 + (sX7_recipeAt S.2.2.2.2.2.1 a.2.2.2.2))), some (.int (v14))]) (am_r 44 rfl) rfl (Nat.le_of_ble_eq_true rfl) rfl (congrArg (fun z => a.2.2.2.2 + z) ci_1) rfl ?_
      refine olet_e (P := fun (y : Int32) => AW g MX9_bestRecipe 86 [some (.ref (B)), none, some (.int (a.1)), some (.int (a.2.1)), some (.int (a.2.2.1)), some (.int (a.2.2.2.1)), some (.int (y)), some (.ref ((B + 1) + 9 + (sX7_recipeAt S.2.2.2.2.2.1 a.2.2.2.2))), some (.int (v14))] [] (xh (bw h0 B S.1 S.2.2.1 S.2.2.2.2.2.2) B S.2.1 S.2.2.1 S.2.2.2.1 S.2.2.2.2.1 S.2.2.2.2.2.1) Q) hs (fun v18 hs => ?_)
      refine AW.goto (tg := 20) (am_r 45 rfl) rfl ?_
      refine AW.lessL (L' := [some (.ref (B)), none, some (.int (a.1)), some (.int (a.2.1)), some (.int (a.2.2.1)), some (.int (a.2.2.2.1)), some (.int (v18)), none, none]) ⟨rfl, rfl, rfl, rfl, rfl, rfl, trivial⟩ ?_
      have hr := (Option.some.inj hs).symm
      exact hc (a.1, a.2.1, a.2.2.1, a.2.2.2.1, v18) hr 
    · replace hs := (if_neg hc17).symm.trans hs
      refine AW.iload (am_r 37 rfl) rfl rfl ?_
      refine AW.istore_n (L' := [some (.ref (B)), none, some (.int (a.1)), some (.int (a.2.2.2.2)), some (.int (a.2.2.1)), some (.int (a.2.2.2.1)), some (.int (a.2.2.2.2)), some (.ref ((B + 1) + 9 + (sX7_recipeAt S.2.2.2.2.2.1 a.2.2.2.2))), some (.int (v14))]) (z := 3) (am_r 38 rfl) rfl (Nat.le_of_ble_eq_true rfl) rfl ?_
      refine AW.iload (am_r 39 rfl) rfl rfl ?_
      refine AW.istore (L' := [some (.ref (B)), none, some (.int (a.1)), some (.int (a.2.2.2.2)), some (.int (v14)), some (.int (a.2.2.2.1)), some (.int (a.2.2.2.2)), some (.ref ((B + 1) + 9 + (sX7_recipeAt S.2.2.2.2.2.1 a.2.2.2.2))), some (.int (v14))]) (am_r 40 rfl) rfl (Nat.le_of_ble_eq_true rfl) rfl ?_
      refine AW.aload (am_r 41 rfl) rfl rfl ?_
      refine AW.callV (N := MX5_hours) (As := []) (S := []) (L0 := [some (.ref ((B + 1) + 9 + (sX7_recipeAt S.2.2.2.2.2.1 a.2.2.2.2)))]) (b := (B + 1) + 9 + (sX7_recipeAt S.2.2.2.2.2.1 a.2.2.2.2)) (am_r 42 rfl) rfl ovX5_hours q1213 rfl rfl (xl_get (fun _ => (sb_re hok11))) rfl rfl rfl rfl (AW.heq xh_l (dX5_hours (Nat.le_trans hB (by omega)) hok11 rfl (cQ_r (AW.heq xh_l.symm ?_))))
      refine olet_e (P := fun y => AW g MX9_bestRecipe 81 [some (.ref (B)), none, some (.int (a.1)), some (.int (a.2.2.2.2)), some (.int (v14)), some (.int (a.2.2.2.1)), some (.int (a.2.2.2.2)), some (.ref ((B + 1) + 9 + (sX7_recipeAt S.2.2.2.2.2.1 a.2.2.2.2))), some (.int (v14))] [(.int (y))] (xh (bw h0 B S.1 S.2.2.1 S.2.2.2.2.2.2) B S.2.1 S.2.2.1 S.2.2.2.1 S.2.2.2.2.1 S.2.2.2.2.2.1) Q) hs (fun v21 hs => ?_)
      refine AW.istore (L' := [some (.ref (B)), none, some (.int (a.1)), some (.int (a.2.2.2.2)), some (.int (v14)), some (.int (v21)), some (.int (a.2.2.2.2)), some (.ref ((B + 1) + 9 + (sX7_recipeAt S.2.2.2.2.2.1 a.2.2.2.2))), some (.int (v14))]) (am_r 43 rfl) rfl (Nat.le_of_ble_eq_true rfl) rfl ?_
      refine AW.iinc (v := a.2.2.2.2 + (1 : Int32)) (L' := [some (.ref (B)), none, some (.int (a.1)), some (.int (a.2.2.2.2)), some (.int (v14)), some (.int (v21)), some (.int (a.2.2.2.2 + (1 : Int32))), some (.ref ((B + 1) + 9 + (sX7_recipeAt S.2.2.2.2.2.1 a.2.2.2.2))), some (.int (v14))]) (am_r 44 rfl) rfl (Nat.le_of_ble_eq_true rfl) rfl (congrArg (fun z => a.2.2.2.2 + z) ci_1) rfl ?_
      refine olet_e (P := fun (y : Int32) => AW g MX9_bestRecipe 86 [some (.ref (B)), none, some (.int (a.1)), some (.int (a.2.2.2.2)), some (.int (v14)), some (.int (v21)), some (.int (y)), some (.ref ((B + 1) + 9 + (sX7_recipeAt S.2.2.2.2.2.1 a.2.2.2.2))), some (.int (v14))] [] (xh (bw h0 B S.1 S.2.2.1 S.2.2.2.2.2.2) B S.2.1 S.2.2.1 S.2.2.2.1 S.2.2.2.2.1 S.2.2.2.2.2.1) Q) hs (fun v22 hs => ?_)
      refine AW.goto (tg := 20) (am_r 45 rfl) rfl ?_
      refine AW.lessL (L' := [some (.ref (B)), none, some (.int (a.1)), some (.int (a.2.2.2.2)), some (.int (v14)), some (.int (v21)), some (.int (v22)), none, none]) ⟨rfl, rfl, rfl, rfl, rfl, rfl, trivial⟩ ?_
      have hr := (Option.some.inj hs).symm
      exact hc (a.1, a.2.2.2.2, v14, v21, v22) hr 
noncomputable def sX9_bestRecipe (S : XT) (B : Nat) (p1 : Int32) : Option (Except Nat Int32) :=
  oexc (sX9_itemOf S B p1) (fun e => e) fun w5 =>
  olet (gi S.2.2.2.2.2.1 3 3 w5) fun v6 =>
  sX9_bestRecipe_l20 S B p1 (v6, (-1 : Int32), (0 : Int32), (1 : Int32), (0 : Int32))
set_option maxRecDepth 100000 in
theorem dX9_bestRecipe {g : AG} {h0 : AH} {S : XT} {Q : AO → AH → Prop} {B : Nat} {p1 : Int32} (hB : gB g ≤ B) (hst : Sta g h0)  {r : (Except Nat Int32)} (hs : sX9_bestRecipe S B p1 = some r) (hQ : (∀ v : Int32, r = .ok v → Q (.ok (some (.int v))) (xh (bw h0 B S.1 S.2.2.1 S.2.2.2.2.2.2) B S.2.1 S.2.2.1 S.2.2.2.1 S.2.2.2.2.1 S.2.2.2.2.2.1)) ∧ (∀ e : Nat, r = .error e → ∀ z, S.1.1 ≤ z → z ≤ S.1.1 + 1 → Q (.error e) (xh (bw h0 B (z, S.1.2.1 - 1, S.1.2.2 - 6) S.2.2.1 S.2.2.2.2.2.2) B S.2.1 S.2.2.1 S.2.2.2.1 S.2.2.2.2.1 S.2.2.2.2.2.1))) : AW g MX9_bestRecipe 0 [some (.ref (B)), some (.int (p1)), none, none, none, none, none, none, none] [] (xh (bw h0 B S.1 S.2.2.1 S.2.2.2.2.2.2) B S.2.1 S.2.2.1 S.2.2.2.1 S.2.2.2.2.1 S.2.2.2.2.2.1) Q := by
  unfold sX9_bestRecipe at hs
  refine AW.aload_n (z := 0) (am_r 0 rfl) rfl rfl ?_
  refine AW.iload_n (z := 1) (am_r 1 rfl) rfl rfl ?_
  refine oexc_e hs (fun r1 hg3 hs => ?_)
  refine AW.callV (N := MX9_itemOf) (As := [.int (p1)]) (S := []) (L0 := [some (.ref (B)), some (.int (p1))]) (b := B) (am_r 2 rfl) rfl ovX9_itemOf q948 rfl rfl xh_0 rfl rfl rfl rfl (dX9_itemOf hB hst  hg3 ⟨fun w5 hv4 => ?_, fun e hv4 z h1 h2 => ?_⟩)
  · subst hv4
    refine fun hok2 => (cQ_r ?_)
    refine AW.getO (am_r 3 rfl) rfl klX2 (k := 3) (by omega) q128 (xl_get (fun _ => (sb_it hok2))) rfl ?_
    refine olet_e (P := fun y => AW g MX9_bestRecipe 8 [some (.ref (B)), some (.int (p1)), none, none, none, none, none, none, none] [(.int (y))] (xh (bw h0 B S.1 S.2.2.1 S.2.2.2.2.2.2) B S.2.1 S.2.2.1 S.2.2.2.1 S.2.2.2.2.1 S.2.2.2.2.2.1) Q) hs (fun v6 hs => ?_)
    refine AW.istore_n (L' := [some (.ref (B)), some (.int (p1)), some (.int (v6)), none, none, none, none, none, none]) (z := 2) (am_r 4 rfl) rfl (Nat.le_of_ble_eq_true rfl) rfl ?_
    refine AW.iconst (am_r 5 rfl) rfl ci_m1 ?_
    refine AW.istore_n (L' := [some (.ref (B)), some (.int (p1)), some (.int (v6)), some (.int ((-1 : Int32))), none, none, none, none, none]) (z := 3) (am_r 6 rfl) rfl (Nat.le_of_ble_eq_true rfl) rfl ?_
    refine AW.iconst (am_r 7 rfl) rfl ci_0 ?_
    refine AW.istore (L' := [some (.ref (B)), some (.int (p1)), some (.int (v6)), some (.int ((-1 : Int32))), some (.int ((0 : Int32))), none, none, none, none]) (am_r 8 rfl) rfl (Nat.le_of_ble_eq_true rfl) rfl ?_
    refine AW.iconst (am_r 9 rfl) rfl ci_1 ?_
    refine AW.istore (L' := [some (.ref (B)), some (.int (p1)), some (.int (v6)), some (.int ((-1 : Int32))), some (.int ((0 : Int32))), some (.int ((1 : Int32))), none, none, none]) (am_r 10 rfl) rfl (Nat.le_of_ble_eq_true rfl) rfl ?_
    refine AW.iconst (am_r 11 rfl) rfl ci_0 ?_
    refine AW.istore (L' := [some (.ref (B)), some (.int (p1)), some (.int (v6)), some (.int ((-1 : Int32))), some (.int ((0 : Int32))), some (.int ((1 : Int32))), some (.int ((0 : Int32))), none, none]) (am_r 12 rfl) rfl (Nat.le_of_ble_eq_true rfl) rfl ?_
    refine AW.lessL (L' := [some (.ref (B)), none, some (.int (v6)), some (.int ((-1 : Int32))), some (.int ((0 : Int32))), some (.int ((1 : Int32))), some (.int ((0 : Int32))), none, none]) ⟨rfl, rfl, rfl, rfl, rfl, rfl, trivial⟩ ?_
    exact dX9_bestRecipe_l20 (a := (v6, (-1 : Int32), (0 : Int32), (1 : Int32), (0 : Int32))) hB hst   hs hQ
  · subst hv4
    have hr := (Option.some.inj hs).symm
    exact cQ_x (AX.out rfl (hQ.2 _ hr z h1 h2))
noncomputable def sX9_stepsTo (S : XT) (B : Nat) (p1 : Int32) (p2 : Int32) (p3 : Int32) : Option (Except Nat Int32) :=
  oexc (sX9_itemOf S B p1) (fun e => e) fun w5 =>
  oexc (sX9_requireRecipe S B p2) (fun e => e) fun w10 =>
  oexc (sX9_requireBetween S B p3 (0 : Int32) (1000 : Int32)) (fun e => e) fun w15 =>
  obind (sX5_stepsBetween S.2.2.2.2.2.1 (sX7_recipeAt S.2.2.2.2.2.1 p2) (gi S.2.2.2.2.2.1 3 3 w5) p3) fun r18 =>
  some (.ok (r18))
set_option maxRecDepth 100000 in
theorem dX9_stepsTo {g : AG} {h0 : AH} {S : XT} {Q : AO → AH → Prop} {B : Nat} {p1 : Int32} {p2 : Int32} {p3 : Int32} (hB : gB g ≤ B) (hst : Sta g h0)  {r : (Except Nat Int32)} (hs : sX9_stepsTo S B p1 p2 p3 = some r) (hQ : (∀ v : Int32, r = .ok v → Q (.ok (some (.int v))) (xh (bw h0 B S.1 S.2.2.1 S.2.2.2.2.2.2) B S.2.1 S.2.2.1 S.2.2.2.1 S.2.2.2.2.1 S.2.2.2.2.2.1)) ∧ (∀ e : Nat, r = .error e → ∀ z, S.1.1 ≤ z → z ≤ S.1.1 + 1 → Q (.error e) (xh (bw h0 B (z, S.1.2.1 - 1, S.1.2.2 - 6) S.2.2.1 S.2.2.2.2.2.2) B S.2.1 S.2.2.1 S.2.2.2.1 S.2.2.2.2.1 S.2.2.2.2.2.1))) : AW g MX9_stepsTo 0 [some (.ref (B)), some (.int (p1)), some (.int (p2)), some (.int (p3)), none] [] (xh (bw h0 B S.1 S.2.2.1 S.2.2.2.2.2.2) B S.2.1 S.2.2.1 S.2.2.2.1 S.2.2.2.2.1 S.2.2.2.2.2.1) Q := by
  unfold sX9_stepsTo at hs
  refine AW.aload_n (z := 0) (am_r 0 rfl) rfl rfl ?_
  refine AW.iload_n (z := 1) (am_r 1 rfl) rfl rfl ?_
  refine oexc_e hs (fun r1 hg3 hs => ?_)
  refine AW.callV (N := MX9_itemOf) (As := [.int (p1)]) (S := []) (L0 := [some (.ref (B)), some (.int (p1))]) (b := B) (am_r 2 rfl) rfl ovX9_itemOf q948 rfl rfl xh_0 rfl rfl rfl rfl (dX9_itemOf hB hst  hg3 ⟨fun w5 hv4 => ?_, fun e hv4 z h1 h2 => ?_⟩)
  · subst hv4
    refine fun hok2 => (cQ_r ?_)
    refine AW.astore (L' := [some (.ref (B)), some (.int (p1)), some (.int (p2)), some (.int (p3)), some (.ref ((B + 1) + 20 + 2 * w5))]) (am_r 3 rfl) rfl (Nat.le_of_ble_eq_true rfl) rfl ?_
    refine AW.aload_n (z := 0) (am_r 4 rfl) rfl rfl ?_
    refine AW.iload_n (z := 2) (am_r 5 rfl) rfl rfl ?_
    refine oexc_e hs (fun r6 hg8 hs => ?_)
    refine AW.callV (N := MX9_requireRecipe) (As := [.int (p2)]) (S := []) (L0 := [some (.ref (B)), some (.int (p2))]) (b := B) (am_r 6 rfl) rfl ovX9_requireRecipe q975 rfl rfl xh_0 rfl rfl rfl rfl (dX9_requireRecipe hB hst  hg8 ⟨fun w10 hv9 => ?_, fun e hv9 z h1 h2 => ?_⟩)
    · subst hv9
      refine (cQ_v ?_)
      refine AW.iload_n (z := 3) (am_r 7 rfl) rfl rfl ?_
      refine AW.iconst (am_r 8 rfl) rfl ci_0 ?_
      refine AW.sipush (am_r 9 rfl) rfl cs_1000 ?_
      refine oexc_e hs (fun r11 hg13 hs => ?_)
      refine AW.callS (N := MX9_requireBetween) (As := [.int (p3), .int ((0 : Int32)), .int ((1000 : Int32))]) (S := []) (L0 := [some (.int (p3)), some (.int ((0 : Int32))), some (.int ((1000 : Int32)))]) (am_r 10 rfl) rfl osX9_requireBetween q777 rfl rfl rfl rfl rfl (dX9_requireBetween hB hst  hg13 ⟨fun w15 hv14 => ?_, fun e hv14 z h1 h2 => ?_⟩)
      · subst hv14
        refine (cQ_v ?_)
        refine AW.aload_n (z := 0) (am_r 11 rfl) rfl rfl ?_
        refine AW.getO (am_r 12 rfl) rfl klX9 (k := 0) (by omega) q392 xh_0 rfl ?_
        refine AW.iload_n (z := 2) (am_r 13 rfl) rfl rfl ?_
        refine AW.callV (N := MX7_recipeAt) (As := [.int (p2)]) (S := []) (L0 := [some (.ref ((B + 1))), some (.int (p2))]) (b := (B + 1)) (am_r 14 rfl) rfl ovX7_recipeAt q1004 rfl rfl (xl_get (fun _ => sb_st)) rfl rfl rfl rfl (AW.heq xh_l (dX7_recipeAt (Nat.le_trans hB (by omega))  rfl (fun hok17 => (cQ_r (AW.heq xh_l.symm ?_)))))
        refine AW.aload (am_r 15 rfl) rfl rfl ?_
        refine AW.getO (am_r 16 rfl) rfl klX2 (k := 3) (by omega) q128 (xl_get (fun _ => (sb_it hok2))) rfl ?_
        refine AW.iload_n (z := 3) (am_r 17 rfl) rfl rfl ?_
        refine obind_e hs (fun r18 hg20 hs => ?_)
        refine AW.callV (N := MX5_stepsBetween) (As := [.int (gi S.2.2.2.2.2.1 3 3 w5), .int (p3)]) (S := []) (L0 := [some (.ref ((B + 1) + 9 + (sX7_recipeAt S.2.2.2.2.2.1 p2))), some (.int (gi S.2.2.2.2.2.1 3 3 w5)), some (.int (p3)), none, none, none]) (b := (B + 1) + 9 + (sX7_recipeAt S.2.2.2.2.2.1 p2)) (am_r 18 rfl) rfl ovX5_stepsBetween q1224 rfl rfl (xl_get (fun _ => (sb_re hok17))) rfl rfl rfl rfl (AW.heq xh_l (dX5_stepsBetween (Nat.le_trans hB (by omega)) hok17 hg20 (cQ_r (AW.heq xh_l.symm ?_))))
        have hr := (Option.some.inj hs).symm
        exact AW.iret (am_r 19 rfl) rfl (hQ.1 _ hr)
      · subst hv14
        have hr := (Option.some.inj hs).symm
        exact cQ_x (AX.out rfl (hQ.2 _ hr z h1 h2))
    · subst hv9
      have hr := (Option.some.inj hs).symm
      exact cQ_x (AX.out rfl (hQ.2 _ hr z h1 h2))
  · subst hv4
    have hr := (Option.some.inj hs).symm
    exact cQ_x (AX.out rfl (hQ.2 _ hr z h1 h2))
noncomputable def sX9_quickestTo (S : XT) (B : Nat) (p1 : Int32) (p2 : Int32) : Option (Except (Nat × XT) (Int32 × XT)) :=
  oexc (sX9_itemOf S B p1) (fun e => (e, S)) fun w5 =>
  oexc (sX9_requireBetween S B p2 (0 : Int32) (1000 : Int32)) (fun e => (e, S)) fun w10 =>
  obind (sX6_leastBetween S B (gi S.2.2.2.2.2.1 3 3 w5) p2 (0 : Int32)) fun r11 =>
  some (.ok ((r11.1.toInt32, r11.2)))
set_option maxRecDepth 100000 in
theorem dX9_quickestTo {g : AG} {h0 : AH} {S : XT} {Q : AO → AH → Prop} {B : Nat} {p1 : Int32} {p2 : Int32} (hB : gB g ≤ B) (hst : Sta g h0)  {r : (Except (Nat × XT) (Int32 × XT))} (hs : sX9_quickestTo S B p1 p2 = some r) (hQ : (∀ v : (Int32 × XT), r = .ok v → Q (.ok (some (.int v.1))) (xh (bw h0 B v.2.1 v.2.2.2.1 v.2.2.2.2.2.2.2) B v.2.2.1 v.2.2.2.1 v.2.2.2.2.1 v.2.2.2.2.2.1 v.2.2.2.2.2.2.1)) ∧ (∀ e : (Nat × XT), r = .error e → ∀ z, e.2.1.1 ≤ z → z ≤ e.2.1.1 + 1 → Q (.error e.1) (xh (bw h0 B (z, e.2.1.2.1 - 1, e.2.1.2.2 - 6) e.2.2.2.1 e.2.2.2.2.2.2.2) B e.2.2.1 e.2.2.2.1 e.2.2.2.2.1 e.2.2.2.2.2.1 e.2.2.2.2.2.2.1))) : AW g MX9_quickestTo 0 [some (.ref (B)), some (.int (p1)), some (.int (p2)), none] [] (xh (bw h0 B S.1 S.2.2.1 S.2.2.2.2.2.2) B S.2.1 S.2.2.1 S.2.2.2.1 S.2.2.2.2.1 S.2.2.2.2.2.1) Q := by
  unfold sX9_quickestTo at hs
  refine AW.aload_n (z := 0) (am_r 0 rfl) rfl rfl ?_
  refine AW.iload_n (z := 1) (am_r 1 rfl) rfl rfl ?_
  refine oexc_e hs (fun r1 hg3 hs => ?_)
  refine AW.callV (N := MX9_itemOf) (As := [.int (p1)]) (S := []) (L0 := [some (.ref (B)), some (.int (p1))]) (b := B) (am_r 2 rfl) rfl ovX9_itemOf q948 rfl rfl xh_0 rfl rfl rfl rfl (dX9_itemOf hB hst  hg3 ⟨fun w5 hv4 => ?_, fun e hv4 z h1 h2 => ?_⟩)
  · subst hv4
    refine fun hok2 => (cQ_r ?_)
    refine AW.astore_n (L' := [some (.ref (B)), some (.int (p1)), some (.int (p2)), some (.ref ((B + 1) + 20 + 2 * w5))]) (z := 3) (am_r 3 rfl) rfl (Nat.le_of_ble_eq_true rfl) rfl ?_
    refine AW.iload_n (z := 2) (am_r 4 rfl) rfl rfl ?_
    refine AW.iconst (am_r 5 rfl) rfl ci_0 ?_
    refine AW.sipush (am_r 6 rfl) rfl cs_1000 ?_
    refine oexc_e hs (fun r6 hg8 hs => ?_)
    refine AW.callS (N := MX9_requireBetween) (As := [.int (p2), .int ((0 : Int32)), .int ((1000 : Int32))]) (S := []) (L0 := [some (.int (p2)), some (.int ((0 : Int32))), some (.int ((1000 : Int32)))]) (am_r 7 rfl) rfl osX9_requireBetween q777 rfl rfl rfl rfl rfl (dX9_requireBetween hB hst  hg8 ⟨fun w10 hv9 => ?_, fun e hv9 z h1 h2 => ?_⟩)
    · subst hv9
      refine (cQ_v ?_)
      refine AW.aload_n (z := 0) (am_r 8 rfl) rfl rfl ?_
      refine AW.getO (am_r 9 rfl) rfl klX9 (k := 6) (by omega) q398 xh_0 rfl ?_
      refine AW.aload_n (z := 0) (am_r 10 rfl) rfl rfl ?_
      refine AW.getO (am_r 11 rfl) rfl klX9 (k := 0) (by omega) q392 xh_0 rfl ?_
      refine AW.aload_n (z := 3) (am_r 12 rfl) rfl rfl ?_
      refine AW.getO (am_r 13 rfl) rfl klX2 (k := 3) (by omega) q128 (xl_get (fun _ => (sb_it hok2))) rfl ?_
      refine AW.iload_n (z := 2) (am_r 14 rfl) rfl rfl ?_
      refine AW.iconst (am_r 15 rfl) rfl ci_0 ?_
      refine obind_e hs (fun r11 hg13 hs => ?_)
      refine AW.callV (N := MX6_leastBetween) (As := [.ref ((B + 1)), .int (gi S.2.2.2.2.2.1 3 3 w5), .int (p2), .int ((0 : Int32))]) (S := []) (L0 := [some (.ref (B + 126)), some (.ref ((B + 1))), some (.int (gi S.2.2.2.2.2.1 3 3 w5)), some (.int (p2)), some (.int ((0 : Int32))), none, none, none]) (b := B + 126) (am_r 16 rfl) rfl ovX6_leastBetween q1236 rfl rfl xh_126 rfl rfl rfl rfl (dX6_leastBetween hB hst  hg13 (cQ_r ?_))
      refine AW.l2i (am_r 17 rfl) rfl ?_
      have hr := (Option.some.inj hs).symm
      exact AW.iret (am_r 18 rfl) rfl (xt_q1 (f := fun v => .ok (some (.int v))) (r := (r11.1.toInt32, r11.2)) rfl (hQ.1 (r11.1.toInt32, r11.2) hr))
    · subst hv9
      have hr := (Option.some.inj hs).symm
      exact cQ_x (AX.out rfl (hQ.2 _ hr z h1 h2))
  · subst hv4
    have hr := (Option.some.inj hs).symm
    exact cQ_x (AX.out rfl (hQ.2 _ hr z h1 h2))
noncomputable def sX9_cheapestTo (S : XT) (B : Nat) (p1 : Int32) (p2 : Int32) : Option (Except (Nat × XT) (Int64 × XT)) :=
  oexc (sX9_itemOf S B p1) (fun e => (e, S)) fun w5 =>
  oexc (sX9_requireBetween S B p2 (0 : Int32) (1000 : Int32)) (fun e => (e, S)) fun w10 =>
  obind (sX6_leastBetween S B (gi S.2.2.2.2.2.1 3 3 w5) p2 (1 : Int32)) fun r11 =>
  some (.ok ((r11.1, r11.2)))
set_option maxRecDepth 100000 in
theorem dX9_cheapestTo {g : AG} {h0 : AH} {S : XT} {Q : AO → AH → Prop} {B : Nat} {p1 : Int32} {p2 : Int32} (hB : gB g ≤ B) (hst : Sta g h0)  {r : (Except (Nat × XT) (Int64 × XT))} (hs : sX9_cheapestTo S B p1 p2 = some r) (hQ : (∀ v : (Int64 × XT), r = .ok v → Q (.ok (some (.long v.1))) (xh (bw h0 B v.2.1 v.2.2.2.1 v.2.2.2.2.2.2.2) B v.2.2.1 v.2.2.2.1 v.2.2.2.2.1 v.2.2.2.2.2.1 v.2.2.2.2.2.2.1)) ∧ (∀ e : (Nat × XT), r = .error e → ∀ z, e.2.1.1 ≤ z → z ≤ e.2.1.1 + 1 → Q (.error e.1) (xh (bw h0 B (z, e.2.1.2.1 - 1, e.2.1.2.2 - 6) e.2.2.2.1 e.2.2.2.2.2.2.2) B e.2.2.1 e.2.2.2.1 e.2.2.2.2.1 e.2.2.2.2.2.1 e.2.2.2.2.2.2.1))) : AW g MX9_cheapestTo 0 [some (.ref (B)), some (.int (p1)), some (.int (p2)), none] [] (xh (bw h0 B S.1 S.2.2.1 S.2.2.2.2.2.2) B S.2.1 S.2.2.1 S.2.2.2.1 S.2.2.2.2.1 S.2.2.2.2.2.1) Q := by
  unfold sX9_cheapestTo at hs
  refine AW.aload_n (z := 0) (am_r 0 rfl) rfl rfl ?_
  refine AW.iload_n (z := 1) (am_r 1 rfl) rfl rfl ?_
  refine oexc_e hs (fun r1 hg3 hs => ?_)
  refine AW.callV (N := MX9_itemOf) (As := [.int (p1)]) (S := []) (L0 := [some (.ref (B)), some (.int (p1))]) (b := B) (am_r 2 rfl) rfl ovX9_itemOf q948 rfl rfl xh_0 rfl rfl rfl rfl (dX9_itemOf hB hst  hg3 ⟨fun w5 hv4 => ?_, fun e hv4 z h1 h2 => ?_⟩)
  · subst hv4
    refine fun hok2 => (cQ_r ?_)
    refine AW.astore_n (L' := [some (.ref (B)), some (.int (p1)), some (.int (p2)), some (.ref ((B + 1) + 20 + 2 * w5))]) (z := 3) (am_r 3 rfl) rfl (Nat.le_of_ble_eq_true rfl) rfl ?_
    refine AW.iload_n (z := 2) (am_r 4 rfl) rfl rfl ?_
    refine AW.iconst (am_r 5 rfl) rfl ci_0 ?_
    refine AW.sipush (am_r 6 rfl) rfl cs_1000 ?_
    refine oexc_e hs (fun r6 hg8 hs => ?_)
    refine AW.callS (N := MX9_requireBetween) (As := [.int (p2), .int ((0 : Int32)), .int ((1000 : Int32))]) (S := []) (L0 := [some (.int (p2)), some (.int ((0 : Int32))), some (.int ((1000 : Int32)))]) (am_r 7 rfl) rfl osX9_requireBetween q777 rfl rfl rfl rfl rfl (dX9_requireBetween hB hst  hg8 ⟨fun w10 hv9 => ?_, fun e hv9 z h1 h2 => ?_⟩)
    · subst hv9
      refine (cQ_v ?_)
      refine AW.aload_n (z := 0) (am_r 8 rfl) rfl rfl ?_
      refine AW.getO (am_r 9 rfl) rfl klX9 (k := 6) (by omega) q398 xh_0 rfl ?_
      refine AW.aload_n (z := 0) (am_r 10 rfl) rfl rfl ?_
      refine AW.getO (am_r 11 rfl) rfl klX9 (k := 0) (by omega) q392 xh_0 rfl ?_
      refine AW.aload_n (z := 3) (am_r 12 rfl) rfl rfl ?_
      refine AW.getO (am_r 13 rfl) rfl klX2 (k := 3) (by omega) q128 (xl_get (fun _ => (sb_it hok2))) rfl ?_
      refine AW.iload_n (z := 2) (am_r 14 rfl) rfl rfl ?_
      refine AW.iconst (am_r 15 rfl) rfl ci_1 ?_
      refine obind_e hs (fun r11 hg13 hs => ?_)
      refine AW.callV (N := MX6_leastBetween) (As := [.ref ((B + 1)), .int (gi S.2.2.2.2.2.1 3 3 w5), .int (p2), .int ((1 : Int32))]) (S := []) (L0 := [some (.ref (B + 126)), some (.ref ((B + 1))), some (.int (gi S.2.2.2.2.2.1 3 3 w5)), some (.int (p2)), some (.int ((1 : Int32))), none, none, none]) (b := B + 126) (am_r 16 rfl) rfl ovX6_leastBetween q1236 rfl rfl xh_126 rfl rfl rfl rfl (dX6_leastBetween hB hst  hg13 (cQ_r ?_))
      have hr := (Option.some.inj hs).symm
      exact AW.lret (am_r 17 rfl) rfl (xt_q1 (f := fun v => .ok (some (.long v))) (r := (r11.1, r11.2)) rfl (hQ.1 (r11.1, r11.2) hr))
    · subst hv9
      have hr := (Option.some.inj hs).symm
      exact cQ_x (AX.out rfl (hQ.2 _ hr z h1 h2))
  · subst hv4
    have hr := (Option.some.inj hs).symm
    exact cQ_x (AX.out rfl (hQ.2 _ hr z h1 h2))
noncomputable def sX9_hoursAhead_l11_step (S : XT) (B : Nat) (p1 : Int32) (a : (Nat × Int32 × Int32)) : Option ((Nat × Int32 × Int32) ⊕ (Except Nat Int32)) :=
  if (gi S.2.2.2.2.2.1 3 7 a.1) ≤ a.2.2 then
    oinr (
    some (.ok (a.2.1)))
  else
    obind (sX2_queuedAt S.2.2.2.2.2.1 a.1 a.2.2) fun r9 =>
    olet (a.2.1 + (sX5_hours S.2.2.2.2.2.1 (sX7_recipeAt S.2.2.2.2.2.1 r9))) fun v16 =>
    olet (a.2.2 + (1 : Int32)) fun v17 =>
    some (.inl (a.1, v16, v17))
noncomputable def sX9_hoursAhead_l11 (S : XT) (B : Nat) (p1 : Int32) (a : (Nat × Int32 × Int32)) : Option (Except Nat Int32) := itw (sX9_hoursAhead_l11_step S B p1) a
set_option maxRecDepth 100000 in
theorem dX9_hoursAhead_l11 {g : AG} {h0 : AH} {S : XT} {Q : AO → AH → Prop} {B : Nat} {p1 : Int32} (hB : gB g ≤ B) (hst : Sta g h0)  {a : (Nat × Int32 × Int32)} (hk0 : iok a.1) {r : (Except Nat Int32)} (hs : sX9_hoursAhead_l11 S B p1 a = some r) (hQ : (∀ v : Int32, r = .ok v → Q (.ok (some (.int v))) (xh (bw h0 B S.1 S.2.2.1 S.2.2.2.2.2.2) B S.2.1 S.2.2.1 S.2.2.2.1 S.2.2.2.2.1 S.2.2.2.2.2.1)) ∧ (∀ e : Nat, r = .error e → ∀ z, S.1.1 ≤ z → z ≤ S.1.1 + 1 → Q (.error e) (xh (bw h0 B (z, S.1.2.1 - 1, S.1.2.2 - 6) S.2.2.1 S.2.2.2.2.2.2) B S.2.1 S.2.2.1 S.2.2.2.1 S.2.2.2.2.1 S.2.2.2.2.2.1))) : AW g MX9_hoursAhead 11 [some (.ref (B)), none, some (.ref ((B + 1) + 20 + 2 * a.1)), some (.int (a.2.1)), some (.int (a.2.2))] [] (xh (bw h0 B S.1 S.2.2.1 S.2.2.2.2.2.2) B S.2.1 S.2.2.1 S.2.2.2.1 S.2.2.2.2.1 S.2.2.2.2.2.1) Q := by
  refine itw_e (a := a) (b := r) (P := fun (a : (Nat × Int32 × Int32)) => iok a.1 → AW g MX9_hoursAhead 11 [some (.ref (B)), none, some (.ref ((B + 1) + 20 + 2 * a.1)), some (.int (a.2.1)), some (.int (a.2.2))] [] (xh (bw h0 B S.1 S.2.2.1 S.2.2.2.2.2.2) B S.2.1 S.2.2.1 S.2.2.2.1 S.2.2.2.2.1 S.2.2.2.2.2.1) Q) (Post := fun r => (∀ v : Int32, r = .ok v → Q (.ok (some (.int v))) (xh (bw h0 B S.1 S.2.2.1 S.2.2.2.2.2.2) B S.2.1 S.2.2.1 S.2.2.2.1 S.2.2.2.2.1 S.2.2.2.2.2.1)) ∧ (∀ e : Nat, r = .error e → ∀ z, S.1.1 ≤ z → z ≤ S.1.1 + 1 → Q (.error e) (xh (bw h0 B (z, S.1.2.1 - 1, S.1.2.2 - 6) S.2.2.1 S.2.2.2.2.2.2) B S.2.1 S.2.2.1 S.2.2.2.1 S.2.2.2.2.1 S.2.2.2.2.2.1))) (fun a r hs hc he hk0 => ?_) hs hQ hk0
  unfold sX9_hoursAhead_l11_step at hs
  refine AW.iload (am_r 8 rfl) rfl rfl ?_
  refine AW.aload_n (z := 2) (am_r 9 rfl) rfl rfl ?_
  refine AW.getO (am_r 10 rfl) rfl klX2 (k := 7) (by omega) q140 (xl_get (fun _ => (sb_it hk0))) rfl ?_
  refine AW.icmp_ge (tg := 45) (am_r 11 rfl) rfl rfl (fun hc6 => ?_) (fun hc6 => ?_)
  · replace hs := (if_pos hc6).symm.trans hs
    refine oinr_e hs (fun z7 hz8 hs => ?_)
    have hQ := he _ hz8
    refine AW.iload_n (z := 3) (am_r 24 rfl) rfl rfl ?_
    have hr := (Option.some.inj hs).symm
    exact AW.iret (am_r 25 rfl) rfl (hQ.1 _ hr)
  · replace hs := (if_neg hc6).symm.trans hs
    refine AW.iload_n (z := 3) (am_r 12 rfl) rfl rfl ?_
    refine AW.aload_n (z := 0) (am_r 13 rfl) rfl rfl ?_
    refine AW.getO (am_r 14 rfl) rfl klX9 (k := 0) (by omega) q392 xh_0 rfl ?_
    refine AW.aload_n (z := 2) (am_r 15 rfl) rfl rfl ?_
    refine AW.iload (am_r 16 rfl) rfl rfl ?_
    refine obind_e hs (fun r9 hg11 hs => ?_)
    refine AW.callV (N := MX2_queuedAt) (As := [.int (a.2.2)]) (S := [(.ref ((B + 1))), (.int (a.2.1))]) (L0 := [some (.ref ((B + 1) + 20 + 2 * a.1)), some (.int (a.2.2))]) (b := (B + 1) + 20 + 2 * a.1) (am_r 17 rfl) rfl ovX2_queuedAt q1094 rfl rfl (xl_get (fun _ => (sb_it hk0))) rfl rfl rfl rfl (AW.heq xh_l (dX2_queuedAt (Nat.le_trans hB (by omega)) hk0 hg11 (cQ_r (AW.heq xh_l.symm ?_))))
    refine AW.callV (N := MX7_recipeAt) (As := [.int (r9)]) (S := [(.int (a.2.1))]) (L0 := [some (.ref ((B + 1))), some (.int (r9))]) (b := (B + 1)) (am_r 18 rfl) rfl ovX7_recipeAt q1004 rfl rfl (xl_get (fun _ => sb_st)) rfl rfl rfl rfl (AW.heq xh_l (dX7_recipeAt (Nat.le_trans hB (by omega))  rfl (fun hok13 => (cQ_r (AW.heq xh_l.symm ?_)))))
    refine AW.callV (N := MX5_hours) (As := []) (S := [(.int (a.2.1))]) (L0 := [some (.ref ((B + 1) + 9 + (sX7_recipeAt S.2.2.2.2.2.1 r9)))]) (b := (B + 1) + 9 + (sX7_recipeAt S.2.2.2.2.2.1 r9)) (am_r 19 rfl) rfl ovX5_hours q1213 rfl rfl (xl_get (fun _ => (sb_re hok13))) rfl rfl rfl rfl (AW.heq xh_l (dX5_hours (Nat.le_trans hB (by omega)) hok13 rfl (cQ_r (AW.heq xh_l.symm ?_))))
    refine AW.iadd (am_r 20 rfl) rfl ?_
    refine olet_e (P := fun y => AW g MX9_hoursAhead 38 [some (.ref (B)), none, some (.ref ((B + 1) + 20 + 2 * a.1)), some (.int (a.2.1)), some (.int (a.2.2))] [(.int (y))] (xh (bw h0 B S.1 S.2.2.1 S.2.2.2.2.2.2) B S.2.1 S.2.2.1 S.2.2.2.1 S.2.2.2.2.1 S.2.2.2.2.2.1) Q) hs (fun v16 hs => ?_)
    refine AW.istore_n (L' := [some (.ref (B)), none, some (.ref ((B + 1) + 20 + 2 * a.1)), some (.int (v16)), some (.int (a.2.2))]) (z := 3) (am_r 21 rfl) rfl (Nat.le_of_ble_eq_true rfl) rfl ?_
    refine AW.iinc (v := a.2.2 + (1 : Int32)) (L' := [some (.ref (B)), none, some (.ref ((B + 1) + 20 + 2 * a.1)), some (.int (v16)), some (.int (a.2.2 + (1 : Int32)))]) (am_r 22 rfl) rfl (Nat.le_of_ble_eq_true rfl) rfl (congrArg (fun z => a.2.2 + z) ci_1) rfl ?_
    refine olet_e (P := fun (y : Int32) => AW g MX9_hoursAhead 42 [some (.ref (B)), none, some (.ref ((B + 1) + 20 + 2 * a.1)), some (.int (v16)), some (.int (y))] [] (xh (bw h0 B S.1 S.2.2.1 S.2.2.2.2.2.2) B S.2.1 S.2.2.1 S.2.2.2.1 S.2.2.2.2.1 S.2.2.2.2.2.1) Q) hs (fun v17 hs => ?_)
    refine AW.goto (tg := 11) (am_r 23 rfl) rfl ?_
    have hr := (Option.some.inj hs).symm
    exact hc (a.1, v16, v17) hr hk0
noncomputable def sX9_hoursAhead (S : XT) (B : Nat) (p1 : Int32) : Option (Except Nat Int32) :=
  oexc (sX9_itemOf S B p1) (fun e => e) fun w5 =>
  sX9_hoursAhead_l11 S B p1 (w5, (0 : Int32), (0 : Int32))
set_option maxRecDepth 100000 in
theorem dX9_hoursAhead {g : AG} {h0 : AH} {S : XT} {Q : AO → AH → Prop} {B : Nat} {p1 : Int32} (hB : gB g ≤ B) (hst : Sta g h0)  {r : (Except Nat Int32)} (hs : sX9_hoursAhead S B p1 = some r) (hQ : (∀ v : Int32, r = .ok v → Q (.ok (some (.int v))) (xh (bw h0 B S.1 S.2.2.1 S.2.2.2.2.2.2) B S.2.1 S.2.2.1 S.2.2.2.1 S.2.2.2.2.1 S.2.2.2.2.2.1)) ∧ (∀ e : Nat, r = .error e → ∀ z, S.1.1 ≤ z → z ≤ S.1.1 + 1 → Q (.error e) (xh (bw h0 B (z, S.1.2.1 - 1, S.1.2.2 - 6) S.2.2.1 S.2.2.2.2.2.2) B S.2.1 S.2.2.1 S.2.2.2.1 S.2.2.2.2.1 S.2.2.2.2.2.1))) : AW g MX9_hoursAhead 0 [some (.ref (B)), some (.int (p1)), none, none, none] [] (xh (bw h0 B S.1 S.2.2.1 S.2.2.2.2.2.2) B S.2.1 S.2.2.1 S.2.2.2.1 S.2.2.2.2.1 S.2.2.2.2.2.1) Q := by
  unfold sX9_hoursAhead at hs
  refine AW.aload_n (z := 0) (am_r 0 rfl) rfl rfl ?_
  refine AW.iload_n (z := 1) (am_r 1 rfl) rfl rfl ?_
  refine oexc_e hs (fun r1 hg3 hs => ?_)
  refine AW.callV (N := MX9_itemOf) (As := [.int (p1)]) (S := []) (L0 := [some (.ref (B)), some (.int (p1))]) (b := B) (am_r 2 rfl) rfl ovX9_itemOf q948 rfl rfl xh_0 rfl rfl rfl rfl (dX9_itemOf hB hst  hg3 ⟨fun w5 hv4 => ?_, fun e hv4 z h1 h2 => ?_⟩)
  · subst hv4
    refine fun hok2 => (cQ_r ?_)
    refine AW.astore_n (L' := [some (.ref (B)), some (.int (p1)), some (.ref ((B + 1) + 20 + 2 * w5)), none, none]) (z := 2) (am_r 3 rfl) rfl (Nat.le_of_ble_eq_true rfl) rfl ?_
    refine AW.iconst (am_r 4 rfl) rfl ci_0 ?_
    refine AW.istore_n (L' := [some (.ref (B)), some (.int (p1)), some (.ref ((B + 1) + 20 + 2 * w5)), some (.int ((0 : Int32))), none]) (z := 3) (am_r 5 rfl) rfl (Nat.le_of_ble_eq_true rfl) rfl ?_
    refine AW.iconst (am_r 6 rfl) rfl ci_0 ?_
    refine AW.istore (L' := [some (.ref (B)), some (.int (p1)), some (.ref ((B + 1) + 20 + 2 * w5)), some (.int ((0 : Int32))), some (.int ((0 : Int32)))]) (am_r 7 rfl) rfl (Nat.le_of_ble_eq_true rfl) rfl ?_
    refine AW.lessL (L' := [some (.ref (B)), none, some (.ref ((B + 1) + 20 + 2 * w5)), some (.int ((0 : Int32))), some (.int ((0 : Int32)))]) ⟨rfl, rfl, rfl, rfl, trivial⟩ ?_
    exact dX9_hoursAhead_l11 (a := (w5, (0 : Int32), (0 : Int32))) hB hst  hok2 hs hQ
  · subst hv4
    have hr := (Option.some.inj hs).symm
    exact cQ_x (AX.out rfl (hQ.2 _ hr z h1 h2))
noncomputable def sX9_exactInt (S : XT) (B : Nat) (p1 : Int64) : Option (Except Nat Int32) :=
  if (lg_cmp p1 (2147483647 : Int64)) ≤ 0 then
    some (.ok (p1.toInt32))
  else
    oif (xrm S.1) (some (.error 3))
set_option maxRecDepth 100000 in
theorem dX9_exactInt {g : AG} {h0 : AH} {S : XT} {Q : AO → AH → Prop} {B : Nat} {p1 : Int64} (hB : gB g ≤ B) (hst : Sta g h0)  {r : (Except Nat Int32)} (hs : sX9_exactInt S B p1 = some r) (hQ : (∀ v : Int32, r = .ok v → Q (.ok (some (.int v))) (xh (bw h0 B S.1 S.2.2.1 S.2.2.2.2.2.2) B S.2.1 S.2.2.1 S.2.2.2.1 S.2.2.2.2.1 S.2.2.2.2.2.1)) ∧ (∀ e : Nat, r = .error e → ∀ z, S.1.1 ≤ z → z ≤ S.1.1 + 1 → Q (.error e) (xh (bw h0 B (z, S.1.2.1 - 1, S.1.2.2 - 6) S.2.2.1 S.2.2.2.2.2.2) B S.2.1 S.2.2.1 S.2.2.2.1 S.2.2.2.2.1 S.2.2.2.2.2.1))) : AW g MX9_exactInt 0 [some (.long (p1)), none] [] (xh (bw h0 B S.1 S.2.2.1 S.2.2.2.2.2.2) B S.2.1 S.2.2.1 S.2.2.2.1 S.2.2.2.2.1 S.2.2.2.2.2.1) Q := by
  unfold sX9_exactInt at hs
  refine AW.lload_n (z := 0) (am_r 0 rfl) rfl rfl ?_
  refine AW.ldc2 (v := (2147483647)) (am_r 1 rfl) rfl q1291 ?_
  refine AW.lcmp (am_r 2 rfl) rfl ?_
  refine AW.if_le (tg := 19) (am_r 3 rfl) rfl rfl (fun hc1 => ?_) (fun hc1 => ?_)
  · replace hs := (if_pos hc1).symm.trans hs
    refine AW.lload_n (z := 0) (am_r 9 rfl) rfl rfl ?_
    refine AW.l2i (am_r 10 rfl) rfl ?_
    have hr := (Option.some.inj hs).symm
    exact AW.iret (am_r 11 rfl) rfl (hQ.1 _ hr)
  · replace hs := (if_neg hc1).symm.trans hs
    refine oif_g hs (fun hg2 hs => ?_)
    have hr := (Option.some.inj hs).symm
    exact AW.throwSW (k := 3) (nt := 3) (names := ["java/lang/RuntimeException", "java/lang/Exception"]) (am_r 4 rfl) (am_r 5 rfl) (am_r 6 rfl) (am_r 7 rfl) (am_r 8 rfl) rfl rfl (by decide +kernel) (by decide +kernel) q1292 q24 rfl am_tri am_trn (List.forall_mem_cons.mpr ⟨rfl, List.forall_mem_cons.mpr ⟨rfl, am_tro⟩⟩) rfl (xrm_1 hg2) (xrm_2 hg2) (fun z h1 h2 => hQ.2 _ hr z h1 h2)
noncomputable def sX9_bill (S : XT) (B : Nat) (p1 : Int32) : Option (Except Nat Int32) :=
  oexc (sX9_itemOf S B p1) (fun e => e) fun w5 =>
  oexc (sX9_exactInt S B (gq S.2.2.2.2.2.1 3 w5)) (fun e => e) fun w10 =>
  some (.ok (w10))
set_option maxRecDepth 100000 in
theorem dX9_bill {g : AG} {h0 : AH} {S : XT} {Q : AO → AH → Prop} {B : Nat} {p1 : Int32} (hB : gB g ≤ B) (hst : Sta g h0)  {r : (Except Nat Int32)} (hs : sX9_bill S B p1 = some r) (hQ : (∀ v : Int32, r = .ok v → Q (.ok (some (.int v))) (xh (bw h0 B S.1 S.2.2.1 S.2.2.2.2.2.2) B S.2.1 S.2.2.1 S.2.2.2.1 S.2.2.2.2.1 S.2.2.2.2.2.1)) ∧ (∀ e : Nat, r = .error e → ∀ z, S.1.1 ≤ z → z ≤ S.1.1 + 1 → Q (.error e) (xh (bw h0 B (z, S.1.2.1 - 1, S.1.2.2 - 6) S.2.2.1 S.2.2.2.2.2.2) B S.2.1 S.2.2.1 S.2.2.2.1 S.2.2.2.2.1 S.2.2.2.2.2.1))) : AW g MX9_bill 0 [some (.ref (B)), some (.int (p1))] [] (xh (bw h0 B S.1 S.2.2.1 S.2.2.2.2.2.2) B S.2.1 S.2.2.1 S.2.2.2.1 S.2.2.2.2.1 S.2.2.2.2.2.1) Q := by
  unfold sX9_bill at hs
  refine AW.aload_n (z := 0) (am_r 0 rfl) rfl rfl ?_
  refine AW.iload_n (z := 1) (am_r 1 rfl) rfl rfl ?_
  refine oexc_e hs (fun r1 hg3 hs => ?_)
  refine AW.callV (N := MX9_itemOf) (As := [.int (p1)]) (S := []) (L0 := [some (.ref (B)), some (.int (p1))]) (b := B) (am_r 2 rfl) rfl ovX9_itemOf q948 rfl rfl xh_0 rfl rfl rfl rfl (dX9_itemOf hB hst  hg3 ⟨fun w5 hv4 => ?_, fun e hv4 z h1 h2 => ?_⟩)
  · subst hv4
    refine fun hok2 => (cQ_r ?_)
    refine AW.getO (am_r 3 rfl) rfl klX2 (k := 14) (by omega) q159 (xl_get (fun _ => (sb_it hok2))) rfl ?_
    refine oexc_e hs (fun r6 hg8 hs => ?_)
    refine AW.callS (N := MX9_exactInt) (As := [.long (gq S.2.2.2.2.2.1 3 w5)]) (S := []) (L0 := [some (.long (gq S.2.2.2.2.2.1 3 w5)), none]) (am_r 4 rfl) rfl osX9_exactInt q1288 rfl rfl rfl rfl rfl (dX9_exactInt hB hst  hg8 ⟨fun w10 hv9 => ?_, fun e hv9 z h1 h2 => ?_⟩)
    · subst hv9
      refine (cQ_r ?_)
      have hr := (Option.some.inj hs).symm
      exact AW.iret (am_r 5 rfl) rfl (hQ.1 _ hr)
    · subst hv9
      have hr := (Option.some.inj hs).symm
      exact cQ_x (AX.out rfl (hQ.2 _ hr z h1 h2))
  · subst hv4
    have hr := (Option.some.inj hs).symm
    exact cQ_x (AX.out rfl (hQ.2 _ hr z h1 h2))
