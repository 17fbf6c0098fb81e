/-! ===== THE RepairStudio'S METHODS, DECOMPILED (laid by a program) ===== -/
theorem cn_2 : Int32.ofNat 2 = (2 : Int32) := by decide
theorem cn_32 : Int32.ofNat 32 = (32 : Int32) := by decide
theorem cn_1001 : Int32.ofNat 1001 = (1001 : Int32) := by decide
noncomputable def sX1_forget (S : XT) (B : Nat) : Option XT :=
  olet (si S.2.1 1 2 0 ((0 : Int32))) fun S1 =>
  some ((S.1, S1, S.2.2.1, S.2.2.2.1, S.2.2.2.2.1, S.2.2.2.2.2.1, S.2.2.2.2.2.2))
set_option maxRecDepth 100000 in
theorem dX1_forget {g : AG} {h0 : AH} {S : XT} {Q : AO → AH → Prop} {B : Nat} (hB : gB g ≤ B) (hst : Sta g h0)  {r : XT} (hs : sX1_forget S B = some r) (hQ : Q (.ok none) (xh (bw h0 B r.1 r.2.2.1 r.2.2.2.2.2.2) B r.2.1 r.2.2.1 r.2.2.2.1 r.2.2.2.2.1 r.2.2.2.2.2.1)) : AW g MX1_forget 0 [some (.ref (B + 117))] [] (xh (bw h0 B S.1 S.2.2.1 S.2.2.2.2.2.2) B S.2.1 S.2.2.1 S.2.2.2.1 S.2.2.2.2.1 S.2.2.2.2.2.1) Q := by
  unfold sX1_forget at hs
  refine AW.aload_n (z := 0) (am_r 0 rfl) rfl rfl ?_
  refine AW.iconst (am_r 1 rfl) rfl ci_0 ?_
  refine AW.putO (am_r 2 rfl) rfl klX1 (k := 2) (by omega) q303 (Or.inl rfl) xh_117 (Nat.le_trans hB (by omega)) rfl rfl (xhp_117 (by omega)) ?_
  refine olet_e (P := fun y => AW g MX1_forget 5 [some (.ref (B + 117))] [] (xh (bw h0 B S.1 S.2.2.1 S.2.2.2.2.2.2) B y S.2.2.1 S.2.2.2.1 S.2.2.2.2.1 S.2.2.2.2.2.1) Q) hs (fun S1 hs => ?_)
  have hr := (Option.some.inj hs).symm
  exact AW.vret (am_r 3 rfl) rfl (xt_q hr hQ)
noncomputable def sX6_leastBehind (S : XT) (B : Nat) (p1 : Int32) (p2 : Int32) : Option Int64 :=
  if p1 < p2 then
    if p1 < 0 then
      some ((-1 : Int64))
    else
      if (1001 : Int32) ≤ p1 then
        some ((-1 : Int64))
      else
        some (gq S.2.1 5 p1.toNatClampNeg)
  else
    some ((0 : Int64))
set_option maxRecDepth 100000 in
theorem dX6_leastBehind {g : AG} {h0 : AH} {S : XT} {Q : AO → AH → Prop} {B : Nat} {p1 : Int32} {p2 : Int32} (hB : gB g ≤ B) (hst : Sta g h0)  {r : Int64} (hs : sX6_leastBehind S B p1 p2 = some r) (hQ : Q (.ok (some (.long r))) (xh (bw h0 B S.1 S.2.2.1 S.2.2.2.2.2.2) B S.2.1 S.2.2.1 S.2.2.2.1 S.2.2.2.2.1 S.2.2.2.2.2.1)) : AW g MX6_leastBehind 0 [some (.ref (B + 126)), some (.int (p1)), some (.int (p2))] [] (xh (bw h0 B S.1 S.2.2.1 S.2.2.2.2.2.2) B S.2.1 S.2.2.1 S.2.2.2.1 S.2.2.2.2.1 S.2.2.2.2.2.1) Q := by
  unfold sX6_leastBehind at hs
  refine AW.iload_n (z := 1) (am_r 0 rfl) rfl rfl ?_
  refine AW.iload_n (z := 2) (am_r 1 rfl) rfl rfl ?_
  refine AW.icmp_lt (tg := 7) (am_r 2 rfl) rfl rfl (fun hc1 => ?_) (fun hc1 => ?_)
  · replace hs := (if_pos hc1).symm.trans hs
    refine AW.iload_n (z := 1) (am_r 5 rfl) rfl rfl ?_
    refine AW.if_lt (tg := 29) (am_r 6 rfl) rfl rfl (fun hc2 => ?_) (fun hc2 => ?_)
    · replace hs := (if_pos hc2).symm.trans hs
      refine AW.ldc2 (v := (-1)) (am_r 17 rfl) rfl q1244 ?_
      have hr := (Option.some.inj hs).symm
      subst hr
      exact AW.lret (am_r 18 rfl) rfl hQ
    · replace hs := (if_neg hc2).symm.trans hs
      refine AW.iload_n (z := 1) (am_r 7 rfl) rfl rfl ?_
      refine AW.aload_n (z := 0) (am_r 8 rfl) rfl rfl ?_
      refine AW.getO (am_r 9 rfl) rfl klX6 (k := 0) (by omega) q387 xh_126 rfl ?_
      refine AW.alen (am_r 10 rfl) rfl rfl xh_127 cn_1001 ?_
      refine AW.icmp_ge (tg := 29) (am_r 11 rfl) rfl rfl (fun hc3 => ?_) (fun hc3 => ?_)
      · replace hs := (if_pos hc3).symm.trans hs
        refine AW.ldc2 (v := (-1)) (am_r 17 rfl) rfl q1244 ?_
        have hr := (Option.some.inj hs).symm
        subst hr
        exact AW.lret (am_r 18 rfl) rfl hQ
      · replace hs := (if_neg hc3).symm.trans hs
        refine AW.aload_n (z := 0) (am_r 12 rfl) rfl rfl ?_
        refine AW.getO (am_r 13 rfl) rfl klX6 (k := 0) (by omega) q387 xh_126 rfl ?_
        refine AW.iload_n (z := 1) (am_r 14 rfl) rfl rfl ?_
        refine AW.lald (am_r 15 rfl) rfl xh_127 (vp_mk hc2 (by decide) (vp_hi hc3)) rfl ?_
        refine AW.goto (tg := 32) (am_r 16 rfl) rfl ?_
        have hr := (Option.some.inj hs).symm
        subst hr
        exact AW.lret (am_r 18 rfl) rfl hQ
  · replace hs := (if_neg hc1).symm.trans hs
    refine AW.lconst (z := 0) (am_r 3 rfl) rfl cl_0 ?_
    have hr := (Option.some.inj hs).symm
    subst hr
    exact AW.lret (am_r 4 rfl) rfl hQ
noncomputable def sX6_leastFrom_j84 (S : XT) (B : Nat) (p2 : Int32) (p3 : Int32) (p4 : Int32) (y0 : Int64) (y1 : Int32) (y2 : Int64) (y3 : Int64) : Option ((Int64 × Int32) ⊕ Int64) :=
  if (lg_cmp y0 (-1 : Int64)) = 0 then
    olet (y1 + (1 : Int32)) fun v16 =>
    some (.inl (y3 + y2, v16))
  else
    if 0 ≤ (lg_cmp (y3 + y2) y0) then
      olet (y1 + (1 : Int32)) fun v18 =>
      some (.inl (y0, v18))
    else
      olet (y1 + (1 : Int32)) fun v19 =>
      some (.inl (y3 + y2, v19))
set_option maxRecDepth 100000 in
theorem dX6_leastFrom_j84 {g : AG} {h0 : AH} {S : XT} {Q : AO → AH → Prop} {B : Nat} {p2 : Int32} {p3 : Int32} {p4 : Int32} {y0 : Int64} {y1 : Int32} {y2 : Int64} {y3 : Int64} (hB : gB g ≤ B) (hst : Sta g h0)   {r : ((Int64 × Int32) ⊕ Int64)} (hs : sX6_leastFrom_j84 S B p2 p3 p4 y0 y1 y2 y3 = some r) (hc : ∀ a : (Int64 × Int32), r = .inl a → AW g MX6_leastFrom 8 [some (.ref (B + 126)), some (.ref ((B + 1))), some (.int (p2)), some (.int (p3)), some (.int (p4)), some (.long (a.1)), none, some (.int (a.2)), none, none, none, none, none, none] [] (xh (bw h0 B S.1 S.2.2.1 S.2.2.2.2.2.2) B S.2.1 S.2.2.1 S.2.2.2.1 S.2.2.2.2.1 S.2.2.2.2.2.1) Q) (he : ∀ z : Int64, r = .inr z → Q (.ok (some (.long z))) (xh (bw h0 B S.1 S.2.2.1 S.2.2.2.2.2.2) B S.2.1 S.2.2.1 S.2.2.2.1 S.2.2.2.2.1 S.2.2.2.2.2.1)) : AW g MX6_leastFrom 84 [some (.ref (B + 126)), some (.ref ((B + 1))), some (.int (p2)), some (.int (p3)), some (.int (p4)), some (.long (y0)), none, some (.int (y1)), none, none, none, none, none, none] [(.long (y2)), (.long (y3))] (xh (bw h0 B S.1 S.2.2.1 S.2.2.2.2.2.2) B S.2.1 S.2.2.1 S.2.2.2.1 S.2.2.2.2.1 S.2.2.2.2.2.1) Q := by
  unfold sX6_leastFrom_j84 at hs
  refine AW.ladd (am_r 39 rfl) rfl ?_
  refine AW.lstore (L' := [some (.ref (B + 126)), some (.ref ((B + 1))), some (.int (p2)), some (.int (p3)), some (.int (p4)), some (.long (y0)), none, some (.int (y1)), none, none, none, none, some (.long (y3 + y2)), none]) (am_r 40 rfl) rfl (Nat.le_of_ble_eq_true rfl) rfl ?_
  refine AW.lload (am_r 41 rfl) rfl rfl ?_
  refine AW.ldc2 (v := (-1)) (am_r 42 rfl) rfl q1244 ?_
  refine AW.lcmp (am_r 43 rfl) rfl ?_
  refine AW.if_eq (tg := 104) (am_r 44 rfl) rfl rfl (fun hc15 => ?_) (fun hc15 => ?_)
  · replace hs := (if_pos hc15).symm.trans hs
    refine AW.lload (am_r 49 rfl) rfl rfl ?_
    refine AW.lstore (L' := [some (.ref (B + 126)), some (.ref ((B + 1))), some (.int (p2)), some (.int (p3)), some (.int (p4)), some (.long (y3 + y2)), none, some (.int (y1)), none, none, none, none, some (.long (y3 + y2)), none]) (am_r 50 rfl) rfl (Nat.le_of_ble_eq_true rfl) rfl ?_
    refine AW.iinc (v := y1 + (1 : Int32)) (L' := [some (.ref (B + 126)), some (.ref ((B + 1))), some (.int (p2)), some (.int (p3)), some (.int (p4)), some (.long (y3 + y2)), none, some (.int (y1 + (1 : Int32))), none, none, none, none, some (.long (y3 + y2)), none]) (am_r 51 rfl) rfl (Nat.le_of_ble_eq_true rfl) rfl (congrArg (fun z => y1 + z) ci_1) rfl ?_
    refine olet_e (P := fun (y : Int32) => AW g MX6_leastFrom 111 [some (.ref (B + 126)), some (.ref ((B + 1))), some (.int (p2)), some (.int (p3)), some (.int (p4)), some (.long (y3 + y2)), none, some (.int (y)), none, none, none, none, some (.long (y3 + y2)), none] [] (xh (bw h0 B S.1 S.2.2.1 S.2.2.2.2.2.2) B S.2.1 S.2.2.1 S.2.2.2.1 S.2.2.2.2.1 S.2.2.2.2.2.1) Q) hs (fun v16 hs => ?_)
    refine AW.goto (tg := 8) (am_r 52 rfl) rfl ?_
    refine AW.lessL (L' := [some (.ref (B + 126)), some (.ref ((B + 1))), some (.int (p2)), some (.int (p3)), some (.int (p4)), some (.long (y3 + y2)), none, some (.int (v16)), none, none, none, none, none, none]) ⟨rfl, rfl, rfl, rfl, rfl, rfl, rfl, trivial⟩ ?_
    have hr := (Option.some.inj hs).symm
    exact hc (y3 + y2, v16) hr 
  · replace hs := (if_neg hc15).symm.trans hs
    refine AW.lload (am_r 45 rfl) rfl rfl ?_
    refine AW.lload (am_r 46 rfl) rfl rfl ?_
    refine AW.lcmp (am_r 47 rfl) rfl ?_
    refine AW.if_ge (tg := 108) (am_r 48 rfl) rfl rfl (fun hc17 => ?_) (fun hc17 => ?_)
    · replace hs := (if_pos hc17).symm.trans hs
      refine AW.iinc (v := y1 + (1 : Int32)) (L' := [some (.ref (B + 126)), some (.ref ((B + 1))), some (.int (p2)), some (.int (p3)), some (.int (p4)), some (.long (y0)), none, some (.int (y1 + (1 : Int32))), none, none, none, none, some (.long (y3 + y2)), none]) (am_r 51 rfl) rfl (Nat.le_of_ble_eq_true rfl) rfl (congrArg (fun z => y1 + z) ci_1) rfl ?_
      refine olet_e (P := fun (y : Int32) => AW g MX6_leastFrom 111 [some (.ref (B + 126)), some (.ref ((B + 1))), some (.int (p2)), some (.int (p3)), some (.int (p4)), some (.long (y0)), none, some (.int (y)), none, none, none, none, some (.long (y3 + y2)), none] [] (xh (bw h0 B S.1 S.2.2.1 S.2.2.2.2.2.2) B S.2.1 S.2.2.1 S.2.2.2.1 S.2.2.2.2.1 S.2.2.2.2.2.1) Q) hs (fun v18 hs => ?_)
      refine AW.goto (tg := 8) (am_r 52 rfl) rfl ?_
      refine AW.lessL (L' := [some (.ref (B + 126)), some (.ref ((B + 1))), some (.int (p2)), some (.int (p3)), some (.int (p4)), some (.long (y0)), none, some (.int (v18)), none, none, none, none, none, none]) ⟨rfl, rfl, rfl, rfl, rfl, rfl, rfl, trivial⟩ ?_
      have hr := (Option.some.inj hs).symm
      exact hc (y0, v18) hr 
    · replace hs := (if_neg hc17).symm.trans hs
      refine AW.lload (am_r 49 rfl) rfl rfl ?_
      refine AW.lstore (L' := [some (.ref (B + 126)), some (.ref ((B + 1))), some (.int (p2)), some (.int (p3)), some (.int (p4)), some (.long (y3 + y2)), none, some (.int (y1)), none, none, none, none, some (.long (y3 + y2)), none]) (am_r 50 rfl) rfl (Nat.le_of_ble_eq_true rfl) rfl ?_
      refine AW.iinc (v := y1 + (1 : Int32)) (L' := [some (.ref (B + 126)), some (.ref ((B + 1))), some (.int (p2)), some (.int (p3)), some (.int (p4)), some (.long (y3 + y2)), none, some (.int (y1 + (1 : Int32))), none, none, none, none, some (.long (y3 + y2)), none]) (am_r 51 rfl) rfl (Nat.le_of_ble_eq_true rfl) rfl (congrArg (fun z => y1 + z) ci_1) rfl ?_
      refine olet_e (P := fun (y : Int32) => AW g MX6_leastFrom 111 [some (.ref (B + 126)), some (.ref ((B + 1))), some (.int (p2)), some (.int (p3)), some (.int (p4)), some (.long (y3 + y2)), none, some (.int (y)), none, none, none, none, some (.long (y3 + y2)), none] [] (xh (bw h0 B S.1 S.2.2.1 S.2.2.2.2.2.2) B S.2.1 S.2.2.1 S.2.2.2.1 S.2.2.2.2.1 S.2.2.2.2.2.1) Q) hs (fun v19 hs => ?_)
      refine AW.goto (tg := 8) (am_r 52 rfl) rfl ?_
      refine AW.lessL (L' := [some (.ref (B + 126)), some (.ref ((B + 1))), some (.int (p2)), some (.int (p3)), some (.int (p4)), some (.long (y3 + y2)), none, some (.int (v19)), none, none, none, none, none, none]) ⟨rfl, rfl, rfl, rfl, rfl, rfl, rfl, trivial⟩ ?_
      have hr := (Option.some.inj hs).symm
      exact hc (y3 + y2, v19) hr 
noncomputable def sX6_leastFrom_j52 (S : XT) (B : Nat) (p2 : Int32) (p3 : Int32) (p4 : Int32) (y0 : Int64) (y1 : Int32) (k2 : Nat) (y3 : Int64) : Option ((Int64 × Int32) ⊕ Int64) :=
  if (lg_cmp y3 (-1 : Int64)) = 0 then
    olet (y1 + (1 : Int32)) fun v11 =>
    some (.inl (y0, v11))
  else
    if p4 = 0 then
      sX6_leastFrom_j84 S B p2 p3 p4 y0 y1 ((sX5_hours S.2.2.2.2.2.1 k2).toInt64) y3
    else
      sX6_leastFrom_j84 S B p2 p3 p4 y0 y1 (sX5_price S.2.2.2.2.2.1 k2) y3
set_option maxRecDepth 100000 in
theorem dX6_leastFrom_j52 {g : AG} {h0 : AH} {S : XT} {Q : AO → AH → Prop} {B : Nat} {p2 : Int32} {p3 : Int32} {p4 : Int32} {y0 : Int64} {y1 : Int32} {k2 : Nat} {y3 : Int64} (hB : gB g ≤ B) (hst : Sta g h0)  (hk2 : rok k2) {r : ((Int64 × Int32) ⊕ Int64)} (hs : sX6_leastFrom_j52 S B p2 p3 p4 y0 y1 k2 y3 = some r) (hc : ∀ a : (Int64 × Int32), r = .inl a → AW g MX6_leastFrom 8 [some (.ref (B + 126)), some (.ref ((B + 1))), some (.int (p2)), some (.int (p3)), some (.int (p4)), some (.long (a.1)), none, some (.int (a.2)), none, none, none, none, none, none] [] (xh (bw h0 B S.1 S.2.2.1 S.2.2.2.2.2.2) B S.2.1 S.2.2.1 S.2.2.2.1 S.2.2.2.2.1 S.2.2.2.2.2.1) Q) (he : ∀ z : Int64, r = .inr z → Q (.ok (some (.long z))) (xh (bw h0 B S.1 S.2.2.1 S.2.2.2.2.2.2) B S.2.1 S.2.2.1 S.2.2.2.1 S.2.2.2.2.1 S.2.2.2.2.2.1)) : AW g MX6_leastFrom 52 [some (.ref (B + 126)), some (.ref ((B + 1))), some (.int (p2)), some (.int (p3)), some (.int (p4)), some (.long (y0)), none, some (.int (y1)), some (.ref ((B + 1) + 9 + k2)), none, none, none, none, none] [(.long (y3))] (xh (bw h0 B S.1 S.2.2.1 S.2.2.2.2.2.2) B S.2.1 S.2.2.1 S.2.2.2.1 S.2.2.2.2.1 S.2.2.2.2.2.1) Q := by
  unfold sX6_leastFrom_j52 at hs
  refine AW.lstore (L' := [some (.ref (B + 126)), some (.ref ((B + 1))), some (.int (p2)), some (.int (p3)), some (.int (p4)), some (.long (y0)), none, some (.int (y1)), some (.ref ((B + 1) + 9 + k2)), none, some (.long (y3)), none, none, none]) (am_r 25 rfl) rfl (Nat.le_of_ble_eq_true rfl) rfl ?_
  refine AW.lload (am_r 26 rfl) rfl rfl ?_
  refine AW.ldc2 (v := (-1)) (am_r 27 rfl) rfl q1244 ?_
  refine AW.lcmp (am_r 28 rfl) rfl ?_
  refine AW.if_eq (tg := 108) (am_r 29 rfl) rfl rfl (fun hc10 => ?_) (fun hc10 => ?_)
  · replace hs := (if_pos hc10).symm.trans hs
    refine AW.iinc (v := y1 + (1 : Int32)) (L' := [some (.ref (B + 126)), some (.ref ((B + 1))), some (.int (p2)), some (.int (p3)), some (.int (p4)), some (.long (y0)), none, some (.int (y1 + (1 : Int32))), some (.ref ((B + 1) + 9 + k2)), none, some (.long (y3)), none, none, none]) (am_r 51 rfl) rfl (Nat.le_of_ble_eq_true rfl) rfl (congrArg (fun z => y1 + z) ci_1) rfl ?_
    refine olet_e (P := fun (y : Int32) => AW g MX6_leastFrom 111 [some (.ref (B + 126)), some (.ref ((B + 1))), some (.int (p2)), some (.int (p3)), some (.int (p4)), some (.long (y0)), none, some (.int (y)), some (.ref ((B + 1) + 9 + k2)), none, some (.long (y3)), none, none, none] [] (xh (bw h0 B S.1 S.2.2.1 S.2.2.2.2.2.2) B S.2.1 S.2.2.1 S.2.2.2.1 S.2.2.2.2.1 S.2.2.2.2.2.1) Q) hs (fun v11 hs => ?_)
    refine AW.goto (tg := 8) (am_r 52 rfl) rfl ?_
    refine AW.lessL (L' := [some (.ref (B + 126)), some (.ref ((B + 1))), some (.int (p2)), some (.int (p3)), some (.int (p4)), some (.long (y0)), none, some (.int (v11)), none, none, none, none, none, none]) ⟨rfl, rfl, rfl, rfl, rfl, rfl, rfl, trivial⟩ ?_
    have hr := (Option.some.inj hs).symm
    exact hc (y0, v11) hr 
  · replace hs := (if_neg hc10).symm.trans hs
    refine AW.lload (am_r 30 rfl) rfl rfl ?_
    refine AW.iload (am_r 31 rfl) rfl rfl ?_
    refine AW.if_eq (tg := 78) (am_r 32 rfl) rfl rfl (fun hc12 => ?_) (fun hc12 => ?_)
    · replace hs := (if_pos hc12).symm.trans hs
      refine AW.aload (am_r 36 rfl) rfl rfl ?_
      refine AW.callV (N := MX5_hours) (As := []) (S := [(.long (y3))]) (L0 := [some (.ref ((B + 1) + 9 + k2))]) (b := (B + 1) + 9 + k2) (am_r 37 rfl) rfl ovX5_hours q1252 rfl rfl (xl_get (fun _ => (sb_re hk2))) rfl rfl rfl rfl (AW.heq xh_l (dX5_hours (Nat.le_trans hB (by omega)) hk2 rfl (cQ_r (AW.heq xh_l.symm ?_))))
      refine AW.i2l (am_r 38 rfl) rfl ?_
      refine AW.lessL (L' := [some (.ref (B + 126)), some (.ref ((B + 1))), some (.int (p2)), some (.int (p3)), some (.int (p4)), some (.long (y0)), none, some (.int (y1)), none, none, none, none, none, none]) ⟨rfl, rfl, rfl, rfl, rfl, rfl, rfl, trivial⟩ ?_
      exact dX6_leastFrom_j84 hB hst   hs hc he
    · replace hs := (if_neg hc12).symm.trans hs
      refine AW.aload (am_r 33 rfl) rfl rfl ?_
      refine AW.callV (N := MX5_price) (As := []) (S := [(.long (y3))]) (L0 := [some (.ref ((B + 1) + 9 + k2))]) (b := (B + 1) + 9 + k2) (am_r 34 rfl) rfl ovX5_price q1251 rfl rfl (xl_get (fun _ => (sb_re hk2))) rfl rfl rfl rfl (AW.heq xh_l (dX5_price (Nat.le_trans hB (by omega)) hk2 rfl (cQ_r (AW.heq xh_l.symm ?_))))
      refine AW.goto (tg := 84) (am_r 35 rfl) rfl ?_
      refine AW.lessL (L' := [some (.ref (B + 126)), some (.ref ((B + 1))), some (.int (p2)), some (.int (p3)), some (.int (p4)), some (.long (y0)), none, some (.int (y1)), none, none, none, none, none, none]) ⟨rfl, rfl, rfl, rfl, rfl, rfl, rfl, trivial⟩ ?_
      exact dX6_leastFrom_j84 hB hst   hs hc he
noncomputable def sX6_leastFrom_l8_step (S : XT) (B : Nat) (p2 : Int32) (p3 : Int32) (p4 : Int32) (a : (Int64 × Int32)) : Option ((Int64 × Int32) ⊕ Int64) :=
  if (gi S.2.2.2.2.2.1 0 8 0) ≤ a.2 then
    oinr (
    some (a.1))
  else
    olet (sX5_scoreBehind S.2.2.2.2.2.1 (sX7_recipeAt S.2.2.2.2.2.1 a.2) p2) fun v8 =>
    if v8 ≤ p2 then
      sX6_leastFrom_j52 S B p2 p3 p4 a.1 a.2 (sX7_recipeAt S.2.2.2.2.2.1 a.2) (-1 : Int64)
    else
      obind (sX6_leastBehind S B v8 p3) fun r22 =>
      sX6_leastFrom_j52 S B p2 p3 p4 a.1 a.2 (sX7_recipeAt S.2.2.2.2.2.1 a.2) r22
noncomputable def sX6_leastFrom_l8 (S : XT) (B : Nat) (p2 : Int32) (p3 : Int32) (p4 : Int32) (a : (Int64 × Int32)) : Option Int64 := itw (sX6_leastFrom_l8_step S B p2 p3 p4) a
set_option maxRecDepth 100000 in
theorem dX6_leastFrom_l8 {g : AG} {h0 : AH} {S : XT} {Q : AO → AH → Prop} {B : Nat} {p2 : Int32} {p3 : Int32} {p4 : Int32} (hB : gB g ≤ B) (hst : Sta g h0)  {a : (Int64 × Int32)}  {r : Int64} (hs : sX6_leastFrom_l8 S B p2 p3 p4 a = some r) (hQ : Q (.ok (some (.long r))) (xh (bw h0 B S.1 S.2.2.1 S.2.2.2.2.2.2) B S.2.1 S.2.2.1 S.2.2.2.1 S.2.2.2.2.1 S.2.2.2.2.2.1)) : AW g MX6_leastFrom 8 [some (.ref (B + 126)), some (.ref ((B + 1))), some (.int (p2)), some (.int (p3)), some (.int (p4)), some (.long (a.1)), none, some (.int (a.2)), none, none, none, none, none, none] [] (xh (bw h0 B S.1 S.2.2.1 S.2.2.2.2.2.2) B S.2.1 S.2.2.1 S.2.2.2.1 S.2.2.2.2.1 S.2.2.2.2.2.1) Q := by
  refine itw_e (a := a) (b := r) (P := fun (a : (Int64 × Int32)) => AW g MX6_leastFrom 8 [some (.ref (B + 126)), some (.ref ((B + 1))), some (.int (p2)), some (.int (p3)), some (.int (p4)), some (.long (a.1)), none, some (.int (a.2)), none, none, none, none, none, none] [] (xh (bw h0 B S.1 S.2.2.1 S.2.2.2.2.2.2) B S.2.1 S.2.2.1 S.2.2.2.1 S.2.2.2.2.1 S.2.2.2.2.2.1) Q) (Post := fun r => Q (.ok (some (.long r))) (xh (bw h0 B S.1 S.2.2.1 S.2.2.2.2.2.2) B S.2.1 S.2.2.1 S.2.2.2.1 S.2.2.2.2.1 S.2.2.2.2.2.1)) (fun a r hs hc he  => ?_) hs hQ 
  unfold sX6_leastFrom_l8_step at hs
  refine AW.iload (am_r 4 rfl) rfl rfl ?_
  refine AW.aload_n (z := 1) (am_r 5 rfl) rfl rfl ?_
  refine AW.getO (am_r 6 rfl) rfl klX7 (k := 8) (by omega) q240 (xl_get (fun _ => sb_st)) rfl ?_
  refine AW.icmp_ge (tg := 114) (am_r 7 rfl) rfl rfl (fun hc1 => ?_) (fun hc1 => ?_)
  · replace hs := (if_pos hc1).symm.trans hs
    refine oinr_e hs (fun z2 hz3 hs => ?_)
    have hQ := he _ hz3
    refine AW.lload (am_r 53 rfl) rfl rfl ?_
    have hr := (Option.some.inj hs).symm
    subst hr
    exact AW.lret (am_r 54 rfl) rfl hQ
  · replace hs := (if_neg hc1).symm.trans hs
    refine AW.aload_n (z := 1) (am_r 8 rfl) rfl rfl ?_
    refine AW.iload (am_r 9 rfl) rfl rfl ?_
    refine AW.callV (N := MX7_recipeAt) (As := [.int (a.2)]) (S := []) (L0 := [some (.ref ((B + 1))), some (.int (a.2))]) (b := (B + 1)) (am_r 10 rfl) rfl ovX7_recipeAt q1245 rfl rfl (xl_get (fun _ => sb_st)) rfl rfl rfl rfl (AW.heq xh_l (dX7_recipeAt (Nat.le_trans hB (by omega))  rfl (fun hok5 => (cQ_r (AW.heq xh_l.symm ?_)))))
    refine AW.astore (L' := [some (.ref (B + 126)), some (.ref ((B + 1))), some (.int (p2)), some (.int (p3)), some (.int (p4)), some (.long (a.1)), none, some (.int (a.2)), some (.ref ((B + 1) + 9 + (sX7_recipeAt S.2.2.2.2.2.1 a.2))), none, none, none, none, none]) (am_r 11 rfl) rfl (Nat.le_of_ble_eq_true rfl) rfl ?_
    refine AW.aload (am_r 12 rfl) rfl rfl ?_
    refine AW.iload_n (z := 2) (am_r 13 rfl) rfl rfl ?_
    refine AW.callV (N := MX5_scoreBehind) (As := [.int (p2)]) (S := []) (L0 := [some (.ref ((B + 1) + 9 + (sX7_recipeAt S.2.2.2.2.2.1 a.2))), some (.int (p2))]) (b := (B + 1) + 9 + (sX7_recipeAt S.2.2.2.2.2.1 a.2)) (am_r 14 rfl) rfl ovX5_scoreBehind q1246 rfl rfl (xl_get (fun _ => (sb_re hok5))) rfl rfl rfl rfl (AW.heq xh_l (dX5_scoreBehind (Nat.le_trans hB (by omega)) hok5 rfl (cQ_r (AW.heq xh_l.symm ?_))))
    refine olet_e (P := fun y => AW g MX6_leastFrom 31 [some (.ref (B + 126)), some (.ref ((B + 1))), some (.int (p2)), some (.int (p3)), some (.int (p4)), some (.long (a.1)), none, some (.int (a.2)), some (.ref ((B + 1) + 9 + (sX7_recipeAt S.2.2.2.2.2.1 a.2))), none, none, none, none, none] [(.int (y))] (xh (bw h0 B S.1 S.2.2.1 S.2.2.2.2.2.2) B S.2.1 S.2.2.1 S.2.2.2.1 S.2.2.2.2.1 S.2.2.2.2.2.1) Q) hs (fun v8 hs => ?_)
    refine AW.istore (L' := [some (.ref (B + 126)), some (.ref ((B + 1))), some (.int (p2)), some (.int (p3)), some (.int (p4)), some (.long (a.1)), none, some (.int (a.2)), some (.ref ((B + 1) + 9 + (sX7_recipeAt S.2.2.2.2.2.1 a.2))), some (.int (v8)), none, none, none, none]) (am_r 15 rfl) rfl (Nat.le_of_ble_eq_true rfl) rfl ?_
    refine AW.iload (am_r 16 rfl) rfl rfl ?_
    refine AW.iload_n (z := 2) (am_r 17 rfl) rfl rfl ?_
    refine AW.icmp_le (tg := 49) (am_r 18 rfl) rfl rfl (fun hc9 => ?_) (fun hc9 => ?_)
    · replace hs := (if_pos hc9).symm.trans hs
      refine AW.ldc2 (v := (-1)) (am_r 24 rfl) rfl q1244 ?_
      refine AW.lessL (L' := [some (.ref (B + 126)), some (.ref ((B + 1))), some (.int (p2)), some (.int (p3)), some (.int (p4)), some (.long (a.1)), none, some (.int (a.2)), some (.ref ((B + 1) + 9 + (sX7_recipeAt S.2.2.2.2.2.1 a.2))), none, none, none, none, none]) ⟨rfl, rfl, rfl, rfl, rfl, rfl, rfl, rfl, trivial⟩ ?_
      exact dX6_leastFrom_j52 hB hst  hok5 hs hc he
    · replace hs := (if_neg hc9).symm.trans hs
      refine AW.aload_n (z := 0) (am_r 19 rfl) rfl rfl ?_
      refine AW.iload (am_r 20 rfl) rfl rfl ?_
      refine AW.iload_n (z := 3) (am_r 21 rfl) rfl rfl ?_
      refine obind_e hs (fun r22 hg24 hs => ?_)
      refine AW.callV (N := MX6_leastBehind) (As := [.int (v8), .int (p3)]) (S := []) (L0 := [some (.ref (B + 126)), some (.int (v8)), some (.int (p3))]) (b := B + 126) (am_r 22 rfl) rfl ovX6_leastBehind q1247 rfl rfl xh_126 rfl rfl rfl rfl (dX6_leastBehind hB hst  hg24 (cQ_r ?_))
      refine AW.goto (tg := 52) (am_r 23 rfl) rfl ?_
      refine AW.lessL (L' := [some (.ref (B + 126)), some (.ref ((B + 1))), some (.int (p2)), some (.int (p3)), some (.int (p4)), some (.long (a.1)), none, some (.int (a.2)), some (.ref ((B + 1) + 9 + (sX7_recipeAt S.2.2.2.2.2.1 a.2))), none, none, none, none, none]) ⟨rfl, rfl, rfl, rfl, rfl, rfl, rfl, rfl, trivial⟩ ?_
      exact dX6_leastFrom_j52 hB hst  hok5 hs hc he
noncomputable def sX6_leastFrom (S : XT) (B : Nat) (p2 : Int32) (p3 : Int32) (p4 : Int32) : Option Int64 :=
  sX6_leastFrom_l8 S B p2 p3 p4 ((-1 : Int64), (0 : Int32))
set_option maxRecDepth 100000 in
theorem dX6_leastFrom {g : AG} {h0 : AH} {S : XT} {Q : AO → AH → Prop} {B : Nat} {p2 : Int32} {p3 : Int32} {p4 : Int32} (hB : gB g ≤ B) (hst : Sta g h0)  {r : Int64} (hs : sX6_leastFrom S B p2 p3 p4 = some r) (hQ : Q (.ok (some (.long r))) (xh (bw h0 B S.1 S.2.2.1 S.2.2.2.2.2.2) B S.2.1 S.2.2.1 S.2.2.2.1 S.2.2.2.2.1 S.2.2.2.2.2.1)) : AW g MX6_leastFrom 0 [some (.ref (B + 126)), some (.ref ((B + 1))), some (.int (p2)), some (.int (p3)), some (.int (p4)), none, none, none, none, none, none, none, none, none] [] (xh (bw h0 B S.1 S.2.2.1 S.2.2.2.2.2.2) B S.2.1 S.2.2.1 S.2.2.2.1 S.2.2.2.2.1 S.2.2.2.2.2.1) Q := by
  unfold sX6_leastFrom at hs
  refine AW.ldc2 (v := (-1)) (am_r 0 rfl) rfl q1244 ?_
  refine AW.lstore (L' := [some (.ref (B + 126)), some (.ref ((B + 1))), some (.int (p2)), some (.int (p3)), some (.int (p4)), some (.long ((-1 : Int64))), none, none, none, none, none, none, none, none]) (am_r 1 rfl) rfl (Nat.le_of_ble_eq_true rfl) rfl ?_
  refine AW.iconst (am_r 2 rfl) rfl ci_0 ?_
  refine AW.istore (L' := [some (.ref (B + 126)), some (.ref ((B + 1))), some (.int (p2)), some (.int (p3)), some (.int (p4)), some (.long ((-1 : Int64))), none, some (.int ((0 : Int32))), none, none, none, none, none, none]) (am_r 3 rfl) rfl (Nat.le_of_ble_eq_true rfl) rfl ?_
  exact dX6_leastFrom_l8 (a := ((-1 : Int64), (0 : Int32))) hB hst   hs hQ
noncomputable def sX6_leastBetween_l8_step  (B : Nat) (p2 : Int32) (p3 : Int32) (p4 : Int32) (a : (Int64 × Int32 × XT)) : Option ((Int64 × Int32 × XT) ⊕ (Int64 × XT)) :=
  if a.2.1 < p2 then
    oinr (
    some ((a.1, a.2.2)))
  else
    obind (sX6_leastFrom a.2.2 B a.2.1 p3 p4) fun r5 =>
    if a.2.1 < 0 then
      olet (a.2.1 + (-1 : Int32)) fun v9 =>
      some (.inl (r5, v9, a.2.2))
    else
      if (1001 : Int32) ≤ a.2.1 then
        olet (a.2.1 + (-1 : Int32)) fun v11 =>
        some (.inl (r5, v11, a.2.2))
      else
        olet (sq a.2.2.2.1 5 a.2.1.toNatClampNeg (r5)) fun S12 =>
        olet (a.2.1 + (-1 : Int32)) fun v13 =>
        some (.inl (r5, v13, (a.2.2.1, S12, a.2.2.2.2.1, a.2.2.2.2.2.1, a.2.2.2.2.2.2.1, a.2.2.2.2.2.2.2.1, a.2.2.2.2.2.2.2.2)))
noncomputable def sX6_leastBetween_l8  (B : Nat) (p2 : Int32) (p3 : Int32) (p4 : Int32) (a : (Int64 × Int32 × XT)) : Option (Int64 × XT) := itw (sX6_leastBetween_l8_step  B p2 p3 p4) a
set_option maxRecDepth 100000 in
theorem dX6_leastBetween_l8 {g : AG} {h0 : AH} {Q : AO → AH → Prop} {B : Nat} {p2 : Int32} {p3 : Int32} {p4 : Int32} (hB : gB g ≤ B) (hst : Sta g h0)  {a : (Int64 × Int32 × XT)}  {r : (Int64 × XT)} (hs : sX6_leastBetween_l8  B p2 p3 p4 a = some r) (hQ : Q (.ok (some (.long r.1))) (xh (bw h0 B r.2.1 r.2.2.2.1 r.2.2.2.2.2.2.2) B r.2.2.1 r.2.2.2.1 r.2.2.2.2.1 r.2.2.2.2.2.1 r.2.2.2.2.2.2.1)) : AW g MX6_leastBetween 8 [some (.ref (B + 126)), some (.ref ((B + 1))), some (.int (p2)), some (.int (p3)), some (.int (p4)), some (.long (a.1)), none, some (.int (a.2.1))] [] (xh (bw h0 B a.2.2.1 a.2.2.2.2.1 a.2.2.2.2.2.2.2.2) B a.2.2.2.1 a.2.2.2.2.1 a.2.2.2.2.2.1 a.2.2.2.2.2.2.1 a.2.2.2.2.2.2.2.1) Q := by
  refine itw_e (a := a) (b := r) (P := fun (a : (Int64 × Int32 × XT)) => AW g MX6_leastBetween 8 [some (.ref (B + 126)), some (.ref ((B + 1))), some (.int (p2)), some (.int (p3)), some (.int (p4)), some (.long (a.1)), none, some (.int (a.2.1))] [] (xh (bw h0 B a.2.2.1 a.2.2.2.2.1 a.2.2.2.2.2.2.2.2) B a.2.2.2.1 a.2.2.2.2.1 a.2.2.2.2.2.1 a.2.2.2.2.2.2.1 a.2.2.2.2.2.2.2.1) Q) (Post := fun r => Q (.ok (some (.long r.1))) (xh (bw h0 B r.2.1 r.2.2.2.1 r.2.2.2.2.2.2.2) B r.2.2.1 r.2.2.2.1 r.2.2.2.2.1 r.2.2.2.2.2.1 r.2.2.2.2.2.2.1)) (fun a r hs hc he  => ?_) hs hQ 
  unfold sX6_leastBetween_l8_step at hs
  refine AW.iload (am_r 6 rfl) rfl rfl ?_
  refine AW.iload_n (z := 2) (am_r 7 rfl) rfl rfl ?_
  refine AW.icmp_lt (tg := 56) (am_r 8 rfl) rfl rfl (fun hc2 => ?_) (fun hc2 => ?_)
  · replace hs := (if_pos hc2).symm.trans hs
    refine oinr_e hs (fun z3 hz4 hs => ?_)
    have hQ := he _ hz4
    refine AW.lload (am_r 30 rfl) rfl rfl ?_
    have hr := (Option.some.inj hs).symm
    exact AW.lret (am_r 31 rfl) rfl (xt_q1 (f := fun v => .ok (some (.long v))) hr hQ)
  · replace hs := (if_neg hc2).symm.trans hs
    refine AW.aload_n (z := 0) (am_r 9 rfl) rfl rfl ?_
    refine AW.aload_n (z := 1) (am_r 10 rfl) rfl rfl ?_
    refine AW.iload (am_r 11 rfl) rfl rfl ?_
    refine AW.iload_n (z := 3) (am_r 12 rfl) rfl rfl ?_
    refine AW.iload (am_r 13 rfl) rfl rfl ?_
    refine obind_e hs (fun r5 hg7 hs => ?_)
    refine AW.callV (N := MX6_leastFrom) (As := [.ref ((B + 1)), .int (a.2.1), .int (p3), .int (p4)]) (S := []) (L0 := [some (.ref (B + 126)), some (.ref ((B + 1))), some (.int (a.2.1)), some (.int (p3)), some (.int (p4)), none, none, none, none, none, none, none, none, none]) (b := B + 126) (am_r 14 rfl) rfl ovX6_leastFrom q1240 rfl rfl xh_126 rfl rfl rfl rfl (dX6_leastFrom hB hst  hg7 (cQ_r ?_))
    refine AW.lstore (L' := [some (.ref (B + 126)), some (.ref ((B + 1))), some (.int (p2)), some (.int (p3)), some (.int (p4)), some (.long (r5)), none, some (.int (a.2.1))]) (am_r 15 rfl) rfl (Nat.le_of_ble_eq_true rfl) rfl ?_
    refine AW.iload (am_r 16 rfl) rfl rfl ?_
    refine AW.if_lt (tg := 50) (am_r 17 rfl) rfl rfl (fun hc8 => ?_) (fun hc8 => ?_)
    · replace hs := (if_pos hc8).symm.trans hs
      refine AW.iinc (v := a.2.1 + (-1 : Int32)) (L' := [some (.ref (B + 126)), some (.ref ((B + 1))), some (.int (p2)), some (.int (p3)), some (.int (p4)), some (.long (r5)), none, some (.int (a.2.1 + (-1 : Int32)))]) (am_r 28 rfl) rfl (Nat.le_of_ble_eq_true rfl) rfl (congrArg (fun z => a.2.1 + z) ci_m1) rfl ?_
      refine olet_e (P := fun (y : Int32) => AW g MX6_leastBetween 53 [some (.ref (B + 126)), some (.ref ((B + 1))), some (.int (p2)), some (.int (p3)), some (.int (p4)), some (.long (r5)), none, some (.int (y))] [] (xh (bw h0 B a.2.2.1 a.2.2.2.2.1 a.2.2.2.2.2.2.2.2) B a.2.2.2.1 a.2.2.2.2.1 a.2.2.2.2.2.1 a.2.2.2.2.2.2.1 a.2.2.2.2.2.2.2.1) Q) hs (fun v9 hs => ?_)
      refine AW.goto (tg := 8) (am_r 29 rfl) rfl ?_
      have hr := (Option.some.inj hs).symm
      exact hc (r5, v9, a.2.2) hr 
    · replace hs := (if_neg hc8).symm.trans hs
      refine AW.iload (am_r 18 rfl) rfl rfl ?_
      refine AW.aload_n (z := 0) (am_r 19 rfl) rfl rfl ?_
      refine AW.getO (am_r 20 rfl) rfl klX6 (k := 0) (by omega) q387 xh_126 rfl ?_
      refine AW.alen (am_r 21 rfl) rfl rfl xh_127 cn_1001 ?_
      refine AW.icmp_ge (tg := 50) (am_r 22 rfl) rfl rfl (fun hc10 => ?_) (fun hc10 => ?_)
      · replace hs := (if_pos hc10).symm.trans hs
        refine AW.iinc (v := a.2.1 + (-1 : Int32)) (L' := [some (.ref (B + 126)), some (.ref ((B + 1))), some (.int (p2)), some (.int (p3)), some (.int (p4)), some (.long (r5)), none, some (.int (a.2.1 + (-1 : Int32)))]) (am_r 28 rfl) rfl (Nat.le_of_ble_eq_true rfl) rfl (congrArg (fun z => a.2.1 + z) ci_m1) rfl ?_
        refine olet_e (P := fun (y : Int32) => AW g MX6_leastBetween 53 [some (.ref (B + 126)), some (.ref ((B + 1))), some (.int (p2)), some (.int (p3)), some (.int (p4)), some (.long (r5)), none, some (.int (y))] [] (xh (bw h0 B a.2.2.1 a.2.2.2.2.1 a.2.2.2.2.2.2.2.2) B a.2.2.2.1 a.2.2.2.2.1 a.2.2.2.2.2.1 a.2.2.2.2.2.2.1 a.2.2.2.2.2.2.2.1) Q) hs (fun v11 hs => ?_)
        refine AW.goto (tg := 8) (am_r 29 rfl) rfl ?_
        have hr := (Option.some.inj hs).symm
        exact hc (r5, v11, a.2.2) hr 
      · replace hs := (if_neg hc10).symm.trans hs
        refine AW.aload_n (z := 0) (am_r 23 rfl) rfl rfl ?_
        refine AW.getO (am_r 24 rfl) rfl klX6 (k := 0) (by omega) q387 xh_126 rfl ?_
        refine AW.iload (am_r 25 rfl) rfl rfl ?_
        refine AW.lload (am_r 26 rfl) rfl rfl ?_
        refine AW.last (am_r 27 rfl) rfl xh_127 (Nat.le_trans hB (by omega)) (vp_mk hc8 (by decide) (vp_hi hc10)) ?_
        rw [show _ = _ from xhp_127]
        refine olet_e (P := fun y => AW g MX6_leastBetween 50 [some (.ref (B + 126)), some (.ref ((B + 1))), some (.int (p2)), some (.int (p3)), some (.int (p4)), some (.long (r5)), none, some (.int (a.2.1))] [] (xh (bw h0 B a.2.2.1 a.2.2.2.2.1 a.2.2.2.2.2.2.2.2) B y a.2.2.2.2.1 a.2.2.2.2.2.1 a.2.2.2.2.2.2.1 a.2.2.2.2.2.2.2.1) Q) hs (fun S12 hs => ?_)
        refine AW.iinc (v := a.2.1 + (-1 : Int32)) (L' := [some (.ref (B + 126)), some (.ref ((B + 1))), some (.int (p2)), some (.int (p3)), some (.int (p4)), some (.long (r5)), none, some (.int (a.2.1 + (-1 : Int32)))]) (am_r 28 rfl) rfl (Nat.le_of_ble_eq_true rfl) rfl (congrArg (fun z => a.2.1 + z) ci_m1) rfl ?_
        refine olet_e (P := fun (y : Int32) => AW g MX6_leastBetween 53 [some (.ref (B + 126)), some (.ref ((B + 1))), some (.int (p2)), some (.int (p3)), some (.int (p4)), some (.long (r5)), none, some (.int (y))] [] (xh (bw h0 B a.2.2.1 a.2.2.2.2.1 a.2.2.2.2.2.2.2.2) B S12 a.2.2.2.2.1 a.2.2.2.2.2.1 a.2.2.2.2.2.2.1 a.2.2.2.2.2.2.2.1) Q) hs (fun v13 hs => ?_)
        refine AW.goto (tg := 8) (am_r 29 rfl) rfl ?_
        have hr := (Option.some.inj hs).symm
        exact xt_c (S := (a.2.2.1, S12, a.2.2.2.2.1, a.2.2.2.2.2.1, a.2.2.2.2.2.2.1, a.2.2.2.2.2.2.2.1, a.2.2.2.2.2.2.2.2)) rfl (hc (r5, v13, (a.2.2.1, S12, a.2.2.2.2.1, a.2.2.2.2.2.1, a.2.2.2.2.2.2.1, a.2.2.2.2.2.2.2.1, a.2.2.2.2.2.2.2.2)) hr )
noncomputable def sX6_leastBetween (S : XT) (B : Nat) (p2 : Int32) (p3 : Int32) (p4 : Int32) : Option (Int64 × XT) :=
  olet (p3 - (1 : Int32)) fun v1 =>
  sX6_leastBetween_l8  B p2 p3 p4 ((0 : Int64), v1, S)
set_option maxRecDepth 100000 in
theorem dX6_leastBetween {g : AG} {h0 : AH} {S : XT} {Q : AO → AH → Prop} {B : Nat} {p2 : Int32} {p3 : Int32} {p4 : Int32} (hB : gB g ≤ B) (hst : Sta g h0)  {r : (Int64 × XT)} (hs : sX6_leastBetween S B p2 p3 p4 = some r) (hQ : Q (.ok (some (.long r.1))) (xh (bw h0 B r.2.1 r.2.2.2.1 r.2.2.2.2.2.2.2) B r.2.2.1 r.2.2.2.1 r.2.2.2.2.1 r.2.2.2.2.2.1 r.2.2.2.2.2.2.1)) : AW g MX6_leastBetween 0 [some (.ref (B + 126)), some (.ref ((B + 1))), some (.int (p2)), some (.int (p3)), some (.int (p4)), none, none, none] [] (xh (bw h0 B S.1 S.2.2.1 S.2.2.2.2.2.2) B S.2.1 S.2.2.1 S.2.2.2.1 S.2.2.2.2.1 S.2.2.2.2.2.1) Q := by
  unfold sX6_leastBetween at hs
  refine AW.lconst (z := 0) (am_r 0 rfl) rfl cl_0 ?_
  refine AW.lstore (L' := [some (.ref (B + 126)), some (.ref ((B + 1))), some (.int (p2)), some (.int (p3)), some (.int (p4)), some (.long ((0 : Int64))), none, none]) (am_r 1 rfl) rfl (Nat.le_of_ble_eq_true rfl) rfl ?_
  refine AW.iload_n (z := 3) (am_r 2 rfl) rfl rfl ?_
  refine AW.iconst (am_r 3 rfl) rfl ci_1 ?_
  refine AW.isub (am_r 4 rfl) rfl ?_
  refine olet_e (P := fun y => AW g MX6_leastBetween 6 [some (.ref (B + 126)), some (.ref ((B + 1))), some (.int (p2)), some (.int (p3)), some (.int (p4)), some (.long ((0 : Int64))), none, none] [(.int (y))] (xh (bw h0 B S.1 S.2.2.1 S.2.2.2.2.2.2) B S.2.1 S.2.2.1 S.2.2.2.1 S.2.2.2.2.1 S.2.2.2.2.2.1) Q) hs (fun v1 hs => ?_)
  refine AW.istore (L' := [some (.ref (B + 126)), some (.ref ((B + 1))), some (.int (p2)), some (.int (p3)), some (.int (p4)), some (.long ((0 : Int64))), none, some (.int (v1))]) (am_r 5 rfl) rfl (Nat.le_of_ble_eq_true rfl) rfl ?_
  exact dX6_leastBetween_l8 (a := ((0 : Int64), v1, S)) hB hst   hs hQ
noncomputable def sX9_appendInput (S : XT) (B : Nat) (p1 : Int32) (p2 : Int32) (p3 : Int32) (p4 : Int32) (p5 : Int32) : Option (Int32 × XT) :=
  if (sX8_hasRoomFor S.2.2.2.1 (20 : Int32)) = 0 then
    some (((-1 : Int32), S))
  else
    olet (sX8_addWord S.2.2.2.1 p1) fun S6 =>
    olet (sX8_addWord S6 p2) fun S9 =>
    olet (sX8_addWord S9 p3) fun S12 =>
    olet (sX8_addWord S12 p4) fun S15 =>
    olet (sX8_addWord S15 p5) fun S18 =>
    some ((gi S18 1 1 0, (S.1, S.2.1, S.2.2.1, S18, S.2.2.2.2.1, S.2.2.2.2.2.1, S.2.2.2.2.2.2)))
set_option maxRecDepth 100000 in
theorem dX9_appendInput {g : AG} {h0 : AH} {S : XT} {Q : AO → AH → Prop} {B : Nat} {p1 : Int32} {p2 : Int32} {p3 : Int32} {p4 : Int32} {p5 : Int32} (hB : gB g ≤ B) (hst : Sta g h0)  {r : (Int32 × XT)} (hs : sX9_appendInput S B p1 p2 p3 p4 p5 = some r) (hQ : Q (.ok (some (.int r.1))) (xh (bw h0 B r.2.1 r.2.2.2.1 r.2.2.2.2.2.2.2) B r.2.2.1 r.2.2.2.1 r.2.2.2.2.1 r.2.2.2.2.2.1 r.2.2.2.2.2.2.1)) : AW g MX9_appendInput 0 [some (.ref (B)), some (.int (p1)), some (.int (p2)), some (.int (p3)), some (.int (p4)), some (.int (p5)), none] [] (xh (bw h0 B S.1 S.2.2.1 S.2.2.2.2.2.2) B S.2.1 S.2.2.1 S.2.2.2.1 S.2.2.2.2.1 S.2.2.2.2.2.1) Q := by
  unfold sX9_appendInput at hs
  refine AW.aload_n (z := 0) (am_r 0 rfl) rfl rfl ?_
  refine AW.getO (am_r 1 rfl) rfl klX9 (k := 5) (by omega) q397 xh_0 rfl ?_
  refine AW.getO (am_r 2 rfl) rfl klX4 (k := 0) (by omega) q353 (xr_get (fun _ => rb_0)) rfl ?_
  refine AW.astore (L' := [some (.ref (B)), some (.int (p1)), some (.int (p2)), some (.int (p3)), some (.int (p4)), some (.int (p5)), some (.ref ((B + 121) + 1))]) (am_r 3 rfl) rfl (Nat.le_of_ble_eq_true rfl) rfl ?_
  refine AW.aload (am_r 4 rfl) rfl rfl ?_
  refine AW.bipush (am_r 5 rfl) rfl cb_20 ?_
  refine AW.callV (N := MX8_hasRoomFor) (As := [.int ((20 : Int32))]) (S := []) (L0 := [some (.ref ((B + 121) + 1)), some (.int ((20 : Int32)))]) (b := (B + 121) + 1) (am_r 6 rfl) rfl ovX8_hasRoomFor q424 rfl rfl (xr_get (fun _ => rb_1)) rfl rfl rfl rfl (AW.heq xh_r (dX8_hasRoomFor (Nat.le_trans hB (by omega)) (Sta.blk (Sta.blk (Sta.blk (sta_bw hst hB) hB) (Nat.le_trans hB (by omega))) (Nat.le_trans hB (by omega)))  rfl (fun hok2 => (cQ_r (AW.heq xh_r.symm ?_)))))
  refine AW.if_ne (tg := 21) (am_r 7 rfl) rfl rfl (fun hc3 => ?_) (fun hc3 => ?_)
  · replace hs := (if_neg hc3).symm.trans hs
    refine AW.aload (am_r 10 rfl) rfl rfl ?_
    refine AW.iload_n (z := 1) (am_r 11 rfl) rfl rfl ?_
    refine AW.callV (N := MX8_addWord) (As := [.int (p1)]) (S := []) (L0 := [some (.ref ((B + 121) + 1)), some (.int (p1))]) (b := (B + 121) + 1) (am_r 12 rfl) rfl ovX8_addWord q428 rfl rfl (xr_get (fun _ => rb_1)) rfl rfl rfl rfl (AW.heq xh_r (dX8_addWord (Nat.le_trans hB (by omega)) (Sta.blk (Sta.blk (Sta.blk (sta_bw hst hB) hB) (Nat.le_trans hB (by omega))) (Nat.le_trans hB (by omega)))  rfl (cQ_v (AW.heq xh_r.symm ?_))))
    refine olet_e (P := fun (y : Mem) => AW g MX9_appendInput 27 [some (.ref (B)), some (.int (p1)), some (.int (p2)), some (.int (p3)), some (.int (p4)), some (.int (p5)), some (.ref ((B + 121) + 1))] [] (xh (bw h0 B S.1 S.2.2.1 S.2.2.2.2.2.2) B S.2.1 S.2.2.1 y S.2.2.2.2.1 S.2.2.2.2.2.1) Q) hs (fun S6 hs => ?_)
    refine AW.aload (am_r 13 rfl) rfl rfl ?_
    refine AW.iload_n (z := 2) (am_r 14 rfl) rfl rfl ?_
    refine AW.callV (N := MX8_addWord) (As := [.int (p2)]) (S := []) (L0 := [some (.ref ((B + 121) + 1)), some (.int (p2))]) (b := (B + 121) + 1) (am_r 15 rfl) rfl ovX8_addWord q428 rfl rfl (xr_get (fun _ => rb_1)) rfl rfl rfl rfl (AW.heq xh_r (dX8_addWord (Nat.le_trans hB (by omega)) (Sta.blk (Sta.blk (Sta.blk (sta_bw hst hB) hB) (Nat.le_trans hB (by omega))) (Nat.le_trans hB (by omega)))  rfl (cQ_v (AW.heq xh_r.symm ?_))))
    refine olet_e (P := fun (y : Mem) => AW g MX9_appendInput 33 [some (.ref (B)), some (.int (p1)), some (.int (p2)), some (.int (p3)), some (.int (p4)), some (.int (p5)), some (.ref ((B + 121) + 1))] [] (xh (bw h0 B S.1 S.2.2.1 S.2.2.2.2.2.2) B S.2.1 S.2.2.1 y S.2.2.2.2.1 S.2.2.2.2.2.1) Q) hs (fun S9 hs => ?_)
    refine AW.aload (am_r 16 rfl) rfl rfl ?_
    refine AW.iload_n (z := 3) (am_r 17 rfl) rfl rfl ?_
    refine AW.callV (N := MX8_addWord) (As := [.int (p3)]) (S := []) (L0 := [some (.ref ((B + 121) + 1)), some (.int (p3))]) (b := (B + 121) + 1) (am_r 18 rfl) rfl ovX8_addWord q428 rfl rfl (xr_get (fun _ => rb_1)) rfl rfl rfl rfl (AW.heq xh_r (dX8_addWord (Nat.le_trans hB (by omega)) (Sta.blk (Sta.blk (Sta.blk (sta_bw hst hB) hB) (Nat.le_trans hB (by omega))) (Nat.le_trans hB (by omega)))  rfl (cQ_v (AW.heq xh_r.symm ?_))))
    refine olet_e (P := fun (y : Mem) => AW g MX9_appendInput 39 [some (.ref (B)), some (.int (p1)), some (.int (p2)), some (.int (p3)), some (.int (p4)), some (.int (p5)), some (.ref ((B + 121) + 1))] [] (xh (bw h0 B S.1 S.2.2.1 S.2.2.2.2.2.2) B S.2.1 S.2.2.1 y S.2.2.2.2.1 S.2.2.2.2.2.1) Q) hs (fun S12 hs => ?_)
    refine AW.aload (am_r 19 rfl) rfl rfl ?_
    refine AW.iload (am_r 20 rfl) rfl rfl ?_
    refine AW.callV (N := MX8_addWord) (As := [.int (p4)]) (S := []) (L0 := [some (.ref ((B + 121) + 1)), some (.int (p4))]) (b := (B + 121) + 1) (am_r 21 rfl) rfl ovX8_addWord q428 rfl rfl (xr_get (fun _ => rb_1)) rfl rfl rfl rfl (AW.heq xh_r (dX8_addWord (Nat.le_trans hB (by omega)) (Sta.blk (Sta.blk (Sta.blk (sta_bw hst hB) hB) (Nat.le_trans hB (by omega))) (Nat.le_trans hB (by omega)))  rfl (cQ_v (AW.heq xh_r.symm ?_))))
    refine olet_e (P := fun (y : Mem) => AW g MX9_appendInput 46 [some (.ref (B)), some (.int (p1)), some (.int (p2)), some (.int (p3)), some (.int (p4)), some (.int (p5)), some (.ref ((B + 121) + 1))] [] (xh (bw h0 B S.1 S.2.2.1 S.2.2.2.2.2.2) B S.2.1 S.2.2.1 y S.2.2.2.2.1 S.2.2.2.2.2.1) Q) hs (fun S15 hs => ?_)
    refine AW.aload (am_r 22 rfl) rfl rfl ?_
    refine AW.iload (am_r 23 rfl) rfl rfl ?_
    refine AW.callV (N := MX8_addWord) (As := [.int (p5)]) (S := []) (L0 := [some (.ref ((B + 121) + 1)), some (.int (p5))]) (b := (B + 121) + 1) (am_r 24 rfl) rfl ovX8_addWord q428 rfl rfl (xr_get (fun _ => rb_1)) rfl rfl rfl rfl (AW.heq xh_r (dX8_addWord (Nat.le_trans hB (by omega)) (Sta.blk (Sta.blk (Sta.blk (sta_bw hst hB) hB) (Nat.le_trans hB (by omega))) (Nat.le_trans hB (by omega)))  rfl (cQ_v (AW.heq xh_r.symm ?_))))
    refine olet_e (P := fun (y : Mem) => AW g MX9_appendInput 53 [some (.ref (B)), some (.int (p1)), some (.int (p2)), some (.int (p3)), some (.int (p4)), some (.int (p5)), some (.ref ((B + 121) + 1))] [] (xh (bw h0 B S.1 S.2.2.1 S.2.2.2.2.2.2) B S.2.1 S.2.2.1 y S.2.2.2.2.1 S.2.2.2.2.2.1) Q) hs (fun S18 hs => ?_)
    refine AW.aload (am_r 25 rfl) rfl rfl ?_
    refine AW.getO (am_r 26 rfl) rfl klX8 (k := 1) (by omega) q326 (xr_get (fun _ => rb_1)) rfl ?_
    have hr := (Option.some.inj hs).symm
    exact AW.iret (am_r 27 rfl) rfl (xt_q1 (f := fun v => .ok (some (.int v))) hr hQ)
  · replace hs := (if_pos hc3).symm.trans hs
    refine AW.iconst (am_r 8 rfl) rfl ci_m1 ?_
    have hr := (Option.some.inj hs).symm
    exact AW.iret (am_r 9 rfl) rfl (xt_q1 (f := fun v => .ok (some (.int v))) hr hQ)
noncomputable def sX9_truncateInput (S : XT) (B : Nat) (p1 : Int32) : Option (Int32 × XT) :=
  if p1 < 0 then
    some (((-1 : Int32), S))
  else
    if p1 ≤ (gi S.2.2.2.1 1 1 0) then
      olet (si S.2.2.2.1 1 1 0 (p1)) fun S3 =>
      some ((p1, (S.1, S.2.1, S.2.2.1, S3, S.2.2.2.2.1, S.2.2.2.2.2.1, S.2.2.2.2.2.2)))
    else
      some (((-1 : Int32), S))
set_option maxRecDepth 100000 in
theorem dX9_truncateInput {g : AG} {h0 : AH} {S : XT} {Q : AO → AH → Prop} {B : Nat} {p1 : Int32} (hB : gB g ≤ B) (hst : Sta g h0)  {r : (Int32 × XT)} (hs : sX9_truncateInput S B p1 = some r) (hQ : Q (.ok (some (.int r.1))) (xh (bw h0 B r.2.1 r.2.2.2.1 r.2.2.2.2.2.2.2) B r.2.2.1 r.2.2.2.1 r.2.2.2.2.1 r.2.2.2.2.2.1 r.2.2.2.2.2.2.1)) : AW g MX9_truncateInput 0 [some (.ref (B)), some (.int (p1)), none] [] (xh (bw h0 B S.1 S.2.2.1 S.2.2.2.2.2.2) B S.2.1 S.2.2.1 S.2.2.2.1 S.2.2.2.2.1 S.2.2.2.2.2.1) Q := by
  unfold sX9_truncateInput at hs
  refine AW.aload_n (z := 0) (am_r 0 rfl) rfl rfl ?_
  refine AW.getO (am_r 1 rfl) rfl klX9 (k := 5) (by omega) q397 xh_0 rfl ?_
  refine AW.getO (am_r 2 rfl) rfl klX4 (k := 0) (by omega) q353 (xr_get (fun _ => rb_0)) rfl ?_
  refine AW.astore_n (L' := [some (.ref (B)), some (.int (p1)), some (.ref ((B + 121) + 1))]) (z := 2) (am_r 3 rfl) rfl (Nat.le_of_ble_eq_true rfl) rfl ?_
  refine AW.iload_n (z := 1) (am_r 4 rfl) rfl rfl ?_
  refine AW.if_lt (tg := 20) (am_r 5 rfl) rfl rfl (fun hc1 => ?_) (fun hc1 => ?_)
  · replace hs := (if_pos hc1).symm.trans hs
    refine AW.iconst (am_r 10 rfl) rfl ci_m1 ?_
    have hr := (Option.some.inj hs).symm
    exact AW.iret (am_r 11 rfl) rfl (xt_q1 (f := fun v => .ok (some (.int v))) hr hQ)
  · replace hs := (if_neg hc1).symm.trans hs
    refine AW.iload_n (z := 1) (am_r 6 rfl) rfl rfl ?_
    refine AW.aload_n (z := 2) (am_r 7 rfl) rfl rfl ?_
    refine AW.getO (am_r 8 rfl) rfl klX8 (k := 1) (by omega) q326 (xr_get (fun _ => rb_1)) rfl ?_
    refine AW.icmp_le (tg := 22) (am_r 9 rfl) rfl rfl (fun hc2 => ?_) (fun hc2 => ?_)
    · replace hs := (if_pos hc2).symm.trans hs
      refine AW.aload_n (z := 2) (am_r 12 rfl) rfl rfl ?_
      refine AW.iload_n (z := 1) (am_r 13 rfl) rfl rfl ?_
      refine AW.putO (am_r 14 rfl) rfl klX8 (k := 1) (by omega) q326 (Or.inl rfl) (xr_get (fun _ => rb_1)) (Nat.le_trans hB (by omega)) rfl rfl (xr_put (fun _ => (rbp_1 (by decide)))) ?_
      refine olet_e (P := fun y => AW g MX9_truncateInput 27 [some (.ref (B)), some (.int (p1)), some (.ref ((B + 121) + 1))] [] (xh (bw h0 B S.1 S.2.2.1 S.2.2.2.2.2.2) B S.2.1 S.2.2.1 y S.2.2.2.2.1 S.2.2.2.2.2.1) Q) hs (fun S3 hs => ?_)
      refine AW.iload_n (z := 1) (am_r 15 rfl) rfl rfl ?_
      have hr := (Option.some.inj hs).symm
      exact AW.iret (am_r 16 rfl) rfl (xt_q1 (f := fun v => .ok (some (.int v))) hr hQ)
    · replace hs := (if_neg hc2).symm.trans hs
      refine AW.iconst (am_r 10 rfl) rfl ci_m1 ?_
      have hr := (Option.some.inj hs).symm
      exact AW.iret (am_r 11 rfl) rfl (xt_q1 (f := fun v => .ok (some (.int v))) hr hQ)
noncomputable def sX9_load_l37_step  (B : Nat) (a : (Int32 × XT)) : Option ((Int32 × XT) ⊕ (Int32 × XT)) :=
  if (2 : Int32) ≤ a.1 then
    oinr (
    some ((gi a.2.2.2.2.2.2.1 0 9 0, a.2)))
  else
    oif (inb a.1 2) (
    olet (si a.2.2.1 2 a.1.toNatClampNeg 0 ((0 : Int32))) fun S15 =>
    olet (a.1 + (1 : Int32)) fun v16 =>
    some (.inl (v16, (a.2.1, S15, a.2.2.2.1, a.2.2.2.2.1, a.2.2.2.2.2.1, a.2.2.2.2.2.2.1, a.2.2.2.2.2.2.2))))
noncomputable def sX9_load_l37  (B : Nat) (a : (Int32 × XT)) : Option (Int32 × XT) := itw (sX9_load_l37_step  B) a
set_option maxRecDepth 100000 in
theorem dX9_load_l37 {g : AG} {h0 : AH} {Q : AO → AH → Prop} {B : Nat} (hB : gB g ≤ B) (hst : Sta g h0)  {a : (Int32 × XT)}  {r : (Int32 × XT)} (hs : sX9_load_l37  B a = some r) (hQ : Q (.ok (some (.int r.1))) (xh (bw h0 B r.2.1 r.2.2.2.1 r.2.2.2.2.2.2.2) B r.2.2.1 r.2.2.2.1 r.2.2.2.2.1 r.2.2.2.2.2.1 r.2.2.2.2.2.2.1)) : AW g MX9_load 37 [some (.ref (B)), some (.int (a.1))] [] (xh (bw h0 B a.2.1 a.2.2.2.1 a.2.2.2.2.2.2.2) B a.2.2.1 a.2.2.2.1 a.2.2.2.2.1 a.2.2.2.2.2.1 a.2.2.2.2.2.2.1) Q := by
  refine itw_e (a := a) (b := r) (P := fun (a : (Int32 × XT)) => AW g MX9_load 37 [some (.ref (B)), some (.int (a.1))] [] (xh (bw h0 B a.2.1 a.2.2.2.1 a.2.2.2.2.2.2.2) B a.2.2.1 a.2.2.2.1 a.2.2.2.2.1 a.2.2.2.2.2.1 a.2.2.2.2.2.2.1) Q) (Post := fun r => Q (.ok (some (.int r.1))) (xh (bw h0 B r.2.1 r.2.2.2.1 r.2.2.2.2.2.2.2) B r.2.2.1 r.2.2.2.1 r.2.2.2.2.1 r.2.2.2.2.2.1 r.2.2.2.2.2.2.1)) (fun a r hs hc he  => ?_) hs hQ 
  unfold sX9_load_l37_step at hs
  refine AW.iload_n (z := 1) (am_r 18 rfl) rfl rfl ?_
  refine AW.aload_n (z := 0) (am_r 19 rfl) rfl rfl ?_
  refine AW.getO (am_r 20 rfl) rfl klX9 (k := 4) (by omega) q396 xh_0 rfl ?_
  refine AW.alen (am_r 21 rfl) rfl rfl xh_120 cn_2 ?_
  refine AW.icmp_ge (tg := 59) (am_r 22 rfl) rfl rfl (fun hc11 => ?_) (fun hc11 => ?_)
  · replace hs := (if_pos hc11).symm.trans hs
    refine oinr_e hs (fun z12 hz13 hs => ?_)
    have hQ := he _ hz13
    refine AW.aload_n (z := 0) (am_r 30 rfl) rfl rfl ?_
    refine AW.getO (am_r 31 rfl) rfl klX9 (k := 0) (by omega) q392 xh_0 rfl ?_
    refine AW.getO (am_r 32 rfl) rfl klX7 (k := 9) (by omega) q244 (xl_get (fun _ => sb_st)) rfl ?_
    have hr := (Option.some.inj hs).symm
    exact AW.iret (am_r 33 rfl) rfl (xt_q1 (f := fun v => .ok (some (.int v))) hr hQ)
  · replace hs := (if_neg hc11).symm.trans hs
    refine AW.aload_n (z := 0) (am_r 23 rfl) rfl rfl ?_
    refine AW.getO (am_r 24 rfl) rfl klX9 (k := 4) (by omega) q396 xh_0 rfl ?_
    refine AW.iload_n (z := 1) (am_r 25 rfl) rfl rfl ?_
    refine AW.iconst (am_r 26 rfl) rfl ci_0 ?_
    refine oif_g hs (fun hg14 hs => ?_)
    refine AW.zast (am_r 27 rfl) rfl xh_120 (Nat.le_trans hB (by omega)) (vp_of_inb hg14) (nar_b (Or.inl rfl)) ?_
    rw [show _ = _ from xhp_120]
    refine olet_e (P := fun y => AW g MX9_load 53 [some (.ref (B)), some (.int (a.1))] [] (xh (bw h0 B a.2.1 a.2.2.2.1 a.2.2.2.2.2.2.2) B y a.2.2.2.1 a.2.2.2.2.1 a.2.2.2.2.2.1 a.2.2.2.2.2.2.1) Q) hs (fun S15 hs => ?_)
    refine AW.iinc (v := a.1 + (1 : Int32)) (L' := [some (.ref (B)), some (.int (a.1 + (1 : Int32)))]) (am_r 28 rfl) rfl (Nat.le_of_ble_eq_true rfl) rfl (congrArg (fun z => a.1 + z) ci_1) rfl ?_
    refine olet_e (P := fun (y : Int32) => AW g MX9_load 56 [some (.ref (B)), some (.int (y))] [] (xh (bw h0 B a.2.1 a.2.2.2.1 a.2.2.2.2.2.2.2) B S15 a.2.2.2.1 a.2.2.2.2.1 a.2.2.2.2.2.1 a.2.2.2.2.2.2.1) Q) hs (fun v16 hs => ?_)
    refine AW.goto (tg := 37) (am_r 29 rfl) rfl ?_
    have hr := (Option.some.inj hs).symm
    exact xt_c (S := (a.2.1, S15, a.2.2.2.1, a.2.2.2.2.1, a.2.2.2.2.2.1, a.2.2.2.2.2.2.1, a.2.2.2.2.2.2.2)) rfl (hc (v16, (a.2.1, S15, a.2.2.2.1, a.2.2.2.2.1, a.2.2.2.2.2.1, a.2.2.2.2.2.2.1, a.2.2.2.2.2.2.2)) hr )
noncomputable def sX9_load (S : XT) (B : Nat) : Option (Int32 × XT) :=
  obind (sX4_readStudio (S.2.2.2.1, S.2.2.2.2.1) ) fun r1 =>
  if r1.1 = 0 then
    some (((-3 : Int32), (S.1, S.2.1, S.2.2.1, r1.2.1, r1.2.2, S.2.2.2.2.2.1, S.2.2.2.2.2.2)))
  else
    obind (sX7_copyFrom S.2.2.2.2.2.1 r1.2.2) fun r5 =>
    obind (sX1_forget (S.1, S.2.1, S.2.2.1, r1.2.1, r1.2.2, r5, S.2.2.2.2.2.2) B) fun r8 =>
    sX9_load_l37  B ((0 : Int32), r8)
set_option maxRecDepth 100000 in
theorem dX9_load {g : AG} {h0 : AH} {S : XT} {Q : AO → AH → Prop} {B : Nat} (hB : gB g ≤ B) (hst : Sta g h0)  {r : (Int32 × XT)} (hs : sX9_load S B = some r) (hQ : Q (.ok (some (.int r.1))) (xh (bw h0 B r.2.1 r.2.2.2.1 r.2.2.2.2.2.2.2) B r.2.2.1 r.2.2.2.1 r.2.2.2.2.1 r.2.2.2.2.2.1 r.2.2.2.2.2.2.1)) : AW g MX9_load 0 [some (.ref (B)), none] [] (xh (bw h0 B S.1 S.2.2.1 S.2.2.2.2.2.2) B S.2.1 S.2.2.1 S.2.2.2.1 S.2.2.2.2.1 S.2.2.2.2.2.1) Q := by
  unfold sX9_load at hs
  refine AW.aload_n (z := 0) (am_r 0 rfl) rfl rfl ?_
  refine AW.getO (am_r 1 rfl) rfl klX9 (k := 5) (by omega) q397 xh_0 rfl ?_
  refine AW.aload_n (z := 0) (am_r 2 rfl) rfl rfl ?_
  refine AW.getO (am_r 3 rfl) rfl klX9 (k := 1) (by omega) q393 xh_0 rfl ?_
  refine obind_e hs (fun r1 hg3 hs => ?_)
  refine AW.callV (N := MX4_readStudio) (As := [.ref ((B + 59))]) (S := []) (L0 := [some (.ref ((B + 121))), some (.ref ((B + 59))), none, none]) (b := (B + 121)) (am_r 4 rfl) rfl ovX4_readStudio q444 rfl rfl (xr_get (fun _ => rb_0)) rfl rfl rfl rfl (AW.heq xh_rc (rt_c (S := (S.2.2.2.1, S.2.2.2.2.1)) rfl (dX4_readStudio (S := (S.2.2.2.1, S.2.2.2.2.1)) (Nat.le_trans hB (by omega)) (Nat.le_trans hB (by omega)) (by omega) (Sta.blk (Sta.blk (sta_bw hst hB) hB) (Nat.le_trans hB (by omega)))  hg3 (fun hok2 => (cQ_r (AW.heq xh_rc.symm ?_))))))
  refine AW.if_ne (tg := 17) (am_r 5 rfl) rfl rfl (fun hc4 => ?_) (fun hc4 => ?_)
  · replace hs := (if_neg hc4).symm.trans hs
    refine AW.aload_n (z := 0) (am_r 8 rfl) rfl rfl ?_
    refine AW.getO (am_r 9 rfl) rfl klX9 (k := 0) (by omega) q392 xh_0 rfl ?_
    refine AW.aload_n (z := 0) (am_r 10 rfl) rfl rfl ?_
    refine AW.getO (am_r 11 rfl) rfl klX9 (k := 1) (by omega) q393 xh_0 rfl ?_
    refine obind_e hs (fun r5 hg7 hs => ?_)
    refine AW.callV (N := MX7_copyFrom) (As := [.ref ((B + 59))]) (S := []) (L0 := [some (.ref ((B + 1))), some (.ref ((B + 59))), none]) (b := (B + 1)) (am_r 12 rfl) rfl ovX7_copyFrom q632 rfl rfl (xl_get (fun _ => sb_st)) rfl rfl rfl rfl (AW.heq xh_l (dX7_copyFrom (Nat.le_trans hB (by omega)) (Nat.le_trans hB (by omega)) (by omega)  hg7 (cQ_v (AW.heq xh_l.symm ?_))))
    refine AW.aload_n (z := 0) (am_r 13 rfl) rfl rfl ?_
    refine AW.getO (am_r 14 rfl) rfl klX9 (k := 2) (by omega) q394 xh_0 rfl ?_
    refine obind_e hs (fun r8 hg10 hs => ?_)
    refine AW.callV (N := MX1_forget) (As := []) (S := []) (L0 := [some (.ref (B + 117))]) (b := B + 117) (am_r 15 rfl) rfl ovX1_forget q660 rfl rfl xh_117 rfl rfl rfl rfl (xt_c (S := (S.1, S.2.1, S.2.2.1, r1.2.1, r1.2.2, r5, S.2.2.2.2.2.2)) rfl ((dX1_forget (S := (S.1, S.2.1, S.2.2.1, r1.2.1, r1.2.2, r5, S.2.2.2.2.2.2)) hB hst  hg10 (cQ_v ?_))))
    refine AW.iconst (am_r 16 rfl) rfl ci_0 ?_
    refine AW.istore_n (L' := [some (.ref (B)), some (.int ((0 : Int32)))]) (z := 1) (am_r 17 rfl) rfl (Nat.le_of_ble_eq_true rfl) rfl ?_
    exact dX9_load_l37 (a := ((0 : Int32), r8)) hB hst   hs hQ
  · replace hs := (if_pos hc4).symm.trans hs
    refine AW.bipush (am_r 6 rfl) rfl cb_m3 ?_
    have hr := (Option.some.inj hs).symm
    exact AW.iret (am_r 7 rfl) rfl (xt_q1 (f := fun v => .ok (some (.int v))) hr hQ)
noncomputable def sX9_errorCode (S : XT) (B : Nat) : Option Int32 :=
  some (gi S.2.2.2.1 0 4 0)
set_option maxRecDepth 100000 in
theorem dX9_errorCode {g : AG} {h0 : AH} {S : XT} {Q : AO → AH → Prop} {B : Nat} (hB : gB g ≤ B) (hst : Sta g h0)  {r : Int32} (hs : sX9_errorCode S B = some r) (hQ : Q (.ok (some (.int r))) (xh (bw h0 B S.1 S.2.2.1 S.2.2.2.2.2.2) B S.2.1 S.2.2.1 S.2.2.2.1 S.2.2.2.2.1 S.2.2.2.2.2.1)) : AW g MX9_errorCode 0 [some (.ref (B))] [] (xh (bw h0 B S.1 S.2.2.1 S.2.2.2.2.2.2) B S.2.1 S.2.2.1 S.2.2.2.1 S.2.2.2.2.1 S.2.2.2.2.2.1) Q := by
  unfold sX9_errorCode at hs
  refine AW.aload_n (z := 0) (am_r 0 rfl) rfl rfl ?_
  refine AW.getO (am_r 1 rfl) rfl klX9 (k := 5) (by omega) q397 xh_0 rfl ?_
  refine AW.getO (am_r 2 rfl) rfl klX4 (k := 4) (by omega) q358 (xr_get (fun _ => rb_0)) rfl ?_
  have hr := (Option.some.inj hs).symm
  subst hr
  exact AW.iret (am_r 3 rfl) rfl hQ
noncomputable def sX9_errorPosition (S : XT) (B : Nat) : Option Int32 :=
  some (gi S.2.2.2.1 0 5 0)
set_option maxRecDepth 100000 in
theorem dX9_errorPosition {g : AG} {h0 : AH} {S : XT} {Q : AO → AH → Prop} {B : Nat} (hB : gB g ≤ B) (hst : Sta g h0)  {r : Int32} (hs : sX9_errorPosition S B = some r) (hQ : Q (.ok (some (.int r))) (xh (bw h0 B S.1 S.2.2.1 S.2.2.2.2.2.2) B S.2.1 S.2.2.1 S.2.2.2.1 S.2.2.2.2.1 S.2.2.2.2.2.1)) : AW g MX9_errorPosition 0 [some (.ref (B))] [] (xh (bw h0 B S.1 S.2.2.1 S.2.2.2.2.2.2) B S.2.1 S.2.2.1 S.2.2.2.1 S.2.2.2.2.1 S.2.2.2.2.2.1) Q := by
  unfold sX9_errorPosition at hs
  refine AW.aload_n (z := 0) (am_r 0 rfl) rfl rfl ?_
  refine AW.getO (am_r 1 rfl) rfl klX9 (k := 5) (by omega) q397 xh_0 rfl ?_
  refine AW.getO (am_r 2 rfl) rfl klX4 (k := 5) (by omega) q361 (xr_get (fun _ => rb_0)) rfl ?_
  have hr := (Option.some.inj hs).symm
  subst hr
  exact AW.iret (am_r 3 rfl) rfl hQ
noncomputable def sX9_count (S : XT) (B : Nat) (p1 : Int32) : Option Int32 :=
  if p1 = (0 : Int32) then
    some (gi S.2.2.2.2.2.1 0 10 0)
  else
  if p1 = (1 : Int32) then
    some (gi S.2.2.2.2.2.1 0 7 0)
  else
  if p1 = (2 : Int32) then
    some (gi S.2.2.2.2.2.1 0 8 0)
  else
  if p1 = (3 : Int32) then
    some (gi S.2.2.2.2.2.1 0 9 0)
  else
  if p1 = (4 : Int32) then
    some (gi S.2.2.2.2.2.1 0 12 0)
  else
  if p1 = (5 : Int32) then
    some (gi S.2.2.2.2.2.1 0 11 0)
  else
  if p1 = (6 : Int32) then
    obind (sX7_freeBenches S.2.2.2.2.2.1 ) fun r8 =>
    some (r8)
  else
  if p1 = (7 : Int32) then
    obind (sX7_freePresses S.2.2.2.2.2.1 ) fun r12 =>
    some (r12)
  else
  if p1 = (8 : Int32) then
    some (gi S.2.2.2.2.2.1 5 2 0)
  else
  if p1 = (9 : Int32) then
    some (gi S.2.2.2.2.2.1 0 13 0)
  else
  if p1 = (10 : Int32) then
    some (gi S.2.2.2.2.2.1 0 14 0)
  else
  if p1 = (11 : Int32) then
    some (gi S.2.2.2.2.2.1 0 15 0)
  else
  if p1 = (12 : Int32) then
    some (gi S.2.1 1 2 0)
  else
  some ((-1 : Int32))
set_option maxRecDepth 100000 in
theorem dX9_count {g : AG} {h0 : AH} {S : XT} {Q : AO → AH → Prop} {B : Nat} {p1 : Int32} (hB : gB g ≤ B) (hst : Sta g h0)  {r : Int32} (hs : sX9_count S B p1 = some r) (hQ : Q (.ok (some (.int r))) (xh (bw h0 B S.1 S.2.2.1 S.2.2.2.2.2.2) B S.2.1 S.2.2.1 S.2.2.2.1 S.2.2.2.2.1 S.2.2.2.2.2.1)) : AW g MX9_count 0 [some (.ref (B)), some (.int (p1))] [] (xh (bw h0 B S.1 S.2.2.1 S.2.2.2.2.2.2) B S.2.1 S.2.2.1 S.2.2.2.1 S.2.2.2.2.1 S.2.2.2.2.2.1) Q := by
  unfold sX9_count at hs
  refine AW.iload_n (z := 1) (am_r 0 rfl) rfl rfl ?_
  by_cases hw1 : p1 = (0 : Int32)
  · replace hs := (if_pos hw1).symm.trans hs
    refine AW.tabsw_at (tg := 68) (i := 0) (am_r 1 rfl) hw1 rfl rfl rfl (by decide) ?_
    refine AW.aload_n (z := 0) (am_r 2 rfl) rfl rfl ?_
    refine AW.getO (am_r 3 rfl) rfl klX9 (k := 0) (by omega) q392 xh_0 rfl ?_
    refine AW.getO (am_r 4 rfl) rfl klX7 (k := 10) (by omega) q247 (xl_get (fun _ => sb_st)) rfl ?_
    have hr := (Option.some.inj hs).symm
    subst hr
    exact AW.iret (am_r 5 rfl) rfl hQ
  replace hs := (if_neg hw1).symm.trans hs
  by_cases hw2 : p1 = (1 : Int32)
  · replace hs := (if_pos hw2).symm.trans hs
    refine AW.tabsw_at (tg := 76) (i := 1) (am_r 1 rfl) hw2 rfl rfl rfl (by decide) ?_
    refine AW.aload_n (z := 0) (am_r 6 rfl) rfl rfl ?_
    refine AW.getO (am_r 7 rfl) rfl klX9 (k := 0) (by omega) q392 xh_0 rfl ?_
    refine AW.getO (am_r 8 rfl) rfl klX7 (k := 7) (by omega) q238 (xl_get (fun _ => sb_st)) rfl ?_
    have hr := (Option.some.inj hs).symm
    subst hr
    exact AW.iret (am_r 9 rfl) rfl hQ
  replace hs := (if_neg hw2).symm.trans hs
  by_cases hw3 : p1 = (2 : Int32)
  · replace hs := (if_pos hw3).symm.trans hs
    refine AW.tabsw_at (tg := 84) (i := 2) (am_r 1 rfl) hw3 rfl rfl rfl (by decide) ?_
    refine AW.aload_n (z := 0) (am_r 10 rfl) rfl rfl ?_
    refine AW.getO (am_r 11 rfl) rfl klX9 (k := 0) (by omega) q392 xh_0 rfl ?_
    refine AW.getO (am_r 12 rfl) rfl klX7 (k := 8) (by omega) q242 (xl_get (fun _ => sb_st)) rfl ?_
    have hr := (Option.some.inj hs).symm
    subst hr
    exact AW.iret (am_r 13 rfl) rfl hQ
  replace hs := (if_neg hw3).symm.trans hs
  by_cases hw4 : p1 = (3 : Int32)
  · replace hs := (if_pos hw4).symm.trans hs
    refine AW.tabsw_at (tg := 92) (i := 3) (am_r 1 rfl) hw4 rfl rfl rfl (by decide) ?_
    refine AW.aload_n (z := 0) (am_r 14 rfl) rfl rfl ?_
    refine AW.getO (am_r 15 rfl) rfl klX9 (k := 0) (by omega) q392 xh_0 rfl ?_
    refine AW.getO (am_r 16 rfl) rfl klX7 (k := 9) (by omega) q244 (xl_get (fun _ => sb_st)) rfl ?_
    have hr := (Option.some.inj hs).symm
    subst hr
    exact AW.iret (am_r 17 rfl) rfl hQ
  replace hs := (if_neg hw4).symm.trans hs
  by_cases hw5 : p1 = (4 : Int32)
  · replace hs := (if_pos hw5).symm.trans hs
    refine AW.tabsw_at (tg := 100) (i := 4) (am_r 1 rfl) hw5 rfl rfl rfl (by decide) ?_
    refine AW.aload_n (z := 0) (am_r 18 rfl) rfl rfl ?_
    refine AW.getO (am_r 19 rfl) rfl klX9 (k := 0) (by omega) q392 xh_0 rfl ?_
    refine AW.getO (am_r 20 rfl) rfl klX7 (k := 12) (by omega) q253 (xl_get (fun _ => sb_st)) rfl ?_
    have hr := (Option.some.inj hs).symm
    subst hr
    exact AW.iret (am_r 21 rfl) rfl hQ
  replace hs := (if_neg hw5).symm.trans hs
  by_cases hw6 : p1 = (5 : Int32)
  · replace hs := (if_pos hw6).symm.trans hs
    refine AW.tabsw_at (tg := 108) (i := 5) (am_r 1 rfl) hw6 rfl rfl rfl (by decide) ?_
    refine AW.aload_n (z := 0) (am_r 22 rfl) rfl rfl ?_
    refine AW.getO (am_r 23 rfl) rfl klX9 (k := 0) (by omega) q392 xh_0 rfl ?_
    refine AW.getO (am_r 24 rfl) rfl klX7 (k := 11) (by omega) q250 (xl_get (fun _ => sb_st)) rfl ?_
    have hr := (Option.some.inj hs).symm
    subst hr
    exact AW.iret (am_r 25 rfl) rfl hQ
  replace hs := (if_neg hw6).symm.trans hs
  by_cases hw7 : p1 = (6 : Int32)
  · replace hs := (if_pos hw7).symm.trans hs
    refine AW.tabsw_at (tg := 116) (i := 6) (am_r 1 rfl) hw7 rfl rfl rfl (by decide) ?_
    refine AW.aload_n (z := 0) (am_r 26 rfl) rfl rfl ?_
    refine AW.getO (am_r 27 rfl) rfl klX9 (k := 0) (by omega) q392 xh_0 rfl ?_
    refine obind_e hs (fun r8 hg10 hs => ?_)
    refine AW.callV (N := MX7_freeBenches) (As := []) (S := []) (L0 := [some (.ref ((B + 1))), none, none]) (b := (B + 1)) (am_r 28 rfl) rfl ovX7_freeBenches q676 rfl rfl (xl_get (fun _ => sb_st)) rfl rfl rfl rfl (AW.heq xh_l (dX7_freeBenches (Nat.le_trans hB (by omega))  hg10 (cQ_r (AW.heq xh_l.symm ?_))))
    have hr := (Option.some.inj hs).symm
    subst hr
    exact AW.iret (am_r 29 rfl) rfl hQ
  replace hs := (if_neg hw7).symm.trans hs
  by_cases hw11 : p1 = (7 : Int32)
  · replace hs := (if_pos hw11).symm.trans hs
    refine AW.tabsw_at (tg := 124) (i := 7) (am_r 1 rfl) hw11 rfl rfl rfl (by decide) ?_
    refine AW.aload_n (z := 0) (am_r 30 rfl) rfl rfl ?_
    refine AW.getO (am_r 31 rfl) rfl klX9 (k := 0) (by omega) q392 xh_0 rfl ?_
    refine obind_e hs (fun r12 hg14 hs => ?_)
    refine AW.callV (N := MX7_freePresses) (As := []) (S := []) (L0 := [some (.ref ((B + 1))), none, none]) (b := (B + 1)) (am_r 32 rfl) rfl ovX7_freePresses q680 rfl rfl (xl_get (fun _ => sb_st)) rfl rfl rfl rfl (AW.heq xh_l (dX7_freePresses (Nat.le_trans hB (by omega))  hg14 (cQ_r (AW.heq xh_l.symm ?_))))
    have hr := (Option.some.inj hs).symm
    subst hr
    exact AW.iret (am_r 33 rfl) rfl hQ
  replace hs := (if_neg hw11).symm.trans hs
  by_cases hw15 : p1 = (8 : Int32)
  · replace hs := (if_pos hw15).symm.trans hs
    refine AW.tabsw_at (tg := 132) (i := 8) (am_r 1 rfl) hw15 rfl rfl rfl (by decide) ?_
    refine AW.aload_n (z := 0) (am_r 34 rfl) rfl rfl ?_
    refine AW.getO (am_r 35 rfl) rfl klX9 (k := 0) (by omega) q392 xh_0 rfl ?_
    refine AW.getO (am_r 36 rfl) rfl klX7 (k := 6) (by omega) q235 (xl_get (fun _ => sb_st)) rfl ?_
    refine AW.getO (am_r 37 rfl) rfl klX0 (k := 2) (by omega) q220 (xl_get (fun _ => sb_bo)) rfl ?_
    have hr := (Option.some.inj hs).symm
    subst hr
    exact AW.iret (am_r 38 rfl) rfl hQ
  replace hs := (if_neg hw15).symm.trans hs
  by_cases hw16 : p1 = (9 : Int32)
  · replace hs := (if_pos hw16).symm.trans hs
    refine AW.tabsw_at (tg := 143) (i := 9) (am_r 1 rfl) hw16 rfl rfl rfl (by decide) ?_
    refine AW.aload_n (z := 0) (am_r 39 rfl) rfl rfl ?_
    refine AW.getO (am_r 40 rfl) rfl klX9 (k := 0) (by omega) q392 xh_0 rfl ?_
    refine AW.getO (am_r 41 rfl) rfl klX7 (k := 13) (by omega) q255 (xl_get (fun _ => sb_st)) rfl ?_
    have hr := (Option.some.inj hs).symm
    subst hr
    exact AW.iret (am_r 42 rfl) rfl hQ
  replace hs := (if_neg hw16).symm.trans hs
  by_cases hw17 : p1 = (10 : Int32)
  · replace hs := (if_pos hw17).symm.trans hs
    refine AW.tabsw_at (tg := 151) (i := 10) (am_r 1 rfl) hw17 rfl rfl rfl (by decide) ?_
    refine AW.aload_n (z := 0) (am_r 43 rfl) rfl rfl ?_
    refine AW.getO (am_r 44 rfl) rfl klX9 (k := 0) (by omega) q392 xh_0 rfl ?_
    refine AW.getO (am_r 45 rfl) rfl klX7 (k := 14) (by omega) q257 (xl_get (fun _ => sb_st)) rfl ?_
    have hr := (Option.some.inj hs).symm
    subst hr
    exact AW.iret (am_r 46 rfl) rfl hQ
  replace hs := (if_neg hw17).symm.trans hs
  by_cases hw18 : p1 = (11 : Int32)
  · replace hs := (if_pos hw18).symm.trans hs
    refine AW.tabsw_at (tg := 159) (i := 11) (am_r 1 rfl) hw18 rfl rfl rfl (by decide) ?_
    refine AW.aload_n (z := 0) (am_r 47 rfl) rfl rfl ?_
    refine AW.getO (am_r 48 rfl) rfl klX9 (k := 0) (by omega) q392 xh_0 rfl ?_
    refine AW.getO (am_r 49 rfl) rfl klX7 (k := 15) (by omega) q259 (xl_get (fun _ => sb_st)) rfl ?_
    have hr := (Option.some.inj hs).symm
    subst hr
    exact AW.iret (am_r 50 rfl) rfl hQ
  replace hs := (if_neg hw18).symm.trans hs
  by_cases hw19 : p1 = (12 : Int32)
  · replace hs := (if_pos hw19).symm.trans hs
    refine AW.tabsw_at (tg := 167) (i := 12) (am_r 1 rfl) hw19 rfl rfl rfl (by decide) ?_
    refine AW.aload_n (z := 0) (am_r 51 rfl) rfl rfl ?_
    refine AW.getO (am_r 52 rfl) rfl klX9 (k := 2) (by omega) q394 xh_0 rfl ?_
    refine AW.getO (am_r 53 rfl) rfl klX1 (k := 2) (by omega) q304 xh_117 rfl ?_
    have hr := (Option.some.inj hs).symm
    subst hr
    exact AW.iret (am_r 54 rfl) rfl hQ
  replace hs := (if_neg hw19).symm.trans hs
  refine AW.tabsw_d (tg := 175) [0, 1, 2, 3, 4, 5, 6, 7, 8, 9, 10, 11, 12] (am_r 1 rfl) rfl (by decide) (by decide) (List.forall_mem_cons.mpr ⟨hw1, List.forall_mem_cons.mpr ⟨hw2, List.forall_mem_cons.mpr ⟨hw3, List.forall_mem_cons.mpr ⟨hw4, List.forall_mem_cons.mpr ⟨hw5, List.forall_mem_cons.mpr ⟨hw6, List.forall_mem_cons.mpr ⟨hw7, List.forall_mem_cons.mpr ⟨hw11, List.forall_mem_cons.mpr ⟨hw15, List.forall_mem_cons.mpr ⟨hw16, List.forall_mem_cons.mpr ⟨hw17, List.forall_mem_cons.mpr ⟨hw18, List.forall_mem_cons.mpr ⟨hw19, fun _ h => nomatch h⟩⟩⟩⟩⟩⟩⟩⟩⟩⟩⟩⟩⟩) ?_
  refine AW.iconst (am_r 55 rfl) rfl ci_m1 ?_
  have hr := (Option.some.inj hs).symm
  subst hr
  exact AW.iret (am_r 56 rfl) rfl hQ
noncomputable def sX9_requireIndex (S : XT) (B : Nat) (p1 : Int32) (p2 : Int32) : Option (Except Nat Unit) :=
  if p1 < 0 then
    oif (xrm S.1) (some (.error 1))
  else
    if p1 < p2 then
      some (.ok (()))
    else
      oif (xrm S.1) (some (.error 1))
set_option maxRecDepth 100000 in
theorem dX9_requireIndex {g : AG} {h0 : AH} {S : XT} {Q : AO → AH → Prop} {B : Nat} {p1 : Int32} {p2 : Int32} (hB : gB g ≤ B) (hst : Sta g h0)  {r : (Except Nat Unit)} (hs : sX9_requireIndex S B p1 p2 = some r) (hQ : (∀ v : Unit, r = .ok v → Q (.ok none) (xh (bw h0 B S.1 S.2.2.1 S.2.2.2.2.2.2) B S.2.1 S.2.2.1 S.2.2.2.1 S.2.2.2.2.1 S.2.2.2.2.2.1)) ∧ (∀ e : Nat, r = .error e → ∀ z, S.1.1 ≤ z → z ≤ S.1.1 + 1 → Q (.error e) (xh (bw h0 B (z, S.1.2.1 - 1, S.1.2.2 - 6) S.2.2.1 S.2.2.2.2.2.2) B S.2.1 S.2.2.1 S.2.2.2.1 S.2.2.2.2.1 S.2.2.2.2.2.1))) : AW g MX9_requireIndex 0 [some (.int (p1)), some (.int (p2))] [] (xh (bw h0 B S.1 S.2.2.1 S.2.2.2.2.2.2) B S.2.1 S.2.2.1 S.2.2.2.1 S.2.2.2.2.1 S.2.2.2.2.2.1) Q := by
  unfold sX9_requireIndex at hs
  refine AW.iload_n (z := 0) (am_r 0 rfl) rfl rfl ?_
  refine AW.if_lt (tg := 9) (am_r 1 rfl) rfl rfl (fun hc1 => ?_) (fun hc1 => ?_)
  · replace hs := (if_pos hc1).symm.trans hs
    refine oif_g hs (fun hg2 hs => ?_)
    have hr := (Option.some.inj hs).symm
    exact AW.throwSW (k := 1) (nt := 1) (names := ["java/lang/RuntimeException", "java/lang/Exception"]) (am_r 5 rfl) (am_r 6 rfl) (am_r 7 rfl) (am_r 8 rfl) (am_r 9 rfl) rfl rfl (by decide +kernel) (by decide +kernel) q959 q21 rfl am_twi am_twn (List.forall_mem_cons.mpr ⟨rfl, List.forall_mem_cons.mpr ⟨rfl, am_two⟩⟩) rfl (xrm_1 hg2) (xrm_2 hg2) (fun z h1 h2 => hQ.2 _ hr z h1 h2)
  · replace hs := (if_neg hc1).symm.trans hs
    refine AW.iload_n (z := 0) (am_r 2 rfl) rfl rfl ?_
    refine AW.iload_n (z := 1) (am_r 3 rfl) rfl rfl ?_
    refine AW.icmp_lt (tg := 20) (am_r 4 rfl) rfl rfl (fun hc3 => ?_) (fun hc3 => ?_)
    · replace hs := (if_pos hc3).symm.trans hs
      have hr := (Option.some.inj hs).symm
      exact AW.vret (am_r 10 rfl) rfl (hQ.1 _ hr)
    · replace hs := (if_neg hc3).symm.trans hs
      refine oif_g hs (fun hg4 hs => ?_)
      have hr := (Option.some.inj hs).symm
      exact AW.throwSW (k := 1) (nt := 1) (names := ["java/lang/RuntimeException", "java/lang/Exception"]) (am_r 5 rfl) (am_r 6 rfl) (am_r 7 rfl) (am_r 8 rfl) (am_r 9 rfl) rfl rfl (by decide +kernel) (by decide +kernel) q959 q21 rfl am_twi am_twn (List.forall_mem_cons.mpr ⟨rfl, List.forall_mem_cons.mpr ⟨rfl, am_two⟩⟩) rfl (xrm_1 hg4) (xrm_2 hg4) (fun z h1 h2 => hQ.2 _ hr z h1 h2)
noncomputable def sX9_requirePress (S : XT) (B : Nat) (p1 : Int32) : Option (Except Nat Unit) :=
  oexc (sX9_requireIndex S B p1 (gi S.2.2.2.2.2.1 0 7 0)) (fun e => e) fun w5 =>
  some (.ok (()))
set_option maxRecDepth 100000 in
theorem dX9_requirePress {g : AG} {h0 : AH} {S : XT} {Q : AO → AH → Prop} {B : Nat} {p1 : Int32} (hB : gB g ≤ B) (hst : Sta g h0)  {r : (Except Nat Unit)} (hs : sX9_requirePress S B p1 = some r) (hQ : (∀ v : Unit, r = .ok v → Q (.ok none) (xh (bw h0 B S.1 S.2.2.1 S.2.2.2.2.2.2) B S.2.1 S.2.2.1 S.2.2.2.1 S.2.2.2.2.1 S.2.2.2.2.2.1)) ∧ (∀ e : Nat, r = .error e → ∀ z, S.1.1 ≤ z → z ≤ S.1.1 + 1 → Q (.error e) (xh (bw h0 B (z, S.1.2.1 - 1, S.1.2.2 - 6) S.2.2.1 S.2.2.2.2.2.2) B S.2.1 S.2.2.1 S.2.2.2.1 S.2.2.2.2.1 S.2.2.2.2.2.1))) : AW g MX9_requirePress 0 [some (.ref (B)), some (.int (p1))] [] (xh (bw h0 B S.1 S.2.2.1 S.2.2.2.2.2.2) B S.2.1 S.2.2.1 S.2.2.2.1 S.2.2.2.2.1 S.2.2.2.2.2.1) Q := by
  unfold sX9_requirePress at hs
  refine AW.iload_n (z := 1) (am_r 0 rfl) rfl rfl ?_
  refine AW.aload_n (z := 0) (am_r 1 rfl) rfl rfl ?_
  refine AW.getO (am_r 2 rfl) rfl klX9 (k := 0) (by omega) q392 xh_0 rfl ?_
  refine AW.getO (am_r 3 rfl) rfl klX7 (k := 7) (by omega) q238 (xl_get (fun _ => sb_st)) rfl ?_
  refine oexc_e hs (fun r1 hg3 hs => ?_)
  refine AW.callS (N := MX9_requireIndex) (As := [.int (p1), .int (gi S.2.2.2.2.2.1 0 7 0)]) (S := []) (L0 := [some (.int (p1)), some (.int (gi S.2.2.2.2.2.1 0 7 0))]) (am_r 4 rfl) rfl osX9_requireIndex q956 rfl rfl rfl rfl rfl (dX9_requireIndex hB hst  hg3 ⟨fun w5 hv4 => ?_, fun e hv4 z h1 h2 => ?_⟩)
  · subst hv4
    refine (cQ_v ?_)
    have hr := (Option.some.inj hs).symm
    exact AW.vret (am_r 5 rfl) rfl (hQ.1 _ hr)
  · subst hv4
    have hr := (Option.some.inj hs).symm
    exact cQ_x (AX.out rfl (hQ.2 _ hr z h1 h2))
noncomputable def sX9_press (S : XT) (B : Nat) (p1 : Int32) (p2 : Int32) : Option (Except Nat Int32) :=
  oexc (sX9_requirePress S B p1) (fun e => e) fun w5 =>
  if p2 = (0 : Int32) then
    some (.ok (gi S.2.2.2.2.2.1 1 0 (sX7_pressAt S.2.2.2.2.2.1 p1)))
  else
  if p2 = (1 : Int32) then
    some (.ok (gi S.2.2.2.2.2.1 1 1 (sX7_pressAt S.2.2.2.2.2.1 p1)))
  else
  some (.ok ((-1 : Int32)))
set_option maxRecDepth 100000 in
theorem dX9_press {g : AG} {h0 : AH} {S : XT} {Q : AO → AH → Prop} {B : Nat} {p1 : Int32} {p2 : Int32} (hB : gB g ≤ B) (hst : Sta g h0)  {r : (Except Nat Int32)} (hs : sX9_press S B p1 p2 = some r) (hQ : (∀ v : Int32, r = .ok v → Q (.ok (some (.int v))) (xh (bw h0 B S.1 S.2.2.1 S.2.2.2.2.2.2) B S.2.1 S.2.2.1 S.2.2.2.1 S.2.2.2.2.1 S.2.2.2.2.2.1)) ∧ (∀ e : Nat, r = .error e → ∀ z, S.1.1 ≤ z → z ≤ S.1.1 + 1 → Q (.error e) (xh (bw h0 B (z, S.1.2.1 - 1, S.1.2.2 - 6) S.2.2.1 S.2.2.2.2.2.2) B S.2.1 S.2.2.1 S.2.2.2.1 S.2.2.2.2.1 S.2.2.2.2.2.1))) : AW g MX9_press 0 [some (.ref (B)), some (.int (p1)), some (.int (p2)), none] [] (xh (bw h0 B S.1 S.2.2.1 S.2.2.2.2.2.2) B S.2.1 S.2.2.1 S.2.2.2.1 S.2.2.2.2.1 S.2.2.2.2.2.1) Q := by
  unfold sX9_press at hs
  refine AW.aload_n (z := 0) (am_r 0 rfl) rfl rfl ?_
  refine AW.iload_n (z := 1) (am_r 1 rfl) rfl rfl ?_
  refine oexc_e hs (fun r1 hg3 hs => ?_)
  refine AW.callV (N := MX9_requirePress) (As := [.int (p1)]) (S := []) (L0 := [some (.ref (B)), some (.int (p1))]) (b := B) (am_r 2 rfl) rfl ovX9_requirePress q1068 rfl rfl xh_0 rfl rfl rfl rfl (dX9_requirePress hB hst  hg3 ⟨fun w5 hv4 => ?_, fun e hv4 z h1 h2 => ?_⟩)
  · subst hv4
    refine (cQ_v ?_)
    refine AW.aload_n (z := 0) (am_r 3 rfl) rfl rfl ?_
    refine AW.getO (am_r 4 rfl) rfl klX9 (k := 0) (by omega) q392 xh_0 rfl ?_
    refine AW.iload_n (z := 1) (am_r 5 rfl) rfl rfl ?_
    refine AW.callV (N := MX7_pressAt) (As := [.int (p1)]) (S := []) (L0 := [some (.ref ((B + 1))), some (.int (p1))]) (b := (B + 1)) (am_r 6 rfl) rfl ovX7_pressAt q1072 rfl rfl (xl_get (fun _ => sb_st)) rfl rfl rfl rfl (AW.heq xh_l (dX7_pressAt (Nat.le_trans hB (by omega))  rfl (fun hok7 => (cQ_r (AW.heq xh_l.symm ?_)))))
    refine AW.astore_n (L' := [some (.ref (B)), some (.int (p1)), some (.int (p2)), some (.ref ((B + 1) + 2 + (sX7_pressAt S.2.2.2.2.2.1 p1)))]) (z := 3) (am_r 7 rfl) rfl (Nat.le_of_ble_eq_true rfl) rfl ?_
    refine AW.iload_n (z := 2) (am_r 8 rfl) rfl rfl ?_
    by_cases hw8 : p2 = (0 : Int32)
    · replace hs := (if_pos hw8).symm.trans hs
      refine AW.lookupswitch (tg := 40) (am_r 9 rfl) (by decide) (by rw [hw8]; decide) ?_
      refine AW.aload_n (z := 3) (am_r 10 rfl) rfl rfl ?_
      refine AW.getO (am_r 11 rfl) rfl klX3 (k := 0) (by omega) q48 (xl_get (fun _ => (sb_pr hok7))) rfl ?_
      have hr := (Option.some.inj hs).symm
      exact AW.iret (am_r 12 rfl) rfl (hQ.1 _ hr)
    replace hs := (if_neg hw8).symm.trans hs
    by_cases hw9 : p2 = (1 : Int32)
    · replace hs := (if_pos hw9).symm.trans hs
      refine AW.lookupswitch (tg := 45) (am_r 9 rfl) (by decide) (by rw [hw9]; decide) ?_
      refine AW.aload_n (z := 3) (am_r 13 rfl) rfl rfl ?_
      refine AW.getO (am_r 14 rfl) rfl klX3 (k := 1) (by omega) q51 (xl_get (fun _ => (sb_pr hok7))) rfl ?_
      have hr := (Option.some.inj hs).symm
      exact AW.iret (am_r 15 rfl) rfl (hQ.1 _ hr)
    replace hs := (if_neg hw9).symm.trans hs
    refine AW.lookupswitch (tg := 50) (am_r 9 rfl) (by decide) (by have e0 : (p2).toInt ≠ 0 := fun z => hw8 (Int32.toInt_inj.mp z); have e1 : (p2).toInt ≠ 1 := fun z => hw9 (Int32.toInt_inj.mp z); simp [Op.lookupswitch.offset, e0, e1, e0.symm, e1.symm]) ?_
    refine AW.iconst (am_r 16 rfl) rfl ci_m1 ?_
    have hr := (Option.some.inj hs).symm
    exact AW.iret (am_r 17 rfl) rfl (hQ.1 _ hr)
  · subst hv4
    have hr := (Option.some.inj hs).symm
    exact cQ_x (AX.out rfl (hQ.2 _ hr z h1 h2))
noncomputable def sX9_requireRecipe (S : XT) (B : Nat) (p1 : Int32) : Option (Except Nat Unit) :=
  oexc (sX9_requireIndex S B p1 (gi S.2.2.2.2.2.1 0 8 0)) (fun e => e) fun w5 =>
  some (.ok (()))
set_option maxRecDepth 100000 in
theorem dX9_requireRecipe {g : AG} {h0 : AH} {S : XT} {Q : AO → AH → Prop} {B : Nat} {p1 : Int32} (hB : gB g ≤ B) (hst : Sta g h0)  {r : (Except Nat Unit)} (hs : sX9_requireRecipe S B p1 = some r) (hQ : (∀ v : Unit, r = .ok v → Q (.ok none) (xh (bw h0 B S.1 S.2.2.1 S.2.2.2.2.2.2) B S.2.1 S.2.2.1 S.2.2.2.1 S.2.2.2.2.1 S.2.2.2.2.2.1)) ∧ (∀ e : Nat, r = .error e → ∀ z, S.1.1 ≤ z → z ≤ S.1.1 + 1 → Q (.error e) (xh (bw h0 B (z, S.1.2.1 - 1, S.1.2.2 - 6) S.2.2.1 S.2.2.2.2.2.2) B S.2.1 S.2.2.1 S.2.2.2.1 S.2.2.2.2.1 S.2.2.2.2.2.1))) : AW g MX9_requireRecipe 0 [some (.ref (B)), some (.int (p1))] [] (xh (bw h0 B S.1 S.2.2.1 S.2.2.2.2.2.2) B S.2.1 S.2.2.1 S.2.2.2.1 S.2.2.2.2.1 S.2.2.2.2.2.1) Q := by
  unfold sX9_requireRecipe at hs
  refine AW.iload_n (z := 1) (am_r 0 rfl) rfl rfl ?_
  refine AW.aload_n (z := 0) (am_r 1 rfl) rfl rfl ?_
  refine AW.getO (am_r 2 rfl) rfl klX9 (k := 0) (by omega) q392 xh_0 rfl ?_
  refine AW.getO (am_r 3 rfl) rfl klX7 (k := 8) (by omega) q242 (xl_get (fun _ => sb_st)) rfl ?_
  refine oexc_e hs (fun r1 hg3 hs => ?_)
  refine AW.callS (N := MX9_requireIndex) (As := [.int (p1), .int (gi S.2.2.2.2.2.1 0 8 0)]) (S := []) (L0 := [some (.int (p1)), some (.int (gi S.2.2.2.2.2.1 0 8 0))]) (am_r 4 rfl) rfl osX9_requireIndex q956 rfl rfl rfl rfl rfl (dX9_requireIndex hB hst  hg3 ⟨fun w5 hv4 => ?_, fun e hv4 z h1 h2 => ?_⟩)
  · subst hv4
    refine (cQ_v ?_)
    have hr := (Option.some.inj hs).symm
    exact AW.vret (am_r 5 rfl) rfl (hQ.1 _ hr)
  · subst hv4
    have hr := (Option.some.inj hs).symm
    exact cQ_x (AX.out rfl (hQ.2 _ hr z h1 h2))
noncomputable def sX9_recipe (S : XT) (B : Nat) (p1 : Int32) (p2 : Int32) : Option (Except Nat Int32) :=
  oexc (sX9_requireRecipe S B p1) (fun e => e) fun w5 =>
  if p2 = (0 : Int32) then
    some (.ok (gi S.2.2.2.2.2.1 2 0 (sX7_recipeAt S.2.2.2.2.2.1 p1)))
  else
  if p2 = (1 : Int32) then
    some (.ok (gi S.2.2.2.2.2.1 2 1 (sX7_recipeAt S.2.2.2.2.2.1 p1)))
  else
  if p2 = (2 : Int32) then
    some (.ok (gi S.2.2.2.2.2.1 2 2 (sX7_recipeAt S.2.2.2.2.2.1 p1)))
  else
  if p2 = (3 : Int32) then
    some (.ok (gi S.2.2.2.2.2.1 2 3 (sX7_recipeAt S.2.2.2.2.2.1 p1)))
  else
  if p2 = (4 : Int32) then
    some (.ok (gi S.2.2.2.2.2.1 2 4 (sX7_recipeAt S.2.2.2.2.2.1 p1)))
  else
  if p2 = (5 : Int32) then
    some (.ok (gi S.2.2.2.2.2.1 2 5 (sX7_recipeAt S.2.2.2.2.2.1 p1)))
  else
  if p2 = (6 : Int32) then
    some (.ok (gi S.2.2.2.2.2.1 2 6 (sX7_recipeAt S.2.2.2.2.2.1 p1)))
  else
  some (.ok ((-1 : Int32)))
set_option maxRecDepth 100000 in
theorem dX9_recipe {g : AG} {h0 : AH} {S : XT} {Q : AO → AH → Prop} {B : Nat} {p1 : Int32} {p2 : Int32} (hB : gB g ≤ B) (hst : Sta g h0)  {r : (Except Nat Int32)} (hs : sX9_recipe S B p1 p2 = some r) (hQ : (∀ v : Int32, r = .ok v → Q (.ok (some (.int v))) (xh (bw h0 B S.1 S.2.2.1 S.2.2.2.2.2.2) B S.2.1 S.2.2.1 S.2.2.2.1 S.2.2.2.2.1 S.2.2.2.2.2.1)) ∧ (∀ e : Nat, r = .error e → ∀ z, S.1.1 ≤ z → z ≤ S.1.1 + 1 → Q (.error e) (xh (bw h0 B (z, S.1.2.1 - 1, S.1.2.2 - 6) S.2.2.1 S.2.2.2.2.2.2) B S.2.1 S.2.2.1 S.2.2.2.1 S.2.2.2.2.1 S.2.2.2.2.2.1))) : AW g MX9_recipe 0 [some (.ref (B)), some (.int (p1)), some (.int (p2)), none] [] (xh (bw h0 B S.1 S.2.2.1 S.2.2.2.2.2.2) B S.2.1 S.2.2.1 S.2.2.2.1 S.2.2.2.2.1 S.2.2.2.2.2.1) Q := by
  unfold sX9_recipe at hs
  refine AW.aload_n (z := 0) (am_r 0 rfl) rfl rfl ?_
  refine AW.iload_n (z := 1) (am_r 1 rfl) rfl rfl ?_
  refine oexc_e hs (fun r1 hg3 hs => ?_)
  refine AW.callV (N := MX9_requireRecipe) (As := [.int (p1)]) (S := []) (L0 := [some (.ref (B)), some (.int (p1))]) (b := B) (am_r 2 rfl) rfl ovX9_requireRecipe q975 rfl rfl xh_0 rfl rfl rfl rfl (dX9_requireRecipe hB hst  hg3 ⟨fun w5 hv4 => ?_, fun e hv4 z h1 h2 => ?_⟩)
  · subst hv4
    refine (cQ_v ?_)
    refine AW.aload_n (z := 0) (am_r 3 rfl) rfl rfl ?_
    refine AW.getO (am_r 4 rfl) rfl klX9 (k := 0) (by omega) q392 xh_0 rfl ?_
    refine AW.iload_n (z := 1) (am_r 5 rfl) rfl rfl ?_
    refine AW.callV (N := MX7_recipeAt) (As := [.int (p1)]) (S := []) (L0 := [some (.ref ((B + 1))), some (.int (p1))]) (b := (B + 1)) (am_r 6 rfl) rfl ovX7_recipeAt q1004 rfl rfl (xl_get (fun _ => sb_st)) rfl rfl rfl rfl (AW.heq xh_l (dX7_recipeAt (Nat.le_trans hB (by omega))  rfl (fun hok7 => (cQ_r (AW.heq xh_l.symm ?_)))))
    refine AW.astore_n (L' := [some (.ref (B)), some (.int (p1)), some (.int (p2)), some (.ref ((B + 1) + 9 + (sX7_recipeAt S.2.2.2.2.2.1 p1)))]) (z := 3) (am_r 7 rfl) rfl (Nat.le_of_ble_eq_true rfl) rfl ?_
    refine AW.iload_n (z := 2) (am_r 8 rfl) rfl rfl ?_
    by_cases hw8 : p2 = (0 : Int32)
    · replace hs := (if_pos hw8).symm.trans hs
      refine AW.tabsw_at (tg := 56) (i := 0) (am_r 9 rfl) hw8 rfl rfl rfl (by decide) ?_
      refine AW.aload_n (z := 3) (am_r 10 rfl) rfl rfl ?_
      refine AW.getO (am_r 11 rfl) rfl klX5 (k := 0) (by omega) q72 (xl_get (fun _ => (sb_re hok7))) rfl ?_
      have hr := (Option.some.inj hs).symm
      exact AW.iret (am_r 12 rfl) rfl (hQ.1 _ hr)
    replace hs := (if_neg hw8).symm.trans hs
    by_cases hw9 : p2 = (1 : Int32)
    · replace hs := (if_pos hw9).symm.trans hs
      refine AW.tabsw_at (tg := 61) (i := 1) (am_r 9 rfl) hw9 rfl rfl rfl (by decide) ?_
      refine AW.aload_n (z := 3) (am_r 13 rfl) rfl rfl ?_
      refine AW.getO (am_r 14 rfl) rfl klX5 (k := 1) (by omega) q76 (xl_get (fun _ => (sb_re hok7))) rfl ?_
      have hr := (Option.some.inj hs).symm
      exact AW.iret (am_r 15 rfl) rfl (hQ.1 _ hr)
    replace hs := (if_neg hw9).symm.trans hs
    by_cases hw10 : p2 = (2 : Int32)
    · replace hs := (if_pos hw10).symm.trans hs
      refine AW.tabsw_at (tg := 66) (i := 2) (am_r 9 rfl) hw10 rfl rfl rfl (by decide) ?_
      refine AW.aload_n (z := 3) (am_r 16 rfl) rfl rfl ?_
      refine AW.getO (am_r 17 rfl) rfl klX5 (k := 2) (by omega) q80 (xl_get (fun _ => (sb_re hok7))) rfl ?_
      have hr := (Option.some.inj hs).symm
      exact AW.iret (am_r 18 rfl) rfl (hQ.1 _ hr)
    replace hs := (if_neg hw10).symm.trans hs
    by_cases hw11 : p2 = (3 : Int32)
    · replace hs := (if_pos hw11).symm.trans hs
      refine AW.tabsw_at (tg := 71) (i := 3) (am_r 9 rfl) hw11 rfl rfl rfl (by decide) ?_
      refine AW.aload_n (z := 3) (am_r 19 rfl) rfl rfl ?_
      refine AW.getO (am_r 20 rfl) rfl klX5 (k := 3) (by omega) q84 (xl_get (fun _ => (sb_re hok7))) rfl ?_
      have hr := (Option.some.inj hs).symm
      exact AW.iret (am_r 21 rfl) rfl (hQ.1 _ hr)
    replace hs := (if_neg hw11).symm.trans hs
    by_cases hw12 : p2 = (4 : Int32)
    · replace hs := (if_pos hw12).symm.trans hs
      refine AW.tabsw_at (tg := 76) (i := 4) (am_r 9 rfl) hw12 rfl rfl rfl (by decide) ?_
      refine AW.aload_n (z := 3) (am_r 22 rfl) rfl rfl ?_
      refine AW.getO (am_r 23 rfl) rfl klX5 (k := 4) (by omega) q87 (xl_get (fun _ => (sb_re hok7))) rfl ?_
      have hr := (Option.some.inj hs).symm
      exact AW.iret (am_r 24 rfl) rfl (hQ.1 _ hr)
    replace hs := (if_neg hw12).symm.trans hs
    by_cases hw13 : p2 = (5 : Int32)
    · replace hs := (if_pos hw13).symm.trans hs
      refine AW.tabsw_at (tg := 81) (i := 5) (am_r 9 rfl) hw13 rfl rfl rfl (by decide) ?_
      refine AW.aload_n (z := 3) (am_r 25 rfl) rfl rfl ?_
      refine AW.getO (am_r 26 rfl) rfl klX5 (k := 5) (by omega) q90 (xl_get (fun _ => (sb_re hok7))) rfl ?_
      have hr := (Option.some.inj hs).symm
      exact AW.iret (am_r 27 rfl) rfl (hQ.1 _ hr)
    replace hs := (if_neg hw13).symm.trans hs
    by_cases hw14 : p2 = (6 : Int32)
    · replace hs := (if_pos hw14).symm.trans hs
      refine AW.tabsw_at (tg := 86) (i := 6) (am_r 9 rfl) hw14 rfl rfl rfl (by decide) ?_
      refine AW.aload_n (z := 3) (am_r 28 rfl) rfl rfl ?_
      refine AW.getO (am_r 29 rfl) rfl klX5 (k := 6) (by omega) q93 (xl_get (fun _ => (sb_re hok7))) rfl ?_
      have hr := (Option.some.inj hs).symm
      exact AW.iret (am_r 30 rfl) rfl (hQ.1 _ hr)
    replace hs := (if_neg hw14).symm.trans hs
    refine AW.tabsw_d (tg := 91) [0, 1, 2, 3, 4, 5, 6] (am_r 9 rfl) rfl (by decide) (by decide) (List.forall_mem_cons.mpr ⟨hw8, List.forall_mem_cons.mpr ⟨hw9, List.forall_mem_cons.mpr ⟨hw10, List.forall_mem_cons.mpr ⟨hw11, List.forall_mem_cons.mpr ⟨hw12, List.forall_mem_cons.mpr ⟨hw13, List.forall_mem_cons.mpr ⟨hw14, fun _ h => nomatch h⟩⟩⟩⟩⟩⟩⟩) ?_
    refine AW.iconst (am_r 31 rfl) rfl ci_m1 ?_
    have hr := (Option.some.inj hs).symm
    exact AW.iret (am_r 32 rfl) rfl (hQ.1 _ hr)
  · subst hv4
    have hr := (Option.some.inj hs).symm
    exact cQ_x (AX.out rfl (hQ.2 _ hr z h1 h2))
noncomputable def sX9_requireObject (S : XT) (B : Nat) (p1 : Int32) : Option (Except Nat Unit) :=
  oexc (sX9_requireIndex S B p1 (gi S.2.2.2.2.2.1 0 9 0)) (fun e => e) fun w5 =>
  some (.ok (()))
set_option maxRecDepth 100000 in
theorem dX9_requireObject {g : AG} {h0 : AH} {S : XT} {Q : AO → AH → Prop} {B : Nat} {p1 : Int32} (hB : gB g ≤ B) (hst : Sta g h0)  {r : (Except Nat Unit)} (hs : sX9_requireObject S B p1 = some r) (hQ : (∀ v : Unit, r = .ok v → Q (.ok none) (xh (bw h0 B S.1 S.2.2.1 S.2.2.2.2.2.2) B S.2.1 S.2.2.1 S.2.2.2.1 S.2.2.2.2.1 S.2.2.2.2.2.1)) ∧ (∀ e : Nat, r = .error e → ∀ z, S.1.1 ≤ z → z ≤ S.1.1 + 1 → Q (.error e) (xh (bw h0 B (z, S.1.2.1 - 1, S.1.2.2 - 6) S.2.2.1 S.2.2.2.2.2.2) B S.2.1 S.2.2.1 S.2.2.2.1 S.2.2.2.2.1 S.2.2.2.2.2.1))) : AW g MX9_requireObject 0 [some (.ref (B)), some (.int (p1))] [] (xh (bw h0 B S.1 S.2.2.1 S.2.2.2.2.2.2) B S.2.1 S.2.2.1 S.2.2.2.1 S.2.2.2.2.1 S.2.2.2.2.2.1) Q := by
  unfold sX9_requireObject at hs
  refine AW.iload_n (z := 1) (am_r 0 rfl) rfl rfl ?_
  refine AW.aload_n (z := 0) (am_r 1 rfl) rfl rfl ?_
  refine AW.getO (am_r 2 rfl) rfl klX9 (k := 0) (by omega) q392 xh_0 rfl ?_
  refine AW.getO (am_r 3 rfl) rfl klX7 (k := 9) (by omega) q244 (xl_get (fun _ => sb_st)) rfl ?_
  refine oexc_e hs (fun r1 hg3 hs => ?_)
  refine AW.callS (N := MX9_requireIndex) (As := [.int (p1), .int (gi S.2.2.2.2.2.1 0 9 0)]) (S := []) (L0 := [some (.int (p1)), some (.int (gi S.2.2.2.2.2.1 0 9 0))]) (am_r 4 rfl) rfl osX9_requireIndex q956 rfl rfl rfl rfl rfl (dX9_requireIndex hB hst  hg3 ⟨fun w5 hv4 => ?_, fun e hv4 z h1 h2 => ?_⟩)
  · subst hv4
    refine (cQ_v ?_)
    have hr := (Option.some.inj hs).symm
    exact AW.vret (am_r 5 rfl) rfl (hQ.1 _ hr)
  · subst hv4
    have hr := (Option.some.inj hs).symm
    exact cQ_x (AX.out rfl (hQ.2 _ hr z h1 h2))
noncomputable def sX9_itemOf (S : XT) (B : Nat) (p1 : Int32) : Option (Except Nat Nat) :=
  oexc (sX9_requireObject S B p1) (fun e => e) fun w5 =>
  some (.ok (sX7_itemAt S.2.2.2.2.2.1 p1))
set_option maxRecDepth 100000 in
theorem dX9_itemOf {g : AG} {h0 : AH} {S : XT} {Q : AO → AH → Prop} {B : Nat} {p1 : Int32} (hB : gB g ≤ B) (hst : Sta g h0)  {r : (Except Nat Nat)} (hs : sX9_itemOf S B p1 = some r) (hQ : (∀ v : Nat, r = .ok v → iok v → Q (.ok (some (.ref ((B + 1) + 20 + 2 * v)))) (xh (bw h0 B S.1 S.2.2.1 S.2.2.2.2.2.2) B S.2.1 S.2.2.1 S.2.2.2.1 S.2.2.2.2.1 S.2.2.2.2.2.1)) ∧ (∀ e : Nat, r = .error e → ∀ z, S.1.1 ≤ z → z ≤ S.1.1 + 1 → Q (.error e) (xh (bw h0 B (z, S.1.2.1 - 1, S.1.2.2 - 6) S.2.2.1 S.2.2.2.2.2.2) B S.2.1 S.2.2.1 S.2.2.2.1 S.2.2.2.2.1 S.2.2.2.2.2.1))) : AW g MX9_itemOf 0 [some (.ref (B)), some (.int (p1))] [] (xh (bw h0 B S.1 S.2.2.1 S.2.2.2.2.2.2) B S.2.1 S.2.2.1 S.2.2.2.1 S.2.2.2.2.1 S.2.2.2.2.2.1) Q := by
  unfold sX9_itemOf at hs
  refine AW.aload_n (z := 0) (am_r 0 rfl) rfl rfl ?_
  refine AW.iload_n (z := 1) (am_r 1 rfl) rfl rfl ?_
  refine oexc_e hs (fun r1 hg3 hs => ?_)
  refine AW.callV (N := MX9_requireObject) (As := [.int (p1)]) (S := []) (L0 := [some (.ref (B)), some (.int (p1))]) (b := B) (am_r 2 rfl) rfl ovX9_requireObject q952 rfl rfl xh_0 rfl rfl rfl rfl (dX9_requireObject hB hst  hg3 ⟨fun w5 hv4 => ?_, fun e hv4 z h1 h2 => ?_⟩)
  · subst hv4
    refine (cQ_v ?_)
    refine AW.aload_n (z := 0) (am_r 3 rfl) rfl rfl ?_
    refine AW.getO (am_r 4 rfl) rfl klX9 (k := 0) (by omega) q392 xh_0 rfl ?_
    refine AW.iload_n (z := 1) (am_r 5 rfl) rfl rfl ?_
    refine AW.callV (N := MX7_itemAt) (As := [.int (p1)]) (S := []) (L0 := [some (.ref ((B + 1))), some (.int (p1))]) (b := (B + 1)) (am_r 6 rfl) rfl ovX7_itemAt q721 rfl rfl (xl_get (fun _ => sb_st)) rfl rfl rfl rfl (AW.heq xh_l (dX7_itemAt (Nat.le_trans hB (by omega))  rfl (fun hok7 => (cQ_r (AW.heq xh_l.symm ?_)))))
    have hr := (Option.some.inj hs).symm
    exact AW.aret (am_r 7 rfl) rfl (Or.inl ⟨_, rfl⟩) (Or.inr ⟨_, rfl⟩) ((hQ.1 _ hr) hok7)
  · subst hv4
    have hr := (Option.some.inj hs).symm
    exact cQ_x (AX.out rfl (hQ.2 _ hr z h1 h2))
noncomputable def sX9_object (S : XT) (B : Nat) (p1 : Int32) (p2 : Int32) : Option (Except Nat Int32) :=
  oexc (sX9_itemOf S B p1) (fun e => e) fun w5 =>
  if p2 = (0 : Int32) then
    some (.ok (gi S.2.2.2.2.2.1 3 2 w5))
  else
  if p2 = (1 : Int32) then
    some (.ok (gi S.2.2.2.2.2.1 3 3 w5))
  else
  if p2 = (2 : Int32) then
    some (.ok (gi S.2.2.2.2.2.1 3 4 w5))
  else
  if p2 = (3 : Int32) then
    some (.ok (gi S.2.2.2.2.2.1 3 5 w5))
  else
  if p2 = (4 : Int32) then
    some (.ok (gi S.2.2.2.2.2.1 3 6 w5))
  else
  if p2 = (5 : Int32) then
    some (.ok (gi S.2.2.2.2.2.1 3 7 w5))
  else
  if p2 = (6 : Int32) then
    some (.ok (gi S.2.2.2.2.2.1 3 8 w5))
  else
  if p2 = (7 : Int32) then
    some (.ok (gi S.2.2.2.2.2.1 3 9 w5))
  else
  if p2 = (8 : Int32) then
    some (.ok (gi S.2.2.2.2.2.1 3 10 w5))
  else
  if p2 = (9 : Int32) then
    some (.ok (gi S.2.2.2.2.2.1 3 13 w5))
  else
  if p2 = (10 : Int32) then
    some (.ok (sX2_urgency S.2.2.2.2.2.1 w5))
  else
  some (.ok ((-1 : Int32)))
set_option maxRecDepth 100000 in
theorem dX9_object {g : AG} {h0 : AH} {S : XT} {Q : AO → AH → Prop} {B : Nat} {p1 : Int32} {p2 : Int32} (hB : gB g ≤ B) (hst : Sta g h0)  {r : (Except Nat Int32)} (hs : sX9_object S B p1 p2 = some r) (hQ : (∀ v : Int32, r = .ok v → Q (.ok (some (.int v))) (xh (bw h0 B S.1 S.2.2.1 S.2.2.2.2.2.2) B S.2.1 S.2.2.1 S.2.2.2.1 S.2.2.2.2.1 S.2.2.2.2.2.1)) ∧ (∀ e : Nat, r = .error e → ∀ z, S.1.1 ≤ z → z ≤ S.1.1 + 1 → Q (.error e) (xh (bw h0 B (z, S.1.2.1 - 1, S.1.2.2 - 6) S.2.2.1 S.2.2.2.2.2.2) B S.2.1 S.2.2.1 S.2.2.2.1 S.2.2.2.2.1 S.2.2.2.2.2.1))) : AW g MX9_object 0 [some (.ref (B)), some (.int (p1)), some (.int (p2)), none] [] (xh (bw h0 B S.1 S.2.2.1 S.2.2.2.2.2.2) B S.2.1 S.2.2.1 S.2.2.2.1 S.2.2.2.2.1 S.2.2.2.2.2.1) Q := by
  unfold sX9_object at hs
  refine AW.aload_n (z := 0) (am_r 0 rfl) rfl rfl ?_
  refine AW.iload_n (z := 1) (am_r 1 rfl) rfl rfl ?_
  refine oexc_e hs (fun r1 hg3 hs => ?_)
  refine AW.callV (N := MX9_itemOf) (As := [.int (p1)]) (S := []) (L0 := [some (.ref (B)), some (.int (p1))]) (b := B) (am_r 2 rfl) rfl ovX9_itemOf q948 rfl rfl xh_0 rfl rfl rfl rfl (dX9_itemOf hB hst  hg3 ⟨fun w5 hv4 => ?_, fun e hv4 z h1 h2 => ?_⟩)
  · subst hv4
    refine fun hok2 => (cQ_r ?_)
    refine AW.astore_n (L' := [some (.ref (B)), some (.int (p1)), some (.int (p2)), some (.ref ((B + 1) + 20 + 2 * w5))]) (z := 3) (am_r 3 rfl) rfl (Nat.le_of_ble_eq_true rfl) rfl ?_
    refine AW.iload_n (z := 2) (am_r 4 rfl) rfl rfl ?_
    by_cases hw6 : p2 = (0 : Int32)
    · replace hs := (if_pos hw6).symm.trans hs
      refine AW.tabsw_at (tg := 64) (i := 0) (am_r 5 rfl) hw6 rfl rfl rfl (by decide) ?_
      refine AW.aload_n (z := 3) (am_r 6 rfl) rfl rfl ?_
      refine AW.getO (am_r 7 rfl) rfl klX2 (k := 2) (by omega) q125 (xl_get (fun _ => (sb_it hok2))) rfl ?_
      have hr := (Option.some.inj hs).symm
      exact AW.iret (am_r 8 rfl) rfl (hQ.1 _ hr)
    replace hs := (if_neg hw6).symm.trans hs
    by_cases hw7 : p2 = (1 : Int32)
    · replace hs := (if_pos hw7).symm.trans hs
      refine AW.tabsw_at (tg := 69) (i := 1) (am_r 5 rfl) hw7 rfl rfl rfl (by decide) ?_
      refine AW.aload_n (z := 3) (am_r 9 rfl) rfl rfl ?_
      refine AW.getO (am_r 10 rfl) rfl klX2 (k := 3) (by omega) q128 (xl_get (fun _ => (sb_it hok2))) rfl ?_
      have hr := (Option.some.inj hs).symm
      exact AW.iret (am_r 11 rfl) rfl (hQ.1 _ hr)
    replace hs := (if_neg hw7).symm.trans hs
    by_cases hw8 : p2 = (2 : Int32)
    · replace hs := (if_pos hw8).symm.trans hs
      refine AW.tabsw_at (tg := 74) (i := 2) (am_r 5 rfl) hw8 rfl rfl rfl (by decide) ?_
      refine AW.aload_n (z := 3) (am_r 12 rfl) rfl rfl ?_
      refine AW.getO (am_r 13 rfl) rfl klX2 (k := 4) (by omega) q131 (xl_get (fun _ => (sb_it hok2))) rfl ?_
      have hr := (Option.some.inj hs).symm
      exact AW.iret (am_r 14 rfl) rfl (hQ.1 _ hr)
    replace hs := (if_neg hw8).symm.trans hs
    by_cases hw9 : p2 = (3 : Int32)
    · replace hs := (if_pos hw9).symm.trans hs
      refine AW.tabsw_at (tg := 79) (i := 3) (am_r 5 rfl) hw9 rfl rfl rfl (by decide) ?_
      refine AW.aload_n (z := 3) (am_r 15 rfl) rfl rfl ?_
      refine AW.getO (am_r 16 rfl) rfl klX2 (k := 5) (by omega) q134 (xl_get (fun _ => (sb_it hok2))) rfl ?_
      have hr := (Option.some.inj hs).symm
      exact AW.iret (am_r 17 rfl) rfl (hQ.1 _ hr)
    replace hs := (if_neg hw9).symm.trans hs
    by_cases hw10 : p2 = (4 : Int32)
    · replace hs := (if_pos hw10).symm.trans hs
      refine AW.tabsw_at (tg := 84) (i := 4) (am_r 5 rfl) hw10 rfl rfl rfl (by decide) ?_
      refine AW.aload_n (z := 3) (am_r 18 rfl) rfl rfl ?_
      refine AW.getO (am_r 19 rfl) rfl klX2 (k := 6) (by omega) q137 (xl_get (fun _ => (sb_it hok2))) rfl ?_
      have hr := (Option.some.inj hs).symm
      exact AW.iret (am_r 20 rfl) rfl (hQ.1 _ hr)
    replace hs := (if_neg hw10).symm.trans hs
    by_cases hw11 : p2 = (5 : Int32)
    · replace hs := (if_pos hw11).symm.trans hs
      refine AW.tabsw_at (tg := 89) (i := 5) (am_r 5 rfl) hw11 rfl rfl rfl (by decide) ?_
      refine AW.aload_n (z := 3) (am_r 21 rfl) rfl rfl ?_
      refine AW.getO (am_r 22 rfl) rfl klX2 (k := 7) (by omega) q140 (xl_get (fun _ => (sb_it hok2))) rfl ?_
      have hr := (Option.some.inj hs).symm
      exact AW.iret (am_r 23 rfl) rfl (hQ.1 _ hr)
    replace hs := (if_neg hw11).symm.trans hs
    by_cases hw12 : p2 = (6 : Int32)
    · replace hs := (if_pos hw12).symm.trans hs
      refine AW.tabsw_at (tg := 94) (i := 6) (am_r 5 rfl) hw12 rfl rfl rfl (by decide) ?_
      refine AW.aload_n (z := 3) (am_r 24 rfl) rfl rfl ?_
      refine AW.getO (am_r 25 rfl) rfl klX2 (k := 8) (by omega) q143 (xl_get (fun _ => (sb_it hok2))) rfl ?_
      have hr := (Option.some.inj hs).symm
      exact AW.iret (am_r 26 rfl) rfl (hQ.1 _ hr)
    replace hs := (if_neg hw12).symm.trans hs
    by_cases hw13 : p2 = (7 : Int32)
    · replace hs := (if_pos hw13).symm.trans hs
      refine AW.tabsw_at (tg := 99) (i := 7) (am_r 5 rfl) hw13 rfl rfl rfl (by decide) ?_
      refine AW.aload_n (z := 3) (am_r 27 rfl) rfl rfl ?_
      refine AW.getO (am_r 28 rfl) rfl klX2 (k := 9) (by omega) q146 (xl_get (fun _ => (sb_it hok2))) rfl ?_
      have hr := (Option.some.inj hs).symm
      exact AW.iret (am_r 29 rfl) rfl (hQ.1 _ hr)
    replace hs := (if_neg hw13).symm.trans hs
    by_cases hw14 : p2 = (8 : Int32)
    · replace hs := (if_pos hw14).symm.trans hs
      refine AW.tabsw_at (tg := 104) (i := 8) (am_r 5 rfl) hw14 rfl rfl rfl (by decide) ?_
      refine AW.aload_n (z := 3) (am_r 30 rfl) rfl rfl ?_
      refine AW.getO (am_r 31 rfl) rfl klX2 (k := 10) (by omega) q149 (xl_get (fun _ => (sb_it hok2))) rfl ?_
      have hr := (Option.some.inj hs).symm
      exact AW.iret (am_r 32 rfl) rfl (hQ.1 _ hr)
    replace hs := (if_neg hw14).symm.trans hs
    by_cases hw15 : p2 = (9 : Int32)
    · replace hs := (if_pos hw15).symm.trans hs
      refine AW.tabsw_at (tg := 109) (i := 9) (am_r 5 rfl) hw15 rfl rfl rfl (by decide) ?_
      refine AW.aload_n (z := 3) (am_r 33 rfl) rfl rfl ?_
      refine AW.getO (am_r 34 rfl) rfl klX2 (k := 13) (by omega) q155 (xl_get (fun _ => (sb_it hok2))) rfl ?_
      have hr := (Option.some.inj hs).symm
      exact AW.iret (am_r 35 rfl) rfl (hQ.1 _ hr)
    replace hs := (if_neg hw15).symm.trans hs
    by_cases hw16 : p2 = (10 : Int32)
    · replace hs := (if_pos hw16).symm.trans hs
      refine AW.tabsw_at (tg := 114) (i := 10) (am_r 5 rfl) hw16 rfl rfl rfl (by decide) ?_
      refine AW.aload_n (z := 3) (am_r 36 rfl) rfl rfl ?_
      refine AW.callV (N := MX2_urgency) (As := []) (S := []) (L0 := [some (.ref ((B + 1) + 20 + 2 * w5))]) (b := (B + 1) + 20 + 2 * w5) (am_r 37 rfl) rfl ovX2_urgency q1014 rfl rfl (xl_get (fun _ => (sb_it hok2))) rfl rfl rfl rfl (AW.heq xh_l (dX2_urgency (Nat.le_trans hB (by omega)) hok2 rfl (cQ_r (AW.heq xh_l.symm ?_))))
      have hr := (Option.some.inj hs).symm
      exact AW.iret (am_r 38 rfl) rfl (hQ.1 _ hr)
    replace hs := (if_neg hw16).symm.trans hs
    refine AW.tabsw_d (tg := 119) [0, 1, 2, 3, 4, 5, 6, 7, 8, 9, 10] (am_r 5 rfl) rfl (by decide) (by decide) (List.forall_mem_cons.mpr ⟨hw6, List.forall_mem_cons.mpr ⟨hw7, List.forall_mem_cons.mpr ⟨hw8, List.forall_mem_cons.mpr ⟨hw9, List.forall_mem_cons.mpr ⟨hw10, List.forall_mem_cons.mpr ⟨hw11, List.forall_mem_cons.mpr ⟨hw12, List.forall_mem_cons.mpr ⟨hw13, List.forall_mem_cons.mpr ⟨hw14, List.forall_mem_cons.mpr ⟨hw15, List.forall_mem_cons.mpr ⟨hw16, fun _ h => nomatch h⟩⟩⟩⟩⟩⟩⟩⟩⟩⟩⟩) ?_
    refine AW.iconst (am_r 39 rfl) rfl ci_m1 ?_
    have hr := (Option.some.inj hs).symm
    exact AW.iret (am_r 40 rfl) rfl (hQ.1 _ hr)
  · subst hv4
    have hr := (Option.some.inj hs).symm
    exact cQ_x (AX.out rfl (hQ.2 _ hr z h1 h2))
noncomputable def sX9_queued (S : XT) (B : Nat) (p1 : Int32) (p2 : Int32) : Option (Except Nat Int32) :=
  oexc (sX9_itemOf S B p1) (fun e => e) fun w5 =>
  obind (sX2_queuedAt S.2.2.2.2.2.1 w5 p2) fun r6 =>
  some (.ok (r6))
set_option maxRecDepth 100000 in
theorem dX9_queued {g : AG} {h0 : AH} {S : XT} {Q : AO → AH → Prop} {B : Nat} {p1 : Int32} {p2 : Int32} (hB : gB g ≤ B) (hst : Sta g h0)  {r : (Except Nat Int32)} (hs : sX9_queued S B p1 p2 = some r) (hQ : (∀ v : Int32, r = .ok v → Q (.ok (some (.int v))) (xh (bw h0 B S.1 S.2.2.1 S.2.2.2.2.2.2) B S.2.1 S.2.2.1 S.2.2.2.1 S.2.2.2.2.1 S.2.2.2.2.2.1)) ∧ (∀ e : Nat, r = .error e → ∀ z, S.1.1 ≤ z → z ≤ S.1.1 + 1 → Q (.error e) (xh (bw h0 B (z, S.1.2.1 - 1, S.1.2.2 - 6) S.2.2.1 S.2.2.2.2.2.2) B S.2.1 S.2.2.1 S.2.2.2.1 S.2.2.2.2.1 S.2.2.2.2.2.1))) : AW g MX9_queued 0 [some (.ref (B)), some (.int (p1)), some (.int (p2))] [] (xh (bw h0 B S.1 S.2.2.1 S.2.2.2.2.2.2) B S.2.1 S.2.2.1 S.2.2.2.1 S.2.2.2.2.1 S.2.2.2.2.2.1) Q := by
  unfold sX9_queued at hs
  refine AW.aload_n (z := 0) (am_r 0 rfl) rfl rfl ?_
  refine AW.iload_n (z := 1) (am_r 1 rfl) rfl rfl ?_
  refine oexc_e hs (fun r1 hg3 hs => ?_)
  refine AW.callV (N := MX9_itemOf) (As := [.int (p1)]) (S := []) (L0 := [some (.ref (B)), some (.int (p1))]) (b := B) (am_r 2 rfl) rfl ovX9_itemOf q948 rfl rfl xh_0 rfl rfl rfl rfl (dX9_itemOf hB hst  hg3 ⟨fun w5 hv4 => ?_, fun e hv4 z h1 h2 => ?_⟩)
  · subst hv4
    refine fun hok2 => (cQ_r ?_)
    refine AW.iload_n (z := 2) (am_r 3 rfl) rfl rfl ?_
    refine obind_e hs (fun r6 hg8 hs => ?_)
    refine AW.callV (N := MX2_queuedAt) (As := [.int (p2)]) (S := []) (L0 := [some (.ref ((B + 1) + 20 + 2 * w5)), some (.int (p2))]) (b := (B + 1) + 20 + 2 * w5) (am_r 4 rfl) rfl ovX2_queuedAt q1094 rfl rfl (xl_get (fun _ => (sb_it hok2))) rfl rfl rfl rfl (AW.heq xh_l (dX2_queuedAt (Nat.le_trans hB (by omega)) hok2 hg8 (cQ_r (AW.heq xh_l.symm ?_))))
    have hr := (Option.some.inj hs).symm
    exact AW.iret (am_r 5 rfl) rfl (hQ.1 _ hr)
  · subst hv4
    have hr := (Option.some.inj hs).symm
    exact cQ_x (AX.out rfl (hQ.2 _ hr z h1 h2))
noncomputable def sX9_loan (S : XT) (B : Nat) (p1 : Int32) (p2 : Int32) : Option (Except Nat Int32) :=
  oexc (sX9_itemOf S B p1) (fun e => e) fun w5 =>
  if (bz (gi S.2.2.2.2.2.1 3 15 w5)) = 0 then
    some (.ok ((-1 : Int32)))
  else
    if p2 = (0 : Int32) then
      some (.ok (gi S.2.2.2.2.2.1 3 16 w5))
    else
    if p2 = (1 : Int32) then
      some (.ok (gi S.2.2.2.2.2.1 3 17 w5))
    else
    if p2 = (2 : Int32) then
      some (.ok (gi S.2.2.2.2.2.1 3 18 w5))
    else
    some (.ok ((-1 : Int32)))
set_option maxRecDepth 100000 in
theorem dX9_loan {g : AG} {h0 : AH} {S : XT} {Q : AO → AH → Prop} {B : Nat} {p1 : Int32} {p2 : Int32} (hB : gB g ≤ B) (hst : Sta g h0)  {r : (Except Nat Int32)} (hs : sX9_loan S B p1 p2 = some r) (hQ : (∀ v : Int32, r = .ok v → Q (.ok (some (.int v))) (xh (bw h0 B S.1 S.2.2.1 S.2.2.2.2.2.2) B S.2.1 S.2.2.1 S.2.2.2.1 S.2.2.2.2.1 S.2.2.2.2.2.1)) ∧ (∀ e : Nat, r = .error e → ∀ z, S.1.1 ≤ z → z ≤ S.1.1 + 1 → Q (.error e) (xh (bw h0 B (z, S.1.2.1 - 1, S.1.2.2 - 6) S.2.2.1 S.2.2.2.2.2.2) B S.2.1 S.2.2.1 S.2.2.2.1 S.2.2.2.2.1 S.2.2.2.2.2.1))) : AW g MX9_loan 0 [some (.ref (B)), some (.int (p1)), some (.int (p2)), none] [] (xh (bw h0 B S.1 S.2.2.1 S.2.2.2.2.2.2) B S.2.1 S.2.2.1 S.2.2.2.1 S.2.2.2.2.1 S.2.2.2.2.2.1) Q := by
  unfold sX9_loan at hs
  refine AW.aload_n (z := 0) (am_r 0 rfl) rfl rfl ?_
  refine AW.iload_n (z := 1) (am_r 1 rfl) rfl rfl ?_
  refine oexc_e hs (fun r1 hg3 hs => ?_)
  refine AW.callV (N := MX9_itemOf) (As := [.int (p1)]) (S := []) (L0 := [some (.ref (B)), some (.int (p1))]) (b := B) (am_r 2 rfl) rfl ovX9_itemOf q948 rfl rfl xh_0 rfl rfl rfl rfl (dX9_itemOf hB hst  hg3 ⟨fun w5 hv4 => ?_, fun e hv4 z h1 h2 => ?_⟩)
  · subst hv4
    refine fun hok2 => (cQ_r ?_)
    refine AW.astore_n (L' := [some (.ref (B)), some (.int (p1)), some (.int (p2)), some (.ref ((B + 1) + 20 + 2 * w5))]) (z := 3) (am_r 3 rfl) rfl (Nat.le_of_ble_eq_true rfl) rfl ?_
    refine AW.aload_n (z := 3) (am_r 4 rfl) rfl rfl ?_
    refine AW.getO (am_r 5 rfl) rfl klX2 (k := 15) (by omega) q161 (xl_get (fun _ => (sb_it hok2))) rfl ?_
    refine AW.if_ne (tg := 15) (am_r 6 rfl) rfl rfl (fun hc6 => ?_) (fun hc6 => ?_)
    · replace hs := (if_neg hc6).symm.trans hs
      refine AW.iload_n (z := 2) (am_r 9 rfl) rfl rfl ?_
      by_cases hw7 : p2 = (0 : Int32)
      · replace hs := (if_pos hw7).symm.trans hs
        refine AW.tabsw_at (tg := 44) (i := 0) (am_r 10 rfl) hw7 rfl rfl rfl (by decide) ?_
        refine AW.aload_n (z := 3) (am_r 11 rfl) rfl rfl ?_
        refine AW.getO (am_r 12 rfl) rfl klX2 (k := 16) (by omega) q164 (xl_get (fun _ => (sb_it hok2))) rfl ?_
        have hr := (Option.some.inj hs).symm
        exact AW.iret (am_r 13 rfl) rfl (hQ.1 _ hr)
      replace hs := (if_neg hw7).symm.trans hs
      by_cases hw8 : p2 = (1 : Int32)
      · replace hs := (if_pos hw8).symm.trans hs
        refine AW.tabsw_at (tg := 49) (i := 1) (am_r 10 rfl) hw8 rfl rfl rfl (by decide) ?_
        refine AW.aload_n (z := 3) (am_r 14 rfl) rfl rfl ?_
        refine AW.getO (am_r 15 rfl) rfl klX2 (k := 17) (by omega) q167 (xl_get (fun _ => (sb_it hok2))) rfl ?_
        have hr := (Option.some.inj hs).symm
        exact AW.iret (am_r 16 rfl) rfl (hQ.1 _ hr)
      replace hs := (if_neg hw8).symm.trans hs
      by_cases hw9 : p2 = (2 : Int32)
      · replace hs := (if_pos hw9).symm.trans hs
        refine AW.tabsw_at (tg := 54) (i := 2) (am_r 10 rfl) hw9 rfl rfl rfl (by decide) ?_
        refine AW.aload_n (z := 3) (am_r 17 rfl) rfl rfl ?_
        refine AW.getO (am_r 18 rfl) rfl klX2 (k := 18) (by omega) q169 (xl_get (fun _ => (sb_it hok2))) rfl ?_
        have hr := (Option.some.inj hs).symm
        exact AW.iret (am_r 19 rfl) rfl (hQ.1 _ hr)
      replace hs := (if_neg hw9).symm.trans hs
      refine AW.tabsw_d (tg := 59) [0, 1, 2] (am_r 10 rfl) rfl (by decide) (by decide) (List.forall_mem_cons.mpr ⟨hw7, List.forall_mem_cons.mpr ⟨hw8, List.forall_mem_cons.mpr ⟨hw9, fun _ h => nomatch h⟩⟩⟩) ?_
      refine AW.iconst (am_r 20 rfl) rfl ci_m1 ?_
      have hr := (Option.some.inj hs).symm
      exact AW.iret (am_r 21 rfl) rfl (hQ.1 _ hr)
    · replace hs := (if_pos hc6).symm.trans hs
      refine AW.iconst (am_r 7 rfl) rfl ci_m1 ?_
      have hr := (Option.some.inj hs).symm
      exact AW.iret (am_r 8 rfl) rfl (hQ.1 _ hr)
  · subst hv4
    have hr := (Option.some.inj hs).symm
    exact cQ_x (AX.out rfl (hQ.2 _ hr z h1 h2))
