/-! ===== THE STUDIO'S METHODS, DECOMPILED (laid by a program) ===== -/
theorem cb_6 : (Int8.ofInt (6)).toInt32 = (6 : Int32) := by decide
theorem cb_16 : (Int8.ofInt (16)).toInt32 = (16 : Int32) := by decide
theorem cb_20 : (Int8.ofInt (20)).toInt32 = (20 : Int32) := by decide
theorem cb_72 : (Int8.ofInt (72)).toInt32 = (72 : Int32) := by decide
theorem cb_100 : (Int8.ofInt (100)).toInt32 = (100 : Int32) := by decide
theorem ci_m1 : Int32.ofInt (-1) = (-1 : Int32) := by decide
theorem ci_0 : Int32.ofInt (0) = (0 : Int32) := by decide
theorem ci_1 : Int32.ofInt (1) = (1 : Int32) := by decide
theorem ci_2 : Int32.ofInt (2) = (2 : Int32) := by decide
theorem ci_3 : Int32.ofInt (3) = (3 : Int32) := by decide
theorem ci_4 : Int32.ofInt (4) = (4 : Int32) := by decide
theorem ci_5 : Int32.ofInt (5) = (5 : Int32) := by decide
theorem cl_0 : Int64.ofNat ((0 : Fin 2) : Nat) = (0 : Int64) := by decide
theorem cn_6 : Int32.ofNat 6 = (6 : Int32) := by decide
theorem cn_8 : Int32.ofNat 8 = (8 : Int32) := by decide
theorem cn_10 : Int32.ofNat 10 = (10 : Int32) := by decide
theorem cn_16 : Int32.ofNat 16 = (16 : Int32) := by decide
theorem cn_600 : Int32.ofNat 600 = (600 : Int32) := by decide
theorem cs_1000 : (Int16.ofInt (1000)).toInt32 = (1000 : Int32) := by decide
theorem cs_20000 : (Int16.ofInt (20000)).toInt32 = (20000 : Int32) := by decide
theorem cs_30000 : (Int16.ofInt (30000)).toInt32 = (30000 : Int32) := by decide
theorem cs_30001 : (Int16.ofInt (30001)).toInt32 = (30001 : Int32) := by decide
def sX0_clear (S : Mem)  : Mem :=
  olet (si S 5 1 0 ((0 : Int32))) fun S1 =>
  olet (si S1 5 2 0 ((0 : Int32))) fun S2 =>
  S2
set_option maxRecDepth 100000 in
theorem dX0_clear {g : AG} {h0 : AH} {b : Nat} {S : Mem} {Q : AO → AH → Prop}  (hA : gB g ≤ b)  {r : Mem} (hs : sX0_clear S  = r) (hQ : Q (.ok none) (sb h0 b r)) : AW g MX0_clear 0 [some (.ref (b + 56))] [] (sb h0 b S) Q := by
  unfold sX0_clear at hs
  refine AW.aload_n (z := 0) (am_r 0 rfl) rfl rfl ?_
  refine AW.iconst (am_r 1 rfl) rfl ci_0 ?_
  refine AW.putO (am_r 2 rfl) rfl klX0 (k := 1) (by omega) q218 (Or.inl rfl) sb_bo (Nat.le_trans hA (by omega)) rfl rfl (sbp_bo (by omega)) ?_
  refine olet_e (P := fun y => AW g MX0_clear 5 [some (.ref (b + 56))] [] (sb h0 b y) Q) hs (fun S1 hs => ?_)
  refine AW.aload_n (z := 0) (am_r 3 rfl) rfl rfl ?_
  refine AW.iconst (am_r 4 rfl) rfl ci_0 ?_
  refine AW.putO (am_r 5 rfl) rfl klX0 (k := 2) (by omega) q219 (Or.inl rfl) sb_bo (Nat.le_trans hA (by omega)) rfl rfl (sbp_bo (by omega)) ?_
  refine olet_e (P := fun y => AW g MX0_clear 10 [some (.ref (b + 56))] [] (sb h0 b y) Q) hs (fun S2 hs => ?_)
  have hr := hs.symm
  subst hr
  exact AW.vret (am_r 6 rfl) rfl hQ
noncomputable def sX0_add_j52 (S : Mem) (p1 : Int32) (p2 : Int32) (p3 : Int32) (p4 : Int32) (p5 : Int32) (p6 : Int32) (y0 : Int32) : Option Mem :=
  if y0 < 0 then
    some (S)
  else
    if (600 : Int32) ≤ (y0 + (5 : Int32)) then
      some (S)
    else
      oif (inb y0 600) (
      olet (si S 6 y0.toNatClampNeg 0 (p1)) fun S7 =>
      oif (inb (y0 + (1 : Int32)) 600) (
      olet (si S7 6 (y0 + (1 : Int32)).toNatClampNeg 0 (p2)) fun S9 =>
      oif (inb (y0 + (2 : Int32)) 600) (
      olet (si S9 6 (y0 + (2 : Int32)).toNatClampNeg 0 (p3)) fun S11 =>
      oif (inb (y0 + (3 : Int32)) 600) (
      olet (si S11 6 (y0 + (3 : Int32)).toNatClampNeg 0 (p4)) fun S13 =>
      oif (inb (y0 + (4 : Int32)) 600) (
      olet (si S13 6 (y0 + (4 : Int32)).toNatClampNeg 0 (p5)) fun S15 =>
      oif (inb (y0 + (5 : Int32)) 600) (
      olet (si S15 6 (y0 + (5 : Int32)).toNatClampNeg 0 (p6)) fun S17 =>
      some (S17)))))))
set_option maxRecDepth 100000 in
theorem dX0_add_j52 {g : AG} {h0 : AH} {b : Nat} {S : Mem} {Q : AO → AH → Prop} {p1 : Int32} {p2 : Int32} {p3 : Int32} {p4 : Int32} {p5 : Int32} {p6 : Int32} {y0 : Int32} (hA : gB g ≤ b)   {r : Mem} (hs : sX0_add_j52 S p1 p2 p3 p4 p5 p6 y0 = some r) (hQ : Q (.ok none) (sb h0 b r)) : AW g MX0_add 52 [some (.ref (b + 56)), some (.int (p1)), some (.int (p2)), some (.int (p3)), some (.int (p4)), some (.int (p5)), some (.int (p6)), some (.int (y0))] [] (sb h0 b S) Q := by
  unfold sX0_add_j52 at hs
  refine AW.iload (am_r 29 rfl) rfl rfl ?_
  refine AW.if_lt (tg := 130) (am_r 30 rfl) rfl rfl (fun hc4 => ?_) (fun hc4 => ?_)
  · replace hs := (if_pos hc4).symm.trans hs
    have hr := (Option.some.inj hs).symm
    subst hr
    exact AW.vret (am_r 78 rfl) rfl hQ
  · replace hs := (if_neg hc4).symm.trans hs
    refine AW.iload (am_r 31 rfl) rfl rfl ?_
    refine AW.iconst (am_r 32 rfl) rfl ci_5 ?_
    refine AW.iadd (am_r 33 rfl) rfl ?_
    refine AW.aload_n (z := 0) (am_r 34 rfl) rfl rfl ?_
    refine AW.getO (am_r 35 rfl) rfl klX0 (k := 0) (by omega) q217 sb_bo rfl ?_
    refine AW.alen (am_r 36 rfl) rfl rfl sb_ce cn_600 ?_
    refine AW.icmp_ge (tg := 130) (am_r 37 rfl) rfl rfl (fun hc5 => ?_) (fun hc5 => ?_)
    · replace hs := (if_pos hc5).symm.trans hs
      have hr := (Option.some.inj hs).symm
      subst hr
      exact AW.vret (am_r 78 rfl) rfl hQ
    · replace hs := (if_neg hc5).symm.trans hs
      refine AW.aload_n (z := 0) (am_r 38 rfl) rfl rfl ?_
      refine AW.getO (am_r 39 rfl) rfl klX0 (k := 0) (by omega) q217 sb_bo rfl ?_
      refine AW.iload (am_r 40 rfl) rfl rfl ?_
      refine AW.iload_n (z := 1) (am_r 41 rfl) rfl rfl ?_
      refine oif_g hs (fun hg6 hs => ?_)
      refine AW.iast (am_r 42 rfl) rfl sb_ce (Nat.le_trans hA (by omega)) (vp_of_inb hg6) ?_
      rw [show _ = _ from sbp_ce]
      refine olet_e (P := fun y => AW g MX0_add 77 [some (.ref (b + 56)), some (.int (p1)), some (.int (p2)), some (.int (p3)), some (.int (p4)), some (.int (p5)), some (.int (p6)), some (.int (y0))] [] (sb h0 b y) Q) hs (fun S7 hs => ?_)
      refine AW.aload_n (z := 0) (am_r 43 rfl) rfl rfl ?_
      refine AW.getO (am_r 44 rfl) rfl klX0 (k := 0) (by omega) q217 sb_bo rfl ?_
      refine AW.iload (am_r 45 rfl) rfl rfl ?_
      refine AW.iconst (am_r 46 rfl) rfl ci_1 ?_
      refine AW.iadd (am_r 47 rfl) rfl ?_
      refine AW.iload_n (z := 2) (am_r 48 rfl) rfl rfl ?_
      refine oif_g hs (fun hg8 hs => ?_)
      refine AW.iast (am_r 49 rfl) rfl sb_ce (Nat.le_trans hA (by omega)) (vp_of_inb hg8) ?_
      rw [show _ = _ from sbp_ce]
      refine olet_e (P := fun y => AW g MX0_add 87 [some (.ref (b + 56)), some (.int (p1)), some (.int (p2)), some (.int (p3)), some (.int (p4)), some (.int (p5)), some (.int (p6)), some (.int (y0))] [] (sb h0 b y) Q) hs (fun S9 hs => ?_)
      refine AW.aload_n (z := 0) (am_r 50 rfl) rfl rfl ?_
      refine AW.getO (am_r 51 rfl) rfl klX0 (k := 0) (by omega) q217 sb_bo rfl ?_
      refine AW.iload (am_r 52 rfl) rfl rfl ?_
      refine AW.iconst (am_r 53 rfl) rfl ci_2 ?_
      refine AW.iadd (am_r 54 rfl) rfl ?_
      refine AW.iload_n (z := 3) (am_r 55 rfl) rfl rfl ?_
      refine oif_g hs (fun hg10 hs => ?_)
      refine AW.iast (am_r 56 rfl) rfl sb_ce (Nat.le_trans hA (by omega)) (vp_of_inb hg10) ?_
      rw [show _ = _ from sbp_ce]
      refine olet_e (P := fun y => AW g MX0_add 97 [some (.ref (b + 56)), some (.int (p1)), some (.int (p2)), some (.int (p3)), some (.int (p4)), some (.int (p5)), some (.int (p6)), some (.int (y0))] [] (sb h0 b y) Q) hs (fun S11 hs => ?_)
      refine AW.aload_n (z := 0) (am_r 57 rfl) rfl rfl ?_
      refine AW.getO (am_r 58 rfl) rfl klX0 (k := 0) (by omega) q217 sb_bo rfl ?_
      refine AW.iload (am_r 59 rfl) rfl rfl ?_
      refine AW.iconst (am_r 60 rfl) rfl ci_3 ?_
      refine AW.iadd (am_r 61 rfl) rfl ?_
      refine AW.iload (am_r 62 rfl) rfl rfl ?_
      refine oif_g hs (fun hg12 hs => ?_)
      refine AW.iast (am_r 63 rfl) rfl sb_ce (Nat.le_trans hA (by omega)) (vp_of_inb hg12) ?_
      rw [show _ = _ from sbp_ce]
      refine olet_e (P := fun y => AW g MX0_add 108 [some (.ref (b + 56)), some (.int (p1)), some (.int (p2)), some (.int (p3)), some (.int (p4)), some (.int (p5)), some (.int (p6)), some (.int (y0))] [] (sb h0 b y) Q) hs (fun S13 hs => ?_)
      refine AW.aload_n (z := 0) (am_r 64 rfl) rfl rfl ?_
      refine AW.getO (am_r 65 rfl) rfl klX0 (k := 0) (by omega) q217 sb_bo rfl ?_
      refine AW.iload (am_r 66 rfl) rfl rfl ?_
      refine AW.iconst (am_r 67 rfl) rfl ci_4 ?_
      refine AW.iadd (am_r 68 rfl) rfl ?_
      refine AW.iload (am_r 69 rfl) rfl rfl ?_
      refine oif_g hs (fun hg14 hs => ?_)
      refine AW.iast (am_r 70 rfl) rfl sb_ce (Nat.le_trans hA (by omega)) (vp_of_inb hg14) ?_
      rw [show _ = _ from sbp_ce]
      refine olet_e (P := fun y => AW g MX0_add 119 [some (.ref (b + 56)), some (.int (p1)), some (.int (p2)), some (.int (p3)), some (.int (p4)), some (.int (p5)), some (.int (p6)), some (.int (y0))] [] (sb h0 b y) Q) hs (fun S15 hs => ?_)
      refine AW.aload_n (z := 0) (am_r 71 rfl) rfl rfl ?_
      refine AW.getO (am_r 72 rfl) rfl klX0 (k := 0) (by omega) q217 sb_bo rfl ?_
      refine AW.iload (am_r 73 rfl) rfl rfl ?_
      refine AW.iconst (am_r 74 rfl) rfl ci_5 ?_
      refine AW.iadd (am_r 75 rfl) rfl ?_
      refine AW.iload (am_r 76 rfl) rfl rfl ?_
      refine oif_g hs (fun hg16 hs => ?_)
      refine AW.iast (am_r 77 rfl) rfl sb_ce (Nat.le_trans hA (by omega)) (vp_of_inb hg16) ?_
      rw [show _ = _ from sbp_ce]
      refine olet_e (P := fun y => AW g MX0_add 130 [some (.ref (b + 56)), some (.int (p1)), some (.int (p2)), some (.int (p3)), some (.int (p4)), some (.int (p5)), some (.int (p6)), some (.int (y0))] [] (sb h0 b y) Q) hs (fun S17 hs => ?_)
      have hr := (Option.some.inj hs).symm
      subst hr
      exact AW.vret (am_r 78 rfl) rfl hQ
noncomputable def sX0_add (S : Mem) (p1 : Int32) (p2 : Int32) (p3 : Int32) (p4 : Int32) (p5 : Int32) (p6 : Int32) : Option Mem :=
  olet ((((gi S 5 1 0) + (gi S 5 2 0)) - ((gi S 5 1 0) + (gi S 5 2 0)) / (100 : Int32) * (100 : Int32)) * (6 : Int32)) fun v1 =>
  if (100 : Int32) ≤ (gi S 5 2 0) then
    olet (si S 5 1 0 (((gi S 5 1 0) + (1 : Int32)) - ((gi S 5 1 0) + (1 : Int32)) / (100 : Int32) * (100 : Int32))) fun S3 =>
    sX0_add_j52 S3 p1 p2 p3 p4 p5 p6 v1
  else
    olet (si S 5 2 0 ((gi S 5 2 0) + (1 : Int32))) fun S18 =>
    sX0_add_j52 S18 p1 p2 p3 p4 p5 p6 v1
set_option maxRecDepth 100000 in
theorem dX0_add {g : AG} {h0 : AH} {b : Nat} {S : Mem} {Q : AO → AH → Prop} {p1 : Int32} {p2 : Int32} {p3 : Int32} {p4 : Int32} {p5 : Int32} {p6 : Int32} (hA : gB g ≤ b)  {r : Mem} (hs : sX0_add S p1 p2 p3 p4 p5 p6 = some r) (hQ : Q (.ok none) (sb h0 b r)) : AW g MX0_add 0 [some (.ref (b + 56)), some (.int (p1)), some (.int (p2)), some (.int (p3)), some (.int (p4)), some (.int (p5)), some (.int (p6)), none] [] (sb h0 b S) Q := by
  unfold sX0_add at hs
  refine AW.aload_n (z := 0) (am_r 0 rfl) rfl rfl ?_
  refine AW.getO (am_r 1 rfl) rfl klX0 (k := 1) (by omega) q218 sb_bo rfl ?_
  refine AW.aload_n (z := 0) (am_r 2 rfl) rfl rfl ?_
  refine AW.getO (am_r 3 rfl) rfl klX0 (k := 2) (by omega) q219 sb_bo rfl ?_
  refine AW.iadd (am_r 4 rfl) rfl ?_
  refine AW.bipush (am_r 5 rfl) rfl cb_100 ?_
  refine AW.irem (am_r 6 rfl) rfl (by decide) ?_
  refine AW.bipush (am_r 7 rfl) rfl cb_6 ?_
  refine AW.imul (am_r 8 rfl) rfl ?_
  refine olet_e (P := fun y => AW g MX0_add 15 [some (.ref (b + 56)), some (.int (p1)), some (.int (p2)), some (.int (p3)), some (.int (p4)), some (.int (p5)), some (.int (p6)), none] [(.int (y))] (sb h0 b S) Q) hs (fun v1 hs => ?_)
  refine AW.istore (L' := [some (.ref (b + 56)), some (.int (p1)), some (.int (p2)), some (.int (p3)), some (.int (p4)), some (.int (p5)), some (.int (p6)), some (.int (v1))]) (am_r 9 rfl) rfl (Nat.le_of_ble_eq_true rfl) rfl ?_
  refine AW.aload_n (z := 0) (am_r 10 rfl) rfl rfl ?_
  refine AW.getO (am_r 11 rfl) rfl klX0 (k := 2) (by omega) q219 sb_bo rfl ?_
  refine AW.bipush (am_r 12 rfl) rfl cb_100 ?_
  refine AW.icmp_ge (tg := 39) (am_r 13 rfl) rfl rfl (fun hc2 => ?_) (fun hc2 => ?_)
  · replace hs := (if_pos hc2).symm.trans hs
    refine AW.aload_n (z := 0) (am_r 21 rfl) rfl rfl ?_
    refine AW.aload_n (z := 0) (am_r 22 rfl) rfl rfl ?_
    refine AW.getO (am_r 23 rfl) rfl klX0 (k := 1) (by omega) q218 sb_bo rfl ?_
    refine AW.iconst (am_r 24 rfl) rfl ci_1 ?_
    refine AW.iadd (am_r 25 rfl) rfl ?_
    refine AW.bipush (am_r 26 rfl) rfl cb_100 ?_
    refine AW.irem (am_r 27 rfl) rfl (by decide) ?_
    refine AW.putO (am_r 28 rfl) rfl klX0 (k := 1) (by omega) q218 (Or.inl rfl) sb_bo (Nat.le_trans hA (by omega)) rfl rfl (sbp_bo (by omega)) ?_
    refine olet_e (P := fun y => AW g MX0_add 52 [some (.ref (b + 56)), some (.int (p1)), some (.int (p2)), some (.int (p3)), some (.int (p4)), some (.int (p5)), some (.int (p6)), some (.int (v1))] [] (sb h0 b y) Q) hs (fun S3 hs => ?_)
    exact dX0_add_j52 hA   hs hQ
  · replace hs := (if_neg hc2).symm.trans hs
    refine AW.aload_n (z := 0) (am_r 14 rfl) rfl rfl ?_
    refine AW.dup (am_r 15 rfl) rfl rfl ?_
    refine AW.getO (am_r 16 rfl) rfl klX0 (k := 2) (by omega) q219 sb_bo rfl ?_
    refine AW.iconst (am_r 17 rfl) rfl ci_1 ?_
    refine AW.iadd (am_r 18 rfl) rfl ?_
    refine AW.putO (am_r 19 rfl) rfl klX0 (k := 2) (by omega) q219 (Or.inl rfl) sb_bo (Nat.le_trans hA (by omega)) rfl rfl (sbp_bo (by omega)) ?_
    refine olet_e (P := fun y => AW g MX0_add 36 [some (.ref (b + 56)), some (.int (p1)), some (.int (p2)), some (.int (p3)), some (.int (p4)), some (.int (p5)), some (.int (p6)), some (.int (v1))] [] (sb h0 b y) Q) hs (fun S18 hs => ?_)
    refine AW.goto (tg := 52) (am_r 20 rfl) rfl ?_
    exact dX0_add_j52 hA   hs hQ
def sX0_cell (S : Mem) (p1 : Int32) (p2 : Int32) : Int32 :=
  if p1 < 0 then
    (-1 : Int32)
  else
    if (gi S 5 2 0) ≤ p1 then
      (-1 : Int32)
    else
      if p2 < 0 then
        (-1 : Int32)
      else
        if p2 < (6 : Int32) then
          olet (((((gi S 5 1 0) + p1) - ((gi S 5 1 0) + p1) / (100 : Int32) * (100 : Int32)) * (6 : Int32)) + p2) fun v5 =>
          if v5 < 0 then
            (-1 : Int32)
          else
            if (600 : Int32) ≤ v5 then
              (-1 : Int32)
            else
              gi S 6 v5.toNatClampNeg 0
        else
          (-1 : Int32)
set_option maxRecDepth 100000 in
theorem dX0_cell {g : AG} {h0 : AH} {b : Nat} {S : Mem} {Q : AO → AH → Prop} {p1 : Int32} {p2 : Int32} (hA : gB g ≤ b)  {r : Int32} (hs : sX0_cell S p1 p2 = r) (hQ : Q (.ok (some (.int r))) (sb h0 b S)) : AW g MX0_cell 0 [some (.ref (b + 56)), some (.int (p1)), some (.int (p2)), none] [] (sb h0 b S) Q := by
  unfold sX0_cell at hs
  refine AW.iload_n (z := 1) (am_r 0 rfl) rfl rfl ?_
  refine AW.if_lt (tg := 22) (am_r 1 rfl) rfl rfl (fun hc1 => ?_) (fun hc1 => ?_)
  · replace hs := (if_pos hc1).symm.trans hs
    refine AW.iconst (am_r 11 rfl) rfl ci_m1 ?_
    have hr := hs.symm
    subst hr
    exact AW.iret (am_r 12 rfl) rfl hQ
  · replace hs := (if_neg hc1).symm.trans hs
    refine AW.iload_n (z := 1) (am_r 2 rfl) rfl rfl ?_
    refine AW.aload_n (z := 0) (am_r 3 rfl) rfl rfl ?_
    refine AW.getO (am_r 4 rfl) rfl klX0 (k := 2) (by omega) q219 sb_bo rfl ?_
    refine AW.icmp_ge (tg := 22) (am_r 5 rfl) rfl rfl (fun hc2 => ?_) (fun hc2 => ?_)
    · replace hs := (if_pos hc2).symm.trans hs
      refine AW.iconst (am_r 11 rfl) rfl ci_m1 ?_
      have hr := hs.symm
      subst hr
      exact AW.iret (am_r 12 rfl) rfl hQ
    · replace hs := (if_neg hc2).symm.trans hs
      refine AW.iload_n (z := 2) (am_r 6 rfl) rfl rfl ?_
      refine AW.if_lt (tg := 22) (am_r 7 rfl) rfl rfl (fun hc3 => ?_) (fun hc3 => ?_)
      · replace hs := (if_pos hc3).symm.trans hs
        refine AW.iconst (am_r 11 rfl) rfl ci_m1 ?_
        have hr := hs.symm
        subst hr
        exact AW.iret (am_r 12 rfl) rfl hQ
      · replace hs := (if_neg hc3).symm.trans hs
        refine AW.iload_n (z := 2) (am_r 8 rfl) rfl rfl ?_
        refine AW.bipush (am_r 9 rfl) rfl cb_6 ?_
        refine AW.icmp_lt (tg := 24) (am_r 10 rfl) rfl rfl (fun hc4 => ?_) (fun hc4 => ?_)
        · replace hs := (if_pos hc4).symm.trans hs
          refine AW.aload_n (z := 0) (am_r 13 rfl) rfl rfl ?_
          refine AW.getO (am_r 14 rfl) rfl klX0 (k := 1) (by omega) q218 sb_bo rfl ?_
          refine AW.iload_n (z := 1) (am_r 15 rfl) rfl rfl ?_
          refine AW.iadd (am_r 16 rfl) rfl ?_
          refine AW.bipush (am_r 17 rfl) rfl cb_100 ?_
          refine AW.irem (am_r 18 rfl) rfl (by decide) ?_
          refine AW.bipush (am_r 19 rfl) rfl cb_6 ?_
          refine AW.imul (am_r 20 rfl) rfl ?_
          refine AW.iload_n (z := 2) (am_r 21 rfl) rfl rfl ?_
          refine AW.iadd (am_r 22 rfl) rfl ?_
          refine olet_e (P := fun y => AW g MX0_cell 38 [some (.ref (b + 56)), some (.int (p1)), some (.int (p2)), none] [(.int (y))] (sb h0 b S) Q) hs (fun v5 hs => ?_)
          refine AW.istore_n (L' := [some (.ref (b + 56)), some (.int (p1)), some (.int (p2)), some (.int (v5))]) (z := 3) (am_r 23 rfl) rfl (Nat.le_of_ble_eq_true rfl) rfl ?_
          refine AW.iload_n (z := 3) (am_r 24 rfl) rfl rfl ?_
          refine AW.if_lt (tg := 61) (am_r 25 rfl) rfl rfl (fun hc6 => ?_) (fun hc6 => ?_)
          · replace hs := (if_pos hc6).symm.trans hs
            refine AW.iconst (am_r 36 rfl) rfl ci_m1 ?_
            have hr := hs.symm
            subst hr
            exact AW.iret (am_r 37 rfl) rfl hQ
          · replace hs := (if_neg hc6).symm.trans hs
            refine AW.iload_n (z := 3) (am_r 26 rfl) rfl rfl ?_
            refine AW.aload_n (z := 0) (am_r 27 rfl) rfl rfl ?_
            refine AW.getO (am_r 28 rfl) rfl klX0 (k := 0) (by omega) q217 sb_bo rfl ?_
            refine AW.alen (am_r 29 rfl) rfl rfl sb_ce cn_600 ?_
            refine AW.icmp_ge (tg := 61) (am_r 30 rfl) rfl rfl (fun hc7 => ?_) (fun hc7 => ?_)
            · replace hs := (if_pos hc7).symm.trans hs
              refine AW.iconst (am_r 36 rfl) rfl ci_m1 ?_
              have hr := hs.symm
              subst hr
              exact AW.iret (am_r 37 rfl) rfl hQ
            · replace hs := (if_neg hc7).symm.trans hs
              refine AW.aload_n (z := 0) (am_r 31 rfl) rfl rfl ?_
              refine AW.getO (am_r 32 rfl) rfl klX0 (k := 0) (by omega) q217 sb_bo rfl ?_
              refine AW.iload_n (z := 3) (am_r 33 rfl) rfl rfl ?_
              refine AW.iald (am_r 34 rfl) rfl sb_ce (vp_mk hc6 (by decide) (vp_hi hc7)) rfl ?_
              refine AW.goto (tg := 62) (am_r 35 rfl) rfl ?_
              have hr := hs.symm
              subst hr
              exact AW.iret (am_r 37 rfl) rfl hQ
        · replace hs := (if_neg hc4).symm.trans hs
          refine AW.iconst (am_r 11 rfl) rfl ci_m1 ?_
          have hr := hs.symm
          subst hr
          exact AW.iret (am_r 12 rfl) rfl hQ
def sX0_isOf (S : Mem) (p1 : Int32) (p2 : Int32) : Int32 :=
  if (sX0_cell S p1 (0 : Int32)) = p2 then
    (1 : Int32)
  else
    (0 : Int32)
set_option maxRecDepth 100000 in
theorem dX0_isOf {g : AG} {h0 : AH} {b : Nat} {S : Mem} {Q : AO → AH → Prop} {p1 : Int32} {p2 : Int32} (hA : gB g ≤ b)  {r : Int32} (hs : sX0_isOf S p1 p2 = r) (hQ : (r = 0 ∨ r = 1) → Q (.ok (some (.int r))) (sb h0 b S)) : AW g MX0_isOf 0 [some (.ref (b + 56)), some (.int (p1)), some (.int (p2))] [] (sb h0 b S) Q := by
  unfold sX0_isOf at hs
  refine AW.aload_n (z := 0) (am_r 0 rfl) rfl rfl ?_
  refine AW.iload_n (z := 1) (am_r 1 rfl) rfl rfl ?_
  refine AW.iconst (am_r 2 rfl) rfl ci_0 ?_
  refine AW.callV (N := MX0_cell) (As := [.int (p1), .int ((0 : Int32))]) (S := []) (L0 := [some (.ref (b + 56)), some (.int (p1)), some (.int ((0 : Int32))), none]) (b := b + 56) (am_r 3 rfl) rfl ovX0_cell q1332 rfl rfl sb_bo rfl rfl rfl rfl (dX0_cell hA  rfl (cQ_r ?_))
  refine AW.iload_n (z := 2) (am_r 4 rfl) rfl rfl ?_
  refine AW.icmp_ne (tg := 14) (am_r 5 rfl) rfl rfl (fun hc3 => ?_) (fun hc3 => ?_)
  · replace hs := (if_neg hc3).symm.trans hs
    refine AW.iconst (am_r 8 rfl) rfl ci_0 ?_
    have hr := hs.symm
    subst hr
    exact AW.zret (am_r 9 rfl) rfl (Or.inl rfl) (hQ (Or.inl rfl))
  · replace hs := (if_pos hc3).symm.trans hs
    refine AW.iconst (am_r 6 rfl) rfl ci_1 ?_
    refine AW.goto (tg := 15) (am_r 7 rfl) rfl ?_
    have hr := hs.symm
    subst hr
    exact AW.zret (am_r 9 rfl) rfl (Or.inr rfl) (hQ (Or.inr rfl))
def sX0_kindOf (S : Mem) (p1 : Int32) : Int32 :=
  sX0_cell S p1 (1 : Int32)
set_option maxRecDepth 100000 in
theorem dX0_kindOf {g : AG} {h0 : AH} {b : Nat} {S : Mem} {Q : AO → AH → Prop} {p1 : Int32} (hA : gB g ≤ b)  {r : Int32} (hs : sX0_kindOf S p1 = r) (hQ : Q (.ok (some (.int r))) (sb h0 b S)) : AW g MX0_kindOf 0 [some (.ref (b + 56)), some (.int (p1))] [] (sb h0 b S) Q := by
  unfold sX0_kindOf at hs
  refine AW.aload_n (z := 0) (am_r 0 rfl) rfl rfl ?_
  refine AW.iload_n (z := 1) (am_r 1 rfl) rfl rfl ?_
  refine AW.iconst (am_r 2 rfl) rfl ci_1 ?_
  refine AW.callV (N := MX0_cell) (As := [.int (p1), .int ((1 : Int32))]) (S := []) (L0 := [some (.ref (b + 56)), some (.int (p1)), some (.int ((1 : Int32))), none]) (b := b + 56) (am_r 3 rfl) rfl ovX0_cell q1332 rfl rfl sb_bo rfl rfl rfl rfl (dX0_cell hA  rfl (cQ_r ?_))
  have hr := hs.symm
  subst hr
  exact AW.iret (am_r 4 rfl) rfl hQ
def sX0_changeOf (S : Mem) (p1 : Int32) : Int32 :=
  (sX0_cell S p1 (5 : Int32)) - (sX0_cell S p1 (4 : Int32))
set_option maxRecDepth 100000 in
theorem dX0_changeOf {g : AG} {h0 : AH} {b : Nat} {S : Mem} {Q : AO → AH → Prop} {p1 : Int32} (hA : gB g ≤ b)  {r : Int32} (hs : sX0_changeOf S p1 = r) (hQ : Q (.ok (some (.int r))) (sb h0 b S)) : AW g MX0_changeOf 0 [some (.ref (b + 56)), some (.int (p1))] [] (sb h0 b S) Q := by
  unfold sX0_changeOf at hs
  refine AW.aload_n (z := 0) (am_r 0 rfl) rfl rfl ?_
  refine AW.iload_n (z := 1) (am_r 1 rfl) rfl rfl ?_
  refine AW.iconst (am_r 2 rfl) rfl ci_5 ?_
  refine AW.callV (N := MX0_cell) (As := [.int (p1), .int ((5 : Int32))]) (S := []) (L0 := [some (.ref (b + 56)), some (.int (p1)), some (.int ((5 : Int32))), none]) (b := b + 56) (am_r 3 rfl) rfl ovX0_cell q1332 rfl rfl sb_bo rfl rfl rfl rfl (dX0_cell hA  rfl (cQ_r ?_))
  refine AW.aload_n (z := 0) (am_r 4 rfl) rfl rfl ?_
  refine AW.iload_n (z := 1) (am_r 5 rfl) rfl rfl ?_
  refine AW.iconst (am_r 6 rfl) rfl ci_4 ?_
  refine AW.callV (N := MX0_cell) (As := [.int (p1), .int ((4 : Int32))]) (S := [(.int (sX0_cell S p1 (5 : Int32)))]) (L0 := [some (.ref (b + 56)), some (.int (p1)), some (.int ((4 : Int32))), none]) (b := b + 56) (am_r 7 rfl) rfl ovX0_cell q1332 rfl rfl sb_bo rfl rfl rfl rfl (dX0_cell hA  rfl (cQ_r ?_))
  refine AW.isub (am_r 8 rfl) rfl ?_
  have hr := hs.symm
  subst hr
  exact AW.iret (am_r 9 rfl) rfl hQ
def sX2_layOnShelf (S : Mem) (i0 : Nat) : Mem :=
  olet (si S 3 5 i0 ((0 : Int32))) fun S1 =>
  olet (si S1 3 6 i0 ((0 : Int32))) fun S2 =>
  olet (si S2 3 9 i0 ((-1 : Int32))) fun S3 =>
  olet (si S3 3 10 i0 ((-1 : Int32))) fun S4 =>
  S4
set_option maxRecDepth 100000 in
theorem dX2_layOnShelf {g : AG} {h0 : AH} {b : Nat} {S : Mem} {Q : AO → AH → Prop} {i0 : Nat} (hA : gB g ≤ b) (hi0 : iok i0) {r : Mem} (hs : sX2_layOnShelf S i0 = r) (hQ : Q (.ok none) (sb h0 b r)) : AW g MX2_layOnShelf 0 [some (.ref (b + 20 + 2 * i0))] [] (sb h0 b S) Q := by
  unfold sX2_layOnShelf at hs
  refine AW.aload_n (z := 0) (am_r 0 rfl) rfl rfl ?_
  refine AW.iconst (am_r 1 rfl) rfl ci_0 ?_
  refine AW.putO (am_r 2 rfl) rfl klX2 (k := 5) (by omega) q133 (Or.inl rfl) (sb_it hi0) (Nat.le_trans hA (by omega)) rfl rfl (sbp_it hi0 (by decide) (fun z => by omega)) ?_
  refine olet_e (P := fun y => AW g MX2_layOnShelf 5 [some (.ref (b + 20 + 2 * i0))] [] (sb h0 b y) Q) hs (fun S1 hs => ?_)
  refine AW.aload_n (z := 0) (am_r 3 rfl) rfl rfl ?_
  refine AW.iconst (am_r 4 rfl) rfl ci_0 ?_
  refine AW.putO (am_r 5 rfl) rfl klX2 (k := 6) (by omega) q136 (Or.inl rfl) (sb_it hi0) (Nat.le_trans hA (by omega)) rfl rfl (sbp_it hi0 (by decide) (fun z => by omega)) ?_
  refine olet_e (P := fun y => AW g MX2_layOnShelf 10 [some (.ref (b + 20 + 2 * i0))] [] (sb h0 b y) Q) hs (fun S2 hs => ?_)
  refine AW.aload_n (z := 0) (am_r 6 rfl) rfl rfl ?_
  refine AW.iconst (am_r 7 rfl) rfl ci_m1 ?_
  refine AW.putO (am_r 8 rfl) rfl klX2 (k := 9) (by omega) q145 (Or.inl rfl) (sb_it hi0) (Nat.le_trans hA (by omega)) rfl rfl (sbp_it hi0 (by decide) (fun z => by omega)) ?_
  refine olet_e (P := fun y => AW g MX2_layOnShelf 15 [some (.ref (b + 20 + 2 * i0))] [] (sb h0 b y) Q) hs (fun S3 hs => ?_)
  refine AW.aload_n (z := 0) (am_r 9 rfl) rfl rfl ?_
  refine AW.iconst (am_r 10 rfl) rfl ci_m1 ?_
  refine AW.putO (am_r 11 rfl) rfl klX2 (k := 10) (by omega) q148 (Or.inl rfl) (sb_it hi0) (Nat.le_trans hA (by omega)) rfl rfl (sbp_it hi0 (by decide) (fun z => by omega)) ?_
  refine olet_e (P := fun y => AW g MX2_layOnShelf 20 [some (.ref (b + 20 + 2 * i0))] [] (sb h0 b y) Q) hs (fun S4 hs => ?_)
  have hr := hs.symm
  subst hr
  exact AW.vret (am_r 12 rfl) rfl hQ
def sX2_clear (S : Mem) (i0 : Nat) (p1 : Int32) (p2 : Int32) (p3 : Int32) : Mem :=
  olet (si S 3 2 i0 (p1)) fun S1 =>
  olet (si S1 3 3 i0 (p2)) fun S2 =>
  olet (si S2 3 4 i0 (p3)) fun S3 =>
  olet (si S3 3 7 i0 ((0 : Int32))) fun S4 =>
  olet (si S4 3 8 i0 ((-1 : Int32))) fun S5 =>
  olet (si S5 3 11 i0 ((0 : Int32))) fun S6 =>
  olet (si S6 3 12 i0 ((0 : Int32))) fun S7 =>
  olet (si S7 3 13 i0 ((0 : Int32))) fun S8 =>
  olet (sq S8 3 i0 ((0 : Int64))) fun S9 =>
  olet (si S9 3 15 i0 ((0 : Int32))) fun S10 =>
  olet (si S10 3 16 i0 ((0 : Int32))) fun S11 =>
  olet (si S11 3 17 i0 ((0 : Int32))) fun S12 =>
  olet (si S12 3 18 i0 ((0 : Int32))) fun S13 =>
  olet (sX2_layOnShelf S13 i0) fun S16 =>
  S16
set_option maxRecDepth 100000 in
theorem dX2_clear {g : AG} {h0 : AH} {b : Nat} {S : Mem} {Q : AO → AH → Prop} {i0 : Nat} {p1 : Int32} {p2 : Int32} {p3 : Int32} (hA : gB g ≤ b) (hi0 : iok i0) {r : Mem} (hs : sX2_clear S i0 p1 p2 p3 = r) (hQ : Q (.ok none) (sb h0 b r)) : AW g MX2_clear 0 [some (.ref (b + 20 + 2 * i0)), some (.int (p1)), some (.int (p2)), some (.int (p3))] [] (sb h0 b S) Q := by
  unfold sX2_clear at hs
  refine AW.aload_n (z := 0) (am_r 0 rfl) rfl rfl ?_
  refine AW.iload_n (z := 1) (am_r 1 rfl) rfl rfl ?_
  refine AW.putO (am_r 2 rfl) rfl klX2 (k := 2) (by omega) q124 (Or.inl rfl) (sb_it hi0) (Nat.le_trans hA (by omega)) rfl rfl (sbp_it hi0 (by decide) (fun z => by omega)) ?_
  refine olet_e (P := fun y => AW g MX2_clear 5 [some (.ref (b + 20 + 2 * i0)), some (.int (p1)), some (.int (p2)), some (.int (p3))] [] (sb h0 b y) Q) hs (fun S1 hs => ?_)
  refine AW.aload_n (z := 0) (am_r 3 rfl) rfl rfl ?_
  refine AW.iload_n (z := 2) (am_r 4 rfl) rfl rfl ?_
  refine AW.putO (am_r 5 rfl) rfl klX2 (k := 3) (by omega) q127 (Or.inl rfl) (sb_it hi0) (Nat.le_trans hA (by omega)) rfl rfl (sbp_it hi0 (by decide) (fun z => by omega)) ?_
  refine olet_e (P := fun y => AW g MX2_clear 10 [some (.ref (b + 20 + 2 * i0)), some (.int (p1)), some (.int (p2)), some (.int (p3))] [] (sb h0 b y) Q) hs (fun S2 hs => ?_)
  refine AW.aload_n (z := 0) (am_r 6 rfl) rfl rfl ?_
  refine AW.iload_n (z := 3) (am_r 7 rfl) rfl rfl ?_
  refine AW.putO (am_r 8 rfl) rfl klX2 (k := 4) (by omega) q130 (Or.inl rfl) (sb_it hi0) (Nat.le_trans hA (by omega)) rfl rfl (sbp_it hi0 (by decide) (fun z => by omega)) ?_
  refine olet_e (P := fun y => AW g MX2_clear 15 [some (.ref (b + 20 + 2 * i0)), some (.int (p1)), some (.int (p2)), some (.int (p3))] [] (sb h0 b y) Q) hs (fun S3 hs => ?_)
  refine AW.aload_n (z := 0) (am_r 9 rfl) rfl rfl ?_
  refine AW.iconst (am_r 10 rfl) rfl ci_0 ?_
  refine AW.putO (am_r 11 rfl) rfl klX2 (k := 7) (by omega) q139 (Or.inl rfl) (sb_it hi0) (Nat.le_trans hA (by omega)) rfl rfl (sbp_it hi0 (by decide) (fun z => by omega)) ?_
  refine olet_e (P := fun y => AW g MX2_clear 20 [some (.ref (b + 20 + 2 * i0)), some (.int (p1)), some (.int (p2)), some (.int (p3))] [] (sb h0 b y) Q) hs (fun S4 hs => ?_)
  refine AW.aload_n (z := 0) (am_r 12 rfl) rfl rfl ?_
  refine AW.iconst (am_r 13 rfl) rfl ci_m1 ?_
  refine AW.putO (am_r 14 rfl) rfl klX2 (k := 8) (by omega) q142 (Or.inl rfl) (sb_it hi0) (Nat.le_trans hA (by omega)) rfl rfl (sbp_it hi0 (by decide) (fun z => by omega)) ?_
  refine olet_e (P := fun y => AW g MX2_clear 25 [some (.ref (b + 20 + 2 * i0)), some (.int (p1)), some (.int (p2)), some (.int (p3))] [] (sb h0 b y) Q) hs (fun S5 hs => ?_)
  refine AW.aload_n (z := 0) (am_r 15 rfl) rfl rfl ?_
  refine AW.iconst (am_r 16 rfl) rfl ci_0 ?_
  refine AW.putO (am_r 17 rfl) rfl klX2 (k := 11) (by omega) q151 (Or.inl rfl) (sb_it hi0) (Nat.le_trans hA (by omega)) rfl rfl (sbp_it hi0 (by decide) (fun z => by omega)) ?_
  refine olet_e (P := fun y => AW g MX2_clear 30 [some (.ref (b + 20 + 2 * i0)), some (.int (p1)), some (.int (p2)), some (.int (p3))] [] (sb h0 b y) Q) hs (fun S6 hs => ?_)
  refine AW.aload_n (z := 0) (am_r 18 rfl) rfl rfl ?_
  refine AW.iconst (am_r 19 rfl) rfl ci_0 ?_
  refine AW.putO (am_r 20 rfl) rfl klX2 (k := 12) (by omega) q152 (Or.inl rfl) (sb_it hi0) (Nat.le_trans hA (by omega)) rfl rfl (sbp_it hi0 (by decide) (fun z => by omega)) ?_
  refine olet_e (P := fun y => AW g MX2_clear 35 [some (.ref (b + 20 + 2 * i0)), some (.int (p1)), some (.int (p2)), some (.int (p3))] [] (sb h0 b y) Q) hs (fun S7 hs => ?_)
  refine AW.aload_n (z := 0) (am_r 21 rfl) rfl rfl ?_
  refine AW.iconst (am_r 22 rfl) rfl ci_0 ?_
  refine AW.putO (am_r 23 rfl) rfl klX2 (k := 13) (by omega) q154 (Or.inl rfl) (sb_it hi0) (Nat.le_trans hA (by omega)) rfl rfl (sbp_it hi0 (by decide) (fun z => by omega)) ?_
  refine olet_e (P := fun y => AW g MX2_clear 40 [some (.ref (b + 20 + 2 * i0)), some (.int (p1)), some (.int (p2)), some (.int (p3))] [] (sb h0 b y) Q) hs (fun S8 hs => ?_)
  refine AW.aload_n (z := 0) (am_r 24 rfl) rfl rfl ?_
  refine AW.lconst (z := 0) (am_r 25 rfl) rfl cl_0 ?_
  refine AW.putO (am_r 26 rfl) rfl klX2 (k := 14) (by omega) q157 (Or.inl rfl) (sb_it hi0) (Nat.le_trans hA (by omega)) rfl rfl (sbp_ow hi0) ?_
  refine olet_e (P := fun y => AW g MX2_clear 45 [some (.ref (b + 20 + 2 * i0)), some (.int (p1)), some (.int (p2)), some (.int (p3))] [] (sb h0 b y) Q) hs (fun S9 hs => ?_)
  refine AW.aload_n (z := 0) (am_r 27 rfl) rfl rfl ?_
  refine AW.iconst (am_r 28 rfl) rfl ci_0 ?_
  refine AW.putO (am_r 29 rfl) rfl klX2 (k := 15) (by omega) q160 (Or.inl rfl) (sb_it hi0) (Nat.le_trans hA (by omega)) (nar_b (Or.inl rfl)) rfl (sbp_it hi0 (by decide) (fun _ => Or.inl rfl)) ?_
  refine olet_e (P := fun y => AW g MX2_clear 50 [some (.ref (b + 20 + 2 * i0)), some (.int (p1)), some (.int (p2)), some (.int (p3))] [] (sb h0 b y) Q) hs (fun S10 hs => ?_)
  refine AW.aload_n (z := 0) (am_r 30 rfl) rfl rfl ?_
  refine AW.iconst (am_r 31 rfl) rfl ci_0 ?_
  refine AW.putO (am_r 32 rfl) rfl klX2 (k := 16) (by omega) q163 (Or.inl rfl) (sb_it hi0) (Nat.le_trans hA (by omega)) rfl rfl (sbp_it hi0 (by decide) (fun z => by omega)) ?_
  refine olet_e (P := fun y => AW g MX2_clear 55 [some (.ref (b + 20 + 2 * i0)), some (.int (p1)), some (.int (p2)), some (.int (p3))] [] (sb h0 b y) Q) hs (fun S11 hs => ?_)
  refine AW.aload_n (z := 0) (am_r 33 rfl) rfl rfl ?_
  refine AW.iconst (am_r 34 rfl) rfl ci_0 ?_
  refine AW.putO (am_r 35 rfl) rfl klX2 (k := 17) (by omega) q166 (Or.inl rfl) (sb_it hi0) (Nat.le_trans hA (by omega)) rfl rfl (sbp_it hi0 (by decide) (fun z => by omega)) ?_
  refine olet_e (P := fun y => AW g MX2_clear 60 [some (.ref (b + 20 + 2 * i0)), some (.int (p1)), some (.int (p2)), some (.int (p3))] [] (sb h0 b y) Q) hs (fun S12 hs => ?_)
  refine AW.aload_n (z := 0) (am_r 36 rfl) rfl rfl ?_
  refine AW.iconst (am_r 37 rfl) rfl ci_0 ?_
  refine AW.putO (am_r 38 rfl) rfl klX2 (k := 18) (by omega) q168 (Or.inl rfl) (sb_it hi0) (Nat.le_trans hA (by omega)) rfl rfl (sbp_it hi0 (by decide) (fun z => by omega)) ?_
  refine olet_e (P := fun y => AW g MX2_clear 65 [some (.ref (b + 20 + 2 * i0)), some (.int (p1)), some (.int (p2)), some (.int (p3))] [] (sb h0 b y) Q) hs (fun S13 hs => ?_)
  refine AW.aload_n (z := 0) (am_r 39 rfl) rfl rfl ?_
  refine AW.callV (N := MX2_layOnShelf) (As := []) (S := []) (L0 := [some (.ref (b + 20 + 2 * i0))]) (b := b + 20 + 2 * i0) (am_r 40 rfl) rfl ovX2_layOnShelf q628 rfl rfl (sb_it hi0) rfl rfl rfl rfl (dX2_layOnShelf hA hi0 rfl (cQ_v ?_))
  refine olet_e (P := fun (y : Mem) => AW g MX2_clear 69 [some (.ref (b + 20 + 2 * i0)), some (.int (p1)), some (.int (p2)), some (.int (p3))] [] (sb h0 b y) Q) hs (fun S16 hs => ?_)
  have hr := hs.symm
  subst hr
  exact AW.vret (am_r 41 rfl) rfl hQ
def sX2_hasPlace (S : Mem) (i0 : Nat) (p1 : Int32) : Int32 :=
  if p1 < 0 then
    (0 : Int32)
  else
    if (gi S 3 7 i0) ≤ p1 then
      (0 : Int32)
    else
      if (8 : Int32) ≤ p1 then
        (0 : Int32)
      else
        (1 : Int32)
set_option maxRecDepth 100000 in
theorem dX2_hasPlace {g : AG} {h0 : AH} {b : Nat} {S : Mem} {Q : AO → AH → Prop} {i0 : Nat} {p1 : Int32} (hA : gB g ≤ b) (hi0 : iok i0) {r : Int32} (hs : sX2_hasPlace S i0 p1 = r) (hQ : (r = 0 ∨ r = 1) → Q (.ok (some (.int r))) (sb h0 b S)) : AW g MX2_hasPlace 0 [some (.ref (b + 20 + 2 * i0)), some (.int (p1))] [] (sb h0 b S) Q := by
  unfold sX2_hasPlace at hs
  refine AW.iload_n (z := 1) (am_r 0 rfl) rfl rfl ?_
  refine AW.if_lt (tg := 25) (am_r 1 rfl) rfl rfl (fun hc1 => ?_) (fun hc1 => ?_)
  · replace hs := (if_pos hc1).symm.trans hs
    refine AW.iconst (am_r 13 rfl) rfl ci_0 ?_
    have hr := hs.symm
    subst hr
    exact AW.zret (am_r 14 rfl) rfl (Or.inl rfl) (hQ (Or.inl rfl))
  · replace hs := (if_neg hc1).symm.trans hs
    refine AW.iload_n (z := 1) (am_r 2 rfl) rfl rfl ?_
    refine AW.aload_n (z := 0) (am_r 3 rfl) rfl rfl ?_
    refine AW.getO (am_r 4 rfl) rfl klX2 (k := 7) (by omega) q139 (sb_it hi0) rfl ?_
    refine AW.icmp_ge (tg := 25) (am_r 5 rfl) rfl rfl (fun hc2 => ?_) (fun hc2 => ?_)
    · replace hs := (if_pos hc2).symm.trans hs
      refine AW.iconst (am_r 13 rfl) rfl ci_0 ?_
      have hr := hs.symm
      subst hr
      exact AW.zret (am_r 14 rfl) rfl (Or.inl rfl) (hQ (Or.inl rfl))
    · replace hs := (if_neg hc2).symm.trans hs
      refine AW.iload_n (z := 1) (am_r 6 rfl) rfl rfl ?_
      refine AW.aload_n (z := 0) (am_r 7 rfl) rfl rfl ?_
      refine AW.getO (am_r 8 rfl) rfl klX2 (k := 1) (by omega) q123 (sb_it hi0) rfl ?_
      refine AW.alen (am_r 9 rfl) rfl rfl (sb_qu hi0) cn_8 ?_
      refine AW.icmp_ge (tg := 25) (am_r 10 rfl) rfl rfl (fun hc3 => ?_) (fun hc3 => ?_)
      · replace hs := (if_pos hc3).symm.trans hs
        refine AW.iconst (am_r 13 rfl) rfl ci_0 ?_
        have hr := hs.symm
        subst hr
        exact AW.zret (am_r 14 rfl) rfl (Or.inl rfl) (hQ (Or.inl rfl))
      · replace hs := (if_neg hc3).symm.trans hs
        refine AW.iconst (am_r 11 rfl) rfl ci_1 ?_
        refine AW.goto (tg := 26) (am_r 12 rfl) rfl ?_
        have hr := hs.symm
        subst hr
        exact AW.zret (am_r 14 rfl) rfl (Or.inr rfl) (hQ (Or.inr rfl))
noncomputable def sX2_queuedAt (S : Mem) (i0 : Nat) (p1 : Int32) : Option Int32 :=
  if (sX2_hasPlace S i0 p1) = 0 then
    some ((-1 : Int32))
  else
    oif (inb p1 8) (
    some (gi S 4 p1.toNatClampNeg i0))
set_option maxRecDepth 100000 in
theorem dX2_queuedAt {g : AG} {h0 : AH} {b : Nat} {S : Mem} {Q : AO → AH → Prop} {i0 : Nat} {p1 : Int32} (hA : gB g ≤ b) (hi0 : iok i0) {r : Int32} (hs : sX2_queuedAt S i0 p1 = some r) (hQ : Q (.ok (some (.int r))) (sb h0 b S)) : AW g MX2_queuedAt 0 [some (.ref (b + 20 + 2 * i0)), some (.int (p1))] [] (sb h0 b S) Q := by
  unfold sX2_queuedAt at hs
  refine AW.aload_n (z := 0) (am_r 0 rfl) rfl rfl ?_
  refine AW.iload_n (z := 1) (am_r 1 rfl) rfl rfl ?_
  refine AW.callV (N := MX2_hasPlace) (As := [.int (p1)]) (S := []) (L0 := [some (.ref (b + 20 + 2 * i0)), some (.int (p1))]) (b := b + 20 + 2 * i0) (am_r 2 rfl) rfl ovX2_hasPlace q995 rfl rfl (sb_it hi0) rfl rfl rfl rfl (dX2_hasPlace hA hi0 rfl (fun hok2 => (cQ_r ?_)))
  refine AW.if_eq (tg := 17) (am_r 3 rfl) rfl rfl (fun hc3 => ?_) (fun hc3 => ?_)
  · replace hs := (if_pos hc3).symm.trans hs
    refine AW.iconst (am_r 9 rfl) rfl ci_m1 ?_
    have hr := (Option.some.inj hs).symm
    subst hr
    exact AW.iret (am_r 10 rfl) rfl hQ
  · replace hs := (if_neg hc3).symm.trans hs
    refine AW.aload_n (z := 0) (am_r 4 rfl) rfl rfl ?_
    refine AW.getO (am_r 5 rfl) rfl klX2 (k := 1) (by omega) q123 (sb_it hi0) rfl ?_
    refine AW.iload_n (z := 1) (am_r 6 rfl) rfl rfl ?_
    refine oif_g hs (fun hg4 hs => ?_)
    refine AW.iald (am_r 7 rfl) rfl (sb_qu hi0) (vp_of_inb hg4) rfl ?_
    refine AW.goto (tg := 18) (am_r 8 rfl) rfl ?_
    have hr := (Option.some.inj hs).symm
    subst hr
    exact AW.iret (am_r 10 rfl) rfl hQ
def sX2_firstQueued (S : Mem) (i0 : Nat) : Int32 :=
  if (gi S 3 7 i0) ≤ 0 then
    (-1 : Int32)
  else
    if (8 : Int32) ≤ 0 then
      (-1 : Int32)
    else
      gi S 4 (0 : Int32).toNatClampNeg i0
set_option maxRecDepth 100000 in
theorem dX2_firstQueued {g : AG} {h0 : AH} {b : Nat} {S : Mem} {Q : AO → AH → Prop} {i0 : Nat} (hA : gB g ≤ b) (hi0 : iok i0) {r : Int32} (hs : sX2_firstQueued S i0 = r) (hQ : Q (.ok (some (.int r))) (sb h0 b S)) : AW g MX2_firstQueued 0 [some (.ref (b + 20 + 2 * i0))] [] (sb h0 b S) Q := by
  unfold sX2_firstQueued at hs
  refine AW.aload_n (z := 0) (am_r 0 rfl) rfl rfl ?_
  refine AW.getO (am_r 1 rfl) rfl klX2 (k := 7) (by omega) q139 (sb_it hi0) rfl ?_
  refine AW.if_le (tg := 24) (am_r 2 rfl) rfl rfl (fun hc1 => ?_) (fun hc1 => ?_)
  · replace hs := (if_pos hc1).symm.trans hs
    refine AW.iconst (am_r 12 rfl) rfl ci_m1 ?_
    have hr := hs.symm
    subst hr
    exact AW.iret (am_r 13 rfl) rfl hQ
  · replace hs := (if_neg hc1).symm.trans hs
    refine AW.aload_n (z := 0) (am_r 3 rfl) rfl rfl ?_
    refine AW.getO (am_r 4 rfl) rfl klX2 (k := 1) (by omega) q123 (sb_it hi0) rfl ?_
    refine AW.alen (am_r 5 rfl) rfl rfl (sb_qu hi0) cn_8 ?_
    refine AW.if_le (tg := 24) (am_r 6 rfl) rfl rfl (fun hc2 => ?_) (fun hc2 => ?_)
    · replace hs := (if_pos hc2).symm.trans hs
      refine AW.iconst (am_r 12 rfl) rfl ci_m1 ?_
      have hr := hs.symm
      subst hr
      exact AW.iret (am_r 13 rfl) rfl hQ
    · replace hs := (if_neg hc2).symm.trans hs
      refine AW.aload_n (z := 0) (am_r 7 rfl) rfl rfl ?_
      refine AW.getO (am_r 8 rfl) rfl klX2 (k := 1) (by omega) q123 (sb_it hi0) rfl ?_
      refine AW.iconst (am_r 9 rfl) rfl ci_0 ?_
      refine AW.iald (am_r 10 rfl) rfl (sb_qu hi0) (vp_of_inb rfl) rfl ?_
      refine AW.goto (tg := 25) (am_r 11 rfl) rfl ?_
      have hr := hs.symm
      subst hr
      exact AW.iret (am_r 13 rfl) rfl hQ
def sX2_enqueue (S : Mem) (i0 : Nat) (p1 : Int32) : Mem :=
  if (gi S 3 7 i0) < 0 then
    S
  else
    if (8 : Int32) ≤ (gi S 3 7 i0) then
      S
    else
      olet (si S 4 (gi S 3 7 i0).toNatClampNeg i0 (p1)) fun S3 =>
      olet (si S3 3 7 i0 ((gi S3 3 7 i0) + (1 : Int32))) fun S4 =>
      S4
set_option maxRecDepth 100000 in
theorem dX2_enqueue {g : AG} {h0 : AH} {b : Nat} {S : Mem} {Q : AO → AH → Prop} {i0 : Nat} {p1 : Int32} (hA : gB g ≤ b) (hi0 : iok i0) {r : Mem} (hs : sX2_enqueue S i0 p1 = r) (hQ : Q (.ok none) (sb h0 b r)) : AW g MX2_enqueue 0 [some (.ref (b + 20 + 2 * i0)), some (.int (p1))] [] (sb h0 b S) Q := by
  unfold sX2_enqueue at hs
  refine AW.aload_n (z := 0) (am_r 0 rfl) rfl rfl ?_
  refine AW.getO (am_r 1 rfl) rfl klX2 (k := 7) (by omega) q139 (sb_it hi0) rfl ?_
  refine AW.if_lt (tg := 39) (am_r 2 rfl) rfl rfl (fun hc1 => ?_) (fun hc1 => ?_)
  · replace hs := (if_pos hc1).symm.trans hs
    have hr := hs.symm
    subst hr
    exact AW.vret (am_r 21 rfl) rfl hQ
  · replace hs := (if_neg hc1).symm.trans hs
    refine AW.aload_n (z := 0) (am_r 3 rfl) rfl rfl ?_
    refine AW.getO (am_r 4 rfl) rfl klX2 (k := 7) (by omega) q139 (sb_it hi0) rfl ?_
    refine AW.aload_n (z := 0) (am_r 5 rfl) rfl rfl ?_
    refine AW.getO (am_r 6 rfl) rfl klX2 (k := 1) (by omega) q123 (sb_it hi0) rfl ?_
    refine AW.alen (am_r 7 rfl) rfl rfl (sb_qu hi0) cn_8 ?_
    refine AW.icmp_ge (tg := 39) (am_r 8 rfl) rfl rfl (fun hc2 => ?_) (fun hc2 => ?_)
    · replace hs := (if_pos hc2).symm.trans hs
      have hr := hs.symm
      subst hr
      exact AW.vret (am_r 21 rfl) rfl hQ
    · replace hs := (if_neg hc2).symm.trans hs
      refine AW.aload_n (z := 0) (am_r 9 rfl) rfl rfl ?_
      refine AW.getO (am_r 10 rfl) rfl klX2 (k := 1) (by omega) q123 (sb_it hi0) rfl ?_
      refine AW.aload_n (z := 0) (am_r 11 rfl) rfl rfl ?_
      refine AW.getO (am_r 12 rfl) rfl klX2 (k := 7) (by omega) q139 (sb_it hi0) rfl ?_
      refine AW.iload_n (z := 1) (am_r 13 rfl) rfl rfl ?_
      refine AW.iast (am_r 14 rfl) rfl (sb_qu hi0) (Nat.le_trans hA (by omega)) (vp_mk hc1 (by decide) (vp_hi hc2)) ?_
      rw [show _ = _ from (sbp_qu hi0)]
      refine olet_e (P := fun y => AW g MX2_enqueue 29 [some (.ref (b + 20 + 2 * i0)), some (.int (p1))] [] (sb h0 b y) Q) hs (fun S3 hs => ?_)
      refine AW.aload_n (z := 0) (am_r 15 rfl) rfl rfl ?_
      refine AW.dup (am_r 16 rfl) rfl rfl ?_
      refine AW.getO (am_r 17 rfl) rfl klX2 (k := 7) (by omega) q139 (sb_it hi0) rfl ?_
      refine AW.iconst (am_r 18 rfl) rfl ci_1 ?_
      refine AW.iadd (am_r 19 rfl) rfl ?_
      refine AW.putO (am_r 20 rfl) rfl klX2 (k := 7) (by omega) q139 (Or.inl rfl) (sb_it hi0) (Nat.le_trans hA (by omega)) rfl rfl (sbp_it hi0 (by decide) (fun z => by omega)) ?_
      refine olet_e (P := fun y => AW g MX2_enqueue 39 [some (.ref (b + 20 + 2 * i0)), some (.int (p1))] [] (sb h0 b y) Q) hs (fun S4 hs => ?_)
      have hr := hs.symm
      subst hr
      exact AW.vret (am_r 21 rfl) rfl hQ
noncomputable def sX2_dropLast_j28 (S : Mem) (i0 : Nat) (y0 : Int32) : Option (Int32 × Mem) :=
  if (gi S 3 7 i0) = 0 then
    olet (si S 3 8 i0 ((-1 : Int32))) fun S6 =>
    some ((y0, S6))
  else
    some ((y0, S))
set_option maxRecDepth 100000 in
theorem dX2_dropLast_j28 {g : AG} {h0 : AH} {b : Nat} {S : Mem} {Q : AO → AH → Prop} {i0 : Nat} {y0 : Int32} (hA : gB g ≤ b) (hi0 : iok i0)  {r : (Int32 × Mem)} (hs : sX2_dropLast_j28 S i0 y0 = some r) (hQ : Q (.ok (some (.int r.1))) (sb h0 b r.2)) : AW g MX2_dropLast 28 [some (.ref (b + 20 + 2 * i0)), some (.int (y0))] [] (sb h0 b S) Q := by
  unfold sX2_dropLast_j28 at hs
  refine AW.aload_n (z := 0) (am_r 16 rfl) rfl rfl ?_
  refine AW.getO (am_r 17 rfl) rfl klX2 (k := 7) (by omega) q139 (sb_it hi0) rfl ?_
  refine AW.if_ne (tg := 40) (am_r 18 rfl) rfl rfl (fun hc5 => ?_) (fun hc5 => ?_)
  · replace hs := (if_neg hc5).symm.trans hs
    refine AW.iload_n (z := 1) (am_r 22 rfl) rfl rfl ?_
    have hr := (Option.some.inj hs).symm
    subst hr
    exact AW.iret (am_r 23 rfl) rfl hQ
  · replace hs := (if_pos hc5).symm.trans hs
    refine AW.aload_n (z := 0) (am_r 19 rfl) rfl rfl ?_
    refine AW.iconst (am_r 20 rfl) rfl ci_m1 ?_
    refine AW.putO (am_r 21 rfl) rfl klX2 (k := 8) (by omega) q142 (Or.inl rfl) (sb_it hi0) (Nat.le_trans hA (by omega)) rfl rfl (sbp_it hi0 (by decide) (fun z => by omega)) ?_
    refine olet_e (P := fun y => AW g MX2_dropLast 40 [some (.ref (b + 20 + 2 * i0)), some (.int (y0))] [] (sb h0 b y) Q) hs (fun S6 hs => ?_)
    refine AW.iload_n (z := 1) (am_r 22 rfl) rfl rfl ?_
    have hr := (Option.some.inj hs).symm
    subst hr
    exact AW.iret (am_r 23 rfl) rfl hQ
noncomputable def sX2_dropLast (S : Mem) (i0 : Nat) : Option (Int32 × Mem) :=
  obind (sX2_queuedAt S i0 ((gi S 3 7 i0) - (1 : Int32))) fun r1 =>
  if (gi S 3 7 i0) ≤ 0 then
    sX2_dropLast_j28 S i0 r1
  else
    olet (si S 3 7 i0 ((gi S 3 7 i0) - (1 : Int32))) fun S7 =>
    sX2_dropLast_j28 S7 i0 r1
set_option maxRecDepth 100000 in
theorem dX2_dropLast {g : AG} {h0 : AH} {b : Nat} {S : Mem} {Q : AO → AH → Prop} {i0 : Nat} (hA : gB g ≤ b) (hi0 : iok i0) {r : (Int32 × Mem)} (hs : sX2_dropLast S i0 = some r) (hQ : Q (.ok (some (.int r.1))) (sb h0 b r.2)) : AW g MX2_dropLast 0 [some (.ref (b + 20 + 2 * i0)), none] [] (sb h0 b S) Q := by
  unfold sX2_dropLast at hs
  refine AW.aload_n (z := 0) (am_r 0 rfl) rfl rfl ?_
  refine AW.aload_n (z := 0) (am_r 1 rfl) rfl rfl ?_
  refine AW.getO (am_r 2 rfl) rfl klX2 (k := 7) (by omega) q139 (sb_it hi0) rfl ?_
  refine AW.iconst (am_r 3 rfl) rfl ci_1 ?_
  refine AW.isub (am_r 4 rfl) rfl ?_
  refine obind_e hs (fun r1 hg3 hs => ?_)
  refine AW.callV (N := MX2_queuedAt) (As := [.int ((gi S 3 7 i0) - (1 : Int32))]) (S := []) (L0 := [some (.ref (b + 20 + 2 * i0)), some (.int ((gi S 3 7 i0) - (1 : Int32)))]) (b := b + 20 + 2 * i0) (am_r 5 rfl) rfl ovX2_queuedAt q991 rfl rfl (sb_it hi0) rfl rfl rfl rfl (dX2_queuedAt hA hi0 hg3 (cQ_r ?_))
  refine AW.istore_n (L' := [some (.ref (b + 20 + 2 * i0)), some (.int (r1))]) (z := 1) (am_r 6 rfl) rfl (Nat.le_of_ble_eq_true rfl) rfl ?_
  refine AW.aload_n (z := 0) (am_r 7 rfl) rfl rfl ?_
  refine AW.getO (am_r 8 rfl) rfl klX2 (k := 7) (by omega) q139 (sb_it hi0) rfl ?_
  refine AW.if_le (tg := 28) (am_r 9 rfl) rfl rfl (fun hc4 => ?_) (fun hc4 => ?_)
  · replace hs := (if_pos hc4).symm.trans hs
    exact dX2_dropLast_j28 hA hi0  hs hQ
  · replace hs := (if_neg hc4).symm.trans hs
    refine AW.aload_n (z := 0) (am_r 10 rfl) rfl rfl ?_
    refine AW.dup (am_r 11 rfl) rfl rfl ?_
    refine AW.getO (am_r 12 rfl) rfl klX2 (k := 7) (by omega) q139 (sb_it hi0) rfl ?_
    refine AW.iconst (am_r 13 rfl) rfl ci_1 ?_
    refine AW.isub (am_r 14 rfl) rfl ?_
    refine AW.putO (am_r 15 rfl) rfl klX2 (k := 7) (by omega) q139 (Or.inl rfl) (sb_it hi0) (Nat.le_trans hA (by omega)) rfl rfl (sbp_it hi0 (by decide) (fun z => by omega)) ?_
    refine olet_e (P := fun y => AW g MX2_dropLast 28 [some (.ref (b + 20 + 2 * i0)), some (.int (r1))] [] (sb h0 b y) Q) hs (fun S7 hs => ?_)
    exact dX2_dropLast_j28 hA hi0  hs hQ
noncomputable def sX2_dropFirst_j48 (S : Mem) (i0 : Nat) (y0 : Int32) : Option (Int32 × Mem) :=
  if (gi S 3 7 i0) ≤ 0 then
    olet (si S 3 8 i0 ((-1 : Int32))) fun S8 =>
    some ((y0, S8))
  else
    olet (si S 3 7 i0 ((gi S 3 7 i0) - (1 : Int32))) fun S9 =>
    olet (si S9 3 8 i0 ((-1 : Int32))) fun S10 =>
    some ((y0, S10))
set_option maxRecDepth 100000 in
theorem dX2_dropFirst_j48 {g : AG} {h0 : AH} {b : Nat} {S : Mem} {Q : AO → AH → Prop} {i0 : Nat} {y0 : Int32} (hA : gB g ≤ b) (hi0 : iok i0)  {r : (Int32 × Mem)} (hs : sX2_dropFirst_j48 S i0 y0 = some r) (hQ : Q (.ok (some (.int r.1))) (sb h0 b r.2)) : AW g MX2_dropFirst 48 [some (.ref (b + 20 + 2 * i0)), some (.int (y0)), none] [] (sb h0 b S) Q := by
  unfold sX2_dropFirst_j48 at hs
  refine AW.aload_n (z := 0) (am_r 30 rfl) rfl rfl ?_
  refine AW.getO (am_r 31 rfl) rfl klX2 (k := 7) (by omega) q139 (sb_it hi0) rfl ?_
  refine AW.if_le (tg := 65) (am_r 32 rfl) rfl rfl (fun hc7 => ?_) (fun hc7 => ?_)
  · replace hs := (if_pos hc7).symm.trans hs
    refine AW.aload_n (z := 0) (am_r 39 rfl) rfl rfl ?_
    refine AW.iconst (am_r 40 rfl) rfl ci_m1 ?_
    refine AW.putO (am_r 41 rfl) rfl klX2 (k := 8) (by omega) q142 (Or.inl rfl) (sb_it hi0) (Nat.le_trans hA (by omega)) rfl rfl (sbp_it hi0 (by decide) (fun z => by omega)) ?_
    refine olet_e (P := fun y => AW g MX2_dropFirst 70 [some (.ref (b + 20 + 2 * i0)), some (.int (y0)), none] [] (sb h0 b y) Q) hs (fun S8 hs => ?_)
    refine AW.iload_n (z := 1) (am_r 42 rfl) rfl rfl ?_
    have hr := (Option.some.inj hs).symm
    subst hr
    exact AW.iret (am_r 43 rfl) rfl hQ
  · replace hs := (if_neg hc7).symm.trans hs
    refine AW.aload_n (z := 0) (am_r 33 rfl) rfl rfl ?_
    refine AW.dup (am_r 34 rfl) rfl rfl ?_
    refine AW.getO (am_r 35 rfl) rfl klX2 (k := 7) (by omega) q139 (sb_it hi0) rfl ?_
    refine AW.iconst (am_r 36 rfl) rfl ci_1 ?_
    refine AW.isub (am_r 37 rfl) rfl ?_
    refine AW.putO (am_r 38 rfl) rfl klX2 (k := 7) (by omega) q139 (Or.inl rfl) (sb_it hi0) (Nat.le_trans hA (by omega)) rfl rfl (sbp_it hi0 (by decide) (fun z => by omega)) ?_
    refine olet_e (P := fun y => AW g MX2_dropFirst 65 [some (.ref (b + 20 + 2 * i0)), some (.int (y0)), none] [] (sb h0 b y) Q) hs (fun S9 hs => ?_)
    refine AW.aload_n (z := 0) (am_r 39 rfl) rfl rfl ?_
    refine AW.iconst (am_r 40 rfl) rfl ci_m1 ?_
    refine AW.putO (am_r 41 rfl) rfl klX2 (k := 8) (by omega) q142 (Or.inl rfl) (sb_it hi0) (Nat.le_trans hA (by omega)) rfl rfl (sbp_it hi0 (by decide) (fun z => by omega)) ?_
    refine olet_e (P := fun y => AW g MX2_dropFirst 70 [some (.ref (b + 20 + 2 * i0)), some (.int (y0)), none] [] (sb h0 b y) Q) hs (fun S10 hs => ?_)
    refine AW.iload_n (z := 1) (am_r 42 rfl) rfl rfl ?_
    have hr := (Option.some.inj hs).symm
    subst hr
    exact AW.iret (am_r 43 rfl) rfl hQ
noncomputable def sX2_dropFirst_l7_step  (i0 : Nat) (a : (Int32 × Int32 × Mem)) : Option ((Int32 × Int32 × Mem) ⊕ (Int32 × Mem)) :=
  if (gi a.2.2 3 7 i0) ≤ (a.2.1 + (1 : Int32)) then
    oinr (
    sX2_dropFirst_j48 a.2.2 i0 a.1)
  else
    if (8 : Int32) ≤ (a.2.1 + (1 : Int32)) then
      oinr (
      sX2_dropFirst_j48 a.2.2 i0 a.1)
    else
      oif (inb (a.2.1 + (1 : Int32)) 8) (
      oif (inb a.2.1 8) (
      olet (si a.2.2 4 a.2.1.toNatClampNeg i0 (gi a.2.2 4 (a.2.1 + (1 : Int32)).toNatClampNeg i0)) fun S16 =>
      some (.inl (a.1, a.2.1 + (1 : Int32), S16))))
noncomputable def sX2_dropFirst_l7  (i0 : Nat) (a : (Int32 × Int32 × Mem)) : Option (Int32 × Mem) := itw (sX2_dropFirst_l7_step  i0) a
set_option maxRecDepth 100000 in
theorem dX2_dropFirst_l7 {g : AG} {h0 : AH} {b : Nat} {Q : AO → AH → Prop} {i0 : Nat} (hA : gB g ≤ b) (hi0 : iok i0) {a : (Int32 × Int32 × Mem)}  {r : (Int32 × Mem)} (hs : sX2_dropFirst_l7  i0 a = some r) (hQ : Q (.ok (some (.int r.1))) (sb h0 b r.2)) : AW g MX2_dropFirst 7 [some (.ref (b + 20 + 2 * i0)), some (.int (a.1)), some (.int (a.2.1))] [] (sb h0 b a.2.2) Q := by
  refine itw_e (P := fun a => AW g MX2_dropFirst 7 [some (.ref (b + 20 + 2 * i0)), some (.int (a.1)), some (.int (a.2.1))] [] (sb h0 b a.2.2) Q) (Post := fun r => Q (.ok (some (.int r.1))) (sb h0 b r.2)) (fun a r hs hc he  => ?_) hs hQ 
  unfold sX2_dropFirst_l7_step at hs
  refine AW.iload_n (z := 2) (am_r 5 rfl) rfl rfl ?_
  refine AW.iconst (am_r 6 rfl) rfl ci_1 ?_
  refine AW.iadd (am_r 7 rfl) rfl ?_
  refine AW.aload_n (z := 0) (am_r 8 rfl) rfl rfl ?_
  refine AW.getO (am_r 9 rfl) rfl klX2 (k := 7) (by omega) q139 (sb_it hi0) rfl ?_
  refine AW.icmp_ge (tg := 48) (am_r 10 rfl) rfl rfl (fun hc4 => ?_) (fun hc4 => ?_)
  · replace hs := (if_pos hc4).symm.trans hs
    refine oinr_e hs (fun z5 hz6 hs => ?_)
    have hQ := he _ hz6
    refine AW.lessL (L' := [some (.ref (b + 20 + 2 * i0)), some (.int (a.1)), none]) ⟨rfl, rfl, trivial⟩ ?_
    exact dX2_dropFirst_j48 hA hi0  hs hQ
  · replace hs := (if_neg hc4).symm.trans hs
    refine AW.iload_n (z := 2) (am_r 11 rfl) rfl rfl ?_
    refine AW.iconst (am_r 12 rfl) rfl ci_1 ?_
    refine AW.iadd (am_r 13 rfl) rfl ?_
    refine AW.aload_n (z := 0) (am_r 14 rfl) rfl rfl ?_
    refine AW.getO (am_r 15 rfl) rfl klX2 (k := 1) (by omega) q123 (sb_it hi0) rfl ?_
    refine AW.alen (am_r 16 rfl) rfl rfl (sb_qu hi0) cn_8 ?_
    refine AW.icmp_ge (tg := 48) (am_r 17 rfl) rfl rfl (fun hc11 => ?_) (fun hc11 => ?_)
    · replace hs := (if_pos hc11).symm.trans hs
      refine oinr_e hs (fun z12 hz13 hs => ?_)
      have hQ := he _ hz13
      refine AW.lessL (L' := [some (.ref (b + 20 + 2 * i0)), some (.int (a.1)), none]) ⟨rfl, rfl, trivial⟩ ?_
      exact dX2_dropFirst_j48 hA hi0  hs hQ
    · replace hs := (if_neg hc11).symm.trans hs
      refine AW.aload_n (z := 0) (am_r 18 rfl) rfl rfl ?_
      refine AW.getO (am_r 19 rfl) rfl klX2 (k := 1) (by omega) q123 (sb_it hi0) rfl ?_
      refine AW.iload_n (z := 2) (am_r 20 rfl) rfl rfl ?_
      refine AW.aload_n (z := 0) (am_r 21 rfl) rfl rfl ?_
      refine AW.getO (am_r 22 rfl) rfl klX2 (k := 1) (by omega) q123 (sb_it hi0) rfl ?_
      refine AW.iload_n (z := 2) (am_r 23 rfl) rfl rfl ?_
      refine AW.iconst (am_r 24 rfl) rfl ci_1 ?_
      refine AW.iadd (am_r 25 rfl) rfl ?_
      refine oif_g hs (fun hg14 hs => ?_)
      refine AW.iald (am_r 26 rfl) rfl (sb_qu hi0) (vp_of_inb hg14) rfl ?_
      refine oif_g hs (fun hg15 hs => ?_)
      refine AW.iast (am_r 27 rfl) rfl (sb_qu hi0) (Nat.le_trans hA (by omega)) (vp_of_inb hg15) ?_
      rw [show _ = _ from (sbp_qu hi0)]
      refine olet_e (P := fun y => AW g MX2_dropFirst 42 [some (.ref (b + 20 + 2 * i0)), some (.int (a.1)), some (.int (a.2.1))] [] (sb h0 b y) Q) hs (fun S16 hs => ?_)
      refine AW.iinc (v := a.2.1 + (1 : Int32)) (L' := [some (.ref (b + 20 + 2 * i0)), some (.int (a.1)), some (.int (a.2.1 + (1 : Int32)))]) (am_r 28 rfl) rfl (Nat.le_of_ble_eq_true rfl) rfl (congrArg (fun z => a.2.1 + z) ci_1) rfl ?_
      refine AW.goto (tg := 7) (am_r 29 rfl) rfl ?_
      have hr := (Option.some.inj hs).symm
      exact hc (a.1, a.2.1 + (1 : Int32), S16) hr 
noncomputable def sX2_dropFirst (S : Mem) (i0 : Nat) : Option (Int32 × Mem) :=
  olet (sX2_firstQueued S i0) fun v3 =>
  sX2_dropFirst_l7  i0 (v3, (0 : Int32), S)
set_option maxRecDepth 100000 in
theorem dX2_dropFirst {g : AG} {h0 : AH} {b : Nat} {S : Mem} {Q : AO → AH → Prop} {i0 : Nat} (hA : gB g ≤ b) (hi0 : iok i0) {r : (Int32 × Mem)} (hs : sX2_dropFirst S i0 = some r) (hQ : Q (.ok (some (.int r.1))) (sb h0 b r.2)) : AW g MX2_dropFirst 0 [some (.ref (b + 20 + 2 * i0)), none, none] [] (sb h0 b S) Q := by
  unfold sX2_dropFirst at hs
  refine AW.aload_n (z := 0) (am_r 0 rfl) rfl rfl ?_
  refine AW.callV (N := MX2_firstQueued) (As := []) (S := []) (L0 := [some (.ref (b + 20 + 2 * i0))]) (b := b + 20 + 2 * i0) (am_r 1 rfl) rfl ovX2_firstQueued q943 rfl rfl (sb_it hi0) rfl rfl rfl rfl (dX2_firstQueued hA hi0 rfl (cQ_r ?_))
  refine olet_e (P := fun y => AW g MX2_dropFirst 4 [some (.ref (b + 20 + 2 * i0)), none, none] [(.int (y))] (sb h0 b S) Q) hs (fun v3 hs => ?_)
  refine AW.istore_n (L' := [some (.ref (b + 20 + 2 * i0)), some (.int (v3)), none]) (z := 1) (am_r 2 rfl) rfl (Nat.le_of_ble_eq_true rfl) rfl ?_
  refine AW.iconst (am_r 3 rfl) rfl ci_0 ?_
  refine AW.istore_n (L' := [some (.ref (b + 20 + 2 * i0)), some (.int (v3)), some (.int ((0 : Int32)))]) (z := 2) (am_r 4 rfl) rfl (Nat.le_of_ble_eq_true rfl) rfl ?_
  exact dX2_dropFirst_l7 hA hi0  hs hQ
noncomputable def sX2_swap (S : Mem) (i0 : Nat) (p1 : Int32) (p2 : Int32) : Option Mem :=
  if (sX2_hasPlace S i0 p1) = 0 then
    some (S)
  else
    if (sX2_hasPlace S i0 p2) = 0 then
      some (S)
    else
      oif (inb p1 8) (
      olet (gi S 4 p1.toNatClampNeg i0) fun v8 =>
      oif (inb p2 8) (
      oif (inb p1 8) (
      olet (si S 4 p1.toNatClampNeg i0 (gi S 4 p2.toNatClampNeg i0)) fun S11 =>
      oif (inb p2 8) (
      olet (si S11 4 p2.toNatClampNeg i0 (v8)) fun S13 =>
      if p1 = 0 then
        olet (si S13 3 8 i0 ((-1 : Int32))) fun S15 =>
        some (S15)
      else
        if p2 = 0 then
          olet (si S13 3 8 i0 ((-1 : Int32))) fun S17 =>
          some (S17)
        else
          some (S13)))))
set_option maxRecDepth 100000 in
theorem dX2_swap {g : AG} {h0 : AH} {b : Nat} {S : Mem} {Q : AO → AH → Prop} {i0 : Nat} {p1 : Int32} {p2 : Int32} (hA : gB g ≤ b) (hi0 : iok i0) {r : Mem} (hs : sX2_swap S i0 p1 p2 = some r) (hQ : Q (.ok none) (sb h0 b r)) : AW g MX2_swap 0 [some (.ref (b + 20 + 2 * i0)), some (.int (p1)), some (.int (p2)), none] [] (sb h0 b S) Q := by
  unfold sX2_swap at hs
  refine AW.aload_n (z := 0) (am_r 0 rfl) rfl rfl ?_
  refine AW.iload_n (z := 1) (am_r 1 rfl) rfl rfl ?_
  refine AW.callV (N := MX2_hasPlace) (As := [.int (p1)]) (S := []) (L0 := [some (.ref (b + 20 + 2 * i0)), some (.int (p1))]) (b := b + 20 + 2 * i0) (am_r 2 rfl) rfl ovX2_hasPlace q995 rfl rfl (sb_it hi0) rfl rfl rfl rfl (dX2_hasPlace hA hi0 rfl (fun hok2 => (cQ_r ?_)))
  refine AW.if_eq (tg := 55) (am_r 3 rfl) rfl rfl (fun hc3 => ?_) (fun hc3 => ?_)
  · replace hs := (if_pos hc3).symm.trans hs
    have hr := (Option.some.inj hs).symm
    subst hr
    exact AW.vret (am_r 33 rfl) rfl hQ
  · replace hs := (if_neg hc3).symm.trans hs
    refine AW.aload_n (z := 0) (am_r 4 rfl) rfl rfl ?_
    refine AW.iload_n (z := 2) (am_r 5 rfl) rfl rfl ?_
    refine AW.callV (N := MX2_hasPlace) (As := [.int (p2)]) (S := []) (L0 := [some (.ref (b + 20 + 2 * i0)), some (.int (p2))]) (b := b + 20 + 2 * i0) (am_r 6 rfl) rfl ovX2_hasPlace q995 rfl rfl (sb_it hi0) rfl rfl rfl rfl (dX2_hasPlace hA hi0 rfl (fun hok5 => (cQ_r ?_)))
    refine AW.if_eq (tg := 55) (am_r 7 rfl) rfl rfl (fun hc6 => ?_) (fun hc6 => ?_)
    · replace hs := (if_pos hc6).symm.trans hs
      have hr := (Option.some.inj hs).symm
      subst hr
      exact AW.vret (am_r 33 rfl) rfl hQ
    · replace hs := (if_neg hc6).symm.trans hs
      refine AW.aload_n (z := 0) (am_r 8 rfl) rfl rfl ?_
      refine AW.getO (am_r 9 rfl) rfl klX2 (k := 1) (by omega) q123 (sb_it hi0) rfl ?_
      refine AW.iload_n (z := 1) (am_r 10 rfl) rfl rfl ?_
      refine oif_g hs (fun hg7 hs => ?_)
      refine AW.iald (am_r 11 rfl) rfl (sb_qu hi0) (vp_of_inb hg7) rfl ?_
      refine olet_e (P := fun y => AW g MX2_swap 22 [some (.ref (b + 20 + 2 * i0)), some (.int (p1)), some (.int (p2)), none] [(.int (y))] (sb h0 b S) Q) hs (fun v8 hs => ?_)
      refine AW.istore_n (L' := [some (.ref (b + 20 + 2 * i0)), some (.int (p1)), some (.int (p2)), some (.int (v8))]) (z := 3) (am_r 12 rfl) rfl (Nat.le_of_ble_eq_true rfl) rfl ?_
      refine AW.aload_n (z := 0) (am_r 13 rfl) rfl rfl ?_
      refine AW.getO (am_r 14 rfl) rfl klX2 (k := 1) (by omega) q123 (sb_it hi0) rfl ?_
      refine AW.iload_n (z := 1) (am_r 15 rfl) rfl rfl ?_
      refine AW.aload_n (z := 0) (am_r 16 rfl) rfl rfl ?_
      refine AW.getO (am_r 17 rfl) rfl klX2 (k := 1) (by omega) q123 (sb_it hi0) rfl ?_
      refine AW.iload_n (z := 2) (am_r 18 rfl) rfl rfl ?_
      refine oif_g hs (fun hg9 hs => ?_)
      refine AW.iald (am_r 19 rfl) rfl (sb_qu hi0) (vp_of_inb hg9) rfl ?_
      refine oif_g hs (fun hg10 hs => ?_)
      refine AW.iast (am_r 20 rfl) rfl (sb_qu hi0) (Nat.le_trans hA (by omega)) (vp_of_inb hg10) ?_
      rw [show _ = _ from (sbp_qu hi0)]
      refine olet_e (P := fun y => AW g MX2_swap 35 [some (.ref (b + 20 + 2 * i0)), some (.int (p1)), some (.int (p2)), some (.int (v8))] [] (sb h0 b y) Q) hs (fun S11 hs => ?_)
      refine AW.aload_n (z := 0) (am_r 21 rfl) rfl rfl ?_
      refine AW.getO (am_r 22 rfl) rfl klX2 (k := 1) (by omega) q123 (sb_it hi0) rfl ?_
      refine AW.iload_n (z := 2) (am_r 23 rfl) rfl rfl ?_
      refine AW.iload_n (z := 3) (am_r 24 rfl) rfl rfl ?_
      refine oif_g hs (fun hg12 hs => ?_)
      refine AW.iast (am_r 25 rfl) rfl (sb_qu hi0) (Nat.le_trans hA (by omega)) (vp_of_inb hg12) ?_
      rw [show _ = _ from (sbp_qu hi0)]
      refine olet_e (P := fun y => AW g MX2_swap 42 [some (.ref (b + 20 + 2 * i0)), some (.int (p1)), some (.int (p2)), some (.int (v8))] [] (sb h0 b y) Q) hs (fun S13 hs => ?_)
      refine AW.iload_n (z := 1) (am_r 26 rfl) rfl rfl ?_
      refine AW.if_eq (tg := 50) (am_r 27 rfl) rfl rfl (fun hc14 => ?_) (fun hc14 => ?_)
      · replace hs := (if_pos hc14).symm.trans hs
        refine AW.aload_n (z := 0) (am_r 30 rfl) rfl rfl ?_
        refine AW.iconst (am_r 31 rfl) rfl ci_m1 ?_
        refine AW.putO (am_r 32 rfl) rfl klX2 (k := 8) (by omega) q142 (Or.inl rfl) (sb_it hi0) (Nat.le_trans hA (by omega)) rfl rfl (sbp_it hi0 (by decide) (fun z => by omega)) ?_
        refine olet_e (P := fun y => AW g MX2_swap 55 [some (.ref (b + 20 + 2 * i0)), some (.int (p1)), some (.int (p2)), some (.int (v8))] [] (sb h0 b y) Q) hs (fun S15 hs => ?_)
        have hr := (Option.some.inj hs).symm
        subst hr
        exact AW.vret (am_r 33 rfl) rfl hQ
      · replace hs := (if_neg hc14).symm.trans hs
        refine AW.iload_n (z := 2) (am_r 28 rfl) rfl rfl ?_
        refine AW.if_ne (tg := 55) (am_r 29 rfl) rfl rfl (fun hc16 => ?_) (fun hc16 => ?_)
        · replace hs := (if_neg hc16).symm.trans hs
          have hr := (Option.some.inj hs).symm
          subst hr
          exact AW.vret (am_r 33 rfl) rfl hQ
        · replace hs := (if_pos hc16).symm.trans hs
          refine AW.aload_n (z := 0) (am_r 30 rfl) rfl rfl ?_
          refine AW.iconst (am_r 31 rfl) rfl ci_m1 ?_
          refine AW.putO (am_r 32 rfl) rfl klX2 (k := 8) (by omega) q142 (Or.inl rfl) (sb_it hi0) (Nat.le_trans hA (by omega)) rfl rfl (sbp_it hi0 (by decide) (fun z => by omega)) ?_
          refine olet_e (P := fun y => AW g MX2_swap 55 [some (.ref (b + 20 + 2 * i0)), some (.int (p1)), some (.int (p2)), some (.int (v8))] [] (sb h0 b y) Q) hs (fun S17 hs => ?_)
          have hr := (Option.some.inj hs).symm
          subst hr
          exact AW.vret (am_r 33 rfl) rfl hQ
noncomputable def sX2_timesQueued_l4_step (S : Mem) (i0 : Nat) (p1 : Int32) (a : (Int32 × Int32)) : Option ((Int32 × Int32) ⊕ Int32) :=
  if (gi S 3 7 i0) ≤ a.2 then
    oinr (
    some (a.1))
  else
    obind (sX2_queuedAt S i0 a.2) fun r4 =>
    if r4 = p1 then
      some (.inl (a.1 + (1 : Int32), a.2 + (1 : Int32)))
    else
      some (.inl (a.1, a.2 + (1 : Int32)))
noncomputable def sX2_timesQueued_l4 (S : Mem) (i0 : Nat) (p1 : Int32) (a : (Int32 × Int32)) : Option Int32 := itw (sX2_timesQueued_l4_step S i0 p1) a
set_option maxRecDepth 100000 in
theorem dX2_timesQueued_l4 {g : AG} {h0 : AH} {b : Nat} {S : Mem} {Q : AO → AH → Prop} {i0 : Nat} {p1 : Int32} (hA : gB g ≤ b) (hi0 : iok i0) {a : (Int32 × Int32)}  {r : Int32} (hs : sX2_timesQueued_l4 S i0 p1 a = some r) (hQ : Q (.ok (some (.int r))) (sb h0 b S)) : AW g MX2_timesQueued 4 [some (.ref (b + 20 + 2 * i0)), some (.int (p1)), some (.int (a.1)), some (.int (a.2))] [] (sb h0 b S) Q := by
  refine itw_e (P := fun a => AW g MX2_timesQueued 4 [some (.ref (b + 20 + 2 * i0)), some (.int (p1)), some (.int (a.1)), some (.int (a.2))] [] (sb h0 b S) Q) (Post := fun r => Q (.ok (some (.int r))) (sb h0 b S)) (fun a r hs hc he  => ?_) hs hQ 
  unfold sX2_timesQueued_l4_step at hs
  refine AW.iload_n (z := 3) (am_r 4 rfl) rfl rfl ?_
  refine AW.aload_n (z := 0) (am_r 5 rfl) rfl rfl ?_
  refine AW.getO (am_r 6 rfl) rfl klX2 (k := 7) (by omega) q139 (sb_it hi0) rfl ?_
  refine AW.icmp_ge (tg := 30) (am_r 7 rfl) rfl rfl (fun hc1 => ?_) (fun hc1 => ?_)
  · replace hs := (if_pos hc1).symm.trans hs
    refine oinr_e hs (fun z2 hz3 hs => ?_)
    have hQ := he _ hz3
    refine AW.iload_n (z := 2) (am_r 16 rfl) rfl rfl ?_
    have hr := (Option.some.inj hs).symm
    subst hr
    exact AW.iret (am_r 17 rfl) rfl hQ
  · replace hs := (if_neg hc1).symm.trans hs
    refine AW.aload_n (z := 0) (am_r 8 rfl) rfl rfl ?_
    refine AW.iload_n (z := 3) (am_r 9 rfl) rfl rfl ?_
    refine obind_e hs (fun r4 hg6 hs => ?_)
    refine AW.callV (N := MX2_queuedAt) (As := [.int (a.2)]) (S := []) (L0 := [some (.ref (b + 20 + 2 * i0)), some (.int (a.2))]) (b := b + 20 + 2 * i0) (am_r 10 rfl) rfl ovX2_queuedAt q991 rfl rfl (sb_it hi0) rfl rfl rfl rfl (dX2_queuedAt hA hi0 hg6 (cQ_r ?_))
    refine AW.iload_n (z := 1) (am_r 11 rfl) rfl rfl ?_
    refine AW.icmp_ne (tg := 24) (am_r 12 rfl) rfl rfl (fun hc7 => ?_) (fun hc7 => ?_)
    · replace hs := (if_neg hc7).symm.trans hs
      refine AW.iinc (v := a.2 + (1 : Int32)) (L' := [some (.ref (b + 20 + 2 * i0)), some (.int (p1)), some (.int (a.1)), some (.int (a.2 + (1 : Int32)))]) (am_r 14 rfl) rfl (Nat.le_of_ble_eq_true rfl) rfl (congrArg (fun z => a.2 + z) ci_1) rfl ?_
      refine AW.goto (tg := 4) (am_r 15 rfl) rfl ?_
      have hr := (Option.some.inj hs).symm
      exact hc (a.1, a.2 + (1 : Int32)) hr 
    · replace hs := (if_pos hc7).symm.trans hs
      refine AW.iinc (v := a.1 + (1 : Int32)) (L' := [some (.ref (b + 20 + 2 * i0)), some (.int (p1)), some (.int (a.1 + (1 : Int32))), some (.int (a.2))]) (am_r 13 rfl) rfl (Nat.le_of_ble_eq_true rfl) rfl (congrArg (fun z => a.1 + z) ci_1) rfl ?_
      refine AW.iinc (v := a.2 + (1 : Int32)) (L' := [some (.ref (b + 20 + 2 * i0)), some (.int (p1)), some (.int (a.1 + (1 : Int32))), some (.int (a.2 + (1 : Int32)))]) (am_r 14 rfl) rfl (Nat.le_of_ble_eq_true rfl) rfl (congrArg (fun z => a.2 + z) ci_1) rfl ?_
      refine AW.goto (tg := 4) (am_r 15 rfl) rfl ?_
      have hr := (Option.some.inj hs).symm
      exact hc (a.1 + (1 : Int32), a.2 + (1 : Int32)) hr 
noncomputable def sX2_timesQueued (S : Mem) (i0 : Nat) (p1 : Int32) : Option Int32 :=
  sX2_timesQueued_l4 S i0 p1 ((0 : Int32), (0 : Int32))
set_option maxRecDepth 100000 in
theorem dX2_timesQueued {g : AG} {h0 : AH} {b : Nat} {S : Mem} {Q : AO → AH → Prop} {i0 : Nat} {p1 : Int32} (hA : gB g ≤ b) (hi0 : iok i0) {r : Int32} (hs : sX2_timesQueued S i0 p1 = some r) (hQ : Q (.ok (some (.int r))) (sb h0 b S)) : AW g MX2_timesQueued 0 [some (.ref (b + 20 + 2 * i0)), some (.int (p1)), none, none] [] (sb h0 b S) Q := by
  unfold sX2_timesQueued at hs
  refine AW.iconst (am_r 0 rfl) rfl ci_0 ?_
  refine AW.istore_n (L' := [some (.ref (b + 20 + 2 * i0)), some (.int (p1)), some (.int ((0 : Int32))), none]) (z := 2) (am_r 1 rfl) rfl (Nat.le_of_ble_eq_true rfl) rfl ?_
  refine AW.iconst (am_r 2 rfl) rfl ci_0 ?_
  refine AW.istore_n (L' := [some (.ref (b + 20 + 2 * i0)), some (.int (p1)), some (.int ((0 : Int32))), some (.int ((0 : Int32)))]) (z := 3) (am_r 3 rfl) rfl (Nat.le_of_ble_eq_true rfl) rfl ?_
  exact dX2_timesQueued_l4 hA hi0  hs hQ
def sX2_urgency (S : Mem) (i0 : Nat) : Int32 :=
  if (bz (gi S 3 15 i0)) = 0 then
    (30000 : Int32)
  else
    gi S 3 16 i0
set_option maxRecDepth 100000 in
theorem dX2_urgency {g : AG} {h0 : AH} {b : Nat} {S : Mem} {Q : AO → AH → Prop} {i0 : Nat} (hA : gB g ≤ b) (hi0 : iok i0) {r : Int32} (hs : sX2_urgency S i0 = r) (hQ : Q (.ok (some (.int r))) (sb h0 b S)) : AW g MX2_urgency 0 [some (.ref (b + 20 + 2 * i0))] [] (sb h0 b S) Q := by
  unfold sX2_urgency at hs
  refine AW.aload_n (z := 0) (am_r 0 rfl) rfl rfl ?_
  refine AW.getO (am_r 1 rfl) rfl klX2 (k := 15) (by omega) q160 (sb_it hi0) rfl ?_
  refine AW.if_eq (tg := 14) (am_r 2 rfl) rfl rfl (fun hc1 => ?_) (fun hc1 => ?_)
  · replace hs := (if_pos hc1).symm.trans hs
    refine AW.sipush (am_r 6 rfl) rfl cs_30000 ?_
    have hr := hs.symm
    subst hr
    exact AW.iret (am_r 7 rfl) rfl hQ
  · replace hs := (if_neg hc1).symm.trans hs
    refine AW.aload_n (z := 0) (am_r 3 rfl) rfl rfl ?_
    refine AW.getO (am_r 4 rfl) rfl klX2 (k := 16) (by omega) q163 (sb_it hi0) rfl ?_
    refine AW.goto (tg := 17) (am_r 5 rfl) rfl ?_
    have hr := hs.symm
    subst hr
    exact AW.iret (am_r 7 rfl) rfl hQ
def sX2_awaitLoan (S : Mem) (i0 : Nat) (p1 : Int32) (p2 : Int32) (p3 : Int32) : Mem :=
  olet (si S 3 15 i0 ((1 : Int32))) fun S1 =>
  olet (si S1 3 16 i0 (p1)) fun S2 =>
  olet (si S2 3 17 i0 (p2)) fun S3 =>
  olet (si S3 3 18 i0 (p3)) fun S4 =>
  S4
set_option maxRecDepth 100000 in
theorem dX2_awaitLoan {g : AG} {h0 : AH} {b : Nat} {S : Mem} {Q : AO → AH → Prop} {i0 : Nat} {p1 : Int32} {p2 : Int32} {p3 : Int32} (hA : gB g ≤ b) (hi0 : iok i0) {r : Mem} (hs : sX2_awaitLoan S i0 p1 p2 p3 = r) (hQ : Q (.ok none) (sb h0 b r)) : AW g MX2_awaitLoan 0 [some (.ref (b + 20 + 2 * i0)), some (.int (p1)), some (.int (p2)), some (.int (p3))] [] (sb h0 b S) Q := by
  unfold sX2_awaitLoan at hs
  refine AW.aload_n (z := 0) (am_r 0 rfl) rfl rfl ?_
  refine AW.iconst (am_r 1 rfl) rfl ci_1 ?_
  refine AW.putO (am_r 2 rfl) rfl klX2 (k := 15) (by omega) q160 (Or.inl rfl) (sb_it hi0) (Nat.le_trans hA (by omega)) (nar_b (Or.inr rfl)) rfl (sbp_it hi0 (by decide) (fun _ => Or.inr rfl)) ?_
  refine olet_e (P := fun y => AW g MX2_awaitLoan 5 [some (.ref (b + 20 + 2 * i0)), some (.int (p1)), some (.int (p2)), some (.int (p3))] [] (sb h0 b y) Q) hs (fun S1 hs => ?_)
  refine AW.aload_n (z := 0) (am_r 3 rfl) rfl rfl ?_
  refine AW.iload_n (z := 1) (am_r 4 rfl) rfl rfl ?_
  refine AW.putO (am_r 5 rfl) rfl klX2 (k := 16) (by omega) q163 (Or.inl rfl) (sb_it hi0) (Nat.le_trans hA (by omega)) rfl rfl (sbp_it hi0 (by decide) (fun z => by omega)) ?_
  refine olet_e (P := fun y => AW g MX2_awaitLoan 10 [some (.ref (b + 20 + 2 * i0)), some (.int (p1)), some (.int (p2)), some (.int (p3))] [] (sb h0 b y) Q) hs (fun S2 hs => ?_)
  refine AW.aload_n (z := 0) (am_r 6 rfl) rfl rfl ?_
  refine AW.iload_n (z := 2) (am_r 7 rfl) rfl rfl ?_
  refine AW.putO (am_r 8 rfl) rfl klX2 (k := 17) (by omega) q166 (Or.inl rfl) (sb_it hi0) (Nat.le_trans hA (by omega)) rfl rfl (sbp_it hi0 (by decide) (fun z => by omega)) ?_
  refine olet_e (P := fun y => AW g MX2_awaitLoan 15 [some (.ref (b + 20 + 2 * i0)), some (.int (p1)), some (.int (p2)), some (.int (p3))] [] (sb h0 b y) Q) hs (fun S3 hs => ?_)
  refine AW.aload_n (z := 0) (am_r 9 rfl) rfl rfl ?_
  refine AW.iload_n (z := 3) (am_r 10 rfl) rfl rfl ?_
  refine AW.putO (am_r 11 rfl) rfl klX2 (k := 18) (by omega) q168 (Or.inl rfl) (sb_it hi0) (Nat.le_trans hA (by omega)) rfl rfl (sbp_it hi0 (by decide) (fun z => by omega)) ?_
  refine olet_e (P := fun y => AW g MX2_awaitLoan 20 [some (.ref (b + 20 + 2 * i0)), some (.int (p1)), some (.int (p2)), some (.int (p3))] [] (sb h0 b y) Q) hs (fun S4 hs => ?_)
  have hr := hs.symm
  subst hr
  exact AW.vret (am_r 12 rfl) rfl hQ
def sX2_canBeLent (S : Mem) (i0 : Nat) (p1 : Int32) : Int32 :=
  if (gi S 3 5 i0) = 0 then
    if (gi S 3 7 i0) = 0 then
      if (bz (gi S 3 15 i0)) = 0 then
        (0 : Int32)
      else
        if p1 < (gi S 3 16 i0) then
          (0 : Int32)
        else
          if (gi S 3 3 i0) < (gi S 3 17 i0) then
            (0 : Int32)
          else
            (1 : Int32)
    else
      (0 : Int32)
  else
    (0 : Int32)
set_option maxRecDepth 100000 in
theorem dX2_canBeLent {g : AG} {h0 : AH} {b : Nat} {S : Mem} {Q : AO → AH → Prop} {i0 : Nat} {p1 : Int32} (hA : gB g ≤ b) (hi0 : iok i0) {r : Int32} (hs : sX2_canBeLent S i0 p1 = r) (hQ : (r = 0 ∨ r = 1) → Q (.ok (some (.int r))) (sb h0 b S)) : AW g MX2_canBeLent 0 [some (.ref (b + 20 + 2 * i0)), some (.int (p1))] [] (sb h0 b S) Q := by
  unfold sX2_canBeLent at hs
  refine AW.aload_n (z := 0) (am_r 0 rfl) rfl rfl ?_
  refine AW.getO (am_r 1 rfl) rfl klX2 (k := 5) (by omega) q133 (sb_it hi0) rfl ?_
  refine AW.if_ne (tg := 44) (am_r 2 rfl) rfl rfl (fun hc1 => ?_) (fun hc1 => ?_)
  · replace hs := (if_neg hc1).symm.trans hs
    refine AW.iconst (am_r 20 rfl) rfl ci_0 ?_
    have hr := hs.symm
    subst hr
    exact AW.zret (am_r 21 rfl) rfl (Or.inl rfl) (hQ (Or.inl rfl))
  · replace hs := (if_pos hc1).symm.trans hs
    refine AW.aload_n (z := 0) (am_r 3 rfl) rfl rfl ?_
    refine AW.getO (am_r 4 rfl) rfl klX2 (k := 7) (by omega) q139 (sb_it hi0) rfl ?_
    refine AW.if_ne (tg := 44) (am_r 5 rfl) rfl rfl (fun hc2 => ?_) (fun hc2 => ?_)
    · replace hs := (if_neg hc2).symm.trans hs
      refine AW.iconst (am_r 20 rfl) rfl ci_0 ?_
      have hr := hs.symm
      subst hr
      exact AW.zret (am_r 21 rfl) rfl (Or.inl rfl) (hQ (Or.inl rfl))
    · replace hs := (if_pos hc2).symm.trans hs
      refine AW.aload_n (z := 0) (am_r 6 rfl) rfl rfl ?_
      refine AW.getO (am_r 7 rfl) rfl klX2 (k := 15) (by omega) q160 (sb_it hi0) rfl ?_
      refine AW.if_eq (tg := 44) (am_r 8 rfl) rfl rfl (fun hc3 => ?_) (fun hc3 => ?_)
      · replace hs := (if_pos hc3).symm.trans hs
        refine AW.iconst (am_r 20 rfl) rfl ci_0 ?_
        have hr := hs.symm
        subst hr
        exact AW.zret (am_r 21 rfl) rfl (Or.inl rfl) (hQ (Or.inl rfl))
      · replace hs := (if_neg hc3).symm.trans hs
        refine AW.aload_n (z := 0) (am_r 9 rfl) rfl rfl ?_
        refine AW.getO (am_r 10 rfl) rfl klX2 (k := 16) (by omega) q163 (sb_it hi0) rfl ?_
        refine AW.iload_n (z := 1) (am_r 11 rfl) rfl rfl ?_
        refine AW.icmp_gt (tg := 44) (am_r 12 rfl) rfl rfl (fun hc4 => ?_) (fun hc4 => ?_)
        · replace hs := (if_pos hc4).symm.trans hs
          refine AW.iconst (am_r 20 rfl) rfl ci_0 ?_
          have hr := hs.symm
          subst hr
          exact AW.zret (am_r 21 rfl) rfl (Or.inl rfl) (hQ (Or.inl rfl))
        · replace hs := (if_neg hc4).symm.trans hs
          refine AW.aload_n (z := 0) (am_r 13 rfl) rfl rfl ?_
          refine AW.getO (am_r 14 rfl) rfl klX2 (k := 3) (by omega) q127 (sb_it hi0) rfl ?_
          refine AW.aload_n (z := 0) (am_r 15 rfl) rfl rfl ?_
          refine AW.getO (am_r 16 rfl) rfl klX2 (k := 17) (by omega) q166 (sb_it hi0) rfl ?_
          refine AW.icmp_lt (tg := 44) (am_r 17 rfl) rfl rfl (fun hc5 => ?_) (fun hc5 => ?_)
          · replace hs := (if_pos hc5).symm.trans hs
            refine AW.iconst (am_r 20 rfl) rfl ci_0 ?_
            have hr := hs.symm
            subst hr
            exact AW.zret (am_r 21 rfl) rfl (Or.inl rfl) (hQ (Or.inl rfl))
          · replace hs := (if_neg hc5).symm.trans hs
            refine AW.iconst (am_r 18 rfl) rfl ci_1 ?_
            refine AW.goto (tg := 45) (am_r 19 rfl) rfl ?_
            have hr := hs.symm
            subst hr
            exact AW.zret (am_r 21 rfl) rfl (Or.inr rfl) (hQ (Or.inr rfl))
def sX2_waitForPress (S : Mem) (i0 : Nat) (p1 : Int32) : Mem :=
  olet (si S 3 5 i0 ((2 : Int32))) fun S1 =>
  olet (si S1 3 6 i0 ((0 : Int32))) fun S2 =>
  olet (si S2 3 11 i0 (p1)) fun S3 =>
  olet (si S3 3 12 i0 (gi S3 3 3 i0)) fun S4 =>
  S4
set_option maxRecDepth 100000 in
theorem dX2_waitForPress {g : AG} {h0 : AH} {b : Nat} {S : Mem} {Q : AO → AH → Prop} {i0 : Nat} {p1 : Int32} (hA : gB g ≤ b) (hi0 : iok i0) {r : Mem} (hs : sX2_waitForPress S i0 p1 = r) (hQ : Q (.ok none) (sb h0 b r)) : AW g MX2_waitForPress 0 [some (.ref (b + 20 + 2 * i0)), some (.int (p1))] [] (sb h0 b S) Q := by
  unfold sX2_waitForPress at hs
  refine AW.aload_n (z := 0) (am_r 0 rfl) rfl rfl ?_
  refine AW.iconst (am_r 1 rfl) rfl ci_2 ?_
  refine AW.putO (am_r 2 rfl) rfl klX2 (k := 5) (by omega) q133 (Or.inl rfl) (sb_it hi0) (Nat.le_trans hA (by omega)) rfl rfl (sbp_it hi0 (by decide) (fun z => by omega)) ?_
  refine olet_e (P := fun y => AW g MX2_waitForPress 5 [some (.ref (b + 20 + 2 * i0)), some (.int (p1))] [] (sb h0 b y) Q) hs (fun S1 hs => ?_)
  refine AW.aload_n (z := 0) (am_r 3 rfl) rfl rfl ?_
  refine AW.iconst (am_r 4 rfl) rfl ci_0 ?_
  refine AW.putO (am_r 5 rfl) rfl klX2 (k := 6) (by omega) q136 (Or.inl rfl) (sb_it hi0) (Nat.le_trans hA (by omega)) rfl rfl (sbp_it hi0 (by decide) (fun z => by omega)) ?_
  refine olet_e (P := fun y => AW g MX2_waitForPress 10 [some (.ref (b + 20 + 2 * i0)), some (.int (p1))] [] (sb h0 b y) Q) hs (fun S2 hs => ?_)
  refine AW.aload_n (z := 0) (am_r 6 rfl) rfl rfl ?_
  refine AW.iload_n (z := 1) (am_r 7 rfl) rfl rfl ?_
  refine AW.putO (am_r 8 rfl) rfl klX2 (k := 11) (by omega) q151 (Or.inl rfl) (sb_it hi0) (Nat.le_trans hA (by omega)) rfl rfl (sbp_it hi0 (by decide) (fun z => by omega)) ?_
  refine olet_e (P := fun y => AW g MX2_waitForPress 15 [some (.ref (b + 20 + 2 * i0)), some (.int (p1))] [] (sb h0 b y) Q) hs (fun S3 hs => ?_)
  refine AW.aload_n (z := 0) (am_r 9 rfl) rfl rfl ?_
  refine AW.aload_n (z := 0) (am_r 10 rfl) rfl rfl ?_
  refine AW.getO (am_r 11 rfl) rfl klX2 (k := 3) (by omega) q127 (sb_it hi0) rfl ?_
  refine AW.putO (am_r 12 rfl) rfl klX2 (k := 12) (by omega) q152 (Or.inl rfl) (sb_it hi0) (Nat.le_trans hA (by omega)) rfl rfl (sbp_it hi0 (by decide) (fun z => by omega)) ?_
  refine olet_e (P := fun y => AW g MX2_waitForPress 23 [some (.ref (b + 20 + 2 * i0)), some (.int (p1))] [] (sb h0 b y) Q) hs (fun S4 hs => ?_)
  have hr := hs.symm
  subst hr
  exact AW.vret (am_r 13 rfl) rfl hQ
def sX2_startCuring (S : Mem) (i0 : Nat) (p1 : Int32) : Mem :=
  olet (si S 3 5 i0 ((3 : Int32))) fun S1 =>
  olet (si S1 3 6 i0 (p1)) fun S2 =>
  S2
set_option maxRecDepth 100000 in
theorem dX2_startCuring {g : AG} {h0 : AH} {b : Nat} {S : Mem} {Q : AO → AH → Prop} {i0 : Nat} {p1 : Int32} (hA : gB g ≤ b) (hi0 : iok i0) {r : Mem} (hs : sX2_startCuring S i0 p1 = r) (hQ : Q (.ok none) (sb h0 b r)) : AW g MX2_startCuring 0 [some (.ref (b + 20 + 2 * i0)), some (.int (p1))] [] (sb h0 b S) Q := by
  unfold sX2_startCuring at hs
  refine AW.aload_n (z := 0) (am_r 0 rfl) rfl rfl ?_
  refine AW.iconst (am_r 1 rfl) rfl ci_3 ?_
  refine AW.putO (am_r 2 rfl) rfl klX2 (k := 5) (by omega) q133 (Or.inl rfl) (sb_it hi0) (Nat.le_trans hA (by omega)) rfl rfl (sbp_it hi0 (by decide) (fun z => by omega)) ?_
  refine olet_e (P := fun y => AW g MX2_startCuring 5 [some (.ref (b + 20 + 2 * i0)), some (.int (p1))] [] (sb h0 b y) Q) hs (fun S1 hs => ?_)
  refine AW.aload_n (z := 0) (am_r 3 rfl) rfl rfl ?_
  refine AW.iload_n (z := 1) (am_r 4 rfl) rfl rfl ?_
  refine AW.putO (am_r 5 rfl) rfl klX2 (k := 6) (by omega) q136 (Or.inl rfl) (sb_it hi0) (Nat.le_trans hA (by omega)) rfl rfl (sbp_it hi0 (by decide) (fun z => by omega)) ?_
  refine olet_e (P := fun y => AW g MX2_startCuring 10 [some (.ref (b + 20 + 2 * i0)), some (.int (p1))] [] (sb h0 b y) Q) hs (fun S2 hs => ?_)
  have hr := hs.symm
  subst hr
  exact AW.vret (am_r 6 rfl) rfl hQ
def sX2_waitingKey (S : Mem) (i0 : Nat) : Int32 :=
  ((gi S 3 11 i0) * (16 : Int32)) + (gi S 3 0 i0)
set_option maxRecDepth 100000 in
theorem dX2_waitingKey {g : AG} {h0 : AH} {b : Nat} {S : Mem} {Q : AO → AH → Prop} {i0 : Nat} (hA : gB g ≤ b) (hi0 : iok i0) {r : Int32} (hs : sX2_waitingKey S i0 = r) (hQ : Q (.ok (some (.int r))) (sb h0 b S)) : AW g MX2_waitingKey 0 [some (.ref (b + 20 + 2 * i0))] [] (sb h0 b S) Q := by
  unfold sX2_waitingKey at hs
  refine AW.aload_n (z := 0) (am_r 0 rfl) rfl rfl ?_
  refine AW.getO (am_r 1 rfl) rfl klX2 (k := 11) (by omega) q151 (sb_it hi0) rfl ?_
  refine AW.bipush (am_r 2 rfl) rfl cb_16 ?_
  refine AW.imul (am_r 3 rfl) rfl ?_
  refine AW.aload_n (z := 0) (am_r 4 rfl) rfl rfl ?_
  refine AW.getO (am_r 5 rfl) rfl klX2 (k := 0) (by omega) q121 (sb_it hi0) rfl ?_
  refine AW.iadd (am_r 6 rfl) rfl ?_
  have hr := hs.symm
  subst hr
  exact AW.iret (am_r 7 rfl) rfl hQ
def sX3_clear (S : Mem) (i0 : Nat) (p1 : Int32) : Mem :=
  olet (si S 1 0 i0 (p1)) fun S1 =>
  olet (si S1 1 1 i0 ((-1 : Int32))) fun S2 =>
  olet (si S2 1 2 i0 ((0 : Int32))) fun S3 =>
  S3
set_option maxRecDepth 100000 in
theorem dX3_clear {g : AG} {h0 : AH} {b : Nat} {S : Mem} {Q : AO → AH → Prop} {i0 : Nat} {p1 : Int32} (hA : gB g ≤ b) (hi0 : pok i0) {r : Mem} (hs : sX3_clear S i0 p1 = r) (hQ : Q (.ok none) (sb h0 b r)) : AW g MX3_clear 0 [some (.ref (b + 2 + i0)), some (.int (p1))] [] (sb h0 b S) Q := by
  unfold sX3_clear at hs
  refine AW.aload_n (z := 0) (am_r 0 rfl) rfl rfl ?_
  refine AW.iload_n (z := 1) (am_r 1 rfl) rfl rfl ?_
  refine AW.putO (am_r 2 rfl) rfl klX3 (k := 0) (by omega) q47 (Or.inl rfl) (sb_pr hi0) (Nat.le_trans hA (by omega)) rfl rfl (sbp_pr hi0) ?_
  refine olet_e (P := fun y => AW g MX3_clear 5 [some (.ref (b + 2 + i0)), some (.int (p1))] [] (sb h0 b y) Q) hs (fun S1 hs => ?_)
  refine AW.aload_n (z := 0) (am_r 3 rfl) rfl rfl ?_
  refine AW.iconst (am_r 4 rfl) rfl ci_m1 ?_
  refine AW.putO (am_r 5 rfl) rfl klX3 (k := 1) (by omega) q50 (Or.inl rfl) (sb_pr hi0) (Nat.le_trans hA (by omega)) rfl rfl (sbp_pr hi0) ?_
  refine olet_e (P := fun y => AW g MX3_clear 10 [some (.ref (b + 2 + i0)), some (.int (p1))] [] (sb h0 b y) Q) hs (fun S2 hs => ?_)
  refine AW.aload_n (z := 0) (am_r 6 rfl) rfl rfl ?_
  refine AW.iconst (am_r 7 rfl) rfl ci_0 ?_
  refine AW.putO (am_r 8 rfl) rfl klX3 (k := 2) (by omega) q53 (Or.inl rfl) (sb_pr hi0) (Nat.le_trans hA (by omega)) rfl rfl (sbp_pr hi0) ?_
  refine olet_e (P := fun y => AW g MX3_clear 15 [some (.ref (b + 2 + i0)), some (.int (p1))] [] (sb h0 b y) Q) hs (fun S3 hs => ?_)
  have hr := hs.symm
  subst hr
  exact AW.vret (am_r 9 rfl) rfl hQ
def sX5_asksApproval (S : Mem) (i0 : Nat) (p1 : Int32) : Int32 :=
  if ((gi S 2 3 i0) + p1) < (4 : Int32) then
    (0 : Int32)
  else
    (1 : Int32)
set_option maxRecDepth 100000 in
theorem dX5_asksApproval {g : AG} {h0 : AH} {b : Nat} {S : Mem} {Q : AO → AH → Prop} {i0 : Nat} {p1 : Int32} (hA : gB g ≤ b) (hi0 : rok i0) {r : Int32} (hs : sX5_asksApproval S i0 p1 = r) (hQ : (r = 0 ∨ r = 1) → Q (.ok (some (.int r))) (sb h0 b S)) : AW g MX5_asksApproval 0 [some (.ref (b + 9 + i0)), some (.int (p1))] [] (sb h0 b S) Q := by
  unfold sX5_asksApproval at hs
  refine AW.aload_n (z := 0) (am_r 0 rfl) rfl rfl ?_
  refine AW.getO (am_r 1 rfl) rfl klX5 (k := 3) (by omega) q82 (sb_re hi0) rfl ?_
  refine AW.iload_n (z := 1) (am_r 2 rfl) rfl rfl ?_
  refine AW.iadd (am_r 3 rfl) rfl ?_
  refine AW.iconst (am_r 4 rfl) rfl ci_4 ?_
  refine AW.icmp_lt (tg := 14) (am_r 5 rfl) rfl rfl (fun hc1 => ?_) (fun hc1 => ?_)
  · replace hs := (if_pos hc1).symm.trans hs
    refine AW.iconst (am_r 8 rfl) rfl ci_0 ?_
    have hr := hs.symm
    subst hr
    exact AW.zret (am_r 9 rfl) rfl (Or.inl rfl) (hQ (Or.inl rfl))
  · replace hs := (if_neg hc1).symm.trans hs
    refine AW.iconst (am_r 6 rfl) rfl ci_1 ?_
    refine AW.goto (tg := 15) (am_r 7 rfl) rfl ?_
    have hr := hs.symm
    subst hr
    exact AW.zret (am_r 9 rfl) rfl (Or.inr rfl) (hQ (Or.inr rfl))
def sX5_hours (S : Mem) (i0 : Nat) : Int32 :=
  (gi S 2 0 i0) + (gi S 2 1 i0)
set_option maxRecDepth 100000 in
theorem dX5_hours {g : AG} {h0 : AH} {b : Nat} {S : Mem} {Q : AO → AH → Prop} {i0 : Nat} (hA : gB g ≤ b) (hi0 : rok i0) {r : Int32} (hs : sX5_hours S i0 = r) (hQ : Q (.ok (some (.int r))) (sb h0 b S)) : AW g MX5_hours 0 [some (.ref (b + 9 + i0))] [] (sb h0 b S) Q := by
  unfold sX5_hours at hs
  refine AW.aload_n (z := 0) (am_r 0 rfl) rfl rfl ?_
  refine AW.getO (am_r 1 rfl) rfl klX5 (k := 0) (by omega) q70 (sb_re hi0) rfl ?_
  refine AW.aload_n (z := 0) (am_r 2 rfl) rfl rfl ?_
  refine AW.getO (am_r 3 rfl) rfl klX5 (k := 1) (by omega) q74 (sb_re hi0) rfl ?_
  refine AW.iadd (am_r 4 rfl) rfl ?_
  have hr := hs.symm
  subst hr
  exact AW.iret (am_r 5 rfl) rfl hQ
def sX5_price (S : Mem) (i0 : Nat) : Int64 :=
  ((gi S 2 0 i0).toInt64) * ((gi S 2 6 i0).toInt64)
set_option maxRecDepth 100000 in
theorem dX5_price {g : AG} {h0 : AH} {b : Nat} {S : Mem} {Q : AO → AH → Prop} {i0 : Nat} (hA : gB g ≤ b) (hi0 : rok i0) {r : Int64} (hs : sX5_price S i0 = r) (hQ : Q (.ok (some (.long r))) (sb h0 b S)) : AW g MX5_price 0 [some (.ref (b + 9 + i0))] [] (sb h0 b S) Q := by
  unfold sX5_price at hs
  refine AW.aload_n (z := 0) (am_r 0 rfl) rfl rfl ?_
  refine AW.getO (am_r 1 rfl) rfl klX5 (k := 0) (by omega) q70 (sb_re hi0) rfl ?_
  refine AW.i2l (am_r 2 rfl) rfl ?_
  refine AW.aload_n (z := 0) (am_r 3 rfl) rfl rfl ?_
  refine AW.getO (am_r 4 rfl) rfl klX5 (k := 6) (by omega) q91 (sb_re hi0) rfl ?_
  refine AW.i2l (am_r 5 rfl) rfl ?_
  refine AW.lmul (am_r 6 rfl) rfl ?_
  have hr := hs.symm
  subst hr
  exact AW.lret (am_r 7 rfl) rfl hQ
def sX5_scoreBehind (S : Mem) (i0 : Nat) (p1 : Int32) : Int32 :=
  jmin (1000 : Int32) ((p1 + (gi S 2 4 i0)) + (((gi S 2 5 i0) * ((1000 : Int32) - p1)) / (100 : Int32)))
set_option maxRecDepth 100000 in
theorem dX5_scoreBehind {g : AG} {h0 : AH} {b : Nat} {S : Mem} {Q : AO → AH → Prop} {i0 : Nat} {p1 : Int32} (hA : gB g ≤ b) (hi0 : rok i0) {r : Int32} (hs : sX5_scoreBehind S i0 p1 = r) (hQ : Q (.ok (some (.int r))) (sb h0 b S)) : AW g MX5_scoreBehind 0 [some (.ref (b + 9 + i0)), some (.int (p1))] [] (sb h0 b S) Q := by
  unfold sX5_scoreBehind at hs
  refine AW.sipush (am_r 0 rfl) rfl cs_1000 ?_
  refine AW.iload_n (z := 1) (am_r 1 rfl) rfl rfl ?_
  refine AW.aload_n (z := 0) (am_r 2 rfl) rfl rfl ?_
  refine AW.getO (am_r 3 rfl) rfl klX5 (k := 4) (by omega) q85 (sb_re hi0) rfl ?_
  refine AW.iadd (am_r 4 rfl) rfl ?_
  refine AW.aload_n (z := 0) (am_r 5 rfl) rfl rfl ?_
  refine AW.getO (am_r 6 rfl) rfl klX5 (k := 5) (by omega) q88 (sb_re hi0) rfl ?_
  refine AW.sipush (am_r 7 rfl) rfl cs_1000 ?_
  refine AW.iload_n (z := 1) (am_r 8 rfl) rfl rfl ?_
  refine AW.isub (am_r 9 rfl) rfl ?_
  refine AW.imul (am_r 10 rfl) rfl ?_
  refine AW.bipush (am_r 11 rfl) rfl cb_100 ?_
  refine AW.idiv (am_r 12 rfl) rfl (by decide) ?_
  refine AW.iadd (am_r 13 rfl) rfl ?_
  refine AW.jmin (am_r 14 rfl) rfl q873 rfl ?_
  have hr := hs.symm
  subst hr
  exact AW.iret (am_r 15 rfl) rfl hQ
noncomputable def sX5_stepsBetween_l5_step (S : Mem) (i0 : Nat) (p1 : Int32) (p2 : Int32) (a : (Int32 × Int32)) : Option ((Int32 × Int32) ⊕ Int32) :=
  if (1000 : Int32) < a.2 then
    oinr (
    some ((-1 : Int32)))
  else
    if a.1 < p2 then
      olet (sX5_scoreBehind S i0 a.1) fun v7 =>
      if a.1 < v7 then
        some (.inl (v7, a.2 + (1 : Int32)))
      else
        oinr (
        some ((-1 : Int32)))
    else
      oinr (
      some (a.2))
noncomputable def sX5_stepsBetween_l5 (S : Mem) (i0 : Nat) (p1 : Int32) (p2 : Int32) (a : (Int32 × Int32)) : Option Int32 := itw (sX5_stepsBetween_l5_step S i0 p1 p2) a
set_option maxRecDepth 100000 in
theorem dX5_stepsBetween_l5 {g : AG} {h0 : AH} {b : Nat} {S : Mem} {Q : AO → AH → Prop} {i0 : Nat} {p1 : Int32} {p2 : Int32} (hA : gB g ≤ b) (hi0 : rok i0) {a : (Int32 × Int32)}  {r : Int32} (hs : sX5_stepsBetween_l5 S i0 p1 p2 a = some r) (hQ : Q (.ok (some (.int r))) (sb h0 b S)) : AW g MX5_stepsBetween 5 [some (.ref (b + 9 + i0)), none, some (.int (p2)), some (.int (a.1)), some (.int (a.2)), none] [] (sb h0 b S) Q := by
  refine itw_e (P := fun a => AW g MX5_stepsBetween 5 [some (.ref (b + 9 + i0)), none, some (.int (p2)), some (.int (a.1)), some (.int (a.2)), none] [] (sb h0 b S) Q) (Post := fun r => Q (.ok (some (.int r))) (sb h0 b S)) (fun a r hs hc he  => ?_) hs hQ 
  unfold sX5_stepsBetween_l5_step at hs
  refine AW.iload (am_r 4 rfl) rfl rfl ?_
  refine AW.sipush (am_r 5 rfl) rfl cs_1000 ?_
  refine AW.icmp_gt (tg := 45) (am_r 6 rfl) rfl rfl (fun hc1 => ?_) (fun hc1 => ?_)
  · replace hs := (if_pos hc1).symm.trans hs
    refine oinr_e hs (fun z2 hz3 hs => ?_)
    have hQ := he _ hz3
    refine AW.iconst (am_r 25 rfl) rfl ci_m1 ?_
    have hr := (Option.some.inj hs).symm
    subst hr
    exact AW.iret (am_r 26 rfl) rfl hQ
  · replace hs := (if_neg hc1).symm.trans hs
    refine AW.iload_n (z := 3) (am_r 7 rfl) rfl rfl ?_
    refine AW.iload_n (z := 2) (am_r 8 rfl) rfl rfl ?_
    refine AW.icmp_lt (tg := 21) (am_r 9 rfl) rfl rfl (fun hc4 => ?_) (fun hc4 => ?_)
    · replace hs := (if_pos hc4).symm.trans hs
      refine AW.aload_n (z := 0) (am_r 12 rfl) rfl rfl ?_
      refine AW.iload_n (z := 3) (am_r 13 rfl) rfl rfl ?_
      refine AW.callV (N := MX5_scoreBehind) (As := [.int (a.1)]) (S := []) (L0 := [some (.ref (b + 9 + i0)), some (.int (a.1))]) (b := b + 9 + i0) (am_r 14 rfl) rfl ovX5_scoreBehind q1228 rfl rfl (sb_re hi0) rfl rfl rfl rfl (dX5_scoreBehind hA hi0 rfl (cQ_r ?_))
      refine olet_e (P := fun y => AW g MX5_stepsBetween 26 [some (.ref (b + 9 + i0)), none, some (.int (p2)), some (.int (a.1)), some (.int (a.2)), none] [(.int (y))] (sb h0 b S) Q) hs (fun v7 hs => ?_)
      refine AW.istore (L' := [some (.ref (b + 9 + i0)), none, some (.int (p2)), some (.int (a.1)), some (.int (a.2)), some (.int (v7))]) (am_r 15 rfl) rfl (Nat.le_of_ble_eq_true rfl) rfl ?_
      refine AW.iload (am_r 16 rfl) rfl rfl ?_
      refine AW.iload_n (z := 3) (am_r 17 rfl) rfl rfl ?_
      refine AW.icmp_gt (tg := 36) (am_r 18 rfl) rfl rfl (fun hc8 => ?_) (fun hc8 => ?_)
      · replace hs := (if_pos hc8).symm.trans hs
        refine AW.iload (am_r 21 rfl) rfl rfl ?_
        refine AW.istore_n (L' := [some (.ref (b + 9 + i0)), none, some (.int (p2)), some (.int (v7)), some (.int (a.2)), some (.int (v7))]) (z := 3) (am_r 22 rfl) rfl (Nat.le_of_ble_eq_true rfl) rfl ?_
        refine AW.iinc (v := a.2 + (1 : Int32)) (L' := [some (.ref (b + 9 + i0)), none, some (.int (p2)), some (.int (v7)), some (.int (a.2 + (1 : Int32))), some (.int (v7))]) (am_r 23 rfl) rfl (Nat.le_of_ble_eq_true rfl) rfl (congrArg (fun z => a.2 + z) ci_1) rfl ?_
        refine AW.goto (tg := 5) (am_r 24 rfl) rfl ?_
        refine AW.lessL (L' := [some (.ref (b + 9 + i0)), none, some (.int (p2)), some (.int (v7)), some (.int (a.2 + (1 : Int32))), none]) ⟨rfl, rfl, rfl, rfl, trivial⟩ ?_
        have hr := (Option.some.inj hs).symm
        exact hc (v7, a.2 + (1 : Int32)) hr 
      · replace hs := (if_neg hc8).symm.trans hs
        refine oinr_e hs (fun z9 hz10 hs => ?_)
        have hQ := he _ hz10
        refine AW.iconst (am_r 19 rfl) rfl ci_m1 ?_
        have hr := (Option.some.inj hs).symm
        subst hr
        exact AW.iret (am_r 20 rfl) rfl hQ
    · replace hs := (if_neg hc4).symm.trans hs
      refine oinr_e hs (fun z11 hz12 hs => ?_)
      have hQ := he _ hz12
      refine AW.iload (am_r 10 rfl) rfl rfl ?_
      have hr := (Option.some.inj hs).symm
      subst hr
      exact AW.iret (am_r 11 rfl) rfl hQ
noncomputable def sX5_stepsBetween (S : Mem) (i0 : Nat) (p1 : Int32) (p2 : Int32) : Option Int32 :=
  sX5_stepsBetween_l5 S i0 p1 p2 (p1, (0 : Int32))
set_option maxRecDepth 100000 in
theorem dX5_stepsBetween {g : AG} {h0 : AH} {b : Nat} {S : Mem} {Q : AO → AH → Prop} {i0 : Nat} {p1 : Int32} {p2 : Int32} (hA : gB g ≤ b) (hi0 : rok i0) {r : Int32} (hs : sX5_stepsBetween S i0 p1 p2 = some r) (hQ : Q (.ok (some (.int r))) (sb h0 b S)) : AW g MX5_stepsBetween 0 [some (.ref (b + 9 + i0)), some (.int (p1)), some (.int (p2)), none, none, none] [] (sb h0 b S) Q := by
  unfold sX5_stepsBetween at hs
  refine AW.iload_n (z := 1) (am_r 0 rfl) rfl rfl ?_
  refine AW.istore_n (L' := [some (.ref (b + 9 + i0)), some (.int (p1)), some (.int (p2)), some (.int (p1)), none, none]) (z := 3) (am_r 1 rfl) rfl (Nat.le_of_ble_eq_true rfl) rfl ?_
  refine AW.iconst (am_r 2 rfl) rfl ci_0 ?_
  refine AW.istore (L' := [some (.ref (b + 9 + i0)), some (.int (p1)), some (.int (p2)), some (.int (p1)), some (.int ((0 : Int32))), none]) (am_r 3 rfl) rfl (Nat.le_of_ble_eq_true rfl) rfl ?_
  refine AW.lessL (L' := [some (.ref (b + 9 + i0)), none, some (.int (p2)), some (.int (p1)), some (.int ((0 : Int32))), none]) ⟨rfl, rfl, rfl, rfl, trivial⟩ ?_
  exact dX5_stepsBetween_l5 hA hi0  hs hQ
