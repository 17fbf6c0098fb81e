/-! ===== THE MODEL'S METHODS, DECOMPILED (laid by a program) ===== -/
theorem cb_m4 : (Int8.ofInt (-4)).toInt32 = (-4 : Int32) := by decide
theorem cb_m3 : (Int8.ofInt (-3)).toInt32 = (-3 : Int32) := by decide
theorem cb_m2 : (Int8.ofInt (-2)).toInt32 = (-2 : Int32) := by decide
theorem cb_7 : (Int8.ofInt (7)).toInt32 = (7 : Int32) := by decide
theorem cb_8 : (Int8.ofInt (8)).toInt32 = (8 : Int32) := by decide
theorem cb_9 : (Int8.ofInt (9)).toInt32 = (9 : Int32) := by decide
theorem cb_10 : (Int8.ofInt (10)).toInt32 = (10 : Int32) := by decide
theorem cb_11 : (Int8.ofInt (11)).toInt32 = (11 : Int32) := by decide
theorem cb_12 : (Int8.ofInt (12)).toInt32 = (12 : Int32) := by decide
theorem cb_13 : (Int8.ofInt (13)).toInt32 = (13 : Int32) := by decide
theorem cb_15 : (Int8.ofInt (15)).toInt32 = (15 : Int32) := by decide
theorem cb_21 : (Int8.ofInt (21)).toInt32 = (21 : Int32) := by decide
theorem cb_24 : (Int8.ofInt (24)).toInt32 = (24 : Int32) := by decide
theorem cb_31 : (Int8.ofInt (31)).toInt32 = (31 : Int32) := by decide
theorem cb_32 : (Int8.ofInt (32)).toInt32 = (32 : Int32) := by decide
theorem cb_33 : (Int8.ofInt (33)).toInt32 = (33 : Int32) := by decide
theorem cb_40 : (Int8.ofInt (40)).toInt32 = (40 : Int32) := by decide
theorem cb_44 : (Int8.ofInt (44)).toInt32 = (44 : Int32) := by decide
theorem cb_48 : (Int8.ofInt (48)).toInt32 = (48 : Int32) := by decide
theorem cb_59 : (Int8.ofInt (59)).toInt32 = (59 : Int32) := by decide
theorem cb_81 : (Int8.ofInt (81)).toInt32 = (81 : Int32) := by decide
theorem cb_97 : (Int8.ofInt (97)).toInt32 = (97 : Int32) := by decide
theorem cb_98 : (Int8.ofInt (98)).toInt32 = (98 : Int32) := by decide
theorem cb_99 : (Int8.ofInt (99)).toInt32 = (99 : Int32) := by decide
theorem cb_101 : (Int8.ofInt (101)).toInt32 = (101 : Int32) := by decide
theorem cb_102 : (Int8.ofInt (102)).toInt32 = (102 : Int32) := by decide
theorem cb_104 : (Int8.ofInt (104)).toInt32 = (104 : Int32) := by decide
theorem cb_105 : (Int8.ofInt (105)).toInt32 = (105 : Int32) := by decide
theorem cb_106 : (Int8.ofInt (106)).toInt32 = (106 : Int32) := by decide
theorem cb_107 : (Int8.ofInt (107)).toInt32 = (107 : Int32) := by decide
theorem cb_108 : (Int8.ofInt (108)).toInt32 = (108 : Int32) := by decide
theorem cb_110 : (Int8.ofInt (110)).toInt32 = (110 : Int32) := by decide
theorem cb_111 : (Int8.ofInt (111)).toInt32 = (111 : Int32) := by decide
theorem cb_112 : (Int8.ofInt (112)).toInt32 = (112 : Int32) := by decide
theorem cb_114 : (Int8.ofInt (114)).toInt32 = (114 : Int32) := by decide
theorem cb_115 : (Int8.ofInt (115)).toInt32 = (115 : Int32) := by decide
theorem cb_116 : (Int8.ofInt (116)).toInt32 = (116 : Int32) := by decide
theorem cb_118 : (Int8.ofInt (118)).toInt32 = (118 : Int32) := by decide
theorem ci_m8 : Int32.ofInt (-8) = (-8 : Int32) := by decide
theorem cl_1 : Int64.ofNat ((1 : Fin 2) : Nat) = (1 : Int64) := by decide
theorem cs_129 : (Int16.ofInt (129)).toInt32 = (129 : Int32) := by decide
theorem cs_131 : (Int16.ofInt (131)).toInt32 = (131 : Int32) := by decide
theorem cs_132 : (Int16.ofInt (132)).toInt32 = (132 : Int32) := by decide
theorem cs_133 : (Int16.ofInt (133)).toInt32 = (133 : Int32) := by decide
theorem cs_200 : (Int16.ofInt (200)).toInt32 = (200 : Int32) := by decide
theorem cs_255 : (Int16.ofInt (255)).toInt32 = (255 : Int32) := by decide
theorem cs_342 : (Int16.ofInt (342)).toInt32 = (342 : Int32) := by decide
theorem cs_352 : (Int16.ofInt (352)).toInt32 = (352 : Int32) := by decide
theorem cs_358 : (Int16.ofInt (358)).toInt32 = (358 : Int32) := by decide
theorem cs_500 : (Int16.ofInt (500)).toInt32 = (500 : Int32) := by decide
theorem cs_958 : (Int16.ofInt (958)).toInt32 = (958 : Int32) := by decide
noncomputable def sX10_clearStudio_l2_step  (p1 : Int32) (a : (Int32 × Mem)) : Option ((Int32 × Mem) ⊕ Mem) :=
  if (129 : Int32) ≤ a.1 then
    oinr (
    oif (inb (p1 + (0 : Int32)) 258) (
    olet (si a.2 5 (p1 + (0 : Int32)).toNatClampNeg 0 ((1 : Int32))) fun S5 =>
    oif (inb (p1 + (1 : Int32)) 258) (
    olet (si S5 5 (p1 + (1 : Int32)).toNatClampNeg 0 ((72 : Int32))) fun S7 =>
    some (S7))))
  else
    oif (inb (p1 + a.1) 258) (
    olet (si a.2 5 (p1 + a.1).toNatClampNeg 0 ((0 : Int32))) fun S9 =>
    some (.inl (a.1 + (1 : Int32), S9)))
noncomputable def sX10_clearStudio_l2  (p1 : Int32) (a : (Int32 × Mem)) : Option Mem := itw (sX10_clearStudio_l2_step  p1) a
set_option maxRecDepth 100000 in
theorem dX10_clearStudio_l2 {g : AG} {h0 : AH} {b : Nat} {Q : AO → AH → Prop} {p1 : Int32} (hA : gB g ≤ b)  {a : (Int32 × Mem)}  {r : Mem} (hs : sX10_clearStudio_l2  p1 a = some r) (hQ : Q (.ok none) (mb h0 b r)) : AW g MX10_clearStudio 2 [some (.ref (b)), some (.int (p1)), some (.int (a.1))] [] (mb h0 b a.2) Q := by
  refine itw_e (P := fun a => AW g MX10_clearStudio 2 [some (.ref (b)), some (.int (p1)), some (.int (a.1))] [] (mb h0 b a.2) Q) (Post := fun r => Q (.ok none) (mb h0 b r)) (fun a r hs hc he  => ?_) hs hQ 
  unfold sX10_clearStudio_l2_step at hs
  refine AW.iload_n (z := 2) (am_r 2 rfl) rfl rfl ?_
  refine AW.sipush (am_r 3 rfl) rfl cs_129 ?_
  refine AW.icmp_ge (tg := 24) (am_r 4 rfl) rfl rfl (fun hc1 => ?_) (fun hc1 => ?_)
  · replace hs := (if_pos hc1).symm.trans hs
    refine oinr_e hs (fun z2 hz3 hs => ?_)
    have hQ := he _ hz3
    refine AW.aload_n (z := 0) (am_r 14 rfl) rfl rfl ?_
    refine AW.getO (am_r 15 rfl) rfl klX10 (k := 5) (by omega) q1508 mb_ob rfl ?_
    refine AW.iload_n (z := 1) (am_r 16 rfl) rfl rfl ?_
    refine AW.iconst (am_r 17 rfl) rfl ci_0 ?_
    refine AW.iadd (am_r 18 rfl) rfl ?_
    refine AW.iconst (am_r 19 rfl) rfl ci_1 ?_
    refine oif_g hs (fun hg4 hs => ?_)
    refine AW.iast (am_r 20 rfl) rfl mb_a4 (Nat.le_trans hA (by omega)) (vp_of_inb hg4) ?_
    rw [show _ = _ from mbp_a4]
    refine olet_e (P := fun y => AW g MX10_clearStudio 33 [some (.ref (b)), some (.int (p1)), some (.int (a.1))] [] (mb h0 b y) Q) hs (fun S5 hs => ?_)
    refine AW.aload_n (z := 0) (am_r 21 rfl) rfl rfl ?_
    refine AW.getO (am_r 22 rfl) rfl klX10 (k := 5) (by omega) q1508 mb_ob rfl ?_
    refine AW.iload_n (z := 1) (am_r 23 rfl) rfl rfl ?_
    refine AW.iconst (am_r 24 rfl) rfl ci_1 ?_
    refine AW.iadd (am_r 25 rfl) rfl ?_
    refine AW.bipush (am_r 26 rfl) rfl cb_72 ?_
    refine oif_g hs (fun hg6 hs => ?_)
    refine AW.iast (am_r 27 rfl) rfl mb_a4 (Nat.le_trans hA (by omega)) (vp_of_inb hg6) ?_
    rw [show _ = _ from mbp_a4]
    refine olet_e (P := fun y => AW g MX10_clearStudio 43 [some (.ref (b)), some (.int (p1)), some (.int (a.1))] [] (mb h0 b y) Q) hs (fun S7 hs => ?_)
    have hr := (Option.some.inj hs).symm
    subst hr
    exact AW.vret (am_r 28 rfl) rfl hQ
  · replace hs := (if_neg hc1).symm.trans hs
    refine AW.aload_n (z := 0) (am_r 5 rfl) rfl rfl ?_
    refine AW.getO (am_r 6 rfl) rfl klX10 (k := 5) (by omega) q1508 mb_ob rfl ?_
    refine AW.iload_n (z := 1) (am_r 7 rfl) rfl rfl ?_
    refine AW.iload_n (z := 2) (am_r 8 rfl) rfl rfl ?_
    refine AW.iadd (am_r 9 rfl) rfl ?_
    refine AW.iconst (am_r 10 rfl) rfl ci_0 ?_
    refine oif_g hs (fun hg8 hs => ?_)
    refine AW.iast (am_r 11 rfl) rfl mb_a4 (Nat.le_trans hA (by omega)) (vp_of_inb hg8) ?_
    rw [show _ = _ from mbp_a4]
    refine olet_e (P := fun y => AW g MX10_clearStudio 18 [some (.ref (b)), some (.int (p1)), some (.int (a.1))] [] (mb h0 b y) Q) hs (fun S9 hs => ?_)
    refine AW.iinc (v := a.1 + (1 : Int32)) (L' := [some (.ref (b)), some (.int (p1)), some (.int (a.1 + (1 : Int32)))]) (am_r 12 rfl) rfl (Nat.le_of_ble_eq_true rfl) rfl (congrArg (fun z => a.1 + z) ci_1) rfl ?_
    refine AW.goto (tg := 2) (am_r 13 rfl) rfl ?_
    have hr := (Option.some.inj hs).symm
    exact hc (a.1 + (1 : Int32), S9) hr 
noncomputable def sX10_clearStudio (S : Mem) (p1 : Int32) : Option Mem :=
  sX10_clearStudio_l2  p1 ((0 : Int32), S)
set_option maxRecDepth 100000 in
theorem dX10_clearStudio {g : AG} {h0 : AH} {b : Nat} {S : Mem} {Q : AO → AH → Prop} {p1 : Int32} (hA : gB g ≤ b)  {r : Mem} (hs : sX10_clearStudio S p1 = some r) (hQ : Q (.ok none) (mb h0 b r)) : AW g MX10_clearStudio 0 [some (.ref (b)), some (.int (p1)), none] [] (mb h0 b S) Q := by
  unfold sX10_clearStudio at hs
  refine AW.iconst (am_r 0 rfl) rfl ci_0 ?_
  refine AW.istore_n (L' := [some (.ref (b)), some (.int (p1)), some (.int ((0 : Int32)))]) (z := 2) (am_r 1 rfl) rfl (Nat.le_of_ble_eq_true rfl) rfl ?_
  exact dX10_clearStudio_l2 hA   hs hQ
noncomputable def sX10_copyBlock_l41_step  (p1 : Int32) (p2 : Int32) (a : (Int32 × Mem)) : Option ((Int32 × Mem) ⊕ Mem) :=
  if (16 : Int32) ≤ a.1 then
    oinr (
    some (a.2))
  else
    oif (inb (((16 : Int32) * p1) + a.1) 224) (
    oif (inb (((16 : Int32) * p2) + a.1) 224) (
    olet (sq a.2 1 (((16 : Int32) * p2) + a.1).toNatClampNeg (gq a.2 1 (((16 : Int32) * p1) + a.1).toNatClampNeg)) fun S9 =>
    some (.inl (a.1 + (1 : Int32), S9))))
noncomputable def sX10_copyBlock_l41  (p1 : Int32) (p2 : Int32) (a : (Int32 × Mem)) : Option Mem := itw (sX10_copyBlock_l41_step  p1 p2) a
set_option maxRecDepth 100000 in
theorem dX10_copyBlock_l41 {g : AG} {h0 : AH} {b : Nat} {Q : AO → AH → Prop} {p1 : Int32} {p2 : Int32} (hA : gB g ≤ b)  {a : (Int32 × Mem)}  {r : Mem} (hs : sX10_copyBlock_l41  p1 p2 a = some r) (hQ : Q (.ok none) (mb h0 b r)) : AW g MX10_copyBlock 41 [some (.ref (b)), some (.int (p1)), some (.int (p2)), some (.int (a.1))] [] (mb h0 b a.2) Q := by
  refine itw_e (P := fun a => AW g MX10_copyBlock 41 [some (.ref (b)), some (.int (p1)), some (.int (p2)), some (.int (a.1))] [] (mb h0 b a.2) Q) (Post := fun r => Q (.ok none) (mb h0 b r)) (fun a r hs hc he  => ?_) hs hQ 
  unfold sX10_copyBlock_l41_step at hs
  refine AW.iload_n (z := 3) (am_r 25 rfl) rfl rfl ?_
  refine AW.bipush (am_r 26 rfl) rfl cb_16 ?_
  refine AW.icmp_ge (tg := 75) (am_r 27 rfl) rfl rfl (fun hc4 => ?_) (fun hc4 => ?_)
  · replace hs := (if_pos hc4).symm.trans hs
    refine oinr_e hs (fun z5 hz6 hs => ?_)
    have hQ := he _ hz6
    have hr := (Option.some.inj hs).symm
    subst hr
    exact AW.vret (am_r 46 rfl) rfl hQ
  · replace hs := (if_neg hc4).symm.trans hs
    refine AW.aload_n (z := 0) (am_r 28 rfl) rfl rfl ?_
    refine AW.getO (am_r 29 rfl) rfl klX10 (k := 1) (by omega) q1504 mb_ob rfl ?_
    refine AW.bipush (am_r 30 rfl) rfl cb_16 ?_
    refine AW.iload_n (z := 2) (am_r 31 rfl) rfl rfl ?_
    refine AW.imul (am_r 32 rfl) rfl ?_
    refine AW.iload_n (z := 3) (am_r 33 rfl) rfl rfl ?_
    refine AW.iadd (am_r 34 rfl) rfl ?_
    refine AW.aload_n (z := 0) (am_r 35 rfl) rfl rfl ?_
    refine AW.getO (am_r 36 rfl) rfl klX10 (k := 1) (by omega) q1504 mb_ob rfl ?_
    refine AW.bipush (am_r 37 rfl) rfl cb_16 ?_
    refine AW.iload_n (z := 1) (am_r 38 rfl) rfl rfl ?_
    refine AW.imul (am_r 39 rfl) rfl ?_
    refine AW.iload_n (z := 3) (am_r 40 rfl) rfl rfl ?_
    refine AW.iadd (am_r 41 rfl) rfl ?_
    refine oif_g hs (fun hg7 hs => ?_)
    refine AW.lald (am_r 42 rfl) rfl mb_a2 (vp_of_inb hg7) rfl ?_
    refine oif_g hs (fun hg8 hs => ?_)
    refine AW.last (am_r 43 rfl) rfl mb_a2 (Nat.le_trans hA (by omega)) (vp_of_inb hg8) ?_
    rw [show _ = _ from mbp_a2]
    refine olet_e (P := fun y => AW g MX10_copyBlock 69 [some (.ref (b)), some (.int (p1)), some (.int (p2)), some (.int (a.1))] [] (mb h0 b y) Q) hs (fun S9 hs => ?_)
    refine AW.iinc (v := a.1 + (1 : Int32)) (L' := [some (.ref (b)), some (.int (p1)), some (.int (p2)), some (.int (a.1 + (1 : Int32)))]) (am_r 44 rfl) rfl (Nat.le_of_ble_eq_true rfl) rfl (congrArg (fun z => a.1 + z) ci_1) rfl ?_
    refine AW.goto (tg := 41) (am_r 45 rfl) rfl ?_
    have hr := (Option.some.inj hs).symm
    exact hc (a.1 + (1 : Int32), S9) hr 
noncomputable def sX10_copyBlock_l2_step  (p1 : Int32) (p2 : Int32) (a : (Int32 × Mem)) : Option ((Int32 × Mem) ⊕ Mem) :=
  if (958 : Int32) ≤ a.1 then
    oinr (
    sX10_copyBlock_l41  p1 p2 ((0 : Int32), a.2))
  else
    oif (inb (((958 : Int32) * p1) + a.1) 13412) (
    oif (inb (((958 : Int32) * p2) + a.1) 13412) (
    olet (si a.2 0 (((958 : Int32) * p2) + a.1).toNatClampNeg 0 (gi a.2 0 (((958 : Int32) * p1) + a.1).toNatClampNeg 0)) fun S12 =>
    some (.inl (a.1 + (1 : Int32), S12))))
noncomputable def sX10_copyBlock_l2  (p1 : Int32) (p2 : Int32) (a : (Int32 × Mem)) : Option Mem := itw (sX10_copyBlock_l2_step  p1 p2) a
set_option maxRecDepth 100000 in
theorem dX10_copyBlock_l2 {g : AG} {h0 : AH} {b : Nat} {Q : AO → AH → Prop} {p1 : Int32} {p2 : Int32} (hA : gB g ≤ b)  {a : (Int32 × Mem)}  {r : Mem} (hs : sX10_copyBlock_l2  p1 p2 a = some r) (hQ : Q (.ok none) (mb h0 b r)) : AW g MX10_copyBlock 2 [some (.ref (b)), some (.int (p1)), some (.int (p2)), some (.int (a.1))] [] (mb h0 b a.2) Q := by
  refine itw_e (P := fun a => AW g MX10_copyBlock 2 [some (.ref (b)), some (.int (p1)), some (.int (p2)), some (.int (a.1))] [] (mb h0 b a.2) Q) (Post := fun r => Q (.ok none) (mb h0 b r)) (fun a r hs hc he  => ?_) hs hQ 
  unfold sX10_copyBlock_l2_step at hs
  refine AW.iload_n (z := 3) (am_r 2 rfl) rfl rfl ?_
  refine AW.sipush (am_r 3 rfl) rfl cs_958 ?_
  refine AW.icmp_ge (tg := 39) (am_r 4 rfl) rfl rfl (fun hc1 => ?_) (fun hc1 => ?_)
  · replace hs := (if_pos hc1).symm.trans hs
    refine oinr_e hs (fun z2 hz3 hs => ?_)
    have hQ := he _ hz3
    refine AW.iconst (am_r 23 rfl) rfl ci_0 ?_
    refine AW.istore_n (L' := [some (.ref (b)), some (.int (p1)), some (.int (p2)), some (.int ((0 : Int32)))]) (z := 3) (am_r 24 rfl) rfl (Nat.le_of_ble_eq_true rfl) rfl ?_
    exact dX10_copyBlock_l41 hA   hs hQ
  · replace hs := (if_neg hc1).symm.trans hs
    refine AW.aload_n (z := 0) (am_r 5 rfl) rfl rfl ?_
    refine AW.getO (am_r 6 rfl) rfl klX10 (k := 0) (by omega) q1503 mb_ob rfl ?_
    refine AW.sipush (am_r 7 rfl) rfl cs_958 ?_
    refine AW.iload_n (z := 2) (am_r 8 rfl) rfl rfl ?_
    refine AW.imul (am_r 9 rfl) rfl ?_
    refine AW.iload_n (z := 3) (am_r 10 rfl) rfl rfl ?_
    refine AW.iadd (am_r 11 rfl) rfl ?_
    refine AW.aload_n (z := 0) (am_r 12 rfl) rfl rfl ?_
    refine AW.getO (am_r 13 rfl) rfl klX10 (k := 0) (by omega) q1503 mb_ob rfl ?_
    refine AW.sipush (am_r 14 rfl) rfl cs_958 ?_
    refine AW.iload_n (z := 1) (am_r 15 rfl) rfl rfl ?_
    refine AW.imul (am_r 16 rfl) rfl ?_
    refine AW.iload_n (z := 3) (am_r 17 rfl) rfl rfl ?_
    refine AW.iadd (am_r 18 rfl) rfl ?_
    refine oif_g hs (fun hg10 hs => ?_)
    refine AW.iald (am_r 19 rfl) rfl mb_a1 (vp_of_inb hg10) rfl ?_
    refine oif_g hs (fun hg11 hs => ?_)
    refine AW.iast (am_r 20 rfl) rfl mb_a1 (Nat.le_trans hA (by omega)) (vp_of_inb hg11) ?_
    rw [show _ = _ from mbp_a1]
    refine olet_e (P := fun y => AW g MX10_copyBlock 33 [some (.ref (b)), some (.int (p1)), some (.int (p2)), some (.int (a.1))] [] (mb h0 b y) Q) hs (fun S12 hs => ?_)
    refine AW.iinc (v := a.1 + (1 : Int32)) (L' := [some (.ref (b)), some (.int (p1)), some (.int (p2)), some (.int (a.1 + (1 : Int32)))]) (am_r 21 rfl) rfl (Nat.le_of_ble_eq_true rfl) rfl (congrArg (fun z => a.1 + z) ci_1) rfl ?_
    refine AW.goto (tg := 2) (am_r 22 rfl) rfl ?_
    have hr := (Option.some.inj hs).symm
    exact hc (a.1 + (1 : Int32), S12) hr 
noncomputable def sX10_copyBlock (S : Mem) (p1 : Int32) (p2 : Int32) : Option Mem :=
  sX10_copyBlock_l2  p1 p2 ((0 : Int32), S)
set_option maxRecDepth 100000 in
theorem dX10_copyBlock {g : AG} {h0 : AH} {b : Nat} {S : Mem} {Q : AO → AH → Prop} {p1 : Int32} {p2 : Int32} (hA : gB g ≤ b)  {r : Mem} (hs : sX10_copyBlock S p1 p2 = some r) (hQ : Q (.ok none) (mb h0 b r)) : AW g MX10_copyBlock 0 [some (.ref (b)), some (.int (p1)), some (.int (p2)), none] [] (mb h0 b S) Q := by
  unfold sX10_copyBlock at hs
  refine AW.iconst (am_r 0 rfl) rfl ci_0 ?_
  refine AW.istore_n (L' := [some (.ref (b)), some (.int (p1)), some (.int (p2)), some (.int ((0 : Int32)))]) (z := 3) (am_r 1 rfl) rfl (Nat.le_of_ble_eq_true rfl) rfl ?_
  exact dX10_copyBlock_l2 hA   hs hQ
def sX10_thrown (S : Mem)  : Int32 :=
  gi S 100 6 0
set_option maxRecDepth 100000 in
theorem dX10_thrown {g : AG} {h0 : AH} {b : Nat} {S : Mem} {Q : AO → AH → Prop}  (hA : gB g ≤ b)  {r : Int32} (hs : sX10_thrown S  = r) (hQ : Q (.ok (some (.int r))) (mb h0 b S)) : AW g MX10_thrown 0 [some (.ref (b))] [] (mb h0 b S) Q := by
  unfold sX10_thrown at hs
  refine AW.aload_n (z := 0) (am_r 0 rfl) rfl rfl ?_
  refine AW.getO (am_r 1 rfl) rfl klX10 (k := 6) (by omega) q1509 mb_ob rfl ?_
  have hr := hs.symm
  subst hr
  exact AW.iret (am_r 2 rfl) rfl hQ
def sX10_throwsIf (S : Mem) (p1 : Int32) (p2 : Int32) : (Int32 × Mem) :=
  if p1 = 0 then
    (p1, S)
  else
    olet (si S 100 6 0 (p2)) fun S2 =>
    (p1, S2)
set_option maxRecDepth 100000 in
theorem dX10_throwsIf {g : AG} {h0 : AH} {b : Nat} {S : Mem} {Q : AO → AH → Prop} {p1 : Int32} {p2 : Int32} (hA : gB g ≤ b) (hz1 : p1 = 0 ∨ p1 = 1) {r : (Int32 × Mem)} (hs : sX10_throwsIf S p1 p2 = r) (hQ : (r.1 = 0 ∨ r.1 = 1) → Q (.ok (some (.int r.1))) (mb h0 b r.2)) : AW g MX10_throwsIf 0 [some (.ref (b)), some (.int (p1)), some (.int (p2))] [] (mb h0 b S) Q := by
  unfold sX10_throwsIf at hs
  refine AW.iload_n (z := 1) (am_r 0 rfl) rfl rfl ?_
  refine AW.if_eq (tg := 9) (am_r 1 rfl) rfl rfl (fun hc1 => ?_) (fun hc1 => ?_)
  · replace hs := (if_pos hc1).symm.trans hs
    refine AW.iload_n (z := 1) (am_r 5 rfl) rfl rfl ?_
    have hr := hs.symm
    subst hr
    exact AW.zret (am_r 6 rfl) rfl hz1 (hQ hz1)
  · replace hs := (if_neg hc1).symm.trans hs
    refine AW.aload_n (z := 0) (am_r 2 rfl) rfl rfl ?_
    refine AW.iload_n (z := 2) (am_r 3 rfl) rfl rfl ?_
    refine AW.putO (am_r 4 rfl) rfl klX10 (k := 6) (by omega) q1509 (Or.inl rfl) mb_ob hA rfl rfl (mbp_ob (by decide)) ?_
    refine olet_e (P := fun y => AW g MX10_throwsIf 9 [some (.ref (b)), some (.int (p1)), some (.int (p2))] [] (mb h0 b y) Q) hs (fun S2 hs => ?_)
    refine AW.iload_n (z := 1) (am_r 5 rfl) rfl rfl ?_
    have hr := hs.symm
    subst hr
    exact AW.zret (am_r 6 rfl) rfl hz1 (hQ hz1)
def sX10_inRange (S : Mem) (p1 : Int64) (p2 : Int64) (p3 : Int64) : Int32 :=
  if (lg_cmp p1 p2) < 0 then
    (0 : Int32)
  else
    if 0 < (lg_cmp p1 p3) then
      (0 : Int32)
    else
      (1 : Int32)
set_option maxRecDepth 100000 in
theorem dX10_inRange {g : AG} {h0 : AH} {b : Nat} {S : Mem} {Q : AO → AH → Prop} {p1 : Int64} {p2 : Int64} {p3 : Int64} (hA : gB g ≤ b)  {r : Int32} (hs : sX10_inRange S p1 p2 p3 = r) (hQ : (r = 0 ∨ r = 1) → Q (.ok (some (.int r))) (mb h0 b S)) : AW g MX10_inRange 0 [some (.long (p1)), none, some (.long (p2)), none, some (.long (p3)), none] [] (mb h0 b S) Q := by
  unfold sX10_inRange at hs
  refine AW.lload_n (z := 0) (am_r 0 rfl) rfl rfl ?_
  refine AW.lload_n (z := 2) (am_r 1 rfl) rfl rfl ?_
  refine AW.lcmp (am_r 2 rfl) rfl ?_
  refine AW.if_lt (tg := 17) (am_r 3 rfl) rfl rfl (fun hc1 => ?_) (fun hc1 => ?_)
  · replace hs := (if_pos hc1).symm.trans hs
    refine AW.iconst (am_r 10 rfl) rfl ci_0 ?_
    have hr := hs.symm
    subst hr
    exact AW.zret (am_r 11 rfl) rfl (Or.inl rfl) (hQ (Or.inl rfl))
  · replace hs := (if_neg hc1).symm.trans hs
    refine AW.lload_n (z := 0) (am_r 4 rfl) rfl rfl ?_
    refine AW.lload (am_r 5 rfl) rfl rfl ?_
    refine AW.lcmp (am_r 6 rfl) rfl ?_
    refine AW.if_gt (tg := 17) (am_r 7 rfl) rfl rfl (fun hc2 => ?_) (fun hc2 => ?_)
    · replace hs := (if_pos hc2).symm.trans hs
      refine AW.iconst (am_r 10 rfl) rfl ci_0 ?_
      have hr := hs.symm
      subst hr
      exact AW.zret (am_r 11 rfl) rfl (Or.inl rfl) (hQ (Or.inl rfl))
    · replace hs := (if_neg hc2).symm.trans hs
      refine AW.iconst (am_r 8 rfl) rfl ci_1 ?_
      refine AW.goto (tg := 18) (am_r 9 rfl) rfl ?_
      have hr := hs.symm
      subst hr
      exact AW.zret (am_r 11 rfl) rfl (Or.inr rfl) (hQ (Or.inr rfl))
def sX10_min (S : Mem) (p1 : Int32) (p2 : Int32) : Int32 :=
  if p2 ≤ p1 then
    p2
  else
    p1
set_option maxRecDepth 100000 in
theorem dX10_min {g : AG} {h0 : AH} {b : Nat} {S : Mem} {Q : AO → AH → Prop} {p1 : Int32} {p2 : Int32} (hA : gB g ≤ b)  {r : Int32} (hs : sX10_min S p1 p2 = r) (hQ : Q (.ok (some (.int r))) (mb h0 b S)) : AW g MX10_min 0 [some (.int (p1)), some (.int (p2))] [] (mb h0 b S) Q := by
  unfold sX10_min at hs
  refine AW.iload_n (z := 0) (am_r 0 rfl) rfl rfl ?_
  refine AW.iload_n (z := 1) (am_r 1 rfl) rfl rfl ?_
  refine AW.icmp_ge (tg := 9) (am_r 2 rfl) rfl rfl (fun hc1 => ?_) (fun hc1 => ?_)
  · replace hs := (if_pos hc1).symm.trans hs
    refine AW.iload_n (z := 1) (am_r 5 rfl) rfl rfl ?_
    have hr := hs.symm
    subst hr
    exact AW.iret (am_r 6 rfl) rfl hQ
  · replace hs := (if_neg hc1).symm.trans hs
    refine AW.iload_n (z := 0) (am_r 3 rfl) rfl rfl ?_
    refine AW.goto (tg := 10) (am_r 4 rfl) rfl ?_
    have hr := hs.symm
    subst hr
    exact AW.iret (am_r 6 rfl) rfl hQ
def sX10_max (S : Mem) (p1 : Int32) (p2 : Int32) : Int32 :=
  if p1 ≤ p2 then
    p2
  else
    p1
set_option maxRecDepth 100000 in
theorem dX10_max {g : AG} {h0 : AH} {b : Nat} {S : Mem} {Q : AO → AH → Prop} {p1 : Int32} {p2 : Int32} (hA : gB g ≤ b)  {r : Int32} (hs : sX10_max S p1 p2 = r) (hQ : Q (.ok (some (.int r))) (mb h0 b S)) : AW g MX10_max 0 [some (.int (p1)), some (.int (p2))] [] (mb h0 b S) Q := by
  unfold sX10_max at hs
  refine AW.iload_n (z := 0) (am_r 0 rfl) rfl rfl ?_
  refine AW.iload_n (z := 1) (am_r 1 rfl) rfl rfl ?_
  refine AW.icmp_le (tg := 9) (am_r 2 rfl) rfl rfl (fun hc1 => ?_) (fun hc1 => ?_)
  · replace hs := (if_pos hc1).symm.trans hs
    refine AW.iload_n (z := 1) (am_r 5 rfl) rfl rfl ?_
    have hr := hs.symm
    subst hr
    exact AW.iret (am_r 6 rfl) rfl hQ
  · replace hs := (if_neg hc1).symm.trans hs
    refine AW.iload_n (z := 0) (am_r 3 rfl) rfl rfl ?_
    refine AW.goto (tg := 10) (am_r 4 rfl) rfl ?_
    have hr := hs.symm
    subst hr
    exact AW.iret (am_r 6 rfl) rfl hQ
noncomputable def sX10_keep_j32 (S : Mem)   : Option Mem :=
  obind (sX10_copyBlock S (0 : Int32) ((3 : Int32) + (((gi S 100 3 0) + (gi S 100 4 0)) - ((gi S 100 3 0) + (gi S 100 4 0)) / (10 : Int32) * (10 : Int32)))) fun r2 =>
  olet (si r2 100 4 0 ((gi r2 100 4 0) + (1 : Int32))) fun S5 =>
  some (S5)
set_option maxRecDepth 100000 in
theorem dX10_keep_j32 {g : AG} {h0 : AH} {b : Nat} {S : Mem} {Q : AO → AH → Prop}   (hA : gB g ≤ b)   {r : Mem} (hs : sX10_keep_j32 S   = some r) (hQ : Q (.ok none) (mb h0 b r)) : AW g MX10_keep 32 [some (.ref (b))] [] (mb h0 b S) Q := by
  unfold sX10_keep_j32 at hs
  refine AW.aload_n (z := 0) (am_r 18 rfl) rfl rfl ?_
  refine AW.iconst (am_r 19 rfl) rfl ci_0 ?_
  refine AW.iconst (am_r 20 rfl) rfl ci_3 ?_
  refine AW.aload_n (z := 0) (am_r 21 rfl) rfl rfl ?_
  refine AW.getO (am_r 22 rfl) rfl klX10 (k := 3) (by omega) q1506 mb_ob rfl ?_
  refine AW.aload_n (z := 0) (am_r 23 rfl) rfl rfl ?_
  refine AW.getO (am_r 24 rfl) rfl klX10 (k := 4) (by omega) q1507 mb_ob rfl ?_
  refine AW.iadd (am_r 25 rfl) rfl ?_
  refine AW.bipush (am_r 26 rfl) rfl cb_10 ?_
  refine AW.irem (am_r 27 rfl) rfl (by decide) ?_
  refine AW.iadd (am_r 28 rfl) rfl ?_
  refine obind_e hs (fun r2 hg4 hs => ?_)
  refine AW.callV (N := MX10_copyBlock) (As := [.int ((0 : Int32)), .int ((3 : Int32) + (((gi S 100 3 0) + (gi S 100 4 0)) - ((gi S 100 3 0) + (gi S 100 4 0)) / (10 : Int32) * (10 : Int32)))]) (S := []) (L0 := [some (.ref (b)), some (.int ((0 : Int32))), some (.int ((3 : Int32) + (((gi S 100 3 0) + (gi S 100 4 0)) - ((gi S 100 3 0) + (gi S 100 4 0)) / (10 : Int32) * (10 : Int32)))), none]) (b := b) (am_r 29 rfl) rfl ovX10_copyBlock q1584 rfl rfl mb_ob rfl rfl rfl rfl (dX10_copyBlock hA  hg4 (cQ_v ?_))
  refine AW.aload_n (z := 0) (am_r 30 rfl) rfl rfl ?_
  refine AW.dup (am_r 31 rfl) rfl rfl ?_
  refine AW.getO (am_r 32 rfl) rfl klX10 (k := 4) (by omega) q1507 mb_ob rfl ?_
  refine AW.iconst (am_r 33 rfl) rfl ci_1 ?_
  refine AW.iadd (am_r 34 rfl) rfl ?_
  refine AW.putO (am_r 35 rfl) rfl klX10 (k := 4) (by omega) q1507 (Or.inl rfl) mb_ob hA rfl rfl (mbp_ob (by decide)) ?_
  refine olet_e (P := fun y => AW g MX10_keep 61 [some (.ref (b))] [] (mb h0 b y) Q) hs (fun S5 hs => ?_)
  have hr := (Option.some.inj hs).symm
  subst hr
  exact AW.vret (am_r 36 rfl) rfl hQ
noncomputable def sX10_keep (S : Mem)  : Option Mem :=
  if (gi S 100 4 0) = (10 : Int32) then
    olet (si S 100 3 0 (((gi S 100 3 0) + (1 : Int32)) - ((gi S 100 3 0) + (1 : Int32)) / (10 : Int32) * (10 : Int32))) fun S6 =>
    olet (si S6 100 4 0 ((gi S6 100 4 0) - (1 : Int32))) fun S7 =>
    sX10_keep_j32 S7  
  else
    sX10_keep_j32 S  
set_option maxRecDepth 100000 in
theorem dX10_keep {g : AG} {h0 : AH} {b : Nat} {S : Mem} {Q : AO → AH → Prop}  (hA : gB g ≤ b)  {r : Mem} (hs : sX10_keep S  = some r) (hQ : Q (.ok none) (mb h0 b r)) : AW g MX10_keep 0 [some (.ref (b))] [] (mb h0 b S) Q := by
  unfold sX10_keep at hs
  refine AW.aload_n (z := 0) (am_r 0 rfl) rfl rfl ?_
  refine AW.getO (am_r 1 rfl) rfl klX10 (k := 4) (by omega) q1507 mb_ob rfl ?_
  refine AW.bipush (am_r 2 rfl) rfl cb_10 ?_
  refine AW.icmp_ne (tg := 32) (am_r 3 rfl) rfl rfl (fun hc1 => ?_) (fun hc1 => ?_)
  · replace hs := (if_neg hc1).symm.trans hs
    exact dX10_keep_j32 hA   hs hQ
  · replace hs := (if_pos hc1).symm.trans hs
    refine AW.aload_n (z := 0) (am_r 4 rfl) rfl rfl ?_
    refine AW.aload_n (z := 0) (am_r 5 rfl) rfl rfl ?_
    refine AW.getO (am_r 6 rfl) rfl klX10 (k := 3) (by omega) q1506 mb_ob rfl ?_
    refine AW.iconst (am_r 7 rfl) rfl ci_1 ?_
    refine AW.iadd (am_r 8 rfl) rfl ?_
    refine AW.bipush (am_r 9 rfl) rfl cb_10 ?_
    refine AW.irem (am_r 10 rfl) rfl (by decide) ?_
    refine AW.putO (am_r 11 rfl) rfl klX10 (k := 3) (by omega) q1506 (Or.inl rfl) mb_ob hA rfl rfl (mbp_ob (by decide)) ?_
    refine olet_e (P := fun y => AW g MX10_keep 22 [some (.ref (b))] [] (mb h0 b y) Q) hs (fun S6 hs => ?_)
    refine AW.aload_n (z := 0) (am_r 12 rfl) rfl rfl ?_
    refine AW.dup (am_r 13 rfl) rfl rfl ?_
    refine AW.getO (am_r 14 rfl) rfl klX10 (k := 4) (by omega) q1507 mb_ob rfl ?_
    refine AW.iconst (am_r 15 rfl) rfl ci_1 ?_
    refine AW.isub (am_r 16 rfl) rfl ?_
    refine AW.putO (am_r 17 rfl) rfl klX10 (k := 4) (by omega) q1507 (Or.inl rfl) mb_ob hA rfl rfl (mbp_ob (by decide)) ?_
    refine olet_e (P := fun y => AW g MX10_keep 32 [some (.ref (b))] [] (mb h0 b y) Q) hs (fun S7 hs => ?_)
    exact dX10_keep_j32 hA   hs hQ
noncomputable def sX10_undo (S : Mem)  : Option (Int32 × Mem) :=
  olet (si S 100 6 0 ((0 : Int32))) fun S1 =>
  if (gi S1 100 4 0) = 0 then
    some (((-1 : Int32), S1))
  else
    olet (si S1 100 4 0 ((gi S1 100 4 0) - (1 : Int32))) fun S3 =>
    obind (sX10_copyBlock S3 ((3 : Int32) + (((gi S3 100 3 0) + (gi S3 100 4 0)) - ((gi S3 100 3 0) + (gi S3 100 4 0)) / (10 : Int32) * (10 : Int32))) (0 : Int32)) fun r4 =>
    some ((gi r4 100 4 0, r4))
set_option maxRecDepth 100000 in
theorem dX10_undo {g : AG} {h0 : AH} {b : Nat} {S : Mem} {Q : AO → AH → Prop}  (hA : gB g ≤ b)  {r : (Int32 × Mem)} (hs : sX10_undo S  = some r) (hQ : Q (.ok (some (.int r.1))) (mb h0 b r.2)) : AW g MX10_undo 0 [some (.ref (b))] [] (mb h0 b S) Q := by
  unfold sX10_undo at hs
  refine AW.aload_n (z := 0) (am_r 0 rfl) rfl rfl ?_
  refine AW.iconst (am_r 1 rfl) rfl ci_0 ?_
  refine AW.putO (am_r 2 rfl) rfl klX10 (k := 6) (by omega) q1509 (Or.inl rfl) mb_ob hA rfl rfl (mbp_ob (by decide)) ?_
  refine olet_e (P := fun y => AW g MX10_undo 5 [some (.ref (b))] [] (mb h0 b y) Q) hs (fun S1 hs => ?_)
  refine AW.aload_n (z := 0) (am_r 3 rfl) rfl rfl ?_
  refine AW.getO (am_r 4 rfl) rfl klX10 (k := 4) (by omega) q1507 mb_ob rfl ?_
  refine AW.if_ne (tg := 14) (am_r 5 rfl) rfl rfl (fun hc2 => ?_) (fun hc2 => ?_)
  · replace hs := (if_neg hc2).symm.trans hs
    refine AW.aload_n (z := 0) (am_r 8 rfl) rfl rfl ?_
    refine AW.dup (am_r 9 rfl) rfl rfl ?_
    refine AW.getO (am_r 10 rfl) rfl klX10 (k := 4) (by omega) q1507 mb_ob rfl ?_
    refine AW.iconst (am_r 11 rfl) rfl ci_1 ?_
    refine AW.isub (am_r 12 rfl) rfl ?_
    refine AW.putO (am_r 13 rfl) rfl klX10 (k := 4) (by omega) q1507 (Or.inl rfl) mb_ob hA rfl rfl (mbp_ob (by decide)) ?_
    refine olet_e (P := fun y => AW g MX10_undo 24 [some (.ref (b))] [] (mb h0 b y) Q) hs (fun S3 hs => ?_)
    refine AW.aload_n (z := 0) (am_r 14 rfl) rfl rfl ?_
    refine AW.iconst (am_r 15 rfl) rfl ci_3 ?_
    refine AW.aload_n (z := 0) (am_r 16 rfl) rfl rfl ?_
    refine AW.getO (am_r 17 rfl) rfl klX10 (k := 3) (by omega) q1506 mb_ob rfl ?_
    refine AW.aload_n (z := 0) (am_r 18 rfl) rfl rfl ?_
    refine AW.getO (am_r 19 rfl) rfl klX10 (k := 4) (by omega) q1507 mb_ob rfl ?_
    refine AW.iadd (am_r 20 rfl) rfl ?_
    refine AW.bipush (am_r 21 rfl) rfl cb_10 ?_
    refine AW.irem (am_r 22 rfl) rfl (by decide) ?_
    refine AW.iadd (am_r 23 rfl) rfl ?_
    refine AW.iconst (am_r 24 rfl) rfl ci_0 ?_
    refine obind_e hs (fun r4 hg6 hs => ?_)
    refine AW.callV (N := MX10_copyBlock) (As := [.int ((3 : Int32) + (((gi S3 100 3 0) + (gi S3 100 4 0)) - ((gi S3 100 3 0) + (gi S3 100 4 0)) / (10 : Int32) * (10 : Int32))), .int ((0 : Int32))]) (S := []) (L0 := [some (.ref (b)), some (.int ((3 : Int32) + (((gi S3 100 3 0) + (gi S3 100 4 0)) - ((gi S3 100 3 0) + (gi S3 100 4 0)) / (10 : Int32) * (10 : Int32)))), some (.int ((0 : Int32))), none]) (b := b) (am_r 25 rfl) rfl ovX10_copyBlock q1584 rfl rfl mb_ob rfl rfl rfl rfl (dX10_copyBlock hA  hg6 (cQ_v ?_))
    refine AW.aload_n (z := 0) (am_r 26 rfl) rfl rfl ?_
    refine AW.getO (am_r 27 rfl) rfl klX10 (k := 4) (by omega) q1507 mb_ob rfl ?_
    have hr := (Option.some.inj hs).symm
    subst hr
    exact AW.iret (am_r 28 rfl) rfl hQ
  · replace hs := (if_pos hc2).symm.trans hs
    refine AW.iconst (am_r 6 rfl) rfl ci_m1 ?_
    have hr := (Option.some.inj hs).symm
    subst hr
    exact AW.iret (am_r 7 rfl) rfl hQ
noncomputable def sX10_saveSnapshot (S : Mem) (p1 : Int32) : Option (Int32 × Mem) :=
  olet (si S 100 6 0 ((0 : Int32))) fun S1 =>
  if (sX10_inRange S1 p1.toInt64 (0 : Int64) (1 : Int64)) = 0 then
    some (((0 : Int32), S1))
  else
    obind (sX10_copyBlock S1 (0 : Int32) ((1 : Int32) + p1)) fun r5 =>
    oif (inb p1 2) (
    olet (si r5 2 p1.toNatClampNeg 0 ((1 : Int32))) fun S9 =>
    some (((1 : Int32), S9)))
set_option maxRecDepth 100000 in
theorem dX10_saveSnapshot {g : AG} {h0 : AH} {b : Nat} {S : Mem} {Q : AO → AH → Prop} {p1 : Int32} (hA : gB g ≤ b)  {r : (Int32 × Mem)} (hs : sX10_saveSnapshot S p1 = some r) (hQ : (r.1 = 0 ∨ r.1 = 1) → Q (.ok (some (.int r.1))) (mb h0 b r.2)) : AW g MX10_saveSnapshot 0 [some (.ref (b)), some (.int (p1))] [] (mb h0 b S) Q := by
  unfold sX10_saveSnapshot at hs
  refine AW.aload_n (z := 0) (am_r 0 rfl) rfl rfl ?_
  refine AW.iconst (am_r 1 rfl) rfl ci_0 ?_
  refine AW.putO (am_r 2 rfl) rfl klX10 (k := 6) (by omega) q1509 (Or.inl rfl) mb_ob hA rfl rfl (mbp_ob (by decide)) ?_
  refine olet_e (P := fun y => AW g MX10_saveSnapshot 5 [some (.ref (b)), some (.int (p1))] [] (mb h0 b y) Q) hs (fun S1 hs => ?_)
  refine AW.iload_n (z := 1) (am_r 3 rfl) rfl rfl ?_
  refine AW.i2l (am_r 4 rfl) rfl ?_
  refine AW.lconst (z := 0) (am_r 5 rfl) rfl cl_0 ?_
  refine AW.lconst (z := 1) (am_r 6 rfl) rfl cl_1 ?_
  refine AW.callS (N := MX10_inRange) (As := [.long (p1.toInt64), .long ((0 : Int64)), .long ((1 : Int64))]) (S := []) (L0 := [some (.long (p1.toInt64)), none, some (.long ((0 : Int64))), none, some (.long ((1 : Int64))), none]) (am_r 7 rfl) rfl osX10_inRange q1592 rfl rfl rfl rfl rfl (dX10_inRange hA  rfl (fun hok3 => (cQ_r ?_)))
  refine AW.if_ne (tg := 17) (am_r 8 rfl) rfl rfl (fun hc4 => ?_) (fun hc4 => ?_)
  · replace hs := (if_neg hc4).symm.trans hs
    refine AW.aload_n (z := 0) (am_r 11 rfl) rfl rfl ?_
    refine AW.iconst (am_r 12 rfl) rfl ci_0 ?_
    refine AW.iconst (am_r 13 rfl) rfl ci_1 ?_
    refine AW.iload_n (z := 1) (am_r 14 rfl) rfl rfl ?_
    refine AW.iadd (am_r 15 rfl) rfl ?_
    refine obind_e hs (fun r5 hg7 hs => ?_)
    refine AW.callV (N := MX10_copyBlock) (As := [.int ((0 : Int32)), .int ((1 : Int32) + p1)]) (S := []) (L0 := [some (.ref (b)), some (.int ((0 : Int32))), some (.int ((1 : Int32) + p1)), none]) (b := b) (am_r 16 rfl) rfl ovX10_copyBlock q1584 rfl rfl mb_ob rfl rfl rfl rfl (dX10_copyBlock hA  hg7 (cQ_v ?_))
    refine AW.aload_n (z := 0) (am_r 17 rfl) rfl rfl ?_
    refine AW.getO (am_r 18 rfl) rfl klX10 (k := 2) (by omega) q1505 mb_ob rfl ?_
    refine AW.iload_n (z := 1) (am_r 19 rfl) rfl rfl ?_
    refine AW.iconst (am_r 20 rfl) rfl ci_1 ?_
    refine oif_g hs (fun hg8 hs => ?_)
    refine AW.zast (am_r 21 rfl) rfl mb_a3 (Nat.le_trans hA (by omega)) (vp_of_inb hg8) (nar_b (Or.inr rfl)) ?_
    rw [show _ = _ from mbp_a3]
    refine olet_e (P := fun y => AW g MX10_saveSnapshot 32 [some (.ref (b)), some (.int (p1))] [] (mb h0 b y) Q) hs (fun S9 hs => ?_)
    refine AW.iconst (am_r 22 rfl) rfl ci_1 ?_
    have hr := (Option.some.inj hs).symm
    subst hr
    exact AW.zret (am_r 23 rfl) rfl (Or.inr rfl) (hQ (Or.inr rfl))
  · replace hs := (if_pos hc4).symm.trans hs
    refine AW.iconst (am_r 9 rfl) rfl ci_0 ?_
    have hr := (Option.some.inj hs).symm
    subst hr
    exact AW.zret (am_r 10 rfl) rfl (Or.inl rfl) (hQ (Or.inl rfl))
noncomputable def sX10_restoreSnapshot (S : Mem) (p1 : Int32) : Option (Int32 × Mem) :=
  olet (si S 100 6 0 ((0 : Int32))) fun S1 =>
  if (sX10_inRange S1 p1.toInt64 (0 : Int64) (1 : Int64)) = 0 then
    some (((0 : Int32), S1))
  else
    oif (inb p1 2) (
    if (gi S1 2 p1.toNatClampNeg 0) = 0 then
      some (((0 : Int32), S1))
    else
      obind (sX10_copyBlock S1 ((1 : Int32) + p1) (0 : Int32)) fun r7 =>
      olet (si r7 100 4 0 ((0 : Int32))) fun S10 =>
      some (((1 : Int32), S10)))
set_option maxRecDepth 100000 in
theorem dX10_restoreSnapshot {g : AG} {h0 : AH} {b : Nat} {S : Mem} {Q : AO → AH → Prop} {p1 : Int32} (hA : gB g ≤ b)  {r : (Int32 × Mem)} (hs : sX10_restoreSnapshot S p1 = some r) (hQ : (r.1 = 0 ∨ r.1 = 1) → Q (.ok (some (.int r.1))) (mb h0 b r.2)) : AW g MX10_restoreSnapshot 0 [some (.ref (b)), some (.int (p1))] [] (mb h0 b S) Q := by
  unfold sX10_restoreSnapshot at hs
  refine AW.aload_n (z := 0) (am_r 0 rfl) rfl rfl ?_
  refine AW.iconst (am_r 1 rfl) rfl ci_0 ?_
  refine AW.putO (am_r 2 rfl) rfl klX10 (k := 6) (by omega) q1509 (Or.inl rfl) mb_ob hA rfl rfl (mbp_ob (by decide)) ?_
  refine olet_e (P := fun y => AW g MX10_restoreSnapshot 5 [some (.ref (b)), some (.int (p1))] [] (mb h0 b y) Q) hs (fun S1 hs => ?_)
  refine AW.iload_n (z := 1) (am_r 3 rfl) rfl rfl ?_
  refine AW.i2l (am_r 4 rfl) rfl ?_
  refine AW.lconst (z := 0) (am_r 5 rfl) rfl cl_0 ?_
  refine AW.lconst (z := 1) (am_r 6 rfl) rfl cl_1 ?_
  refine AW.callS (N := MX10_inRange) (As := [.long (p1.toInt64), .long ((0 : Int64)), .long ((1 : Int64))]) (S := []) (L0 := [some (.long (p1.toInt64)), none, some (.long ((0 : Int64))), none, some (.long ((1 : Int64))), none]) (am_r 7 rfl) rfl osX10_inRange q1592 rfl rfl rfl rfl rfl (dX10_inRange hA  rfl (fun hok3 => (cQ_r ?_)))
  refine AW.if_eq (tg := 24) (am_r 8 rfl) rfl rfl (fun hc4 => ?_) (fun hc4 => ?_)
  · replace hs := (if_pos hc4).symm.trans hs
    refine AW.iconst (am_r 14 rfl) rfl ci_0 ?_
    have hr := (Option.some.inj hs).symm
    subst hr
    exact AW.zret (am_r 15 rfl) rfl (Or.inl rfl) (hQ (Or.inl rfl))
  · replace hs := (if_neg hc4).symm.trans hs
    refine AW.aload_n (z := 0) (am_r 9 rfl) rfl rfl ?_
    refine AW.getO (am_r 10 rfl) rfl klX10 (k := 2) (by omega) q1505 mb_ob rfl ?_
    refine AW.iload_n (z := 1) (am_r 11 rfl) rfl rfl ?_
    refine oif_g hs (fun hg5 hs => ?_)
    refine AW.zald (am_r 12 rfl) rfl mb_a3 (vp_of_inb hg5) rfl ?_
    refine AW.if_ne (tg := 26) (am_r 13 rfl) rfl rfl (fun hc6 => ?_) (fun hc6 => ?_)
    · replace hs := (if_neg hc6).symm.trans hs
      refine AW.aload_n (z := 0) (am_r 16 rfl) rfl rfl ?_
      refine AW.iconst (am_r 17 rfl) rfl ci_1 ?_
      refine AW.iload_n (z := 1) (am_r 18 rfl) rfl rfl ?_
      refine AW.iadd (am_r 19 rfl) rfl ?_
      refine AW.iconst (am_r 20 rfl) rfl ci_0 ?_
      refine obind_e hs (fun r7 hg9 hs => ?_)
      refine AW.callV (N := MX10_copyBlock) (As := [.int ((1 : Int32) + p1), .int ((0 : Int32))]) (S := []) (L0 := [some (.ref (b)), some (.int ((1 : Int32) + p1)), some (.int ((0 : Int32))), none]) (b := b) (am_r 21 rfl) rfl ovX10_copyBlock q1584 rfl rfl mb_ob rfl rfl rfl rfl (dX10_copyBlock hA  hg9 (cQ_v ?_))
      refine AW.aload_n (z := 0) (am_r 22 rfl) rfl rfl ?_
      refine AW.iconst (am_r 23 rfl) rfl ci_0 ?_
      refine AW.putO (am_r 24 rfl) rfl klX10 (k := 4) (by omega) q1507 (Or.inl rfl) mb_ob hA rfl rfl (mbp_ob (by decide)) ?_
      refine olet_e (P := fun y => AW g MX10_restoreSnapshot 39 [some (.ref (b)), some (.int (p1))] [] (mb h0 b y) Q) hs (fun S10 hs => ?_)
      refine AW.iconst (am_r 25 rfl) rfl ci_1 ?_
      have hr := (Option.some.inj hs).symm
      subst hr
      exact AW.zret (am_r 26 rfl) rfl (Or.inr rfl) (hQ (Or.inr rfl))
    · replace hs := (if_pos hc6).symm.trans hs
      refine AW.iconst (am_r 14 rfl) rfl ci_0 ?_
      have hr := (Option.some.inj hs).symm
      subst hr
      exact AW.zret (am_r 15 rfl) rfl (Or.inl rfl) (hQ (Or.inl rfl))
noncomputable def sX10_pressSize (S : Mem) (p1 : Int32) : Option Int32 :=
  oif (inb ((5 : Int32) + p1) 258) (
  some (gi S 5 ((5 : Int32) + p1).toNatClampNeg 0))
set_option maxRecDepth 100000 in
theorem dX10_pressSize {g : AG} {h0 : AH} {b : Nat} {S : Mem} {Q : AO → AH → Prop} {p1 : Int32} (hA : gB g ≤ b)  {r : Int32} (hs : sX10_pressSize S p1 = some r) (hQ : Q (.ok (some (.int r))) (mb h0 b S)) : AW g MX10_pressSize 0 [some (.ref (b)), some (.int (p1))] [] (mb h0 b S) Q := by
  unfold sX10_pressSize at hs
  refine AW.aload_n (z := 0) (am_r 0 rfl) rfl rfl ?_
  refine AW.getO (am_r 1 rfl) rfl klX10 (k := 5) (by omega) q1508 mb_ob rfl ?_
  refine AW.iconst (am_r 2 rfl) rfl ci_5 ?_
  refine AW.iload_n (z := 1) (am_r 3 rfl) rfl rfl ?_
  refine AW.iadd (am_r 4 rfl) rfl ?_
  refine oif_g hs (fun hg1 hs => ?_)
  refine AW.iald (am_r 5 rfl) rfl mb_a4 (vp_of_inb hg1) rfl ?_
  have hr := (Option.some.inj hs).symm
  subst hr
  exact AW.iret (am_r 6 rfl) rfl hQ
noncomputable def sX10_ofRecipe (S : Mem) (p1 : Int32) (p2 : Int32) : Option Int32 :=
  oif (inb (((11 : Int32) + ((7 : Int32) * p1)) + p2) 258) (
  some (gi S 5 (((11 : Int32) + ((7 : Int32) * p1)) + p2).toNatClampNeg 0))
set_option maxRecDepth 100000 in
theorem dX10_ofRecipe {g : AG} {h0 : AH} {b : Nat} {S : Mem} {Q : AO → AH → Prop} {p1 : Int32} {p2 : Int32} (hA : gB g ≤ b)  {r : Int32} (hs : sX10_ofRecipe S p1 p2 = some r) (hQ : Q (.ok (some (.int r))) (mb h0 b S)) : AW g MX10_ofRecipe 0 [some (.ref (b)), some (.int (p1)), some (.int (p2))] [] (mb h0 b S) Q := by
  unfold sX10_ofRecipe at hs
  refine AW.aload_n (z := 0) (am_r 0 rfl) rfl rfl ?_
  refine AW.getO (am_r 1 rfl) rfl klX10 (k := 5) (by omega) q1508 mb_ob rfl ?_
  refine AW.bipush (am_r 2 rfl) rfl cb_11 ?_
  refine AW.bipush (am_r 3 rfl) rfl cb_7 ?_
  refine AW.iload_n (z := 1) (am_r 4 rfl) rfl rfl ?_
  refine AW.imul (am_r 5 rfl) rfl ?_
  refine AW.iadd (am_r 6 rfl) rfl ?_
  refine AW.iload_n (z := 2) (am_r 7 rfl) rfl rfl ?_
  refine AW.iadd (am_r 8 rfl) rfl ?_
  refine oif_g hs (fun hg1 hs => ?_)
  refine AW.iald (am_r 9 rfl) rfl mb_a4 (vp_of_inb hg1) rfl ?_
  have hr := (Option.some.inj hs).symm
  subst hr
  exact AW.iret (am_r 10 rfl) rfl hQ
noncomputable def sX10_ofThing (S : Mem) (p1 : Int32) (p2 : Int32) : Option Int32 :=
  oif (inb (((81 : Int32) + ((3 : Int32) * p1)) + p2) 258) (
  some (gi S 5 (((81 : Int32) + ((3 : Int32) * p1)) + p2).toNatClampNeg 0))
set_option maxRecDepth 100000 in
theorem dX10_ofThing {g : AG} {h0 : AH} {b : Nat} {S : Mem} {Q : AO → AH → Prop} {p1 : Int32} {p2 : Int32} (hA : gB g ≤ b)  {r : Int32} (hs : sX10_ofThing S p1 p2 = some r) (hQ : Q (.ok (some (.int r))) (mb h0 b S)) : AW g MX10_ofThing 0 [some (.ref (b)), some (.int (p1)), some (.int (p2))] [] (mb h0 b S) Q := by
  unfold sX10_ofThing at hs
  refine AW.aload_n (z := 0) (am_r 0 rfl) rfl rfl ?_
  refine AW.getO (am_r 1 rfl) rfl klX10 (k := 5) (by omega) q1508 mb_ob rfl ?_
  refine AW.bipush (am_r 2 rfl) rfl cb_81 ?_
  refine AW.iconst (am_r 3 rfl) rfl ci_3 ?_
  refine AW.iload_n (z := 1) (am_r 4 rfl) rfl rfl ?_
  refine AW.imul (am_r 5 rfl) rfl ?_
  refine AW.iadd (am_r 6 rfl) rfl ?_
  refine AW.iload_n (z := 2) (am_r 7 rfl) rfl rfl ?_
  refine AW.iadd (am_r 8 rfl) rfl ?_
  refine oif_g hs (fun hg1 hs => ?_)
  refine AW.iald (am_r 9 rfl) rfl mb_a4 (vp_of_inb hg1) rfl ?_
  have hr := (Option.some.inj hs).symm
  subst hr
  exact AW.iret (am_r 10 rfl) rfl hQ
noncomputable def sX10_of (S : Mem) (p1 : Int32) (p2 : Int32) : Option Int32 :=
  oif (inb (((6 : Int32) + ((21 : Int32) * p1)) + p2) 13412) (
  some (gi S 0 (((6 : Int32) + ((21 : Int32) * p1)) + p2).toNatClampNeg 0))
set_option maxRecDepth 100000 in
theorem dX10_of {g : AG} {h0 : AH} {b : Nat} {S : Mem} {Q : AO → AH → Prop} {p1 : Int32} {p2 : Int32} (hA : gB g ≤ b)  {r : Int32} (hs : sX10_of S p1 p2 = some r) (hQ : Q (.ok (some (.int r))) (mb h0 b S)) : AW g MX10_of 0 [some (.ref (b)), some (.int (p1)), some (.int (p2))] [] (mb h0 b S) Q := by
  unfold sX10_of at hs
  refine AW.aload_n (z := 0) (am_r 0 rfl) rfl rfl ?_
  refine AW.getO (am_r 1 rfl) rfl klX10 (k := 0) (by omega) q1503 mb_ob rfl ?_
  refine AW.bipush (am_r 2 rfl) rfl cb_6 ?_
  refine AW.bipush (am_r 3 rfl) rfl cb_21 ?_
  refine AW.iload_n (z := 1) (am_r 4 rfl) rfl rfl ?_
  refine AW.imul (am_r 5 rfl) rfl ?_
  refine AW.iadd (am_r 6 rfl) rfl ?_
  refine AW.iload_n (z := 2) (am_r 7 rfl) rfl rfl ?_
  refine AW.iadd (am_r 8 rfl) rfl ?_
  refine oif_g hs (fun hg1 hs => ?_)
  refine AW.iald (am_r 9 rfl) rfl mb_a1 (vp_of_inb hg1) rfl ?_
  have hr := (Option.some.inj hs).symm
  subst hr
  exact AW.iret (am_r 10 rfl) rfl hQ
noncomputable def sX10_set (S : Mem) (p1 : Int32) (p2 : Int32) (p3 : Int32) : Option Mem :=
  oif (inb (((6 : Int32) + ((21 : Int32) * p1)) + p2) 13412) (
  olet (si S 0 (((6 : Int32) + ((21 : Int32) * p1)) + p2).toNatClampNeg 0 (p3)) fun S2 =>
  some (S2))
set_option maxRecDepth 100000 in
theorem dX10_set {g : AG} {h0 : AH} {b : Nat} {S : Mem} {Q : AO → AH → Prop} {p1 : Int32} {p2 : Int32} {p3 : Int32} (hA : gB g ≤ b)  {r : Mem} (hs : sX10_set S p1 p2 p3 = some r) (hQ : Q (.ok none) (mb h0 b r)) : AW g MX10_set 0 [some (.ref (b)), some (.int (p1)), some (.int (p2)), some (.int (p3))] [] (mb h0 b S) Q := by
  unfold sX10_set at hs
  refine AW.aload_n (z := 0) (am_r 0 rfl) rfl rfl ?_
  refine AW.getO (am_r 1 rfl) rfl klX10 (k := 0) (by omega) q1503 mb_ob rfl ?_
  refine AW.bipush (am_r 2 rfl) rfl cb_6 ?_
  refine AW.bipush (am_r 3 rfl) rfl cb_21 ?_
  refine AW.iload_n (z := 1) (am_r 4 rfl) rfl rfl ?_
  refine AW.imul (am_r 5 rfl) rfl ?_
  refine AW.iadd (am_r 6 rfl) rfl ?_
  refine AW.iload_n (z := 2) (am_r 7 rfl) rfl rfl ?_
  refine AW.iadd (am_r 8 rfl) rfl ?_
  refine AW.iload_n (z := 3) (am_r 9 rfl) rfl rfl ?_
  refine oif_g hs (fun hg1 hs => ?_)
  refine AW.iast (am_r 10 rfl) rfl mb_a1 (Nat.le_trans hA (by omega)) (vp_of_inb hg1) ?_
  rw [show _ = _ from mbp_a1]
  refine olet_e (P := fun y => AW g MX10_set 15 [some (.ref (b)), some (.int (p1)), some (.int (p2)), some (.int (p3))] [] (mb h0 b y) Q) hs (fun S2 hs => ?_)
  have hr := (Option.some.inj hs).symm
  subst hr
  exact AW.vret (am_r 11 rfl) rfl hQ
noncomputable def sX10_add (S : Mem) (p1 : Int32) (p2 : Int32) (p3 : Int32) : Option Mem :=
  oif (inb (((6 : Int32) + ((21 : Int32) * p1)) + p2) 13412) (
  oif (inb (((6 : Int32) + ((21 : Int32) * p1)) + p2) 13412) (
  olet (si S 0 (((6 : Int32) + ((21 : Int32) * p1)) + p2).toNatClampNeg 0 ((gi S 0 (((6 : Int32) + ((21 : Int32) * p1)) + p2).toNatClampNeg 0) + p3)) fun S3 =>
  some (S3)))
set_option maxRecDepth 100000 in
theorem dX10_add {g : AG} {h0 : AH} {b : Nat} {S : Mem} {Q : AO → AH → Prop} {p1 : Int32} {p2 : Int32} {p3 : Int32} (hA : gB g ≤ b)  {r : Mem} (hs : sX10_add S p1 p2 p3 = some r) (hQ : Q (.ok none) (mb h0 b r)) : AW g MX10_add 0 [some (.ref (b)), some (.int (p1)), some (.int (p2)), some (.int (p3))] [] (mb h0 b S) Q := by
  unfold sX10_add at hs
  refine AW.aload_n (z := 0) (am_r 0 rfl) rfl rfl ?_
  refine AW.getO (am_r 1 rfl) rfl klX10 (k := 0) (by omega) q1503 mb_ob rfl ?_
  refine AW.bipush (am_r 2 rfl) rfl cb_6 ?_
  refine AW.bipush (am_r 3 rfl) rfl cb_21 ?_
  refine AW.iload_n (z := 1) (am_r 4 rfl) rfl rfl ?_
  refine AW.imul (am_r 5 rfl) rfl ?_
  refine AW.iadd (am_r 6 rfl) rfl ?_
  refine AW.iload_n (z := 2) (am_r 7 rfl) rfl rfl ?_
  refine AW.iadd (am_r 8 rfl) rfl ?_
  refine AW.dup2 (am_r 9 rfl) rfl rfl rfl ?_
  refine oif_g hs (fun hg1 hs => ?_)
  refine AW.iald (am_r 10 rfl) rfl mb_a1 (vp_of_inb hg1) rfl ?_
  refine AW.iload_n (z := 3) (am_r 11 rfl) rfl rfl ?_
  refine AW.iadd (am_r 12 rfl) rfl ?_
  refine oif_g hs (fun hg2 hs => ?_)
  refine AW.iast (am_r 13 rfl) rfl mb_a1 (Nat.le_trans hA (by omega)) (vp_of_inb hg2) ?_
  rw [show _ = _ from mbp_a1]
  refine olet_e (P := fun y => AW g MX10_add 18 [some (.ref (b)), some (.int (p1)), some (.int (p2)), some (.int (p3))] [] (mb h0 b y) Q) hs (fun S3 hs => ?_)
  have hr := (Option.some.inj hs).symm
  subst hr
  exact AW.vret (am_r 14 rfl) rfl hQ
def sX10_isPress (S : Mem) (p1 : Int32) : Int32 :=
  sX10_inRange S p1.toInt64 (0 : Int64) (((gi S 5 (2 : Int32).toNatClampNeg 0) - (1 : Int32)).toInt64)
set_option maxRecDepth 100000 in
theorem dX10_isPress {g : AG} {h0 : AH} {b : Nat} {S : Mem} {Q : AO → AH → Prop} {p1 : Int32} (hA : gB g ≤ b)  {r : Int32} (hs : sX10_isPress S p1 = r) (hQ : (r = 0 ∨ r = 1) → Q (.ok (some (.int r))) (mb h0 b S)) : AW g MX10_isPress 0 [some (.ref (b)), some (.int (p1))] [] (mb h0 b S) Q := by
  unfold sX10_isPress at hs
  refine AW.iload_n (z := 1) (am_r 0 rfl) rfl rfl ?_
  refine AW.i2l (am_r 1 rfl) rfl ?_
  refine AW.lconst (z := 0) (am_r 2 rfl) rfl cl_0 ?_
  refine AW.aload_n (z := 0) (am_r 3 rfl) rfl rfl ?_
  refine AW.getO (am_r 4 rfl) rfl klX10 (k := 5) (by omega) q1508 mb_ob rfl ?_
  refine AW.iconst (am_r 5 rfl) rfl ci_2 ?_
  refine AW.iald (am_r 6 rfl) rfl mb_a4 (vp_of_inb rfl) rfl ?_
  refine AW.iconst (am_r 7 rfl) rfl ci_1 ?_
  refine AW.isub (am_r 8 rfl) rfl ?_
  refine AW.i2l (am_r 9 rfl) rfl ?_
  refine AW.callS (N := MX10_inRange) (As := [.long (p1.toInt64), .long ((0 : Int64)), .long (((gi S 5 (2 : Int32).toNatClampNeg 0) - (1 : Int32)).toInt64)]) (S := []) (L0 := [some (.long (p1.toInt64)), none, some (.long ((0 : Int64))), none, some (.long (((gi S 5 (2 : Int32).toNatClampNeg 0) - (1 : Int32)).toInt64)), none]) (am_r 10 rfl) rfl osX10_inRange q1592 rfl rfl rfl rfl rfl (dX10_inRange hA  rfl (fun hok2 => (cQ_r ?_)))
  have hr := hs.symm
  subst hr
  exact AW.zret (am_r 11 rfl) rfl hok2 (hQ hok2)
def sX10_isRecipe (S : Mem) (p1 : Int32) : Int32 :=
  sX10_inRange S p1.toInt64 (0 : Int64) (((gi S 5 (3 : Int32).toNatClampNeg 0) - (1 : Int32)).toInt64)
set_option maxRecDepth 100000 in
theorem dX10_isRecipe {g : AG} {h0 : AH} {b : Nat} {S : Mem} {Q : AO → AH → Prop} {p1 : Int32} (hA : gB g ≤ b)  {r : Int32} (hs : sX10_isRecipe S p1 = r) (hQ : (r = 0 ∨ r = 1) → Q (.ok (some (.int r))) (mb h0 b S)) : AW g MX10_isRecipe 0 [some (.ref (b)), some (.int (p1))] [] (mb h0 b S) Q := by
  unfold sX10_isRecipe at hs
  refine AW.iload_n (z := 1) (am_r 0 rfl) rfl rfl ?_
  refine AW.i2l (am_r 1 rfl) rfl ?_
  refine AW.lconst (z := 0) (am_r 2 rfl) rfl cl_0 ?_
  refine AW.aload_n (z := 0) (am_r 3 rfl) rfl rfl ?_
  refine AW.getO (am_r 4 rfl) rfl klX10 (k := 5) (by omega) q1508 mb_ob rfl ?_
  refine AW.iconst (am_r 5 rfl) rfl ci_3 ?_
  refine AW.iald (am_r 6 rfl) rfl mb_a4 (vp_of_inb rfl) rfl ?_
  refine AW.iconst (am_r 7 rfl) rfl ci_1 ?_
  refine AW.isub (am_r 8 rfl) rfl ?_
  refine AW.i2l (am_r 9 rfl) rfl ?_
  refine AW.callS (N := MX10_inRange) (As := [.long (p1.toInt64), .long ((0 : Int64)), .long (((gi S 5 (3 : Int32).toNatClampNeg 0) - (1 : Int32)).toInt64)]) (S := []) (L0 := [some (.long (p1.toInt64)), none, some (.long ((0 : Int64))), none, some (.long (((gi S 5 (3 : Int32).toNatClampNeg 0) - (1 : Int32)).toInt64)), none]) (am_r 10 rfl) rfl osX10_inRange q1592 rfl rfl rfl rfl rfl (dX10_inRange hA  rfl (fun hok2 => (cQ_r ?_)))
  have hr := hs.symm
  subst hr
  exact AW.zret (am_r 11 rfl) rfl hok2 (hQ hok2)
def sX10_isObject (S : Mem) (p1 : Int32) : Int32 :=
  sX10_inRange S p1.toInt64 (0 : Int64) (((gi S 5 (4 : Int32).toNatClampNeg 0) - (1 : Int32)).toInt64)
set_option maxRecDepth 100000 in
theorem dX10_isObject {g : AG} {h0 : AH} {b : Nat} {S : Mem} {Q : AO → AH → Prop} {p1 : Int32} (hA : gB g ≤ b)  {r : Int32} (hs : sX10_isObject S p1 = r) (hQ : (r = 0 ∨ r = 1) → Q (.ok (some (.int r))) (mb h0 b S)) : AW g MX10_isObject 0 [some (.ref (b)), some (.int (p1))] [] (mb h0 b S) Q := by
  unfold sX10_isObject at hs
  refine AW.iload_n (z := 1) (am_r 0 rfl) rfl rfl ?_
  refine AW.i2l (am_r 1 rfl) rfl ?_
  refine AW.lconst (z := 0) (am_r 2 rfl) rfl cl_0 ?_
  refine AW.aload_n (z := 0) (am_r 3 rfl) rfl rfl ?_
  refine AW.getO (am_r 4 rfl) rfl klX10 (k := 5) (by omega) q1508 mb_ob rfl ?_
  refine AW.iconst (am_r 5 rfl) rfl ci_4 ?_
  refine AW.iald (am_r 6 rfl) rfl mb_a4 (vp_of_inb rfl) rfl ?_
  refine AW.iconst (am_r 7 rfl) rfl ci_1 ?_
  refine AW.isub (am_r 8 rfl) rfl ?_
  refine AW.i2l (am_r 9 rfl) rfl ?_
  refine AW.callS (N := MX10_inRange) (As := [.long (p1.toInt64), .long ((0 : Int64)), .long (((gi S 5 (4 : Int32).toNatClampNeg 0) - (1 : Int32)).toInt64)]) (S := []) (L0 := [some (.long (p1.toInt64)), none, some (.long ((0 : Int64))), none, some (.long (((gi S 5 (4 : Int32).toNatClampNeg 0) - (1 : Int32)).toInt64)), none]) (am_r 10 rfl) rfl osX10_inRange q1592 rfl rfl rfl rfl rfl (dX10_inRange hA  rfl (fun hok2 => (cQ_r ?_)))
  have hr := hs.symm
  subst hr
  exact AW.zret (am_r 11 rfl) rfl hok2 (hQ hok2)
noncomputable def sX10_inPress_l2_step (S : Mem) (p1 : Int32) (a : Int32) : Option (Int32 ⊕ Int32) :=
  if (gi S 5 (4 : Int32).toNatClampNeg 0) ≤ a then
    oinr (
    some ((-1 : Int32)))
  else
    obind (sX10_of S a (6 : Int32)) fun r4 =>
    if r4 = p1 then
      oinr (
      some (a))
    else
      some (.inl (a + (1 : Int32)))
noncomputable def sX10_inPress_l2 (S : Mem) (p1 : Int32) (a : Int32) : Option Int32 := itw (sX10_inPress_l2_step S p1) a
set_option maxRecDepth 100000 in
theorem dX10_inPress_l2 {g : AG} {h0 : AH} {b : Nat} {S : Mem} {Q : AO → AH → Prop} {p1 : Int32} (hA : gB g ≤ b)  {a : Int32}  {r : Int32} (hs : sX10_inPress_l2 S p1 a = some r) (hQ : Q (.ok (some (.int r))) (mb h0 b S)) : AW g MX10_inPress 2 [some (.ref (b)), some (.int (p1)), some (.int (a))] [] (mb h0 b S) Q := by
  refine itw_e (P := fun a => AW g MX10_inPress 2 [some (.ref (b)), some (.int (p1)), some (.int (a))] [] (mb h0 b S) Q) (Post := fun r => Q (.ok (some (.int r))) (mb h0 b S)) (fun a r hs hc he  => ?_) hs hQ 
  unfold sX10_inPress_l2_step at hs
  refine AW.iload_n (z := 2) (am_r 2 rfl) rfl rfl ?_
  refine AW.aload_n (z := 0) (am_r 3 rfl) rfl rfl ?_
  refine AW.getO (am_r 4 rfl) rfl klX10 (k := 5) (by omega) q1508 mb_ob rfl ?_
  refine AW.iconst (am_r 5 rfl) rfl ci_4 ?_
  refine AW.iald (am_r 6 rfl) rfl mb_a4 (vp_of_inb rfl) rfl ?_
  refine AW.icmp_ge (tg := 31) (am_r 7 rfl) rfl rfl (fun hc1 => ?_) (fun hc1 => ?_)
  · replace hs := (if_pos hc1).symm.trans hs
    refine oinr_e hs (fun z2 hz3 hs => ?_)
    have hQ := he _ hz3
    refine AW.iconst (am_r 18 rfl) rfl ci_m1 ?_
    have hr := (Option.some.inj hs).symm
    subst hr
    exact AW.iret (am_r 19 rfl) rfl hQ
  · replace hs := (if_neg hc1).symm.trans hs
    refine AW.aload_n (z := 0) (am_r 8 rfl) rfl rfl ?_
    refine AW.iload_n (z := 2) (am_r 9 rfl) rfl rfl ?_
    refine AW.bipush (am_r 10 rfl) rfl cb_6 ?_
    refine obind_e hs (fun r4 hg6 hs => ?_)
    refine AW.callV (N := MX10_of) (As := [.int (a), .int ((6 : Int32))]) (S := []) (L0 := [some (.ref (b)), some (.int (a)), some (.int ((6 : Int32)))]) (b := b) (am_r 11 rfl) rfl ovX10_of q1615 rfl rfl mb_ob rfl rfl rfl rfl (dX10_of hA  hg6 (cQ_r ?_))
    refine AW.iload_n (z := 1) (am_r 12 rfl) rfl rfl ?_
    refine AW.icmp_ne (tg := 25) (am_r 13 rfl) rfl rfl (fun hc7 => ?_) (fun hc7 => ?_)
    · replace hs := (if_neg hc7).symm.trans hs
      refine AW.iinc (v := a + (1 : Int32)) (L' := [some (.ref (b)), some (.int (p1)), some (.int (a + (1 : Int32)))]) (am_r 16 rfl) rfl (Nat.le_of_ble_eq_true rfl) rfl (congrArg (fun z => a + z) ci_1) rfl ?_
      refine AW.goto (tg := 2) (am_r 17 rfl) rfl ?_
      have hr := (Option.some.inj hs).symm
      exact hc (a + (1 : Int32)) hr 
    · replace hs := (if_pos hc7).symm.trans hs
      refine oinr_e hs (fun z8 hz9 hs => ?_)
      have hQ := he _ hz9
      refine AW.iload_n (z := 2) (am_r 14 rfl) rfl rfl ?_
      have hr := (Option.some.inj hs).symm
      subst hr
      exact AW.iret (am_r 15 rfl) rfl hQ
noncomputable def sX10_inPress (S : Mem) (p1 : Int32) : Option Int32 :=
  sX10_inPress_l2 S p1 (0 : Int32)
set_option maxRecDepth 100000 in
theorem dX10_inPress {g : AG} {h0 : AH} {b : Nat} {S : Mem} {Q : AO → AH → Prop} {p1 : Int32} (hA : gB g ≤ b)  {r : Int32} (hs : sX10_inPress S p1 = some r) (hQ : Q (.ok (some (.int r))) (mb h0 b S)) : AW g MX10_inPress 0 [some (.ref (b)), some (.int (p1)), none] [] (mb h0 b S) Q := by
  unfold sX10_inPress at hs
  refine AW.iconst (am_r 0 rfl) rfl ci_0 ?_
  refine AW.istore_n (L' := [some (.ref (b)), some (.int (p1)), some (.int ((0 : Int32)))]) (z := 2) (am_r 1 rfl) rfl (Nat.le_of_ble_eq_true rfl) rfl ?_
  exact dX10_inPress_l2 hA   hs hQ
noncomputable def sX10_bestPress_j48 (S : Mem) (p1 : Int32) (p2 : Int32) (y0 : Int32) (y1 : Int32) : Option ((Int32 × Int32) ⊕ Int32) :=
  if y0 = (-1 : Int32) then
    some (.inl (y1, y1 + (1 : Int32)))
  else
    obind (sX10_pressSize S y1) fun r13 =>
    obind (sX10_pressSize S y0) fun r16 =>
    if r16 ≤ r13 then
      some (.inl (y0, y1 + (1 : Int32)))
    else
      some (.inl (y1, y1 + (1 : Int32)))
set_option maxRecDepth 100000 in
theorem dX10_bestPress_j48 {g : AG} {h0 : AH} {b : Nat} {S : Mem} {Q : AO → AH → Prop} {p1 : Int32} {p2 : Int32} {y0 : Int32} {y1 : Int32} (hA : gB g ≤ b)   {r : ((Int32 × Int32) ⊕ Int32)} (hs : sX10_bestPress_j48 S p1 p2 y0 y1 = some r) (hc : ∀ a : (Int32 × Int32), r = .inl a → AW g MX10_bestPress 5 [some (.ref (b)), some (.int (p1)), some (.int (p2)), some (.int (a.1)), some (.int (a.2))] [] (mb h0 b S) Q) (he : ∀ z : Int32, r = .inr z → Q (.ok (some (.int z))) (mb h0 b S)) : AW g MX10_bestPress 48 [some (.ref (b)), some (.int (p1)), some (.int (p2)), some (.int (y0)), some (.int (y1))] [] (mb h0 b S) Q := by
  unfold sX10_bestPress_j48 at hs
  refine AW.iload_n (z := 3) (am_r 26 rfl) rfl rfl ?_
  refine AW.iconst (am_r 27 rfl) rfl ci_m1 ?_
  refine AW.icmp_eq (tg := 67) (am_r 28 rfl) rfl rfl (fun hc12 => ?_) (fun hc12 => ?_)
  · replace hs := (if_pos hc12).symm.trans hs
    refine AW.iload (am_r 36 rfl) rfl rfl ?_
    refine AW.goto (tg := 73) (am_r 37 rfl) rfl ?_
    refine AW.istore_n (L' := [some (.ref (b)), some (.int (p1)), some (.int (p2)), some (.int (y1)), some (.int (y1))]) (z := 3) (am_r 39 rfl) rfl (Nat.le_of_ble_eq_true rfl) rfl ?_
    refine AW.iinc (v := y1 + (1 : Int32)) (L' := [some (.ref (b)), some (.int (p1)), some (.int (p2)), some (.int (y1)), some (.int (y1 + (1 : Int32)))]) (am_r 40 rfl) rfl (Nat.le_of_ble_eq_true rfl) rfl (congrArg (fun z => y1 + z) ci_1) rfl ?_
    refine AW.goto (tg := 5) (am_r 41 rfl) rfl ?_
    have hr := (Option.some.inj hs).symm
    exact hc (y1, y1 + (1 : Int32)) hr 
  · replace hs := (if_neg hc12).symm.trans hs
    refine AW.aload_n (z := 0) (am_r 29 rfl) rfl rfl ?_
    refine AW.iload (am_r 30 rfl) rfl rfl ?_
    refine obind_e hs (fun r13 hg15 hs => ?_)
    refine AW.callV (N := MX10_pressSize) (As := [.int (y1)]) (S := []) (L0 := [some (.ref (b)), some (.int (y1))]) (b := b) (am_r 31 rfl) rfl ovX10_pressSize q1756 rfl rfl mb_ob rfl rfl rfl rfl (dX10_pressSize hA  hg15 (cQ_r ?_))
    refine AW.aload_n (z := 0) (am_r 32 rfl) rfl rfl ?_
    refine AW.iload_n (z := 3) (am_r 33 rfl) rfl rfl ?_
    refine obind_e hs (fun r16 hg18 hs => ?_)
    refine AW.callV (N := MX10_pressSize) (As := [.int (y0)]) (S := [(.int (r13))]) (L0 := [some (.ref (b)), some (.int (y0))]) (b := b) (am_r 34 rfl) rfl ovX10_pressSize q1756 rfl rfl mb_ob rfl rfl rfl rfl (dX10_pressSize hA  hg18 (cQ_r ?_))
    refine AW.icmp_ge (tg := 72) (am_r 35 rfl) rfl rfl (fun hc19 => ?_) (fun hc19 => ?_)
    · replace hs := (if_pos hc19).symm.trans hs
      refine AW.iload_n (z := 3) (am_r 38 rfl) rfl rfl ?_
      refine AW.istore_n (L' := [some (.ref (b)), some (.int (p1)), some (.int (p2)), some (.int (y0)), some (.int (y1))]) (z := 3) (am_r 39 rfl) rfl (Nat.le_of_ble_eq_true rfl) rfl ?_
      refine AW.iinc (v := y1 + (1 : Int32)) (L' := [some (.ref (b)), some (.int (p1)), some (.int (p2)), some (.int (y0)), some (.int (y1 + (1 : Int32)))]) (am_r 40 rfl) rfl (Nat.le_of_ble_eq_true rfl) rfl (congrArg (fun z => y1 + z) ci_1) rfl ?_
      refine AW.goto (tg := 5) (am_r 41 rfl) rfl ?_
      have hr := (Option.some.inj hs).symm
      exact hc (y0, y1 + (1 : Int32)) hr 
    · replace hs := (if_neg hc19).symm.trans hs
      refine AW.iload (am_r 36 rfl) rfl rfl ?_
      refine AW.goto (tg := 73) (am_r 37 rfl) rfl ?_
      refine AW.istore_n (L' := [some (.ref (b)), some (.int (p1)), some (.int (p2)), some (.int (y1)), some (.int (y1))]) (z := 3) (am_r 39 rfl) rfl (Nat.le_of_ble_eq_true rfl) rfl ?_
      refine AW.iinc (v := y1 + (1 : Int32)) (L' := [some (.ref (b)), some (.int (p1)), some (.int (p2)), some (.int (y1)), some (.int (y1 + (1 : Int32)))]) (am_r 40 rfl) rfl (Nat.le_of_ble_eq_true rfl) rfl (congrArg (fun z => y1 + z) ci_1) rfl ?_
      refine AW.goto (tg := 5) (am_r 41 rfl) rfl ?_
      have hr := (Option.some.inj hs).symm
      exact hc (y1, y1 + (1 : Int32)) hr 
noncomputable def sX10_bestPress_l5_step (S : Mem) (p1 : Int32) (p2 : Int32) (a : (Int32 × Int32)) : Option ((Int32 × Int32) ⊕ Int32) :=
  if (gi S 5 (2 : Int32).toNatClampNeg 0) ≤ a.2 then
    oinr (
    some (a.1))
  else
    obind (sX10_pressSize S a.2) fun r4 =>
    obind (sX10_ofThing S p1 (0 : Int32)) fun r7 =>
    if r4 < r7 then
      some (.inl (a.1, a.2 + (1 : Int32)))
    else
      if p2 = 0 then
        sX10_bestPress_j48 S p1 p2 a.1 a.2
      else
        obind (sX10_inPress S a.2) fun r20 =>
        if r20 = (-1 : Int32) then
          sX10_bestPress_j48 S p1 p2 a.1 a.2
        else
          some (.inl (a.1, a.2 + (1 : Int32)))
noncomputable def sX10_bestPress_l5 (S : Mem) (p1 : Int32) (p2 : Int32) (a : (Int32 × Int32)) : Option Int32 := itw (sX10_bestPress_l5_step S p1 p2) a
set_option maxRecDepth 100000 in
theorem dX10_bestPress_l5 {g : AG} {h0 : AH} {b : Nat} {S : Mem} {Q : AO → AH → Prop} {p1 : Int32} {p2 : Int32} (hA : gB g ≤ b)  {a : (Int32 × Int32)}  {r : Int32} (hs : sX10_bestPress_l5 S p1 p2 a = some r) (hQ : Q (.ok (some (.int r))) (mb h0 b S)) : AW g MX10_bestPress 5 [some (.ref (b)), some (.int (p1)), some (.int (p2)), some (.int (a.1)), some (.int (a.2))] [] (mb h0 b S) Q := by
  refine itw_e (P := fun a => AW g MX10_bestPress 5 [some (.ref (b)), some (.int (p1)), some (.int (p2)), some (.int (a.1)), some (.int (a.2))] [] (mb h0 b S) Q) (Post := fun r => Q (.ok (some (.int r))) (mb h0 b S)) (fun a r hs hc he  => ?_) hs hQ 
  unfold sX10_bestPress_l5_step at hs
  refine AW.iload (am_r 4 rfl) rfl rfl ?_
  refine AW.aload_n (z := 0) (am_r 5 rfl) rfl rfl ?_
  refine AW.getO (am_r 6 rfl) rfl klX10 (k := 5) (by omega) q1508 mb_ob rfl ?_
  refine AW.iconst (am_r 7 rfl) rfl ci_2 ?_
  refine AW.iald (am_r 8 rfl) rfl mb_a4 (vp_of_inb rfl) rfl ?_
  refine AW.icmp_ge (tg := 80) (am_r 9 rfl) rfl rfl (fun hc1 => ?_) (fun hc1 => ?_)
  · replace hs := (if_pos hc1).symm.trans hs
    refine oinr_e hs (fun z2 hz3 hs => ?_)
    have hQ := he _ hz3
    refine AW.iload_n (z := 3) (am_r 42 rfl) rfl rfl ?_
    have hr := (Option.some.inj hs).symm
    subst hr
    exact AW.iret (am_r 43 rfl) rfl hQ
  · replace hs := (if_neg hc1).symm.trans hs
    refine AW.aload_n (z := 0) (am_r 10 rfl) rfl rfl ?_
    refine AW.iload (am_r 11 rfl) rfl rfl ?_
    refine obind_e hs (fun r4 hg6 hs => ?_)
    refine AW.callV (N := MX10_pressSize) (As := [.int (a.2)]) (S := []) (L0 := [some (.ref (b)), some (.int (a.2))]) (b := b) (am_r 12 rfl) rfl ovX10_pressSize q1756 rfl rfl mb_ob rfl rfl rfl rfl (dX10_pressSize hA  hg6 (cQ_r ?_))
    refine AW.aload_n (z := 0) (am_r 13 rfl) rfl rfl ?_
    refine AW.iload_n (z := 1) (am_r 14 rfl) rfl rfl ?_
    refine AW.iconst (am_r 15 rfl) rfl ci_0 ?_
    refine obind_e hs (fun r7 hg9 hs => ?_)
    refine AW.callV (N := MX10_ofThing) (As := [.int (p1), .int ((0 : Int32))]) (S := [(.int (r4))]) (L0 := [some (.ref (b)), some (.int (p1)), some (.int ((0 : Int32)))]) (b := b) (am_r 16 rfl) rfl ovX10_ofThing q1675 rfl rfl mb_ob rfl rfl rfl rfl (dX10_ofThing hA  hg9 (cQ_r ?_))
    refine AW.icmp_lt (tg := 74) (am_r 17 rfl) rfl rfl (fun hc10 => ?_) (fun hc10 => ?_)
    · replace hs := (if_pos hc10).symm.trans hs
      refine AW.iinc (v := a.2 + (1 : Int32)) (L' := [some (.ref (b)), some (.int (p1)), some (.int (p2)), some (.int (a.1)), some (.int (a.2 + (1 : Int32)))]) (am_r 40 rfl) rfl (Nat.le_of_ble_eq_true rfl) rfl (congrArg (fun z => a.2 + z) ci_1) rfl ?_
      refine AW.goto (tg := 5) (am_r 41 rfl) rfl ?_
      have hr := (Option.some.inj hs).symm
      exact hc (a.1, a.2 + (1 : Int32)) hr 
    · replace hs := (if_neg hc10).symm.trans hs
      refine AW.iload_n (z := 2) (am_r 18 rfl) rfl rfl ?_
      refine AW.if_eq (tg := 48) (am_r 19 rfl) rfl rfl (fun hc11 => ?_) (fun hc11 => ?_)
      · replace hs := (if_pos hc11).symm.trans hs
        exact dX10_bestPress_j48 hA   hs hc he
      · replace hs := (if_neg hc11).symm.trans hs
        refine AW.aload_n (z := 0) (am_r 20 rfl) rfl rfl ?_
        refine AW.iload (am_r 21 rfl) rfl rfl ?_
        refine obind_e hs (fun r20 hg22 hs => ?_)
        refine AW.callV (N := MX10_inPress) (As := [.int (a.2)]) (S := []) (L0 := [some (.ref (b)), some (.int (a.2)), none]) (b := b) (am_r 22 rfl) rfl ovX10_inPress q1760 rfl rfl mb_ob rfl rfl rfl rfl (dX10_inPress hA  hg22 (cQ_r ?_))
        refine AW.iconst (am_r 23 rfl) rfl ci_m1 ?_
        refine AW.icmp_eq (tg := 48) (am_r 24 rfl) rfl rfl (fun hc23 => ?_) (fun hc23 => ?_)
        · replace hs := (if_pos hc23).symm.trans hs
          exact dX10_bestPress_j48 hA   hs hc he
        · replace hs := (if_neg hc23).symm.trans hs
          refine AW.goto (tg := 74) (am_r 25 rfl) rfl ?_
          refine AW.iinc (v := a.2 + (1 : Int32)) (L' := [some (.ref (b)), some (.int (p1)), some (.int (p2)), some (.int (a.1)), some (.int (a.2 + (1 : Int32)))]) (am_r 40 rfl) rfl (Nat.le_of_ble_eq_true rfl) rfl (congrArg (fun z => a.2 + z) ci_1) rfl ?_
          refine AW.goto (tg := 5) (am_r 41 rfl) rfl ?_
          have hr := (Option.some.inj hs).symm
          exact hc (a.1, a.2 + (1 : Int32)) hr 
noncomputable def sX10_bestPress (S : Mem) (p1 : Int32) (p2 : Int32) : Option Int32 :=
  sX10_bestPress_l5 S p1 p2 ((-1 : Int32), (0 : Int32))
set_option maxRecDepth 100000 in
theorem dX10_bestPress {g : AG} {h0 : AH} {b : Nat} {S : Mem} {Q : AO → AH → Prop} {p1 : Int32} {p2 : Int32} (hA : gB g ≤ b)  {r : Int32} (hs : sX10_bestPress S p1 p2 = some r) (hQ : Q (.ok (some (.int r))) (mb h0 b S)) : AW g MX10_bestPress 0 [some (.ref (b)), some (.int (p1)), some (.int (p2)), none, none] [] (mb h0 b S) Q := by
  unfold sX10_bestPress at hs
  refine AW.iconst (am_r 0 rfl) rfl ci_m1 ?_
  refine AW.istore_n (L' := [some (.ref (b)), some (.int (p1)), some (.int (p2)), some (.int ((-1 : Int32))), none]) (z := 3) (am_r 1 rfl) rfl (Nat.le_of_ble_eq_true rfl) rfl ?_
  refine AW.iconst (am_r 2 rfl) rfl ci_0 ?_
  refine AW.istore (L' := [some (.ref (b)), some (.int (p1)), some (.int (p2)), some (.int ((-1 : Int32))), some (.int ((0 : Int32)))]) (am_r 3 rfl) rfl (Nat.le_of_ble_eq_true rfl) rfl ?_
  exact dX10_bestPress_l5 hA   hs hQ
noncomputable def sX10_isApprovable (S : Mem) (p1 : Int32) (p2 : Int32) : Option Int32 :=
  obind (sX10_ofRecipe S p2 (3 : Int32)) fun r1 =>
  obind (sX10_ofThing S p1 (1 : Int32)) fun r4 =>
  if (r1 + r4) < (4 : Int32) then
    some ((0 : Int32))
  else
    some ((1 : Int32))
set_option maxRecDepth 100000 in
theorem dX10_isApprovable {g : AG} {h0 : AH} {b : Nat} {S : Mem} {Q : AO → AH → Prop} {p1 : Int32} {p2 : Int32} (hA : gB g ≤ b)  {r : Int32} (hs : sX10_isApprovable S p1 p2 = some r) (hQ : (r = 0 ∨ r = 1) → Q (.ok (some (.int r))) (mb h0 b S)) : AW g MX10_isApprovable 0 [some (.ref (b)), some (.int (p1)), some (.int (p2))] [] (mb h0 b S) Q := by
  unfold sX10_isApprovable at hs
  refine AW.aload_n (z := 0) (am_r 0 rfl) rfl rfl ?_
  refine AW.iload_n (z := 2) (am_r 1 rfl) rfl rfl ?_
  refine AW.iconst (am_r 2 rfl) rfl ci_3 ?_
  refine obind_e hs (fun r1 hg3 hs => ?_)
  refine AW.callV (N := MX10_ofRecipe) (As := [.int (p2), .int ((3 : Int32))]) (S := []) (L0 := [some (.ref (b)), some (.int (p2)), some (.int ((3 : Int32)))]) (b := b) (am_r 3 rfl) rfl ovX10_ofRecipe q1671 rfl rfl mb_ob rfl rfl rfl rfl (dX10_ofRecipe hA  hg3 (cQ_r ?_))
  refine AW.aload_n (z := 0) (am_r 4 rfl) rfl rfl ?_
  refine AW.iload_n (z := 1) (am_r 5 rfl) rfl rfl ?_
  refine AW.iconst (am_r 6 rfl) rfl ci_1 ?_
  refine obind_e hs (fun r4 hg6 hs => ?_)
  refine AW.callV (N := MX10_ofThing) (As := [.int (p1), .int ((1 : Int32))]) (S := [(.int (r1))]) (L0 := [some (.ref (b)), some (.int (p1)), some (.int ((1 : Int32)))]) (b := b) (am_r 7 rfl) rfl ovX10_ofThing q1675 rfl rfl mb_ob rfl rfl rfl rfl (dX10_ofThing hA  hg6 (cQ_r ?_))
  refine AW.iadd (am_r 8 rfl) rfl ?_
  refine AW.iconst (am_r 9 rfl) rfl ci_4 ?_
  refine AW.icmp_lt (tg := 21) (am_r 10 rfl) rfl rfl (fun hc7 => ?_) (fun hc7 => ?_)
  · replace hs := (if_pos hc7).symm.trans hs
    refine AW.iconst (am_r 13 rfl) rfl ci_0 ?_
    have hr := (Option.some.inj hs).symm
    subst hr
    exact AW.zret (am_r 14 rfl) rfl (Or.inl rfl) (hQ (Or.inl rfl))
  · replace hs := (if_neg hc7).symm.trans hs
    refine AW.iconst (am_r 11 rfl) rfl ci_1 ?_
    refine AW.goto (tg := 22) (am_r 12 rfl) rfl ?_
    have hr := (Option.some.inj hs).symm
    subst hr
    exact AW.zret (am_r 14 rfl) rfl (Or.inr rfl) (hQ (Or.inr rfl))
noncomputable def sX10_urgency (S : Mem) (p1 : Int32) : Option Int32 :=
  obind (sX10_of S p1 (8 : Int32)) fun r1 =>
  if r1 = (-1 : Int32) then
    some ((30000 : Int32))
  else
    obind (sX10_of S p1 (8 : Int32)) fun r5 =>
    some (r5)
set_option maxRecDepth 100000 in
theorem dX10_urgency {g : AG} {h0 : AH} {b : Nat} {S : Mem} {Q : AO → AH → Prop} {p1 : Int32} (hA : gB g ≤ b)  {r : Int32} (hs : sX10_urgency S p1 = some r) (hQ : Q (.ok (some (.int r))) (mb h0 b S)) : AW g MX10_urgency 0 [some (.ref (b)), some (.int (p1))] [] (mb h0 b S) Q := by
  unfold sX10_urgency at hs
  refine AW.aload_n (z := 0) (am_r 0 rfl) rfl rfl ?_
  refine AW.iload_n (z := 1) (am_r 1 rfl) rfl rfl ?_
  refine AW.bipush (am_r 2 rfl) rfl cb_8 ?_
  refine obind_e hs (fun r1 hg3 hs => ?_)
  refine AW.callV (N := MX10_of) (As := [.int (p1), .int ((8 : Int32))]) (S := []) (L0 := [some (.ref (b)), some (.int (p1)), some (.int ((8 : Int32)))]) (b := b) (am_r 3 rfl) rfl ovX10_of q1615 rfl rfl mb_ob rfl rfl rfl rfl (dX10_of hA  hg3 (cQ_r ?_))
  refine AW.iconst (am_r 4 rfl) rfl ci_m1 ?_
  refine AW.icmp_ne (tg := 17) (am_r 5 rfl) rfl rfl (fun hc4 => ?_) (fun hc4 => ?_)
  · replace hs := (if_neg hc4).symm.trans hs
    refine AW.aload_n (z := 0) (am_r 8 rfl) rfl rfl ?_
    refine AW.iload_n (z := 1) (am_r 9 rfl) rfl rfl ?_
    refine AW.bipush (am_r 10 rfl) rfl cb_8 ?_
    refine obind_e hs (fun r5 hg7 hs => ?_)
    refine AW.callV (N := MX10_of) (As := [.int (p1), .int ((8 : Int32))]) (S := []) (L0 := [some (.ref (b)), some (.int (p1)), some (.int ((8 : Int32)))]) (b := b) (am_r 11 rfl) rfl ovX10_of q1615 rfl rfl mb_ob rfl rfl rfl rfl (dX10_of hA  hg7 (cQ_r ?_))
    have hr := (Option.some.inj hs).symm
    subst hr
    exact AW.iret (am_r 12 rfl) rfl hQ
  · replace hs := (if_pos hc4).symm.trans hs
    refine AW.sipush (am_r 6 rfl) rfl cs_30000 ?_
    refine AW.goto (tg := 24) (am_r 7 rfl) rfl ?_
    have hr := (Option.some.inj hs).symm
    subst hr
    exact AW.iret (am_r 12 rfl) rfl hQ
noncomputable def sX10_objectsAt_l4_step (S : Mem) (p1 : Int32) (a : (Int32 × Int32)) : Option ((Int32 × Int32) ⊕ Int32) :=
  if (gi S 5 (4 : Int32).toNatClampNeg 0) ≤ a.2 then
    oinr (
    some (a.1))
  else
    obind (sX10_of S a.2 (1 : Int32)) fun r4 =>
    if r4 = p1 then
      olet (a.1 ||| ((1 : Int32) <<< (a.2 &&& 31))) fun v9 =>
      some (.inl (v9, a.2 + (1 : Int32)))
    else
      olet (a.1 ||| (0 : Int32)) fun v8 =>
      some (.inl (v8, a.2 + (1 : Int32)))
noncomputable def sX10_objectsAt_l4 (S : Mem) (p1 : Int32) (a : (Int32 × Int32)) : Option Int32 := itw (sX10_objectsAt_l4_step S p1) a
set_option maxRecDepth 100000 in
theorem dX10_objectsAt_l4 {g : AG} {h0 : AH} {b : Nat} {S : Mem} {Q : AO → AH → Prop} {p1 : Int32} (hA : gB g ≤ b)  {a : (Int32 × Int32)}  {r : Int32} (hs : sX10_objectsAt_l4 S p1 a = some r) (hQ : Q (.ok (some (.int r))) (mb h0 b S)) : AW g MX10_objectsAt 4 [some (.ref (b)), some (.int (p1)), some (.int (a.1)), some (.int (a.2))] [] (mb h0 b S) Q := by
  refine itw_e (P := fun a => AW g MX10_objectsAt 4 [some (.ref (b)), some (.int (p1)), some (.int (a.1)), some (.int (a.2))] [] (mb h0 b S) Q) (Post := fun r => Q (.ok (some (.int r))) (mb h0 b S)) (fun a r hs hc he  => ?_) hs hQ 
  unfold sX10_objectsAt_l4_step at hs
  refine AW.iload_n (z := 3) (am_r 4 rfl) rfl rfl ?_
  refine AW.aload_n (z := 0) (am_r 5 rfl) rfl rfl ?_
  refine AW.getO (am_r 6 rfl) rfl klX10 (k := 5) (by omega) q1508 mb_ob rfl ?_
  refine AW.iconst (am_r 7 rfl) rfl ci_4 ?_
  refine AW.iald (am_r 8 rfl) rfl mb_a4 (vp_of_inb rfl) rfl ?_
  refine AW.icmp_ge (tg := 40) (am_r 9 rfl) rfl rfl (fun hc1 => ?_) (fun hc1 => ?_)
  · replace hs := (if_pos hc1).symm.trans hs
    refine oinr_e hs (fun z2 hz3 hs => ?_)
    have hQ := he _ hz3
    refine AW.iload_n (z := 2) (am_r 26 rfl) rfl rfl ?_
    have hr := (Option.some.inj hs).symm
    subst hr
    exact AW.iret (am_r 27 rfl) rfl hQ
  · replace hs := (if_neg hc1).symm.trans hs
    refine AW.iload_n (z := 2) (am_r 10 rfl) rfl rfl ?_
    refine AW.aload_n (z := 0) (am_r 11 rfl) rfl rfl ?_
    refine AW.iload_n (z := 3) (am_r 12 rfl) rfl rfl ?_
    refine AW.iconst (am_r 13 rfl) rfl ci_1 ?_
    refine obind_e hs (fun r4 hg6 hs => ?_)
    refine AW.callV (N := MX10_of) (As := [.int (a.2), .int ((1 : Int32))]) (S := [(.int (a.1))]) (L0 := [some (.ref (b)), some (.int (a.2)), some (.int ((1 : Int32)))]) (b := b) (am_r 14 rfl) rfl ovX10_of q1615 rfl rfl mb_ob rfl rfl rfl rfl (dX10_of hA  hg6 (cQ_r ?_))
    refine AW.iload_n (z := 1) (am_r 15 rfl) rfl rfl ?_
    refine AW.icmp_ne (tg := 31) (am_r 16 rfl) rfl rfl (fun hc7 => ?_) (fun hc7 => ?_)
    · replace hs := (if_neg hc7).symm.trans hs
      refine AW.iconst (am_r 21 rfl) rfl ci_0 ?_
      refine AW.ior (am_r 22 rfl) rfl ?_
      refine olet_e (P := fun y => AW g MX10_objectsAt 33 [some (.ref (b)), some (.int (p1)), some (.int (a.1)), some (.int (a.2))] [(.int (y))] (mb h0 b S) Q) hs (fun v8 hs => ?_)
      refine AW.istore_n (L' := [some (.ref (b)), some (.int (p1)), some (.int (v8)), some (.int (a.2))]) (z := 2) (am_r 23 rfl) rfl (Nat.le_of_ble_eq_true rfl) rfl ?_
      refine AW.iinc (v := a.2 + (1 : Int32)) (L' := [some (.ref (b)), some (.int (p1)), some (.int (v8)), some (.int (a.2 + (1 : Int32)))]) (am_r 24 rfl) rfl (Nat.le_of_ble_eq_true rfl) rfl (congrArg (fun z => a.2 + z) ci_1) rfl ?_
      refine AW.goto (tg := 4) (am_r 25 rfl) rfl ?_
      have hr := (Option.some.inj hs).symm
      exact hc (v8, a.2 + (1 : Int32)) hr 
    · replace hs := (if_pos hc7).symm.trans hs
      refine AW.iconst (am_r 17 rfl) rfl ci_1 ?_
      refine AW.iload_n (z := 3) (am_r 18 rfl) rfl rfl ?_
      refine AW.ishl (am_r 19 rfl) rfl ?_
      refine AW.goto (tg := 32) (am_r 20 rfl) rfl ?_
      refine AW.ior (am_r 22 rfl) rfl ?_
      refine olet_e (P := fun y => AW g MX10_objectsAt 33 [some (.ref (b)), some (.int (p1)), some (.int (a.1)), some (.int (a.2))] [(.int (y))] (mb h0 b S) Q) hs (fun v9 hs => ?_)
      refine AW.istore_n (L' := [some (.ref (b)), some (.int (p1)), some (.int (v9)), some (.int (a.2))]) (z := 2) (am_r 23 rfl) rfl (Nat.le_of_ble_eq_true rfl) rfl ?_
      refine AW.iinc (v := a.2 + (1 : Int32)) (L' := [some (.ref (b)), some (.int (p1)), some (.int (v9)), some (.int (a.2 + (1 : Int32)))]) (am_r 24 rfl) rfl (Nat.le_of_ble_eq_true rfl) rfl (congrArg (fun z => a.2 + z) ci_1) rfl ?_
      refine AW.goto (tg := 4) (am_r 25 rfl) rfl ?_
      have hr := (Option.some.inj hs).symm
      exact hc (v9, a.2 + (1 : Int32)) hr 
noncomputable def sX10_objectsAt (S : Mem) (p1 : Int32) : Option Int32 :=
  sX10_objectsAt_l4 S p1 ((0 : Int32), (0 : Int32))
set_option maxRecDepth 100000 in
theorem dX10_objectsAt {g : AG} {h0 : AH} {b : Nat} {S : Mem} {Q : AO → AH → Prop} {p1 : Int32} (hA : gB g ≤ b)  {r : Int32} (hs : sX10_objectsAt S p1 = some r) (hQ : Q (.ok (some (.int r))) (mb h0 b S)) : AW g MX10_objectsAt 0 [some (.ref (b)), some (.int (p1)), none, none] [] (mb h0 b S) Q := by
  unfold sX10_objectsAt at hs
  refine AW.iconst (am_r 0 rfl) rfl ci_0 ?_
  refine AW.istore_n (L' := [some (.ref (b)), some (.int (p1)), some (.int ((0 : Int32))), none]) (z := 2) (am_r 1 rfl) rfl (Nat.le_of_ble_eq_true rfl) rfl ?_
  refine AW.iconst (am_r 2 rfl) rfl ci_0 ?_
  refine AW.istore_n (L' := [some (.ref (b)), some (.int (p1)), some (.int ((0 : Int32))), some (.int ((0 : Int32)))]) (z := 3) (am_r 3 rfl) rfl (Nat.le_of_ble_eq_true rfl) rfl ?_
  exact dX10_objectsAt_l4 hA   hs hQ
noncomputable def sX10_bits_l4_step (S : Mem) (p1 : Int32) (a : (Int32 × Int32)) : Option ((Int32 × Int32) ⊕ Int32) :=
  if a.2 = 0 then
    oinr (
    some (a.1))
  else
    olet (a.2 &&& (a.2 - (1 : Int32))) fun v4 =>
    some (.inl (a.1 + (1 : Int32), v4))
noncomputable def sX10_bits_l4 (S : Mem) (p1 : Int32) (a : (Int32 × Int32)) : Option Int32 := itw (sX10_bits_l4_step S p1) a
set_option maxRecDepth 100000 in
theorem dX10_bits_l4 {g : AG} {h0 : AH} {b : Nat} {S : Mem} {Q : AO → AH → Prop} {p1 : Int32} (hA : gB g ≤ b)  {a : (Int32 × Int32)}  {r : Int32} (hs : sX10_bits_l4 S p1 a = some r) (hQ : Q (.ok (some (.int r))) (mb h0 b S)) : AW g MX10_bits 4 [none, some (.int (a.1)), some (.int (a.2))] [] (mb h0 b S) Q := by
  refine itw_e (P := fun a => AW g MX10_bits 4 [none, some (.int (a.1)), some (.int (a.2))] [] (mb h0 b S) Q) (Post := fun r => Q (.ok (some (.int r))) (mb h0 b S)) (fun a r hs hc he  => ?_) hs hQ 
  unfold sX10_bits_l4_step at hs
  refine AW.iload_n (z := 2) (am_r 4 rfl) rfl rfl ?_
  refine AW.if_eq (tg := 20) (am_r 5 rfl) rfl rfl (fun hc1 => ?_) (fun hc1 => ?_)
  · replace hs := (if_pos hc1).symm.trans hs
    refine oinr_e hs (fun z2 hz3 hs => ?_)
    have hQ := he _ hz3
    refine AW.iload_n (z := 1) (am_r 14 rfl) rfl rfl ?_
    have hr := (Option.some.inj hs).symm
    subst hr
    exact AW.iret (am_r 15 rfl) rfl hQ
  · replace hs := (if_neg hc1).symm.trans hs
    refine AW.iinc (v := a.1 + (1 : Int32)) (L' := [none, some (.int (a.1 + (1 : Int32))), some (.int (a.2))]) (am_r 6 rfl) rfl (Nat.le_of_ble_eq_true rfl) rfl (congrArg (fun z => a.1 + z) ci_1) rfl ?_
    refine AW.iload_n (z := 2) (am_r 7 rfl) rfl rfl ?_
    refine AW.iload_n (z := 2) (am_r 8 rfl) rfl rfl ?_
    refine AW.iconst (am_r 9 rfl) rfl ci_1 ?_
    refine AW.isub (am_r 10 rfl) rfl ?_
    refine AW.iand (am_r 11 rfl) rfl ?_
    refine olet_e (P := fun y => AW g MX10_bits 16 [none, some (.int (a.1 + (1 : Int32))), some (.int (a.2))] [(.int (y))] (mb h0 b S) Q) hs (fun v4 hs => ?_)
    refine AW.istore_n (L' := [none, some (.int (a.1 + (1 : Int32))), some (.int (v4))]) (z := 2) (am_r 12 rfl) rfl (Nat.le_of_ble_eq_true rfl) rfl ?_
    refine AW.goto (tg := 4) (am_r 13 rfl) rfl ?_
    have hr := (Option.some.inj hs).symm
    exact hc (a.1 + (1 : Int32), v4) hr 
noncomputable def sX10_bits (S : Mem) (p1 : Int32) : Option Int32 :=
  sX10_bits_l4 S p1 ((0 : Int32), p1)
set_option maxRecDepth 100000 in
theorem dX10_bits {g : AG} {h0 : AH} {b : Nat} {S : Mem} {Q : AO → AH → Prop} {p1 : Int32} (hA : gB g ≤ b)  {r : Int32} (hs : sX10_bits S p1 = some r) (hQ : Q (.ok (some (.int r))) (mb h0 b S)) : AW g MX10_bits 0 [some (.int (p1)), none, none] [] (mb h0 b S) Q := by
  unfold sX10_bits at hs
  refine AW.iconst (am_r 0 rfl) rfl ci_0 ?_
  refine AW.istore_n (L' := [some (.int (p1)), some (.int ((0 : Int32))), none]) (z := 1) (am_r 1 rfl) rfl (Nat.le_of_ble_eq_true rfl) rfl ?_
  refine AW.iload_n (z := 0) (am_r 2 rfl) rfl rfl ?_
  refine AW.istore_n (L' := [some (.int (p1)), some (.int ((0 : Int32))), some (.int (p1))]) (z := 2) (am_r 3 rfl) rfl (Nat.le_of_ble_eq_true rfl) rfl ?_
  refine AW.lessL (L' := [none, some (.int ((0 : Int32))), some (.int (p1))]) ⟨rfl, rfl, trivial⟩ ?_
  exact dX10_bits_l4 hA   hs hQ
noncomputable def sX10_freeBenches (S : Mem)  : Option Int32 :=
  obind (sX10_objectsAt S (1 : Int32)) fun r1 =>
  obind (sX10_bits S r1) fun r4 =>
  some ((gi S 5 (0 : Int32).toNatClampNeg 0) - r4)
set_option maxRecDepth 100000 in
theorem dX10_freeBenches {g : AG} {h0 : AH} {b : Nat} {S : Mem} {Q : AO → AH → Prop}  (hA : gB g ≤ b)  {r : Int32} (hs : sX10_freeBenches S  = some r) (hQ : Q (.ok (some (.int r))) (mb h0 b S)) : AW g MX10_freeBenches 0 [some (.ref (b))] [] (mb h0 b S) Q := by
  unfold sX10_freeBenches at hs
  refine AW.aload_n (z := 0) (am_r 0 rfl) rfl rfl ?_
  refine AW.getO (am_r 1 rfl) rfl klX10 (k := 5) (by omega) q1508 mb_ob rfl ?_
  refine AW.iconst (am_r 2 rfl) rfl ci_0 ?_
  refine AW.iald (am_r 3 rfl) rfl mb_a4 (vp_of_inb rfl) rfl ?_
  refine AW.aload_n (z := 0) (am_r 4 rfl) rfl rfl ?_
  refine AW.iconst (am_r 5 rfl) rfl ci_1 ?_
  refine obind_e hs (fun r1 hg3 hs => ?_)
  refine AW.callV (N := MX10_objectsAt) (As := [.int ((1 : Int32))]) (S := [(.int (gi S 5 (0 : Int32).toNatClampNeg 0))]) (L0 := [some (.ref (b)), some (.int ((1 : Int32))), none, none]) (b := b) (am_r 6 rfl) rfl ovX10_objectsAt q1780 rfl rfl mb_ob rfl rfl rfl rfl (dX10_objectsAt hA  hg3 (cQ_r ?_))
  refine obind_e hs (fun r4 hg6 hs => ?_)
  refine AW.callS (N := MX10_bits) (As := [.int (r1)]) (S := [(.int (gi S 5 (0 : Int32).toNatClampNeg 0))]) (L0 := [some (.int (r1)), none, none]) (am_r 7 rfl) rfl osX10_bits q1784 rfl rfl rfl rfl rfl (dX10_bits hA  hg6 (cQ_r ?_))
  refine AW.isub (am_r 8 rfl) rfl ?_
  have hr := (Option.some.inj hs).symm
  subst hr
  exact AW.iret (am_r 9 rfl) rfl hQ
noncomputable def sX10_behind (S : Mem) (p1 : Int32) (p2 : Int32) : Option Int32 :=
  obind (sX10_ofRecipe S p2 (4 : Int32)) fun r1 =>
  obind (sX10_ofRecipe S p2 (5 : Int32)) fun r4 =>
  some (sX10_min S (1000 : Int32) ((p1 + r1) + ((r4 * ((1000 : Int32) - p1)) / (100 : Int32))))
set_option maxRecDepth 100000 in
theorem dX10_behind {g : AG} {h0 : AH} {b : Nat} {S : Mem} {Q : AO → AH → Prop} {p1 : Int32} {p2 : Int32} (hA : gB g ≤ b)  {r : Int32} (hs : sX10_behind S p1 p2 = some r) (hQ : Q (.ok (some (.int r))) (mb h0 b S)) : AW g MX10_behind 0 [some (.ref (b)), some (.int (p1)), some (.int (p2))] [] (mb h0 b S) Q := by
  unfold sX10_behind at hs
  refine AW.sipush (am_r 0 rfl) rfl cs_1000 ?_
  refine AW.iload_n (z := 1) (am_r 1 rfl) rfl rfl ?_
  refine AW.aload_n (z := 0) (am_r 2 rfl) rfl rfl ?_
  refine AW.iload_n (z := 2) (am_r 3 rfl) rfl rfl ?_
  refine AW.iconst (am_r 4 rfl) rfl ci_4 ?_
  refine obind_e hs (fun r1 hg3 hs => ?_)
  refine AW.callV (N := MX10_ofRecipe) (As := [.int (p2), .int ((4 : Int32))]) (S := [(.int (p1)), (.int ((1000 : Int32)))]) (L0 := [some (.ref (b)), some (.int (p2)), some (.int ((4 : Int32)))]) (b := b) (am_r 5 rfl) rfl ovX10_ofRecipe q1671 rfl rfl mb_ob rfl rfl rfl rfl (dX10_ofRecipe hA  hg3 (cQ_r ?_))
  refine AW.iadd (am_r 6 rfl) rfl ?_
  refine AW.aload_n (z := 0) (am_r 7 rfl) rfl rfl ?_
  refine AW.iload_n (z := 2) (am_r 8 rfl) rfl rfl ?_
  refine AW.iconst (am_r 9 rfl) rfl ci_5 ?_
  refine obind_e hs (fun r4 hg6 hs => ?_)
  refine AW.callV (N := MX10_ofRecipe) (As := [.int (p2), .int ((5 : Int32))]) (S := [(.int (p1 + r1)), (.int ((1000 : Int32)))]) (L0 := [some (.ref (b)), some (.int (p2)), some (.int ((5 : Int32)))]) (b := b) (am_r 10 rfl) rfl ovX10_ofRecipe q1671 rfl rfl mb_ob rfl rfl rfl rfl (dX10_ofRecipe hA  hg6 (cQ_r ?_))
  refine AW.sipush (am_r 11 rfl) rfl cs_1000 ?_
  refine AW.iload_n (z := 1) (am_r 12 rfl) rfl rfl ?_
  refine AW.isub (am_r 13 rfl) rfl ?_
  refine AW.imul (am_r 14 rfl) rfl ?_
  refine AW.bipush (am_r 15 rfl) rfl cb_100 ?_
  refine AW.idiv (am_r 16 rfl) rfl (by decide) ?_
  refine AW.iadd (am_r 17 rfl) rfl ?_
  refine AW.callS (N := MX10_min) (As := [.int ((1000 : Int32)), .int ((p1 + r1) + ((r4 * ((1000 : Int32) - p1)) / (100 : Int32)))]) (S := []) (L0 := [some (.int ((1000 : Int32))), some (.int ((p1 + r1) + ((r4 * ((1000 : Int32) - p1)) / (100 : Int32))))]) (am_r 18 rfl) rfl osX10_min q1718 rfl rfl rfl rfl rfl (dX10_min hA  rfl (cQ_r ?_))
  have hr := (Option.some.inj hs).symm
  subst hr
  exact AW.iret (am_r 19 rfl) rfl hQ
noncomputable def sX10_reasonOf_j96 (S : Mem) (p1 : Int32)  : Option Int32 :=
  obind (sX10_freeBenches S ) fun r21 =>
  if r21 ≤ 0 then
    some ((6 : Int32))
  else
    some ((0 : Int32))
set_option maxRecDepth 100000 in
theorem dX10_reasonOf_j96 {g : AG} {h0 : AH} {b : Nat} {S : Mem} {Q : AO → AH → Prop} {p1 : Int32}  (hA : gB g ≤ b)   {r : Int32} (hs : sX10_reasonOf_j96 S p1  = some r) (hQ : Q (.ok (some (.int r))) (mb h0 b S)) : AW g MX10_reasonOf 96 [some (.ref (b)), none, none, none] [] (mb h0 b S) Q := by
  unfold sX10_reasonOf_j96 at hs
  refine AW.aload_n (z := 0) (am_r 61 rfl) rfl rfl ?_
  refine obind_e hs (fun r21 hg23 hs => ?_)
  refine AW.callV (N := MX10_freeBenches) (As := []) (S := []) (L0 := [some (.ref (b))]) (b := b) (am_r 62 rfl) rfl ovX10_freeBenches q1776 rfl rfl mb_ob rfl rfl rfl rfl (dX10_freeBenches hA  hg23 (cQ_r ?_))
  refine AW.if_le (tg := 107) (am_r 63 rfl) rfl rfl (fun hc24 => ?_) (fun hc24 => ?_)
  · replace hs := (if_pos hc24).symm.trans hs
    refine AW.bipush (am_r 66 rfl) rfl cb_6 ?_
    have hr := (Option.some.inj hs).symm
    subst hr
    exact AW.iret (am_r 67 rfl) rfl hQ
  · replace hs := (if_neg hc24).symm.trans hs
    refine AW.iconst (am_r 64 rfl) rfl ci_0 ?_
    refine AW.goto (tg := 109) (am_r 65 rfl) rfl ?_
    have hr := (Option.some.inj hs).symm
    subst hr
    exact AW.iret (am_r 67 rfl) rfl hQ
noncomputable def sX10_reasonOf_j75 (S : Mem) (p1 : Int32) (y0 : Int32) : Option Int32 :=
  if y0 = 0 then
    sX10_reasonOf_j96 S p1 
  else
    obind (sX10_of S p1 (4 : Int32)) fun r25 =>
    if (gi S 0 (0 : Int32).toNatClampNeg 0) < r25 then
      sX10_reasonOf_j96 S p1 
    else
      some ((5 : Int32))
set_option maxRecDepth 100000 in
theorem dX10_reasonOf_j75 {g : AG} {h0 : AH} {b : Nat} {S : Mem} {Q : AO → AH → Prop} {p1 : Int32} {y0 : Int32} (hA : gB g ≤ b)   {r : Int32} (hs : sX10_reasonOf_j75 S p1 y0 = some r) (hQ : Q (.ok (some (.int r))) (mb h0 b S)) : AW g MX10_reasonOf 75 [some (.ref (b)), some (.int (p1)), none, some (.int (y0))] [] (mb h0 b S) Q := by
  unfold sX10_reasonOf_j75 at hs
  refine AW.iload_n (z := 3) (am_r 48 rfl) rfl rfl ?_
  refine AW.if_eq (tg := 96) (am_r 49 rfl) rfl rfl (fun hc20 => ?_) (fun hc20 => ?_)
  · replace hs := (if_pos hc20).symm.trans hs
    refine AW.lessL (L' := [some (.ref (b)), none, none, none]) ⟨rfl, trivial⟩ ?_
    exact dX10_reasonOf_j96 hA   hs hQ
  · replace hs := (if_neg hc20).symm.trans hs
    refine AW.aload_n (z := 0) (am_r 50 rfl) rfl rfl ?_
    refine AW.iload_n (z := 1) (am_r 51 rfl) rfl rfl ?_
    refine AW.iconst (am_r 52 rfl) rfl ci_4 ?_
    refine obind_e hs (fun r25 hg27 hs => ?_)
    refine AW.callV (N := MX10_of) (As := [.int (p1), .int ((4 : Int32))]) (S := []) (L0 := [some (.ref (b)), some (.int (p1)), some (.int ((4 : Int32)))]) (b := b) (am_r 53 rfl) rfl ovX10_of q1615 rfl rfl mb_ob rfl rfl rfl rfl (dX10_of hA  hg27 (cQ_r ?_))
    refine AW.aload_n (z := 0) (am_r 54 rfl) rfl rfl ?_
    refine AW.getO (am_r 55 rfl) rfl klX10 (k := 0) (by omega) q1503 mb_ob rfl ?_
    refine AW.iconst (am_r 56 rfl) rfl ci_0 ?_
    refine AW.iald (am_r 57 rfl) rfl mb_a1 (vp_of_inb rfl) rfl ?_
    refine AW.icmp_gt (tg := 96) (am_r 58 rfl) rfl rfl (fun hc28 => ?_) (fun hc28 => ?_)
    · replace hs := (if_pos hc28).symm.trans hs
      refine AW.lessL (L' := [some (.ref (b)), none, none, none]) ⟨rfl, trivial⟩ ?_
      exact dX10_reasonOf_j96 hA   hs hQ
    · replace hs := (if_neg hc28).symm.trans hs
      refine AW.iconst (am_r 59 rfl) rfl ci_5 ?_
      have hr := (Option.some.inj hs).symm
      subst hr
      exact AW.iret (am_r 60 rfl) rfl hQ
noncomputable def sX10_reasonOf_j52 (S : Mem) (p1 : Int32) (y0 : Int32) : Option Int32 :=
  obind (sX10_isApprovable S p1 y0) fun r16 =>
  if r16 = 0 then
    sX10_reasonOf_j75 S p1 r16
  else
    obind (sX10_of S p1 (4 : Int32)) fun r29 =>
    if r29 = (-1 : Int32) then
      some ((4 : Int32))
    else
      sX10_reasonOf_j75 S p1 r16
set_option maxRecDepth 100000 in
theorem dX10_reasonOf_j52 {g : AG} {h0 : AH} {b : Nat} {S : Mem} {Q : AO → AH → Prop} {p1 : Int32} {y0 : Int32} (hA : gB g ≤ b)   {r : Int32} (hs : sX10_reasonOf_j52 S p1 y0 = some r) (hQ : Q (.ok (some (.int r))) (mb h0 b S)) : AW g MX10_reasonOf 52 [some (.ref (b)), some (.int (p1)), some (.int (y0)), none] [] (mb h0 b S) Q := by
  unfold sX10_reasonOf_j52 at hs
  refine AW.aload_n (z := 0) (am_r 33 rfl) rfl rfl ?_
  refine AW.iload_n (z := 1) (am_r 34 rfl) rfl rfl ?_
  refine AW.iload_n (z := 2) (am_r 35 rfl) rfl rfl ?_
  refine obind_e hs (fun r16 hg18 hs => ?_)
  refine AW.callV (N := MX10_isApprovable) (As := [.int (p1), .int (y0)]) (S := []) (L0 := [some (.ref (b)), some (.int (p1)), some (.int (y0))]) (b := b) (am_r 36 rfl) rfl ovX10_isApprovable q1667 rfl rfl mb_ob rfl rfl rfl rfl (dX10_isApprovable hA  hg18 (fun hok17 => (cQ_r ?_)))
  refine AW.istore_n (L' := [some (.ref (b)), some (.int (p1)), some (.int (y0)), some (.int (r16))]) (z := 3) (am_r 37 rfl) rfl (Nat.le_of_ble_eq_true rfl) rfl ?_
  refine AW.iload_n (z := 3) (am_r 38 rfl) rfl rfl ?_
  refine AW.if_eq (tg := 75) (am_r 39 rfl) rfl rfl (fun hc19 => ?_) (fun hc19 => ?_)
  · replace hs := (if_pos hc19).symm.trans hs
    refine AW.lessL (L' := [some (.ref (b)), some (.int (p1)), none, some (.int (r16))]) ⟨rfl, rfl, rfl, trivial⟩ ?_
    exact dX10_reasonOf_j75 hA   hs hQ
  · replace hs := (if_neg hc19).symm.trans hs
    refine AW.aload_n (z := 0) (am_r 40 rfl) rfl rfl ?_
    refine AW.iload_n (z := 1) (am_r 41 rfl) rfl rfl ?_
    refine AW.iconst (am_r 42 rfl) rfl ci_4 ?_
    refine obind_e hs (fun r29 hg31 hs => ?_)
    refine AW.callV (N := MX10_of) (As := [.int (p1), .int ((4 : Int32))]) (S := []) (L0 := [some (.ref (b)), some (.int (p1)), some (.int ((4 : Int32)))]) (b := b) (am_r 43 rfl) rfl ovX10_of q1615 rfl rfl mb_ob rfl rfl rfl rfl (dX10_of hA  hg31 (cQ_r ?_))
    refine AW.iconst (am_r 44 rfl) rfl ci_m1 ?_
    refine AW.icmp_ne (tg := 75) (am_r 45 rfl) rfl rfl (fun hc32 => ?_) (fun hc32 => ?_)
    · replace hs := (if_neg hc32).symm.trans hs
      refine AW.lessL (L' := [some (.ref (b)), some (.int (p1)), none, some (.int (r16))]) ⟨rfl, rfl, rfl, trivial⟩ ?_
      exact dX10_reasonOf_j75 hA   hs hQ
    · replace hs := (if_pos hc32).symm.trans hs
      refine AW.iconst (am_r 46 rfl) rfl ci_4 ?_
      have hr := (Option.some.inj hs).symm
      subst hr
      exact AW.iret (am_r 47 rfl) rfl hQ
noncomputable def sX10_reasonOf (S : Mem) (p1 : Int32) : Option Int32 :=
  obind (sX10_of S p1 (1 : Int32)) fun r1 =>
  if r1 = 0 then
    obind (sX10_of S p1 (3 : Int32)) fun r5 =>
    if r5 = 0 then
      some ((2 : Int32))
    else
      obind (sX10_of S p1 (13 : Int32)) fun r9 =>
      obind (sX10_ofRecipe S r9 (2 : Int32)) fun r12 =>
      if r12 = (1 : Int32) then
        obind (sX10_bestPress S p1 (0 : Int32)) fun r33 =>
        if r33 = (-1 : Int32) then
          some ((3 : Int32))
        else
          sX10_reasonOf_j52 S p1 r9
      else
        sX10_reasonOf_j52 S p1 r9
  else
    some ((1 : Int32))
set_option maxRecDepth 100000 in
theorem dX10_reasonOf {g : AG} {h0 : AH} {b : Nat} {S : Mem} {Q : AO → AH → Prop} {p1 : Int32} (hA : gB g ≤ b)  {r : Int32} (hs : sX10_reasonOf S p1 = some r) (hQ : Q (.ok (some (.int r))) (mb h0 b S)) : AW g MX10_reasonOf 0 [some (.ref (b)), some (.int (p1)), none, none] [] (mb h0 b S) Q := by
  unfold sX10_reasonOf at hs
  refine AW.aload_n (z := 0) (am_r 0 rfl) rfl rfl ?_
  refine AW.iload_n (z := 1) (am_r 1 rfl) rfl rfl ?_
  refine AW.iconst (am_r 2 rfl) rfl ci_1 ?_
  refine obind_e hs (fun r1 hg3 hs => ?_)
  refine AW.callV (N := MX10_of) (As := [.int (p1), .int ((1 : Int32))]) (S := []) (L0 := [some (.ref (b)), some (.int (p1)), some (.int ((1 : Int32)))]) (b := b) (am_r 3 rfl) rfl ovX10_of q1615 rfl rfl mb_ob rfl rfl rfl rfl (dX10_of hA  hg3 (cQ_r ?_))
  refine AW.if_eq (tg := 11) (am_r 4 rfl) rfl rfl (fun hc4 => ?_) (fun hc4 => ?_)
  · replace hs := (if_pos hc4).symm.trans hs
    refine AW.aload_n (z := 0) (am_r 7 rfl) rfl rfl ?_
    refine AW.iload_n (z := 1) (am_r 8 rfl) rfl rfl ?_
    refine AW.iconst (am_r 9 rfl) rfl ci_3 ?_
    refine obind_e hs (fun r5 hg7 hs => ?_)
    refine AW.callV (N := MX10_of) (As := [.int (p1), .int ((3 : Int32))]) (S := []) (L0 := [some (.ref (b)), some (.int (p1)), some (.int ((3 : Int32)))]) (b := b) (am_r 10 rfl) rfl ovX10_of q1615 rfl rfl mb_ob rfl rfl rfl rfl (dX10_of hA  hg7 (cQ_r ?_))
    refine AW.if_ne (tg := 22) (am_r 11 rfl) rfl rfl (fun hc8 => ?_) (fun hc8 => ?_)
    · replace hs := (if_neg hc8).symm.trans hs
      refine AW.aload_n (z := 0) (am_r 14 rfl) rfl rfl ?_
      refine AW.iload_n (z := 1) (am_r 15 rfl) rfl rfl ?_
      refine AW.bipush (am_r 16 rfl) rfl cb_13 ?_
      refine obind_e hs (fun r9 hg11 hs => ?_)
      refine AW.callV (N := MX10_of) (As := [.int (p1), .int ((13 : Int32))]) (S := []) (L0 := [some (.ref (b)), some (.int (p1)), some (.int ((13 : Int32)))]) (b := b) (am_r 17 rfl) rfl ovX10_of q1615 rfl rfl mb_ob rfl rfl rfl rfl (dX10_of hA  hg11 (cQ_r ?_))
      refine AW.istore_n (L' := [some (.ref (b)), some (.int (p1)), some (.int (r9)), none]) (z := 2) (am_r 18 rfl) rfl (Nat.le_of_ble_eq_true rfl) rfl ?_
      refine AW.aload_n (z := 0) (am_r 19 rfl) rfl rfl ?_
      refine AW.iload_n (z := 2) (am_r 20 rfl) rfl rfl ?_
      refine AW.iconst (am_r 21 rfl) rfl ci_2 ?_
      refine obind_e hs (fun r12 hg14 hs => ?_)
      refine AW.callV (N := MX10_ofRecipe) (As := [.int (r9), .int ((2 : Int32))]) (S := []) (L0 := [some (.ref (b)), some (.int (r9)), some (.int ((2 : Int32)))]) (b := b) (am_r 22 rfl) rfl ovX10_ofRecipe q1671 rfl rfl mb_ob rfl rfl rfl rfl (dX10_ofRecipe hA  hg14 (cQ_r ?_))
      refine AW.iconst (am_r 23 rfl) rfl ci_1 ?_
      refine AW.icmp_ne (tg := 52) (am_r 24 rfl) rfl rfl (fun hc15 => ?_) (fun hc15 => ?_)
      · replace hs := (if_neg hc15).symm.trans hs
        exact dX10_reasonOf_j52 hA   hs hQ
      · replace hs := (if_pos hc15).symm.trans hs
        refine AW.aload_n (z := 0) (am_r 25 rfl) rfl rfl ?_
        refine AW.iload_n (z := 1) (am_r 26 rfl) rfl rfl ?_
        refine AW.iconst (am_r 27 rfl) rfl ci_0 ?_
        refine obind_e hs (fun r33 hg35 hs => ?_)
        refine AW.callV (N := MX10_bestPress) (As := [.int (p1), .int ((0 : Int32))]) (S := []) (L0 := [some (.ref (b)), some (.int (p1)), some (.int ((0 : Int32))), none, none]) (b := b) (am_r 28 rfl) rfl ovX10_bestPress q1752 rfl rfl mb_ob rfl rfl rfl rfl (dX10_bestPress hA  hg35 (cQ_r ?_))
        refine AW.iconst (am_r 29 rfl) rfl ci_m1 ?_
        refine AW.icmp_ne (tg := 52) (am_r 30 rfl) rfl rfl (fun hc36 => ?_) (fun hc36 => ?_)
        · replace hs := (if_neg hc36).symm.trans hs
          exact dX10_reasonOf_j52 hA   hs hQ
        · replace hs := (if_pos hc36).symm.trans hs
          refine AW.iconst (am_r 31 rfl) rfl ci_3 ?_
          have hr := (Option.some.inj hs).symm
          subst hr
          exact AW.iret (am_r 32 rfl) rfl hQ
    · replace hs := (if_pos hc8).symm.trans hs
      refine AW.iconst (am_r 12 rfl) rfl ci_2 ?_
      have hr := (Option.some.inj hs).symm
      subst hr
      exact AW.iret (am_r 13 rfl) rfl hQ
  · replace hs := (if_neg hc4).symm.trans hs
    refine AW.iconst (am_r 5 rfl) rfl ci_1 ?_
    have hr := (Option.some.inj hs).symm
    subst hr
    exact AW.iret (am_r 6 rfl) rfl hQ
noncomputable def sX10_note_j56 (S : Mem) (p1 : Int32) (p2 : Int32) (p3 : Int32) (p4 : Int32) (y0 : Int32) : Option Mem :=
  olet ((358 : Int32) + ((6 : Int32) * (y0 - y0 / (100 : Int32) * (100 : Int32)))) fun v4 =>
  oif (inb v4 13412) (
  olet (si S 0 v4.toNatClampNeg 0 (p1)) fun S6 =>
  oif (inb (v4 + (1 : Int32)) 13412) (
  olet (si S6 0 (v4 + (1 : Int32)).toNatClampNeg 0 (p2)) fun S8 =>
  oif (inb (v4 + (2 : Int32)) 13412) (
  olet (si S8 0 (v4 + (2 : Int32)).toNatClampNeg 0 (p3)) fun S10 =>
  oif (inb (v4 + (3 : Int32)) 13412) (
  olet (si S10 0 (v4 + (3 : Int32)).toNatClampNeg 0 (gi S10 0 (0 : Int32).toNatClampNeg 0)) fun S12 =>
  oif (inb (v4 + (4 : Int32)) 13412) (
  olet (si S12 0 (v4 + (4 : Int32)).toNatClampNeg 0 (p4)) fun S14 =>
  obind (sX10_of S14 p1 (0 : Int32)) fun r15 =>
  oif (inb (v4 + (5 : Int32)) 13412) (
  olet (si S14 0 (v4 + (5 : Int32)).toNatClampNeg 0 (r15)) fun S19 =>
  some (S19)))))))
set_option maxRecDepth 100000 in
theorem dX10_note_j56 {g : AG} {h0 : AH} {b : Nat} {S : Mem} {Q : AO → AH → Prop} {p1 : Int32} {p2 : Int32} {p3 : Int32} {p4 : Int32} {y0 : Int32} (hA : gB g ≤ b)   {r : Mem} (hs : sX10_note_j56 S p1 p2 p3 p4 y0 = some r) (hQ : Q (.ok none) (mb h0 b r)) : AW g MX10_note 56 [some (.ref (b)), some (.int (p1)), some (.int (p2)), some (.int (p3)), some (.int (p4)), some (.int (y0)), none] [] (mb h0 b S) Q := by
  unfold sX10_note_j56 at hs
  refine AW.sipush (am_r 37 rfl) rfl cs_358 ?_
  refine AW.bipush (am_r 38 rfl) rfl cb_6 ?_
  refine AW.iload (am_r 39 rfl) rfl rfl ?_
  refine AW.bipush (am_r 40 rfl) rfl cb_100 ?_
  refine AW.irem (am_r 41 rfl) rfl (by decide) ?_
  refine AW.imul (am_r 42 rfl) rfl ?_
  refine AW.iadd (am_r 43 rfl) rfl ?_
  refine olet_e (P := fun y => AW g MX10_note 68 [some (.ref (b)), some (.int (p1)), some (.int (p2)), some (.int (p3)), some (.int (p4)), some (.int (y0)), none] [(.int (y))] (mb h0 b S) Q) hs (fun v4 hs => ?_)
  refine AW.istore (L' := [some (.ref (b)), some (.int (p1)), some (.int (p2)), some (.int (p3)), some (.int (p4)), some (.int (y0)), some (.int (v4))]) (am_r 44 rfl) rfl (Nat.le_of_ble_eq_true rfl) rfl ?_
  refine AW.aload_n (z := 0) (am_r 45 rfl) rfl rfl ?_
  refine AW.getO (am_r 46 rfl) rfl klX10 (k := 0) (by omega) q1503 mb_ob rfl ?_
  refine AW.iload (am_r 47 rfl) rfl rfl ?_
  refine AW.iload_n (z := 1) (am_r 48 rfl) rfl rfl ?_
  refine oif_g hs (fun hg5 hs => ?_)
  refine AW.iast (am_r 49 rfl) rfl mb_a1 (Nat.le_trans hA (by omega)) (vp_of_inb hg5) ?_
  rw [show _ = _ from mbp_a1]
  refine olet_e (P := fun y => AW g MX10_note 78 [some (.ref (b)), some (.int (p1)), some (.int (p2)), some (.int (p3)), some (.int (p4)), some (.int (y0)), some (.int (v4))] [] (mb h0 b y) Q) hs (fun S6 hs => ?_)
  refine AW.aload_n (z := 0) (am_r 50 rfl) rfl rfl ?_
  refine AW.getO (am_r 51 rfl) rfl klX10 (k := 0) (by omega) q1503 mb_ob rfl ?_
  refine AW.iload (am_r 52 rfl) rfl rfl ?_
  refine AW.iconst (am_r 53 rfl) rfl ci_1 ?_
  refine AW.iadd (am_r 54 rfl) rfl ?_
  refine AW.iload_n (z := 2) (am_r 55 rfl) rfl rfl ?_
  refine oif_g hs (fun hg7 hs => ?_)
  refine AW.iast (am_r 56 rfl) rfl mb_a1 (Nat.le_trans hA (by omega)) (vp_of_inb hg7) ?_
  rw [show _ = _ from mbp_a1]
  refine olet_e (P := fun y => AW g MX10_note 88 [some (.ref (b)), some (.int (p1)), some (.int (p2)), some (.int (p3)), some (.int (p4)), some (.int (y0)), some (.int (v4))] [] (mb h0 b y) Q) hs (fun S8 hs => ?_)
  refine AW.aload_n (z := 0) (am_r 57 rfl) rfl rfl ?_
  refine AW.getO (am_r 58 rfl) rfl klX10 (k := 0) (by omega) q1503 mb_ob rfl ?_
  refine AW.iload (am_r 59 rfl) rfl rfl ?_
  refine AW.iconst (am_r 60 rfl) rfl ci_2 ?_
  refine AW.iadd (am_r 61 rfl) rfl ?_
  refine AW.iload_n (z := 3) (am_r 62 rfl) rfl rfl ?_
  refine oif_g hs (fun hg9 hs => ?_)
  refine AW.iast (am_r 63 rfl) rfl mb_a1 (Nat.le_trans hA (by omega)) (vp_of_inb hg9) ?_
  rw [show _ = _ from mbp_a1]
  refine olet_e (P := fun y => AW g MX10_note 98 [some (.ref (b)), some (.int (p1)), some (.int (p2)), some (.int (p3)), some (.int (p4)), some (.int (y0)), some (.int (v4))] [] (mb h0 b y) Q) hs (fun S10 hs => ?_)
  refine AW.aload_n (z := 0) (am_r 64 rfl) rfl rfl ?_
  refine AW.getO (am_r 65 rfl) rfl klX10 (k := 0) (by omega) q1503 mb_ob rfl ?_
  refine AW.iload (am_r 66 rfl) rfl rfl ?_
  refine AW.iconst (am_r 67 rfl) rfl ci_3 ?_
  refine AW.iadd (am_r 68 rfl) rfl ?_
  refine AW.aload_n (z := 0) (am_r 69 rfl) rfl rfl ?_
  refine AW.getO (am_r 70 rfl) rfl klX10 (k := 0) (by omega) q1503 mb_ob rfl ?_
  refine AW.iconst (am_r 71 rfl) rfl ci_0 ?_
  refine AW.iald (am_r 72 rfl) rfl mb_a1 (vp_of_inb rfl) rfl ?_
  refine oif_g hs (fun hg11 hs => ?_)
  refine AW.iast (am_r 73 rfl) rfl mb_a1 (Nat.le_trans hA (by omega)) (vp_of_inb hg11) ?_
  rw [show _ = _ from mbp_a1]
  refine olet_e (P := fun y => AW g MX10_note 113 [some (.ref (b)), some (.int (p1)), some (.int (p2)), some (.int (p3)), some (.int (p4)), some (.int (y0)), some (.int (v4))] [] (mb h0 b y) Q) hs (fun S12 hs => ?_)
  refine AW.aload_n (z := 0) (am_r 74 rfl) rfl rfl ?_
  refine AW.getO (am_r 75 rfl) rfl klX10 (k := 0) (by omega) q1503 mb_ob rfl ?_
  refine AW.iload (am_r 76 rfl) rfl rfl ?_
  refine AW.iconst (am_r 77 rfl) rfl ci_4 ?_
  refine AW.iadd (am_r 78 rfl) rfl ?_
  refine AW.iload (am_r 79 rfl) rfl rfl ?_
  refine oif_g hs (fun hg13 hs => ?_)
  refine AW.iast (am_r 80 rfl) rfl mb_a1 (Nat.le_trans hA (by omega)) (vp_of_inb hg13) ?_
  rw [show _ = _ from mbp_a1]
  refine olet_e (P := fun y => AW g MX10_note 124 [some (.ref (b)), some (.int (p1)), some (.int (p2)), some (.int (p3)), some (.int (p4)), some (.int (y0)), some (.int (v4))] [] (mb h0 b y) Q) hs (fun S14 hs => ?_)
  refine AW.aload_n (z := 0) (am_r 81 rfl) rfl rfl ?_
  refine AW.getO (am_r 82 rfl) rfl klX10 (k := 0) (by omega) q1503 mb_ob rfl ?_
  refine AW.iload (am_r 83 rfl) rfl rfl ?_
  refine AW.iconst (am_r 84 rfl) rfl ci_5 ?_
  refine AW.iadd (am_r 85 rfl) rfl ?_
  refine AW.aload_n (z := 0) (am_r 86 rfl) rfl rfl ?_
  refine AW.iload_n (z := 1) (am_r 87 rfl) rfl rfl ?_
  refine AW.iconst (am_r 88 rfl) rfl ci_0 ?_
  refine obind_e hs (fun r15 hg17 hs => ?_)
  refine AW.callV (N := MX10_of) (As := [.int (p1), .int ((0 : Int32))]) (S := [(.int (v4 + (5 : Int32))), (.ref (b + 1))]) (L0 := [some (.ref (b)), some (.int (p1)), some (.int ((0 : Int32)))]) (b := b) (am_r 89 rfl) rfl ovX10_of q1615 rfl rfl mb_ob rfl rfl rfl rfl (dX10_of hA  hg17 (cQ_r ?_))
  refine oif_g hs (fun hg18 hs => ?_)
  refine AW.iast (am_r 90 rfl) rfl mb_a1 (Nat.le_trans hA (by omega)) (vp_of_inb hg18) ?_
  rw [show _ = _ from mbp_a1]
  refine olet_e (P := fun y => AW g MX10_note 139 [some (.ref (b)), some (.int (p1)), some (.int (p2)), some (.int (p3)), some (.int (p4)), some (.int (y0)), some (.int (v4))] [] (mb h0 b y) Q) hs (fun S19 hs => ?_)
  have hr := (Option.some.inj hs).symm
  subst hr
  exact AW.vret (am_r 91 rfl) rfl hQ
noncomputable def sX10_note (S : Mem) (p1 : Int32) (p2 : Int32) (p3 : Int32) (p4 : Int32) : Option Mem :=
  olet ((gi S 0 (5 : Int32).toNatClampNeg 0) + (gi S 0 (4 : Int32).toNatClampNeg 0)) fun v1 =>
  if (gi S 0 (4 : Int32).toNatClampNeg 0) = (100 : Int32) then
    olet (si S 0 (5 : Int32).toNatClampNeg 0 (((gi S 0 (5 : Int32).toNatClampNeg 0) + (1 : Int32)) - ((gi S 0 (5 : Int32).toNatClampNeg 0) + (1 : Int32)) / (100 : Int32) * (100 : Int32))) fun S20 =>
    sX10_note_j56 S20 p1 p2 p3 p4 v1
  else
    olet (si S 0 (4 : Int32).toNatClampNeg 0 ((gi S 0 (4 : Int32).toNatClampNeg 0) + (1 : Int32))) fun S3 =>
    sX10_note_j56 S3 p1 p2 p3 p4 v1
set_option maxRecDepth 100000 in
theorem dX10_note {g : AG} {h0 : AH} {b : Nat} {S : Mem} {Q : AO → AH → Prop} {p1 : Int32} {p2 : Int32} {p3 : Int32} {p4 : Int32} (hA : gB g ≤ b)  {r : Mem} (hs : sX10_note S p1 p2 p3 p4 = some r) (hQ : Q (.ok none) (mb h0 b r)) : AW g MX10_note 0 [some (.ref (b)), some (.int (p1)), some (.int (p2)), some (.int (p3)), some (.int (p4)), none, none] [] (mb h0 b S) Q := by
  unfold sX10_note at hs
  refine AW.aload_n (z := 0) (am_r 0 rfl) rfl rfl ?_
  refine AW.getO (am_r 1 rfl) rfl klX10 (k := 0) (by omega) q1503 mb_ob rfl ?_
  refine AW.iconst (am_r 2 rfl) rfl ci_5 ?_
  refine AW.iald (am_r 3 rfl) rfl mb_a1 (vp_of_inb rfl) rfl ?_
  refine AW.aload_n (z := 0) (am_r 4 rfl) rfl rfl ?_
  refine AW.getO (am_r 5 rfl) rfl klX10 (k := 0) (by omega) q1503 mb_ob rfl ?_
  refine AW.iconst (am_r 6 rfl) rfl ci_4 ?_
  refine AW.iald (am_r 7 rfl) rfl mb_a1 (vp_of_inb rfl) rfl ?_
  refine AW.iadd (am_r 8 rfl) rfl ?_
  refine olet_e (P := fun y => AW g MX10_note 13 [some (.ref (b)), some (.int (p1)), some (.int (p2)), some (.int (p3)), some (.int (p4)), none, none] [(.int (y))] (mb h0 b S) Q) hs (fun v1 hs => ?_)
  refine AW.istore (L' := [some (.ref (b)), some (.int (p1)), some (.int (p2)), some (.int (p3)), some (.int (p4)), some (.int (v1)), none]) (am_r 9 rfl) rfl (Nat.le_of_ble_eq_true rfl) rfl ?_
  refine AW.aload_n (z := 0) (am_r 10 rfl) rfl rfl ?_
  refine AW.getO (am_r 11 rfl) rfl klX10 (k := 0) (by omega) q1503 mb_ob rfl ?_
  refine AW.iconst (am_r 12 rfl) rfl ci_4 ?_
  refine AW.iald (am_r 13 rfl) rfl mb_a1 (vp_of_inb rfl) rfl ?_
  refine AW.bipush (am_r 14 rfl) rfl cb_100 ?_
  refine AW.icmp_ne (tg := 46) (am_r 15 rfl) rfl rfl (fun hc2 => ?_) (fun hc2 => ?_)
  · replace hs := (if_neg hc2).symm.trans hs
    refine AW.aload_n (z := 0) (am_r 29 rfl) rfl rfl ?_
    refine AW.getO (am_r 30 rfl) rfl klX10 (k := 0) (by omega) q1503 mb_ob rfl ?_
    refine AW.iconst (am_r 31 rfl) rfl ci_4 ?_
    refine AW.dup2 (am_r 32 rfl) rfl rfl rfl ?_
    refine AW.iald (am_r 33 rfl) rfl mb_a1 (vp_of_inb rfl) rfl ?_
    refine AW.iconst (am_r 34 rfl) rfl ci_1 ?_
    refine AW.iadd (am_r 35 rfl) rfl ?_
    refine AW.iast (am_r 36 rfl) rfl mb_a1 (Nat.le_trans hA (by omega)) (vp_of_inb rfl) ?_
    rw [show _ = _ from mbp_a1]
    refine olet_e (P := fun y => AW g MX10_note 56 [some (.ref (b)), some (.int (p1)), some (.int (p2)), some (.int (p3)), some (.int (p4)), some (.int (v1)), none] [] (mb h0 b y) Q) hs (fun S3 hs => ?_)
    exact dX10_note_j56 hA   hs hQ
  · replace hs := (if_pos hc2).symm.trans hs
    refine AW.aload_n (z := 0) (am_r 16 rfl) rfl rfl ?_
    refine AW.getO (am_r 17 rfl) rfl klX10 (k := 0) (by omega) q1503 mb_ob rfl ?_
    refine AW.iconst (am_r 18 rfl) rfl ci_5 ?_
    refine AW.aload_n (z := 0) (am_r 19 rfl) rfl rfl ?_
    refine AW.getO (am_r 20 rfl) rfl klX10 (k := 0) (by omega) q1503 mb_ob rfl ?_
    refine AW.iconst (am_r 21 rfl) rfl ci_5 ?_
    refine AW.iald (am_r 22 rfl) rfl mb_a1 (vp_of_inb rfl) rfl ?_
    refine AW.iconst (am_r 23 rfl) rfl ci_1 ?_
    refine AW.iadd (am_r 24 rfl) rfl ?_
    refine AW.bipush (am_r 25 rfl) rfl cb_100 ?_
    refine AW.irem (am_r 26 rfl) rfl (by decide) ?_
    refine AW.iast (am_r 27 rfl) rfl mb_a1 (Nat.le_trans hA (by omega)) (vp_of_inb rfl) ?_
    rw [show _ = _ from mbp_a1]
    refine olet_e (P := fun y => AW g MX10_note 43 [some (.ref (b)), some (.int (p1)), some (.int (p2)), some (.int (p3)), some (.int (p4)), some (.int (v1)), none] [] (mb h0 b y) Q) hs (fun S20 hs => ?_)
    refine AW.goto (tg := 56) (am_r 28 rfl) rfl ?_
    exact dX10_note_j56 hA   hs hQ
noncomputable def sX10_cure (S : Mem) (p1 : Int32) (p2 : Int32) : Option Mem :=
  obind (sX10_set S p1 (1 : Int32) (3 : Int32)) fun r1 =>
  obind (sX10_of r1 p1 (5 : Int32)) fun r4 =>
  obind (sX10_ofRecipe r1 r4 (1 : Int32)) fun r7 =>
  obind (sX10_set r1 p1 (2 : Int32) r7) fun r10 =>
  obind (sX10_set r10 p1 (6 : Int32) p2) fun r13 =>
  some (r13)
set_option maxRecDepth 100000 in
theorem dX10_cure {g : AG} {h0 : AH} {b : Nat} {S : Mem} {Q : AO → AH → Prop} {p1 : Int32} {p2 : Int32} (hA : gB g ≤ b)  {r : Mem} (hs : sX10_cure S p1 p2 = some r) (hQ : Q (.ok none) (mb h0 b r)) : AW g MX10_cure 0 [some (.ref (b)), some (.int (p1)), some (.int (p2))] [] (mb h0 b S) Q := by
  unfold sX10_cure at hs
  refine AW.aload_n (z := 0) (am_r 0 rfl) rfl rfl ?_
  refine AW.iload_n (z := 1) (am_r 1 rfl) rfl rfl ?_
  refine AW.iconst (am_r 2 rfl) rfl ci_1 ?_
  refine AW.iconst (am_r 3 rfl) rfl ci_3 ?_
  refine obind_e hs (fun r1 hg3 hs => ?_)
  refine AW.callV (N := MX10_set) (As := [.int (p1), .int ((1 : Int32)), .int ((3 : Int32))]) (S := []) (L0 := [some (.ref (b)), some (.int (p1)), some (.int ((1 : Int32))), some (.int ((3 : Int32)))]) (b := b) (am_r 4 rfl) rfl ovX10_set q1623 rfl rfl mb_ob rfl rfl rfl rfl (dX10_set hA  hg3 (cQ_v ?_))
  refine AW.aload_n (z := 0) (am_r 5 rfl) rfl rfl ?_
  refine AW.iload_n (z := 1) (am_r 6 rfl) rfl rfl ?_
  refine AW.iconst (am_r 7 rfl) rfl ci_2 ?_
  refine AW.aload_n (z := 0) (am_r 8 rfl) rfl rfl ?_
  refine AW.aload_n (z := 0) (am_r 9 rfl) rfl rfl ?_
  refine AW.iload_n (z := 1) (am_r 10 rfl) rfl rfl ?_
  refine AW.iconst (am_r 11 rfl) rfl ci_5 ?_
  refine obind_e hs (fun r4 hg6 hs => ?_)
  refine AW.callV (N := MX10_of) (As := [.int (p1), .int ((5 : Int32))]) (S := [(.ref (b)), (.int ((2 : Int32))), (.int (p1)), (.ref (b))]) (L0 := [some (.ref (b)), some (.int (p1)), some (.int ((5 : Int32)))]) (b := b) (am_r 12 rfl) rfl ovX10_of q1615 rfl rfl mb_ob rfl rfl rfl rfl (dX10_of hA  hg6 (cQ_r ?_))
  refine AW.iconst (am_r 13 rfl) rfl ci_1 ?_
  refine obind_e hs (fun r7 hg9 hs => ?_)
  refine AW.callV (N := MX10_ofRecipe) (As := [.int (r4), .int ((1 : Int32))]) (S := [(.int ((2 : Int32))), (.int (p1)), (.ref (b))]) (L0 := [some (.ref (b)), some (.int (r4)), some (.int ((1 : Int32)))]) (b := b) (am_r 14 rfl) rfl ovX10_ofRecipe q1671 rfl rfl mb_ob rfl rfl rfl rfl (dX10_ofRecipe hA  hg9 (cQ_r ?_))
  refine obind_e hs (fun r10 hg12 hs => ?_)
  refine AW.callV (N := MX10_set) (As := [.int (p1), .int ((2 : Int32)), .int (r7)]) (S := []) (L0 := [some (.ref (b)), some (.int (p1)), some (.int ((2 : Int32))), some (.int (r7))]) (b := b) (am_r 15 rfl) rfl ovX10_set q1623 rfl rfl mb_ob rfl rfl rfl rfl (dX10_set hA  hg12 (cQ_v ?_))
  refine AW.aload_n (z := 0) (am_r 16 rfl) rfl rfl ?_
  refine AW.iload_n (z := 1) (am_r 17 rfl) rfl rfl ?_
  refine AW.bipush (am_r 18 rfl) rfl cb_6 ?_
  refine AW.iload_n (z := 2) (am_r 19 rfl) rfl rfl ?_
  refine obind_e hs (fun r13 hg15 hs => ?_)
  refine AW.callV (N := MX10_set) (As := [.int (p1), .int ((6 : Int32)), .int (p2)]) (S := []) (L0 := [some (.ref (b)), some (.int (p1)), some (.int ((6 : Int32))), some (.int (p2))]) (b := b) (am_r 20 rfl) rfl ovX10_set q1623 rfl rfl mb_ob rfl rfl rfl rfl (dX10_set hA  hg15 (cQ_v ?_))
  have hr := (Option.some.inj hs).symm
  subst hr
  exact AW.vret (am_r 21 rfl) rfl hQ
noncomputable def sX10_shelve (S : Mem) (p1 : Int32) : Option Mem :=
  obind (sX10_set S p1 (1 : Int32) (0 : Int32)) fun r1 =>
  obind (sX10_set r1 p1 (2 : Int32) (0 : Int32)) fun r4 =>
  obind (sX10_set r4 p1 (5 : Int32) (-1 : Int32)) fun r7 =>
  obind (sX10_set r7 p1 (6 : Int32) (-1 : Int32)) fun r10 =>
  some (r10)
set_option maxRecDepth 100000 in
theorem dX10_shelve {g : AG} {h0 : AH} {b : Nat} {S : Mem} {Q : AO → AH → Prop} {p1 : Int32} (hA : gB g ≤ b)  {r : Mem} (hs : sX10_shelve S p1 = some r) (hQ : Q (.ok none) (mb h0 b r)) : AW g MX10_shelve 0 [some (.ref (b)), some (.int (p1))] [] (mb h0 b S) Q := by
  unfold sX10_shelve at hs
  refine AW.aload_n (z := 0) (am_r 0 rfl) rfl rfl ?_
  refine AW.iload_n (z := 1) (am_r 1 rfl) rfl rfl ?_
  refine AW.iconst (am_r 2 rfl) rfl ci_1 ?_
  refine AW.iconst (am_r 3 rfl) rfl ci_0 ?_
  refine obind_e hs (fun r1 hg3 hs => ?_)
  refine AW.callV (N := MX10_set) (As := [.int (p1), .int ((1 : Int32)), .int ((0 : Int32))]) (S := []) (L0 := [some (.ref (b)), some (.int (p1)), some (.int ((1 : Int32))), some (.int ((0 : Int32)))]) (b := b) (am_r 4 rfl) rfl ovX10_set q1623 rfl rfl mb_ob rfl rfl rfl rfl (dX10_set hA  hg3 (cQ_v ?_))
  refine AW.aload_n (z := 0) (am_r 5 rfl) rfl rfl ?_
  refine AW.iload_n (z := 1) (am_r 6 rfl) rfl rfl ?_
  refine AW.iconst (am_r 7 rfl) rfl ci_2 ?_
  refine AW.iconst (am_r 8 rfl) rfl ci_0 ?_
  refine obind_e hs (fun r4 hg6 hs => ?_)
  refine AW.callV (N := MX10_set) (As := [.int (p1), .int ((2 : Int32)), .int ((0 : Int32))]) (S := []) (L0 := [some (.ref (b)), some (.int (p1)), some (.int ((2 : Int32))), some (.int ((0 : Int32)))]) (b := b) (am_r 9 rfl) rfl ovX10_set q1623 rfl rfl mb_ob rfl rfl rfl rfl (dX10_set hA  hg6 (cQ_v ?_))
  refine AW.aload_n (z := 0) (am_r 10 rfl) rfl rfl ?_
  refine AW.iload_n (z := 1) (am_r 11 rfl) rfl rfl ?_
  refine AW.iconst (am_r 12 rfl) rfl ci_5 ?_
  refine AW.iconst (am_r 13 rfl) rfl ci_m1 ?_
  refine obind_e hs (fun r7 hg9 hs => ?_)
  refine AW.callV (N := MX10_set) (As := [.int (p1), .int ((5 : Int32)), .int ((-1 : Int32))]) (S := []) (L0 := [some (.ref (b)), some (.int (p1)), some (.int ((5 : Int32))), some (.int ((-1 : Int32)))]) (b := b) (am_r 14 rfl) rfl ovX10_set q1623 rfl rfl mb_ob rfl rfl rfl rfl (dX10_set hA  hg9 (cQ_v ?_))
  refine AW.aload_n (z := 0) (am_r 15 rfl) rfl rfl ?_
  refine AW.iload_n (z := 1) (am_r 16 rfl) rfl rfl ?_
  refine AW.bipush (am_r 17 rfl) rfl cb_6 ?_
  refine AW.iconst (am_r 18 rfl) rfl ci_m1 ?_
  refine obind_e hs (fun r10 hg12 hs => ?_)
  refine AW.callV (N := MX10_set) (As := [.int (p1), .int ((6 : Int32)), .int ((-1 : Int32))]) (S := []) (L0 := [some (.ref (b)), some (.int (p1)), some (.int ((6 : Int32))), some (.int ((-1 : Int32)))]) (b := b) (am_r 19 rfl) rfl ovX10_set q1623 rfl rfl mb_ob rfl rfl rfl rfl (dX10_set hA  hg12 (cQ_v ?_))
  have hr := (Option.some.inj hs).symm
  subst hr
  exact AW.vret (am_r 20 rfl) rfl hQ
noncomputable def sX10_finish (S : Mem) (p1 : Int32) : Option Mem :=
  obind (sX10_of S p1 (5 : Int32)) fun r1 =>
  obind (sX10_of S p1 (0 : Int32)) fun r4 =>
  obind (sX10_behind S r4 r1) fun r7 =>
  obind (sX10_set S p1 (0 : Int32) r7) fun r10 =>
  obind (sX10_note r10 p1 (0 : Int32) r1 r4) fun r13 =>
  obind (sX10_add r13 p1 (7 : Int32) (1 : Int32)) fun r16 =>
  olet (si r16 0 (1 : Int32).toNatClampNeg 0 ((gi r16 0 (1 : Int32).toNatClampNeg 0) + (1 : Int32))) fun S19 =>
  oif (inb ((342 : Int32) + r1) 13412) (
  oif (inb ((342 : Int32) + r1) 13412) (
  olet (si S19 0 ((342 : Int32) + r1).toNatClampNeg 0 ((gi S19 0 ((342 : Int32) + r1).toNatClampNeg 0) + (1 : Int32))) fun S22 =>
  oif (inb p1 224) (
  obind (sX10_ofRecipe S22 r1 (0 : Int32)) fun r24 =>
  obind (sX10_ofRecipe S22 r1 (6 : Int32)) fun r27 =>
  oif (inb p1 224) (
  olet (sq S22 1 p1.toNatClampNeg ((gq S22 1 p1.toNatClampNeg) + (r24.toInt64 * r27.toInt64))) fun S31 =>
  obind (sX10_ofRecipe S31 r1 (1 : Int32)) fun r32 =>
  if r32 = 0 then
    obind (sX10_shelve S31 p1) fun r52 =>
    some (r52)
  else
    obind (sX10_ofRecipe S31 r1 (2 : Int32)) fun r36 =>
    if r36 = (1 : Int32) then
      obind (sX10_set S31 p1 (1 : Int32) (2 : Int32)) fun r43 =>
      obind (sX10_set r43 p1 (11 : Int32) (gi r43 0 (0 : Int32).toNatClampNeg 0)) fun r46 =>
      obind (sX10_set r46 p1 (12 : Int32) (0 : Int32)) fun r49 =>
      some (r49)
    else
      obind (sX10_cure S31 p1 (-1 : Int32)) fun r40 =>
      some (r40)))))
set_option maxRecDepth 100000 in
theorem dX10_finish {g : AG} {h0 : AH} {b : Nat} {S : Mem} {Q : AO → AH → Prop} {p1 : Int32} (hA : gB g ≤ b)  {r : Mem} (hs : sX10_finish S p1 = some r) (hQ : Q (.ok none) (mb h0 b r)) : AW g MX10_finish 0 [some (.ref (b)), some (.int (p1)), none, none] [] (mb h0 b S) Q := by
  unfold sX10_finish at hs
  refine AW.aload_n (z := 0) (am_r 0 rfl) rfl rfl ?_
  refine AW.iload_n (z := 1) (am_r 1 rfl) rfl rfl ?_
  refine AW.iconst (am_r 2 rfl) rfl ci_5 ?_
  refine obind_e hs (fun r1 hg3 hs => ?_)
  refine AW.callV (N := MX10_of) (As := [.int (p1), .int ((5 : Int32))]) (S := []) (L0 := [some (.ref (b)), some (.int (p1)), some (.int ((5 : Int32)))]) (b := b) (am_r 3 rfl) rfl ovX10_of q1615 rfl rfl mb_ob rfl rfl rfl rfl (dX10_of hA  hg3 (cQ_r ?_))
  refine AW.istore_n (L' := [some (.ref (b)), some (.int (p1)), some (.int (r1)), none]) (z := 2) (am_r 4 rfl) rfl (Nat.le_of_ble_eq_true rfl) rfl ?_
  refine AW.aload_n (z := 0) (am_r 5 rfl) rfl rfl ?_
  refine AW.iload_n (z := 1) (am_r 6 rfl) rfl rfl ?_
  refine AW.iconst (am_r 7 rfl) rfl ci_0 ?_
  refine obind_e hs (fun r4 hg6 hs => ?_)
  refine AW.callV (N := MX10_of) (As := [.int (p1), .int ((0 : Int32))]) (S := []) (L0 := [some (.ref (b)), some (.int (p1)), some (.int ((0 : Int32)))]) (b := b) (am_r 8 rfl) rfl ovX10_of q1615 rfl rfl mb_ob rfl rfl rfl rfl (dX10_of hA  hg6 (cQ_r ?_))
  refine AW.istore_n (L' := [some (.ref (b)), some (.int (p1)), some (.int (r1)), some (.int (r4))]) (z := 3) (am_r 9 rfl) rfl (Nat.le_of_ble_eq_true rfl) rfl ?_
  refine AW.aload_n (z := 0) (am_r 10 rfl) rfl rfl ?_
  refine AW.iload_n (z := 1) (am_r 11 rfl) rfl rfl ?_
  refine AW.iconst (am_r 12 rfl) rfl ci_0 ?_
  refine AW.aload_n (z := 0) (am_r 13 rfl) rfl rfl ?_
  refine AW.iload_n (z := 3) (am_r 14 rfl) rfl rfl ?_
  refine AW.iload_n (z := 2) (am_r 15 rfl) rfl rfl ?_
  refine obind_e hs (fun r7 hg9 hs => ?_)
  refine AW.callV (N := MX10_behind) (As := [.int (r4), .int (r1)]) (S := [(.int ((0 : Int32))), (.int (p1)), (.ref (b))]) (L0 := [some (.ref (b)), some (.int (r4)), some (.int (r1))]) (b := b) (am_r 16 rfl) rfl ovX10_behind q1725 rfl rfl mb_ob rfl rfl rfl rfl (dX10_behind hA  hg9 (cQ_r ?_))
  refine obind_e hs (fun r10 hg12 hs => ?_)
  refine AW.callV (N := MX10_set) (As := [.int (p1), .int ((0 : Int32)), .int (r7)]) (S := []) (L0 := [some (.ref (b)), some (.int (p1)), some (.int ((0 : Int32))), some (.int (r7))]) (b := b) (am_r 17 rfl) rfl ovX10_set q1623 rfl rfl mb_ob rfl rfl rfl rfl (dX10_set hA  hg12 (cQ_v ?_))
  refine AW.aload_n (z := 0) (am_r 18 rfl) rfl rfl ?_
  refine AW.iload_n (z := 1) (am_r 19 rfl) rfl rfl ?_
  refine AW.iconst (am_r 20 rfl) rfl ci_0 ?_
  refine AW.iload_n (z := 2) (am_r 21 rfl) rfl rfl ?_
  refine AW.iload_n (z := 3) (am_r 22 rfl) rfl rfl ?_
  refine obind_e hs (fun r13 hg15 hs => ?_)
  refine AW.callV (N := MX10_note) (As := [.int (p1), .int ((0 : Int32)), .int (r1), .int (r4)]) (S := []) (L0 := [some (.ref (b)), some (.int (p1)), some (.int ((0 : Int32))), some (.int (r1)), some (.int (r4)), none, none]) (b := b) (am_r 23 rfl) rfl ovX10_note q1729 rfl rfl mb_ob rfl rfl rfl rfl (dX10_note hA  hg15 (cQ_v ?_))
  refine AW.aload_n (z := 0) (am_r 24 rfl) rfl rfl ?_
  refine AW.iload_n (z := 1) (am_r 25 rfl) rfl rfl ?_
  refine AW.bipush (am_r 26 rfl) rfl cb_7 ?_
  refine AW.iconst (am_r 27 rfl) rfl ci_1 ?_
  refine obind_e hs (fun r16 hg18 hs => ?_)
  refine AW.callV (N := MX10_add) (As := [.int (p1), .int ((7 : Int32)), .int ((1 : Int32))]) (S := []) (L0 := [some (.ref (b)), some (.int (p1)), some (.int ((7 : Int32))), some (.int ((1 : Int32)))]) (b := b) (am_r 28 rfl) rfl ovX10_add q1647 rfl rfl mb_ob rfl rfl rfl rfl (dX10_add hA  hg18 (cQ_v ?_))
  refine AW.aload_n (z := 0) (am_r 29 rfl) rfl rfl ?_
  refine AW.getO (am_r 30 rfl) rfl klX10 (k := 0) (by omega) q1503 mb_ob rfl ?_
  refine AW.iconst (am_r 31 rfl) rfl ci_1 ?_
  refine AW.dup2 (am_r 32 rfl) rfl rfl rfl ?_
  refine AW.iald (am_r 33 rfl) rfl mb_a1 (vp_of_inb rfl) rfl ?_
  refine AW.iconst (am_r 34 rfl) rfl ci_1 ?_
  refine AW.iadd (am_r 35 rfl) rfl ?_
  refine AW.iast (am_r 36 rfl) rfl mb_a1 (Nat.le_trans hA (by omega)) (vp_of_inb rfl) ?_
  rw [show _ = _ from mbp_a1]
  refine olet_e (P := fun y => AW g MX10_finish 52 [some (.ref (b)), some (.int (p1)), some (.int (r1)), some (.int (r4))] [] (mb h0 b y) Q) hs (fun S19 hs => ?_)
  refine AW.aload_n (z := 0) (am_r 37 rfl) rfl rfl ?_
  refine AW.getO (am_r 38 rfl) rfl klX10 (k := 0) (by omega) q1503 mb_ob rfl ?_
  refine AW.sipush (am_r 39 rfl) rfl cs_342 ?_
  refine AW.iload_n (z := 2) (am_r 40 rfl) rfl rfl ?_
  refine AW.iadd (am_r 41 rfl) rfl ?_
  refine AW.dup2 (am_r 42 rfl) rfl rfl rfl ?_
  refine oif_g hs (fun hg20 hs => ?_)
  refine AW.iald (am_r 43 rfl) rfl mb_a1 (vp_of_inb hg20) rfl ?_
  refine AW.iconst (am_r 44 rfl) rfl ci_1 ?_
  refine AW.iadd (am_r 45 rfl) rfl ?_
  refine oif_g hs (fun hg21 hs => ?_)
  refine AW.iast (am_r 46 rfl) rfl mb_a1 (Nat.le_trans hA (by omega)) (vp_of_inb hg21) ?_
  rw [show _ = _ from mbp_a1]
  refine olet_e (P := fun y => AW g MX10_finish 66 [some (.ref (b)), some (.int (p1)), some (.int (r1)), some (.int (r4))] [] (mb h0 b y) Q) hs (fun S22 hs => ?_)
  refine AW.aload_n (z := 0) (am_r 47 rfl) rfl rfl ?_
  refine AW.getO (am_r 48 rfl) rfl klX10 (k := 1) (by omega) q1504 mb_ob rfl ?_
  refine AW.iload_n (z := 1) (am_r 49 rfl) rfl rfl ?_
  refine AW.dup2 (am_r 50 rfl) rfl rfl rfl ?_
  refine oif_g hs (fun hg23 hs => ?_)
  refine AW.lald (am_r 51 rfl) rfl mb_a2 (vp_of_inb hg23) rfl ?_
  refine AW.aload_n (z := 0) (am_r 52 rfl) rfl rfl ?_
  refine AW.iload_n (z := 2) (am_r 53 rfl) rfl rfl ?_
  refine AW.iconst (am_r 54 rfl) rfl ci_0 ?_
  refine obind_e hs (fun r24 hg26 hs => ?_)
  refine AW.callV (N := MX10_ofRecipe) (As := [.int (r1), .int ((0 : Int32))]) (S := [(.long (gq S22 1 p1.toNatClampNeg)), (.int (p1)), (.ref (b + 2))]) (L0 := [some (.ref (b)), some (.int (r1)), some (.int ((0 : Int32)))]) (b := b) (am_r 55 rfl) rfl ovX10_ofRecipe q1671 rfl rfl mb_ob rfl rfl rfl rfl (dX10_ofRecipe hA  hg26 (cQ_r ?_))
  refine AW.i2l (am_r 56 rfl) rfl ?_
  refine AW.aload_n (z := 0) (am_r 57 rfl) rfl rfl ?_
  refine AW.iload_n (z := 2) (am_r 58 rfl) rfl rfl ?_
  refine AW.bipush (am_r 59 rfl) rfl cb_6 ?_
  refine obind_e hs (fun r27 hg29 hs => ?_)
  refine AW.callV (N := MX10_ofRecipe) (As := [.int (r1), .int ((6 : Int32))]) (S := [(.long (r24.toInt64)), (.long (gq S22 1 p1.toNatClampNeg)), (.int (p1)), (.ref (b + 2))]) (L0 := [some (.ref (b)), some (.int (r1)), some (.int ((6 : Int32)))]) (b := b) (am_r 60 rfl) rfl ovX10_ofRecipe q1671 rfl rfl mb_ob rfl rfl rfl rfl (dX10_ofRecipe hA  hg29 (cQ_r ?_))
  refine AW.i2l (am_r 61 rfl) rfl ?_
  refine AW.lmul (am_r 62 rfl) rfl ?_
  refine AW.ladd (am_r 63 rfl) rfl ?_
  refine oif_g hs (fun hg30 hs => ?_)
  refine AW.last (am_r 64 rfl) rfl mb_a2 (Nat.le_trans hA (by omega)) (vp_of_inb hg30) ?_
  rw [show _ = _ from mbp_a2]
  refine olet_e (P := fun y => AW g MX10_finish 91 [some (.ref (b)), some (.int (p1)), some (.int (r1)), some (.int (r4))] [] (mb h0 b y) Q) hs (fun S31 hs => ?_)
  refine AW.aload_n (z := 0) (am_r 65 rfl) rfl rfl ?_
  refine AW.iload_n (z := 2) (am_r 66 rfl) rfl rfl ?_
  refine AW.iconst (am_r 67 rfl) rfl ci_1 ?_
  refine obind_e hs (fun r32 hg34 hs => ?_)
  refine AW.callV (N := MX10_ofRecipe) (As := [.int (r1), .int ((1 : Int32))]) (S := []) (L0 := [some (.ref (b)), some (.int (r1)), some (.int ((1 : Int32)))]) (b := b) (am_r 68 rfl) rfl ovX10_ofRecipe q1671 rfl rfl mb_ob rfl rfl rfl rfl (dX10_ofRecipe hA  hg34 (cQ_r ?_))
  refine AW.if_ne (tg := 108) (am_r 69 rfl) rfl rfl (fun hc35 => ?_) (fun hc35 => ?_)
  · replace hs := (if_neg hc35).symm.trans hs
    refine AW.aload_n (z := 0) (am_r 74 rfl) rfl rfl ?_
    refine AW.iload_n (z := 2) (am_r 75 rfl) rfl rfl ?_
    refine AW.iconst (am_r 76 rfl) rfl ci_2 ?_
    refine obind_e hs (fun r36 hg38 hs => ?_)
    refine AW.callV (N := MX10_ofRecipe) (As := [.int (r1), .int ((2 : Int32))]) (S := []) (L0 := [some (.ref (b)), some (.int (r1)), some (.int ((2 : Int32)))]) (b := b) (am_r 77 rfl) rfl ovX10_ofRecipe q1671 rfl rfl mb_ob rfl rfl rfl rfl (dX10_ofRecipe hA  hg38 (cQ_r ?_))
    refine AW.iconst (am_r 78 rfl) rfl ci_1 ?_
    refine AW.icmp_ne (tg := 149) (am_r 79 rfl) rfl rfl (fun hc39 => ?_) (fun hc39 => ?_)
    · replace hs := (if_neg hc39).symm.trans hs
      refine AW.aload_n (z := 0) (am_r 99 rfl) rfl rfl ?_
      refine AW.iload_n (z := 1) (am_r 100 rfl) rfl rfl ?_
      refine AW.iconst (am_r 101 rfl) rfl ci_m1 ?_
      refine obind_e hs (fun r40 hg42 hs => ?_)
      refine AW.callV (N := MX10_cure) (As := [.int (p1), .int ((-1 : Int32))]) (S := []) (L0 := [some (.ref (b)), some (.int (p1)), some (.int ((-1 : Int32)))]) (b := b) (am_r 102 rfl) rfl ovX10_cure q1737 rfl rfl mb_ob rfl rfl rfl rfl (dX10_cure hA  hg42 (cQ_v ?_))
      have hr := (Option.some.inj hs).symm
      subst hr
      exact AW.vret (am_r 103 rfl) rfl hQ
    · replace hs := (if_pos hc39).symm.trans hs
      refine AW.aload_n (z := 0) (am_r 80 rfl) rfl rfl ?_
      refine AW.iload_n (z := 1) (am_r 81 rfl) rfl rfl ?_
      refine AW.iconst (am_r 82 rfl) rfl ci_1 ?_
      refine AW.iconst (am_r 83 rfl) rfl ci_2 ?_
      refine obind_e hs (fun r43 hg45 hs => ?_)
      refine AW.callV (N := MX10_set) (As := [.int (p1), .int ((1 : Int32)), .int ((2 : Int32))]) (S := []) (L0 := [some (.ref (b)), some (.int (p1)), some (.int ((1 : Int32))), some (.int ((2 : Int32)))]) (b := b) (am_r 84 rfl) rfl ovX10_set q1623 rfl rfl mb_ob rfl rfl rfl rfl (dX10_set hA  hg45 (cQ_v ?_))
      refine AW.aload_n (z := 0) (am_r 85 rfl) rfl rfl ?_
      refine AW.iload_n (z := 1) (am_r 86 rfl) rfl rfl ?_
      refine AW.bipush (am_r 87 rfl) rfl cb_11 ?_
      refine AW.aload_n (z := 0) (am_r 88 rfl) rfl rfl ?_
      refine AW.getO (am_r 89 rfl) rfl klX10 (k := 0) (by omega) q1503 mb_ob rfl ?_
      refine AW.iconst (am_r 90 rfl) rfl ci_0 ?_
      refine AW.iald (am_r 91 rfl) rfl mb_a1 (vp_of_inb rfl) rfl ?_
      refine obind_e hs (fun r46 hg48 hs => ?_)
      refine AW.callV (N := MX10_set) (As := [.int (p1), .int ((11 : Int32)), .int (gi r43 0 (0 : Int32).toNatClampNeg 0)]) (S := []) (L0 := [some (.ref (b)), some (.int (p1)), some (.int ((11 : Int32))), some (.int (gi r43 0 (0 : Int32).toNatClampNeg 0))]) (b := b) (am_r 92 rfl) rfl ovX10_set q1623 rfl rfl mb_ob rfl rfl rfl rfl (dX10_set hA  hg48 (cQ_v ?_))
      refine AW.aload_n (z := 0) (am_r 93 rfl) rfl rfl ?_
      refine AW.iload_n (z := 1) (am_r 94 rfl) rfl rfl ?_
      refine AW.bipush (am_r 95 rfl) rfl cb_12 ?_
      refine AW.iconst (am_r 96 rfl) rfl ci_0 ?_
      refine obind_e hs (fun r49 hg51 hs => ?_)
      refine AW.callV (N := MX10_set) (As := [.int (p1), .int ((12 : Int32)), .int ((0 : Int32))]) (S := []) (L0 := [some (.ref (b)), some (.int (p1)), some (.int ((12 : Int32))), some (.int ((0 : Int32)))]) (b := b) (am_r 97 rfl) rfl ovX10_set q1623 rfl rfl mb_ob rfl rfl rfl rfl (dX10_set hA  hg51 (cQ_v ?_))
      refine AW.goto (tg := 155) (am_r 98 rfl) rfl ?_
      have hr := (Option.some.inj hs).symm
      subst hr
      exact AW.vret (am_r 103 rfl) rfl hQ
  · replace hs := (if_pos hc35).symm.trans hs
    refine AW.aload_n (z := 0) (am_r 70 rfl) rfl rfl ?_
    refine AW.iload_n (z := 1) (am_r 71 rfl) rfl rfl ?_
    refine obind_e hs (fun r52 hg54 hs => ?_)
    refine AW.callV (N := MX10_shelve) (As := [.int (p1)]) (S := []) (L0 := [some (.ref (b)), some (.int (p1))]) (b := b) (am_r 72 rfl) rfl ovX10_shelve q1733 rfl rfl mb_ob rfl rfl rfl rfl (dX10_shelve hA  hg54 (cQ_v ?_))
    refine AW.goto (tg := 155) (am_r 73 rfl) rfl ?_
    have hr := (Option.some.inj hs).symm
    subst hr
    exact AW.vret (am_r 103 rfl) rfl hQ
noncomputable def sX10_age_j82 (S : Mem) (p1 : Int32) (y0 : Int32) : Option Mem :=
  if y0 = (4 : Int32) then
    obind (sX10_of S p1 (0 : Int32)) fun r16 =>
    obind (sX10_set S p1 (0 : Int32) (sX10_max S (0 : Int32) (r16 - (20 : Int32)))) fun r21 =>
    obind (sX10_note r21 p1 (2 : Int32) (-1 : Int32) r16) fun r24 =>
    obind (sX10_shelve r24 p1) fun r27 =>
    some (r27)
  else
    some (S)
set_option maxRecDepth 100000 in
theorem dX10_age_j82 {g : AG} {h0 : AH} {b : Nat} {S : Mem} {Q : AO → AH → Prop} {p1 : Int32} {y0 : Int32} (hA : gB g ≤ b)   {r : Mem} (hs : sX10_age_j82 S p1 y0 = some r) (hQ : Q (.ok none) (mb h0 b r)) : AW g MX10_age 82 [some (.ref (b)), some (.int (p1)), some (.int (y0)), none] [] (mb h0 b S) Q := by
  unfold sX10_age_j82 at hs
  refine AW.iload_n (z := 2) (am_r 53 rfl) rfl rfl ?_
  refine AW.iconst (am_r 54 rfl) rfl ci_4 ?_
  refine AW.icmp_ne (tg := 121) (am_r 55 rfl) rfl rfl (fun hc15 => ?_) (fun hc15 => ?_)
  · replace hs := (if_neg hc15).symm.trans hs
    have hr := (Option.some.inj hs).symm
    subst hr
    exact AW.vret (am_r 79 rfl) rfl hQ
  · replace hs := (if_pos hc15).symm.trans hs
    refine AW.aload_n (z := 0) (am_r 56 rfl) rfl rfl ?_
    refine AW.iload_n (z := 1) (am_r 57 rfl) rfl rfl ?_
    refine AW.iconst (am_r 58 rfl) rfl ci_0 ?_
    refine obind_e hs (fun r16 hg18 hs => ?_)
    refine AW.callV (N := MX10_of) (As := [.int (p1), .int ((0 : Int32))]) (S := []) (L0 := [some (.ref (b)), some (.int (p1)), some (.int ((0 : Int32)))]) (b := b) (am_r 59 rfl) rfl ovX10_of q1615 rfl rfl mb_ob rfl rfl rfl rfl (dX10_of hA  hg18 (cQ_r ?_))
    refine AW.istore_n (L' := [some (.ref (b)), some (.int (p1)), some (.int (y0)), some (.int (r16))]) (z := 3) (am_r 60 rfl) rfl (Nat.le_of_ble_eq_true rfl) rfl ?_
    refine AW.aload_n (z := 0) (am_r 61 rfl) rfl rfl ?_
    refine AW.iload_n (z := 1) (am_r 62 rfl) rfl rfl ?_
    refine AW.iconst (am_r 63 rfl) rfl ci_0 ?_
    refine AW.iconst (am_r 64 rfl) rfl ci_0 ?_
    refine AW.iload_n (z := 3) (am_r 65 rfl) rfl rfl ?_
    refine AW.bipush (am_r 66 rfl) rfl cb_20 ?_
    refine AW.isub (am_r 67 rfl) rfl ?_
    refine AW.callS (N := MX10_max) (As := [.int ((0 : Int32)), .int (r16 - (20 : Int32))]) (S := [(.int ((0 : Int32))), (.int (p1)), (.ref (b))]) (L0 := [some (.int ((0 : Int32))), some (.int (r16 - (20 : Int32)))]) (am_r 68 rfl) rfl osX10_max q1741 rfl rfl rfl rfl rfl (dX10_max hA  rfl (cQ_r ?_))
    refine obind_e hs (fun r21 hg23 hs => ?_)
    refine AW.callV (N := MX10_set) (As := [.int (p1), .int ((0 : Int32)), .int (sX10_max S (0 : Int32) (r16 - (20 : Int32)))]) (S := []) (L0 := [some (.ref (b)), some (.int (p1)), some (.int ((0 : Int32))), some (.int (sX10_max S (0 : Int32) (r16 - (20 : Int32))))]) (b := b) (am_r 69 rfl) rfl ovX10_set q1623 rfl rfl mb_ob rfl rfl rfl rfl (dX10_set hA  hg23 (cQ_v ?_))
    refine AW.aload_n (z := 0) (am_r 70 rfl) rfl rfl ?_
    refine AW.iload_n (z := 1) (am_r 71 rfl) rfl rfl ?_
    refine AW.iconst (am_r 72 rfl) rfl ci_2 ?_
    refine AW.iconst (am_r 73 rfl) rfl ci_m1 ?_
    refine AW.iload_n (z := 3) (am_r 74 rfl) rfl rfl ?_
    refine obind_e hs (fun r24 hg26 hs => ?_)
    refine AW.callV (N := MX10_note) (As := [.int (p1), .int ((2 : Int32)), .int ((-1 : Int32)), .int (r16)]) (S := []) (L0 := [some (.ref (b)), some (.int (p1)), some (.int ((2 : Int32))), some (.int ((-1 : Int32))), some (.int (r16)), none, none]) (b := b) (am_r 75 rfl) rfl ovX10_note q1729 rfl rfl mb_ob rfl rfl rfl rfl (dX10_note hA  hg26 (cQ_v ?_))
    refine AW.aload_n (z := 0) (am_r 76 rfl) rfl rfl ?_
    refine AW.iload_n (z := 1) (am_r 77 rfl) rfl rfl ?_
    refine obind_e hs (fun r27 hg29 hs => ?_)
    refine AW.callV (N := MX10_shelve) (As := [.int (p1)]) (S := []) (L0 := [some (.ref (b)), some (.int (p1))]) (b := b) (am_r 78 rfl) rfl ovX10_shelve q1733 rfl rfl mb_ob rfl rfl rfl rfl (dX10_shelve hA  hg29 (cQ_v ?_))
    have hr := (Option.some.inj hs).symm
    subst hr
    exact AW.vret (am_r 79 rfl) rfl hQ
noncomputable def sX10_age_j72 (S : Mem) (p1 : Int32) (y0 : Int32) : Option Mem :=
  if y0 = (3 : Int32) then
    obind (sX10_shelve S p1) fun r30 =>
    sX10_age_j82 r30 p1 y0
  else
    sX10_age_j82 S p1 y0
set_option maxRecDepth 100000 in
theorem dX10_age_j72 {g : AG} {h0 : AH} {b : Nat} {S : Mem} {Q : AO → AH → Prop} {p1 : Int32} {y0 : Int32} (hA : gB g ≤ b)   {r : Mem} (hs : sX10_age_j72 S p1 y0 = some r) (hQ : Q (.ok none) (mb h0 b r)) : AW g MX10_age 72 [some (.ref (b)), some (.int (p1)), some (.int (y0)), none] [] (mb h0 b S) Q := by
  unfold sX10_age_j72 at hs
  refine AW.iload_n (z := 2) (am_r 47 rfl) rfl rfl ?_
  refine AW.iconst (am_r 48 rfl) rfl ci_3 ?_
  refine AW.icmp_ne (tg := 82) (am_r 49 rfl) rfl rfl (fun hc14 => ?_) (fun hc14 => ?_)
  · replace hs := (if_neg hc14).symm.trans hs
    exact dX10_age_j82 hA   hs hQ
  · replace hs := (if_pos hc14).symm.trans hs
    refine AW.aload_n (z := 0) (am_r 50 rfl) rfl rfl ?_
    refine AW.iload_n (z := 1) (am_r 51 rfl) rfl rfl ?_
    refine obind_e hs (fun r30 hg32 hs => ?_)
    refine AW.callV (N := MX10_shelve) (As := [.int (p1)]) (S := []) (L0 := [some (.ref (b)), some (.int (p1))]) (b := b) (am_r 52 rfl) rfl ovX10_shelve q1733 rfl rfl mb_ob rfl rfl rfl rfl (dX10_shelve hA  hg32 (cQ_v ?_))
    exact dX10_age_j82 hA   hs hQ
noncomputable def sX10_age (S : Mem) (p1 : Int32) : Option Mem :=
  obind (sX10_of S p1 (1 : Int32)) fun r1 =>
  if r1 = 0 then
    some (S)
  else
    if r1 = (2 : Int32) then
      obind (sX10_of S p1 (0 : Int32)) fun r36 =>
      olet (sX10_min S (1 : Int32) r36) fun v41 =>
      obind (sX10_add S p1 (0 : Int32) (-v41)) fun r42 =>
      obind (sX10_add r42 p1 (12 : Int32) v41) fun r45 =>
      some (r45)
    else
      obind (sX10_add S p1 (2 : Int32) (-1 : Int32)) fun r6 =>
      obind (sX10_of r6 p1 (2 : Int32)) fun r9 =>
      if r9 ≤ 0 then
        if r1 = (1 : Int32) then
          obind (sX10_finish r6 p1) fun r33 =>
          sX10_age_j72 r33 p1 r1
        else
          sX10_age_j72 r6 p1 r1
      else
        some (r6)
set_option maxRecDepth 100000 in
theorem dX10_age {g : AG} {h0 : AH} {b : Nat} {S : Mem} {Q : AO → AH → Prop} {p1 : Int32} (hA : gB g ≤ b)  {r : Mem} (hs : sX10_age S p1 = some r) (hQ : Q (.ok none) (mb h0 b r)) : AW g MX10_age 0 [some (.ref (b)), some (.int (p1)), none, none] [] (mb h0 b S) Q := by
  unfold sX10_age at hs
  refine AW.aload_n (z := 0) (am_r 0 rfl) rfl rfl ?_
  refine AW.iload_n (z := 1) (am_r 1 rfl) rfl rfl ?_
  refine AW.iconst (am_r 2 rfl) rfl ci_1 ?_
  refine obind_e hs (fun r1 hg3 hs => ?_)
  refine AW.callV (N := MX10_of) (As := [.int (p1), .int ((1 : Int32))]) (S := []) (L0 := [some (.ref (b)), some (.int (p1)), some (.int ((1 : Int32)))]) (b := b) (am_r 3 rfl) rfl ovX10_of q1615 rfl rfl mb_ob rfl rfl rfl rfl (dX10_of hA  hg3 (cQ_r ?_))
  refine AW.istore_n (L' := [some (.ref (b)), some (.int (p1)), some (.int (r1)), none]) (z := 2) (am_r 4 rfl) rfl (Nat.le_of_ble_eq_true rfl) rfl ?_
  refine AW.iload_n (z := 2) (am_r 5 rfl) rfl rfl ?_
  refine AW.if_ne (tg := 12) (am_r 6 rfl) rfl rfl (fun hc4 => ?_) (fun hc4 => ?_)
  · replace hs := (if_neg hc4).symm.trans hs
    refine AW.iload_n (z := 2) (am_r 8 rfl) rfl rfl ?_
    refine AW.iconst (am_r 9 rfl) rfl ci_2 ?_
    refine AW.icmp_ne (tg := 45) (am_r 10 rfl) rfl rfl (fun hc5 => ?_) (fun hc5 => ?_)
    · replace hs := (if_neg hc5).symm.trans hs
      refine AW.aload_n (z := 0) (am_r 30 rfl) rfl rfl ?_
      refine AW.iload_n (z := 1) (am_r 31 rfl) rfl rfl ?_
      refine AW.iconst (am_r 32 rfl) rfl ci_2 ?_
      refine AW.iconst (am_r 33 rfl) rfl ci_m1 ?_
      refine obind_e hs (fun r6 hg8 hs => ?_)
      refine AW.callV (N := MX10_add) (As := [.int (p1), .int ((2 : Int32)), .int ((-1 : Int32))]) (S := []) (L0 := [some (.ref (b)), some (.int (p1)), some (.int ((2 : Int32))), some (.int ((-1 : Int32)))]) (b := b) (am_r 34 rfl) rfl ovX10_add q1647 rfl rfl mb_ob rfl rfl rfl rfl (dX10_add hA  hg8 (cQ_v ?_))
      refine AW.aload_n (z := 0) (am_r 35 rfl) rfl rfl ?_
      refine AW.iload_n (z := 1) (am_r 36 rfl) rfl rfl ?_
      refine AW.iconst (am_r 37 rfl) rfl ci_2 ?_
      refine obind_e hs (fun r9 hg11 hs => ?_)
      refine AW.callV (N := MX10_of) (As := [.int (p1), .int ((2 : Int32))]) (S := []) (L0 := [some (.ref (b)), some (.int (p1)), some (.int ((2 : Int32)))]) (b := b) (am_r 38 rfl) rfl ovX10_of q1615 rfl rfl mb_ob rfl rfl rfl rfl (dX10_of hA  hg11 (cQ_r ?_))
      refine AW.if_le (tg := 62) (am_r 39 rfl) rfl rfl (fun hc12 => ?_) (fun hc12 => ?_)
      · replace hs := (if_pos hc12).symm.trans hs
        refine AW.iload_n (z := 2) (am_r 41 rfl) rfl rfl ?_
        refine AW.iconst (am_r 42 rfl) rfl ci_1 ?_
        refine AW.icmp_ne (tg := 72) (am_r 43 rfl) rfl rfl (fun hc13 => ?_) (fun hc13 => ?_)
        · replace hs := (if_neg hc13).symm.trans hs
          exact dX10_age_j72 hA   hs hQ
        · replace hs := (if_pos hc13).symm.trans hs
          refine AW.aload_n (z := 0) (am_r 44 rfl) rfl rfl ?_
          refine AW.iload_n (z := 1) (am_r 45 rfl) rfl rfl ?_
          refine obind_e hs (fun r33 hg35 hs => ?_)
          refine AW.callV (N := MX10_finish) (As := [.int (p1)]) (S := []) (L0 := [some (.ref (b)), some (.int (p1)), none, none]) (b := b) (am_r 46 rfl) rfl ovX10_finish q1721 rfl rfl mb_ob rfl rfl rfl rfl (dX10_finish hA  hg35 (cQ_v ?_))
          exact dX10_age_j72 hA   hs hQ
      · replace hs := (if_neg hc12).symm.trans hs
        have hr := (Option.some.inj hs).symm
        subst hr
        exact AW.vret (am_r 40 rfl) rfl hQ
    · replace hs := (if_pos hc5).symm.trans hs
      refine AW.iconst (am_r 11 rfl) rfl ci_1 ?_
      refine AW.aload_n (z := 0) (am_r 12 rfl) rfl rfl ?_
      refine AW.iload_n (z := 1) (am_r 13 rfl) rfl rfl ?_
      refine AW.iconst (am_r 14 rfl) rfl ci_0 ?_
      refine obind_e hs (fun r36 hg38 hs => ?_)
      refine AW.callV (N := MX10_of) (As := [.int (p1), .int ((0 : Int32))]) (S := [(.int ((1 : Int32)))]) (L0 := [some (.ref (b)), some (.int (p1)), some (.int ((0 : Int32)))]) (b := b) (am_r 15 rfl) rfl ovX10_of q1615 rfl rfl mb_ob rfl rfl rfl rfl (dX10_of hA  hg38 (cQ_r ?_))
      refine AW.callS (N := MX10_min) (As := [.int ((1 : Int32)), .int (r36)]) (S := []) (L0 := [some (.int ((1 : Int32))), some (.int (r36))]) (am_r 16 rfl) rfl osX10_min q1718 rfl rfl rfl rfl rfl (dX10_min hA  rfl (cQ_r ?_))
      refine olet_e (P := fun y => AW g MX10_age 27 [some (.ref (b)), some (.int (p1)), some (.int (r1)), none] [(.int (y))] (mb h0 b S) Q) hs (fun v41 hs => ?_)
      refine AW.istore_n (L' := [some (.ref (b)), some (.int (p1)), some (.int (r1)), some (.int (v41))]) (z := 3) (am_r 17 rfl) rfl (Nat.le_of_ble_eq_true rfl) rfl ?_
      refine AW.aload_n (z := 0) (am_r 18 rfl) rfl rfl ?_
      refine AW.iload_n (z := 1) (am_r 19 rfl) rfl rfl ?_
      refine AW.iconst (am_r 20 rfl) rfl ci_0 ?_
      refine AW.iload_n (z := 3) (am_r 21 rfl) rfl rfl ?_
      refine AW.ineg (am_r 22 rfl) rfl ?_
      refine obind_e hs (fun r42 hg44 hs => ?_)
      refine AW.callV (N := MX10_add) (As := [.int (p1), .int ((0 : Int32)), .int (-v41)]) (S := []) (L0 := [some (.ref (b)), some (.int (p1)), some (.int ((0 : Int32))), some (.int (-v41))]) (b := b) (am_r 23 rfl) rfl ovX10_add q1647 rfl rfl mb_ob rfl rfl rfl rfl (dX10_add hA  hg44 (cQ_v ?_))
      refine AW.aload_n (z := 0) (am_r 24 rfl) rfl rfl ?_
      refine AW.iload_n (z := 1) (am_r 25 rfl) rfl rfl ?_
      refine AW.bipush (am_r 26 rfl) rfl cb_12 ?_
      refine AW.iload_n (z := 3) (am_r 27 rfl) rfl rfl ?_
      refine obind_e hs (fun r45 hg47 hs => ?_)
      refine AW.callV (N := MX10_add) (As := [.int (p1), .int ((12 : Int32)), .int (v41)]) (S := []) (L0 := [some (.ref (b)), some (.int (p1)), some (.int ((12 : Int32))), some (.int (v41))]) (b := b) (am_r 28 rfl) rfl ovX10_add q1647 rfl rfl mb_ob rfl rfl rfl rfl (dX10_add hA  hg47 (cQ_v ?_))
      have hr := (Option.some.inj hs).symm
      subst hr
      exact AW.vret (am_r 29 rfl) rfl hQ
  · replace hs := (if_pos hc4).symm.trans hs
    have hr := (Option.some.inj hs).symm
    subst hr
    exact AW.vret (am_r 7 rfl) rfl hQ
noncomputable def sX10_nextWaiting_l4_step (S : Mem)  (a : (Int32 × Int32)) : Option ((Int32 × Int32) ⊕ Int32) :=
  if (gi S 5 (4 : Int32).toNatClampNeg 0) ≤ a.2 then
    oinr (
    some (a.1))
  else
    obind (sX10_of S a.2 (1 : Int32)) fun r4 =>
    if r4 = (2 : Int32) then
      oif (inb a.2 16) (
      if (gi S 7 a.2.toNatClampNeg 0) = 0 then
        if a.1 = (-1 : Int32) then
          some (.inl (a.2, a.2 + (1 : Int32)))
        else
          obind (sX10_of S a.2 (11 : Int32)) fun r11 =>
          obind (sX10_of S a.1 (11 : Int32)) fun r14 =>
          if r14 ≤ r11 then
            some (.inl (a.1, a.2 + (1 : Int32)))
          else
            some (.inl (a.2, a.2 + (1 : Int32)))
      else
        some (.inl (a.1, a.2 + (1 : Int32))))
    else
      some (.inl (a.1, a.2 + (1 : Int32)))
noncomputable def sX10_nextWaiting_l4 (S : Mem)  (a : (Int32 × Int32)) : Option Int32 := itw (sX10_nextWaiting_l4_step S ) a
set_option maxRecDepth 100000 in
theorem dX10_nextWaiting_l4 {g : AG} {h0 : AH} {b : Nat} {S : Mem} {Q : AO → AH → Prop}  (hA : gB g ≤ b)  {a : (Int32 × Int32)}  {r : Int32} (hs : sX10_nextWaiting_l4 S  a = some r) (hQ : Q (.ok (some (.int r))) (mb h0 b S)) : AW g MX10_nextWaiting 4 [some (.ref (b)), some (.int (a.1)), some (.int (a.2))] [] (mb h0 b S) Q := by
  refine itw_e (P := fun a => AW g MX10_nextWaiting 4 [some (.ref (b)), some (.int (a.1)), some (.int (a.2))] [] (mb h0 b S) Q) (Post := fun r => Q (.ok (some (.int r))) (mb h0 b S)) (fun a r hs hc he  => ?_) hs hQ 
  unfold sX10_nextWaiting_l4_step at hs
  refine AW.iload_n (z := 2) (am_r 4 rfl) rfl rfl ?_
  refine AW.aload_n (z := 0) (am_r 5 rfl) rfl rfl ?_
  refine AW.getO (am_r 6 rfl) rfl klX10 (k := 5) (by omega) q1508 mb_ob rfl ?_
  refine AW.iconst (am_r 7 rfl) rfl ci_4 ?_
  refine AW.iald (am_r 8 rfl) rfl mb_a4 (vp_of_inb rfl) rfl ?_
  refine AW.icmp_ge (tg := 63) (am_r 9 rfl) rfl rfl (fun hc1 => ?_) (fun hc1 => ?_)
  · replace hs := (if_pos hc1).symm.trans hs
    refine oinr_e hs (fun z2 hz3 hs => ?_)
    have hQ := he _ hz3
    refine AW.iload_n (z := 1) (am_r 37 rfl) rfl rfl ?_
    have hr := (Option.some.inj hs).symm
    subst hr
    exact AW.iret (am_r 38 rfl) rfl hQ
  · replace hs := (if_neg hc1).symm.trans hs
    refine AW.aload_n (z := 0) (am_r 10 rfl) rfl rfl ?_
    refine AW.iload_n (z := 2) (am_r 11 rfl) rfl rfl ?_
    refine AW.iconst (am_r 12 rfl) rfl ci_1 ?_
    refine obind_e hs (fun r4 hg6 hs => ?_)
    refine AW.callV (N := MX10_of) (As := [.int (a.2), .int ((1 : Int32))]) (S := []) (L0 := [some (.ref (b)), some (.int (a.2)), some (.int ((1 : Int32)))]) (b := b) (am_r 13 rfl) rfl ovX10_of q1615 rfl rfl mb_ob rfl rfl rfl rfl (dX10_of hA  hg6 (cQ_r ?_))
    refine AW.iconst (am_r 14 rfl) rfl ci_2 ?_
    refine AW.icmp_ne (tg := 57) (am_r 15 rfl) rfl rfl (fun hc7 => ?_) (fun hc7 => ?_)
    · replace hs := (if_neg hc7).symm.trans hs
      refine AW.iinc (v := a.2 + (1 : Int32)) (L' := [some (.ref (b)), some (.int (a.1)), some (.int (a.2 + (1 : Int32)))]) (am_r 35 rfl) rfl (Nat.le_of_ble_eq_true rfl) rfl (congrArg (fun z => a.2 + z) ci_1) rfl ?_
      refine AW.goto (tg := 4) (am_r 36 rfl) rfl ?_
      have hr := (Option.some.inj hs).symm
      exact hc (a.1, a.2 + (1 : Int32)) hr 
    · replace hs := (if_pos hc7).symm.trans hs
      refine AW.aload_n (z := 0) (am_r 16 rfl) rfl rfl ?_
      refine AW.getO (am_r 17 rfl) rfl klX10 (k := 7) (by omega) q1510 mb_ob rfl ?_
      refine AW.iload_n (z := 2) (am_r 18 rfl) rfl rfl ?_
      refine oif_g hs (fun hg8 hs => ?_)
      refine AW.zald (am_r 19 rfl) rfl mb_a5 (vp_of_inb hg8) rfl ?_
      refine AW.if_ne (tg := 57) (am_r 20 rfl) rfl rfl (fun hc9 => ?_) (fun hc9 => ?_)
      · replace hs := (if_neg hc9).symm.trans hs
        refine AW.iinc (v := a.2 + (1 : Int32)) (L' := [some (.ref (b)), some (.int (a.1)), some (.int (a.2 + (1 : Int32)))]) (am_r 35 rfl) rfl (Nat.le_of_ble_eq_true rfl) rfl (congrArg (fun z => a.2 + z) ci_1) rfl ?_
        refine AW.goto (tg := 4) (am_r 36 rfl) rfl ?_
        have hr := (Option.some.inj hs).symm
        exact hc (a.1, a.2 + (1 : Int32)) hr 
      · replace hs := (if_pos hc9).symm.trans hs
        refine AW.iload_n (z := 1) (am_r 21 rfl) rfl rfl ?_
        refine AW.iconst (am_r 22 rfl) rfl ci_m1 ?_
        refine AW.icmp_eq (tg := 55) (am_r 23 rfl) rfl rfl (fun hc10 => ?_) (fun hc10 => ?_)
        · replace hs := (if_pos hc10).symm.trans hs
          refine AW.iload_n (z := 2) (am_r 33 rfl) rfl rfl ?_
          refine AW.istore_n (L' := [some (.ref (b)), some (.int (a.2)), some (.int (a.2))]) (z := 1) (am_r 34 rfl) rfl (Nat.le_of_ble_eq_true rfl) rfl ?_
          refine AW.iinc (v := a.2 + (1 : Int32)) (L' := [some (.ref (b)), some (.int (a.2)), some (.int (a.2 + (1 : Int32)))]) (am_r 35 rfl) rfl (Nat.le_of_ble_eq_true rfl) rfl (congrArg (fun z => a.2 + z) ci_1) rfl ?_
          refine AW.goto (tg := 4) (am_r 36 rfl) rfl ?_
          have hr := (Option.some.inj hs).symm
          exact hc (a.2, a.2 + (1 : Int32)) hr 
        · replace hs := (if_neg hc10).symm.trans hs
          refine AW.aload_n (z := 0) (am_r 24 rfl) rfl rfl ?_
          refine AW.iload_n (z := 2) (am_r 25 rfl) rfl rfl ?_
          refine AW.bipush (am_r 26 rfl) rfl cb_11 ?_
          refine obind_e hs (fun r11 hg13 hs => ?_)
          refine AW.callV (N := MX10_of) (As := [.int (a.2), .int ((11 : Int32))]) (S := []) (L0 := [some (.ref (b)), some (.int (a.2)), some (.int ((11 : Int32)))]) (b := b) (am_r 27 rfl) rfl ovX10_of q1615 rfl rfl mb_ob rfl rfl rfl rfl (dX10_of hA  hg13 (cQ_r ?_))
          refine AW.aload_n (z := 0) (am_r 28 rfl) rfl rfl ?_
          refine AW.iload_n (z := 1) (am_r 29 rfl) rfl rfl ?_
          refine AW.bipush (am_r 30 rfl) rfl cb_11 ?_
          refine obind_e hs (fun r14 hg16 hs => ?_)
          refine AW.callV (N := MX10_of) (As := [.int (a.1), .int ((11 : Int32))]) (S := [(.int (r11))]) (L0 := [some (.ref (b)), some (.int (a.1)), some (.int ((11 : Int32)))]) (b := b) (am_r 31 rfl) rfl ovX10_of q1615 rfl rfl mb_ob rfl rfl rfl rfl (dX10_of hA  hg16 (cQ_r ?_))
          refine AW.icmp_ge (tg := 57) (am_r 32 rfl) rfl rfl (fun hc17 => ?_) (fun hc17 => ?_)
          · replace hs := (if_pos hc17).symm.trans hs
            refine AW.iinc (v := a.2 + (1 : Int32)) (L' := [some (.ref (b)), some (.int (a.1)), some (.int (a.2 + (1 : Int32)))]) (am_r 35 rfl) rfl (Nat.le_of_ble_eq_true rfl) rfl (congrArg (fun z => a.2 + z) ci_1) rfl ?_
            refine AW.goto (tg := 4) (am_r 36 rfl) rfl ?_
            have hr := (Option.some.inj hs).symm
            exact hc (a.1, a.2 + (1 : Int32)) hr 
          · replace hs := (if_neg hc17).symm.trans hs
            refine AW.iload_n (z := 2) (am_r 33 rfl) rfl rfl ?_
            refine AW.istore_n (L' := [some (.ref (b)), some (.int (a.2)), some (.int (a.2))]) (z := 1) (am_r 34 rfl) rfl (Nat.le_of_ble_eq_true rfl) rfl ?_
            refine AW.iinc (v := a.2 + (1 : Int32)) (L' := [some (.ref (b)), some (.int (a.2)), some (.int (a.2 + (1 : Int32)))]) (am_r 35 rfl) rfl (Nat.le_of_ble_eq_true rfl) rfl (congrArg (fun z => a.2 + z) ci_1) rfl ?_
            refine AW.goto (tg := 4) (am_r 36 rfl) rfl ?_
            have hr := (Option.some.inj hs).symm
            exact hc (a.2, a.2 + (1 : Int32)) hr 
noncomputable def sX10_nextWaiting (S : Mem)  : Option Int32 :=
  sX10_nextWaiting_l4 S  ((-1 : Int32), (0 : Int32))
set_option maxRecDepth 100000 in
theorem dX10_nextWaiting {g : AG} {h0 : AH} {b : Nat} {S : Mem} {Q : AO → AH → Prop}  (hA : gB g ≤ b)  {r : Int32} (hs : sX10_nextWaiting S  = some r) (hQ : Q (.ok (some (.int r))) (mb h0 b S)) : AW g MX10_nextWaiting 0 [some (.ref (b)), none, none] [] (mb h0 b S) Q := by
  unfold sX10_nextWaiting at hs
  refine AW.iconst (am_r 0 rfl) rfl ci_m1 ?_
  refine AW.istore_n (L' := [some (.ref (b)), some (.int ((-1 : Int32))), none]) (z := 1) (am_r 1 rfl) rfl (Nat.le_of_ble_eq_true rfl) rfl ?_
  refine AW.iconst (am_r 2 rfl) rfl ci_0 ?_
  refine AW.istore_n (L' := [some (.ref (b)), some (.int ((-1 : Int32))), some (.int ((0 : Int32)))]) (z := 2) (am_r 3 rfl) rfl (Nat.le_of_ble_eq_true rfl) rfl ?_
  exact dX10_nextWaiting_l4 hA   hs hQ
noncomputable def sX10_givePresses_l26_step   (a : (Int32 × Mem)) : Option ((Int32 × Mem) ⊕ Mem) :=
  if a.1 = (-1 : Int32) then
    oinr (
    some (a.2))
  else
    oif (inb a.1 16) (
    olet (si a.2 7 a.1.toNatClampNeg 0 ((1 : Int32))) fun S11 =>
    obind (sX10_bestPress S11 a.1 (1 : Int32)) fun r12 =>
    if r12 = (-1 : Int32) then
      obind (sX10_nextWaiting S11 ) fun r37 =>
      some (.inl (r37, S11))
    else
      obind (sX10_of S11 a.1 (5 : Int32)) fun r16 =>
      obind (sX10_of S11 a.1 (0 : Int32)) fun r19 =>
      obind (sX10_of S11 a.1 (12 : Int32)) fun r22 =>
      obind (sX10_note S11 a.1 (1 : Int32) r16 (r19 + r22)) fun r25 =>
      oif (inb ((352 : Int32) + r12) 13412) (
      oif (inb ((352 : Int32) + r12) 13412) (
      olet (si r25 0 ((352 : Int32) + r12).toNatClampNeg 0 ((gi r25 0 ((352 : Int32) + r12).toNatClampNeg 0) + (1 : Int32))) fun S30 =>
      obind (sX10_cure S30 a.1 r12) fun r31 =>
      obind (sX10_nextWaiting r31 ) fun r34 =>
      some (.inl (r34, r31)))))
noncomputable def sX10_givePresses_l26   (a : (Int32 × Mem)) : Option Mem := itw (sX10_givePresses_l26_step  ) a
set_option maxRecDepth 100000 in
theorem dX10_givePresses_l26 {g : AG} {h0 : AH} {b : Nat} {Q : AO → AH → Prop}  (hA : gB g ≤ b)  {a : (Int32 × Mem)}  {r : Mem} (hs : sX10_givePresses_l26   a = some r) (hQ : Q (.ok none) (mb h0 b r)) : AW g MX10_givePresses 26 [some (.ref (b)), some (.int (a.1)), none] [] (mb h0 b a.2) Q := by
  refine itw_e (P := fun a => AW g MX10_givePresses 26 [some (.ref (b)), some (.int (a.1)), none] [] (mb h0 b a.2) Q) (Post := fun r => Q (.ok none) (mb h0 b r)) (fun a r hs hc he  => ?_) hs hQ 
  unfold sX10_givePresses_l26_step at hs
  refine AW.iload_n (z := 1) (am_r 15 rfl) rfl rfl ?_
  refine AW.iconst (am_r 16 rfl) rfl ci_m1 ?_
  refine AW.icmp_eq (tg := 107) (am_r 17 rfl) rfl rfl (fun hc7 => ?_) (fun hc7 => ?_)
  · replace hs := (if_pos hc7).symm.trans hs
    refine oinr_e hs (fun z8 hz9 hs => ?_)
    have hQ := he _ hz9
    have hr := (Option.some.inj hs).symm
    subst hr
    exact AW.vret (am_r 67 rfl) rfl hQ
  · replace hs := (if_neg hc7).symm.trans hs
    refine AW.aload_n (z := 0) (am_r 18 rfl) rfl rfl ?_
    refine AW.getO (am_r 19 rfl) rfl klX10 (k := 7) (by omega) q1510 mb_ob rfl ?_
    refine AW.iload_n (z := 1) (am_r 20 rfl) rfl rfl ?_
    refine AW.iconst (am_r 21 rfl) rfl ci_1 ?_
    refine oif_g hs (fun hg10 hs => ?_)
    refine AW.zast (am_r 22 rfl) rfl mb_a5 (Nat.le_trans hA (by omega)) (vp_of_inb hg10) (nar_b (Or.inr rfl)) ?_
    rw [show _ = _ from mbp_a5]
    refine olet_e (P := fun y => AW g MX10_givePresses 38 [some (.ref (b)), some (.int (a.1)), none] [] (mb h0 b y) Q) hs (fun S11 hs => ?_)
    refine AW.aload_n (z := 0) (am_r 23 rfl) rfl rfl ?_
    refine AW.iload_n (z := 1) (am_r 24 rfl) rfl rfl ?_
    refine AW.iconst (am_r 25 rfl) rfl ci_1 ?_
    refine obind_e hs (fun r12 hg14 hs => ?_)
    refine AW.callV (N := MX10_bestPress) (As := [.int (a.1), .int ((1 : Int32))]) (S := []) (L0 := [some (.ref (b)), some (.int (a.1)), some (.int ((1 : Int32))), none, none]) (b := b) (am_r 26 rfl) rfl ovX10_bestPress q1752 rfl rfl mb_ob rfl rfl rfl rfl (dX10_bestPress hA  hg14 (cQ_r ?_))
    refine AW.istore_n (L' := [some (.ref (b)), some (.int (a.1)), some (.int (r12))]) (z := 2) (am_r 27 rfl) rfl (Nat.le_of_ble_eq_true rfl) rfl ?_
    refine AW.iload_n (z := 2) (am_r 28 rfl) rfl rfl ?_
    refine AW.iconst (am_r 29 rfl) rfl ci_m1 ?_
    refine AW.icmp_ne (tg := 53) (am_r 30 rfl) rfl rfl (fun hc15 => ?_) (fun hc15 => ?_)
    · replace hs := (if_neg hc15).symm.trans hs
      refine AW.aload_n (z := 0) (am_r 32 rfl) rfl rfl ?_
      refine AW.iload_n (z := 1) (am_r 33 rfl) rfl rfl ?_
      refine AW.iconst (am_r 34 rfl) rfl ci_1 ?_
      refine AW.aload_n (z := 0) (am_r 35 rfl) rfl rfl ?_
      refine AW.iload_n (z := 1) (am_r 36 rfl) rfl rfl ?_
      refine AW.iconst (am_r 37 rfl) rfl ci_5 ?_
      refine obind_e hs (fun r16 hg18 hs => ?_)
      refine AW.callV (N := MX10_of) (As := [.int (a.1), .int ((5 : Int32))]) (S := [(.int ((1 : Int32))), (.int (a.1)), (.ref (b))]) (L0 := [some (.ref (b)), some (.int (a.1)), some (.int ((5 : Int32)))]) (b := b) (am_r 38 rfl) rfl ovX10_of q1615 rfl rfl mb_ob rfl rfl rfl rfl (dX10_of hA  hg18 (cQ_r ?_))
      refine AW.aload_n (z := 0) (am_r 39 rfl) rfl rfl ?_
      refine AW.iload_n (z := 1) (am_r 40 rfl) rfl rfl ?_
      refine AW.iconst (am_r 41 rfl) rfl ci_0 ?_
      refine obind_e hs (fun r19 hg21 hs => ?_)
      refine AW.callV (N := MX10_of) (As := [.int (a.1), .int ((0 : Int32))]) (S := [(.int (r16)), (.int ((1 : Int32))), (.int (a.1)), (.ref (b))]) (L0 := [some (.ref (b)), some (.int (a.1)), some (.int ((0 : Int32)))]) (b := b) (am_r 42 rfl) rfl ovX10_of q1615 rfl rfl mb_ob rfl rfl rfl rfl (dX10_of hA  hg21 (cQ_r ?_))
      refine AW.aload_n (z := 0) (am_r 43 rfl) rfl rfl ?_
      refine AW.iload_n (z := 1) (am_r 44 rfl) rfl rfl ?_
      refine AW.bipush (am_r 45 rfl) rfl cb_12 ?_
      refine obind_e hs (fun r22 hg24 hs => ?_)
      refine AW.callV (N := MX10_of) (As := [.int (a.1), .int ((12 : Int32))]) (S := [(.int (r19)), (.int (r16)), (.int ((1 : Int32))), (.int (a.1)), (.ref (b))]) (L0 := [some (.ref (b)), some (.int (a.1)), some (.int ((12 : Int32)))]) (b := b) (am_r 46 rfl) rfl ovX10_of q1615 rfl rfl mb_ob rfl rfl rfl rfl (dX10_of hA  hg24 (cQ_r ?_))
      refine AW.iadd (am_r 47 rfl) rfl ?_
      refine obind_e hs (fun r25 hg27 hs => ?_)
      refine AW.callV (N := MX10_note) (As := [.int (a.1), .int ((1 : Int32)), .int (r16), .int (r19 + r22)]) (S := []) (L0 := [some (.ref (b)), some (.int (a.1)), some (.int ((1 : Int32))), some (.int (r16)), some (.int (r19 + r22)), none, none]) (b := b) (am_r 48 rfl) rfl ovX10_note q1729 rfl rfl mb_ob rfl rfl rfl rfl (dX10_note hA  hg27 (cQ_v ?_))
      refine AW.aload_n (z := 0) (am_r 49 rfl) rfl rfl ?_
      refine AW.getO (am_r 50 rfl) rfl klX10 (k := 0) (by omega) q1503 mb_ob rfl ?_
      refine AW.sipush (am_r 51 rfl) rfl cs_352 ?_
      refine AW.iload_n (z := 2) (am_r 52 rfl) rfl rfl ?_
      refine AW.iadd (am_r 53 rfl) rfl ?_
      refine AW.dup2 (am_r 54 rfl) rfl rfl rfl ?_
      refine oif_g hs (fun hg28 hs => ?_)
      refine AW.iald (am_r 55 rfl) rfl mb_a1 (vp_of_inb hg28) rfl ?_
      refine AW.iconst (am_r 56 rfl) rfl ci_1 ?_
      refine AW.iadd (am_r 57 rfl) rfl ?_
      refine oif_g hs (fun hg29 hs => ?_)
      refine AW.iast (am_r 58 rfl) rfl mb_a1 (Nat.le_trans hA (by omega)) (vp_of_inb hg29) ?_
      rw [show _ = _ from mbp_a1]
      refine olet_e (P := fun y => AW g MX10_givePresses 93 [some (.ref (b)), some (.int (a.1)), some (.int (r12))] [] (mb h0 b y) Q) hs (fun S30 hs => ?_)
      refine AW.aload_n (z := 0) (am_r 59 rfl) rfl rfl ?_
      refine AW.iload_n (z := 1) (am_r 60 rfl) rfl rfl ?_
      refine AW.iload_n (z := 2) (am_r 61 rfl) rfl rfl ?_
      refine obind_e hs (fun r31 hg33 hs => ?_)
      refine AW.callV (N := MX10_cure) (As := [.int (a.1), .int (r12)]) (S := []) (L0 := [some (.ref (b)), some (.int (a.1)), some (.int (r12))]) (b := b) (am_r 62 rfl) rfl ovX10_cure q1737 rfl rfl mb_ob rfl rfl rfl rfl (dX10_cure hA  hg33 (cQ_v ?_))
      refine AW.aload_n (z := 0) (am_r 63 rfl) rfl rfl ?_
      refine obind_e hs (fun r34 hg36 hs => ?_)
      refine AW.callV (N := MX10_nextWaiting) (As := []) (S := []) (L0 := [some (.ref (b)), none, none]) (b := b) (am_r 64 rfl) rfl ovX10_nextWaiting q1748 rfl rfl mb_ob rfl rfl rfl rfl (dX10_nextWaiting hA  hg36 (cQ_r ?_))
      refine AW.istore_n (L' := [some (.ref (b)), some (.int (r34)), some (.int (r12))]) (z := 1) (am_r 65 rfl) rfl (Nat.le_of_ble_eq_true rfl) rfl ?_
      refine AW.goto (tg := 26) (am_r 66 rfl) rfl ?_
      refine AW.lessL (L' := [some (.ref (b)), some (.int (r34)), none]) ⟨rfl, rfl, trivial⟩ ?_
      have hr := (Option.some.inj hs).symm
      exact hc (r34, r31) hr 
    · replace hs := (if_pos hc15).symm.trans hs
      refine AW.goto (tg := 99) (am_r 31 rfl) rfl ?_
      refine AW.aload_n (z := 0) (am_r 63 rfl) rfl rfl ?_
      refine obind_e hs (fun r37 hg39 hs => ?_)
      refine AW.callV (N := MX10_nextWaiting) (As := []) (S := []) (L0 := [some (.ref (b)), none, none]) (b := b) (am_r 64 rfl) rfl ovX10_nextWaiting q1748 rfl rfl mb_ob rfl rfl rfl rfl (dX10_nextWaiting hA  hg39 (cQ_r ?_))
      refine AW.istore_n (L' := [some (.ref (b)), some (.int (r37)), some (.int (r12))]) (z := 1) (am_r 65 rfl) rfl (Nat.le_of_ble_eq_true rfl) rfl ?_
      refine AW.goto (tg := 26) (am_r 66 rfl) rfl ?_
      refine AW.lessL (L' := [some (.ref (b)), some (.int (r37)), none]) ⟨rfl, rfl, trivial⟩ ?_
      have hr := (Option.some.inj hs).symm
      exact hc (r37, S11) hr 
noncomputable def sX10_givePresses_l2_step   (a : (Int32 × Mem)) : Option ((Int32 × Mem) ⊕ Mem) :=
  if (16 : Int32) ≤ a.1 then
    oinr (
    obind (sX10_nextWaiting a.2 ) fun r4 =>
    sX10_givePresses_l26   (r4, a.2))
  else
    oif (inb a.1 16) (
    olet (si a.2 7 a.1.toNatClampNeg 0 ((0 : Int32))) fun S41 =>
    some (.inl (a.1 + (1 : Int32), S41)))
noncomputable def sX10_givePresses_l2   (a : (Int32 × Mem)) : Option Mem := itw (sX10_givePresses_l2_step  ) a
set_option maxRecDepth 100000 in
theorem dX10_givePresses_l2 {g : AG} {h0 : AH} {b : Nat} {Q : AO → AH → Prop}  (hA : gB g ≤ b)  {a : (Int32 × Mem)}  {r : Mem} (hs : sX10_givePresses_l2   a = some r) (hQ : Q (.ok none) (mb h0 b r)) : AW g MX10_givePresses 2 [some (.ref (b)), some (.int (a.1)), none] [] (mb h0 b a.2) Q := by
  refine itw_e (P := fun a => AW g MX10_givePresses 2 [some (.ref (b)), some (.int (a.1)), none] [] (mb h0 b a.2) Q) (Post := fun r => Q (.ok none) (mb h0 b r)) (fun a r hs hc he  => ?_) hs hQ 
  unfold sX10_givePresses_l2_step at hs
  refine AW.iload_n (z := 1) (am_r 2 rfl) rfl rfl ?_
  refine AW.bipush (am_r 3 rfl) rfl cb_16 ?_
  refine AW.icmp_ge (tg := 21) (am_r 4 rfl) rfl rfl (fun hc1 => ?_) (fun hc1 => ?_)
  · replace hs := (if_pos hc1).symm.trans hs
    refine oinr_e hs (fun z2 hz3 hs => ?_)
    have hQ := he _ hz3
    refine AW.aload_n (z := 0) (am_r 12 rfl) rfl rfl ?_
    refine obind_e hs (fun r4 hg6 hs => ?_)
    refine AW.callV (N := MX10_nextWaiting) (As := []) (S := []) (L0 := [some (.ref (b)), none, none]) (b := b) (am_r 13 rfl) rfl ovX10_nextWaiting q1748 rfl rfl mb_ob rfl rfl rfl rfl (dX10_nextWaiting hA  hg6 (cQ_r ?_))
    refine AW.istore_n (L' := [some (.ref (b)), some (.int (r4)), none]) (z := 1) (am_r 14 rfl) rfl (Nat.le_of_ble_eq_true rfl) rfl ?_
    exact dX10_givePresses_l26 hA   hs hQ
  · replace hs := (if_neg hc1).symm.trans hs
    refine AW.aload_n (z := 0) (am_r 5 rfl) rfl rfl ?_
    refine AW.getO (am_r 6 rfl) rfl klX10 (k := 7) (by omega) q1510 mb_ob rfl ?_
    refine AW.iload_n (z := 1) (am_r 7 rfl) rfl rfl ?_
    refine AW.iconst (am_r 8 rfl) rfl ci_0 ?_
    refine oif_g hs (fun hg40 hs => ?_)
    refine AW.zast (am_r 9 rfl) rfl mb_a5 (Nat.le_trans hA (by omega)) (vp_of_inb hg40) (nar_b (Or.inl rfl)) ?_
    rw [show _ = _ from mbp_a5]
    refine olet_e (P := fun y => AW g MX10_givePresses 15 [some (.ref (b)), some (.int (a.1)), none] [] (mb h0 b y) Q) hs (fun S41 hs => ?_)
    refine AW.iinc (v := a.1 + (1 : Int32)) (L' := [some (.ref (b)), some (.int (a.1 + (1 : Int32))), none]) (am_r 10 rfl) rfl (Nat.le_of_ble_eq_true rfl) rfl (congrArg (fun z => a.1 + z) ci_1) rfl ?_
    refine AW.goto (tg := 2) (am_r 11 rfl) rfl ?_
    have hr := (Option.some.inj hs).symm
    exact hc (a.1 + (1 : Int32), S41) hr 
noncomputable def sX10_givePresses (S : Mem)  : Option Mem :=
  sX10_givePresses_l2   ((0 : Int32), S)
set_option maxRecDepth 100000 in
theorem dX10_givePresses {g : AG} {h0 : AH} {b : Nat} {S : Mem} {Q : AO → AH → Prop}  (hA : gB g ≤ b)  {r : Mem} (hs : sX10_givePresses S  = some r) (hQ : Q (.ok none) (mb h0 b r)) : AW g MX10_givePresses 0 [some (.ref (b)), none, none] [] (mb h0 b S) Q := by
  unfold sX10_givePresses at hs
  refine AW.iconst (am_r 0 rfl) rfl ci_0 ?_
  refine AW.istore_n (L' := [some (.ref (b)), some (.int ((0 : Int32))), none]) (z := 1) (am_r 1 rfl) rfl (Nat.le_of_ble_eq_true rfl) rfl ?_
  exact dX10_givePresses_l2 hA   hs hQ
noncomputable def sX10_lendOut_j66 (S : Mem) (p1 : Int32) (y0 : Int32) : Option Mem :=
  if y0 = 0 then
    some (S)
  else
    obind (sX10_set S p1 (1 : Int32) (4 : Int32)) fun r6 =>
    obind (sX10_of r6 p1 (10 : Int32)) fun r9 =>
    obind (sX10_set r6 p1 (2 : Int32) r9) fun r12 =>
    olet (si r12 0 (2 : Int32).toNatClampNeg 0 ((gi r12 0 (2 : Int32).toNatClampNeg 0) + (1 : Int32))) fun S15 =>
    obind (sX10_of S15 p1 (8 : Int32)) fun r16 =>
    olet (si S15 0 (3 : Int32).toNatClampNeg 0 ((gi S15 0 (3 : Int32).toNatClampNeg 0) + ((gi S15 0 (0 : Int32).toNatClampNeg 0) - r16))) fun S19 =>
    obind (sX10_set S19 p1 (8 : Int32) (-1 : Int32)) fun r20 =>
    some (r20)
set_option maxRecDepth 100000 in
theorem dX10_lendOut_j66 {g : AG} {h0 : AH} {b : Nat} {S : Mem} {Q : AO → AH → Prop} {p1 : Int32} {y0 : Int32} (hA : gB g ≤ b)  (hk0 : y0 = 0 ∨ y0 = 1) {r : Mem} (hs : sX10_lendOut_j66 S p1 y0 = some r) (hQ : Q (.ok none) (mb h0 b r)) : AW g MX10_lendOut 66 [some (.ref (b)), some (.int (p1)), none] [(.int (y0))] (mb h0 b S) Q := by
  unfold sX10_lendOut_j66 at hs
  refine AW.istore_n (L' := [some (.ref (b)), some (.int (p1)), some (.int (y0))]) (z := 2) (am_r 37 rfl) rfl (Nat.le_of_ble_eq_true rfl) rfl ?_
  refine AW.iload_n (z := 2) (am_r 38 rfl) rfl rfl ?_
  refine AW.if_ne (tg := 72) (am_r 39 rfl) rfl rfl (fun hc5 => ?_) (fun hc5 => ?_)
  · replace hs := (if_neg hc5).symm.trans hs
    refine AW.aload_n (z := 0) (am_r 41 rfl) rfl rfl ?_
    refine AW.iload_n (z := 1) (am_r 42 rfl) rfl rfl ?_
    refine AW.iconst (am_r 43 rfl) rfl ci_1 ?_
    refine AW.iconst (am_r 44 rfl) rfl ci_4 ?_
    refine obind_e hs (fun r6 hg8 hs => ?_)
    refine AW.callV (N := MX10_set) (As := [.int (p1), .int ((1 : Int32)), .int ((4 : Int32))]) (S := []) (L0 := [some (.ref (b)), some (.int (p1)), some (.int ((1 : Int32))), some (.int ((4 : Int32)))]) (b := b) (am_r 45 rfl) rfl ovX10_set q1623 rfl rfl mb_ob rfl rfl rfl rfl (dX10_set hA  hg8 (cQ_v ?_))
    refine AW.aload_n (z := 0) (am_r 46 rfl) rfl rfl ?_
    refine AW.iload_n (z := 1) (am_r 47 rfl) rfl rfl ?_
    refine AW.iconst (am_r 48 rfl) rfl ci_2 ?_
    refine AW.aload_n (z := 0) (am_r 49 rfl) rfl rfl ?_
    refine AW.iload_n (z := 1) (am_r 50 rfl) rfl rfl ?_
    refine AW.bipush (am_r 51 rfl) rfl cb_10 ?_
    refine obind_e hs (fun r9 hg11 hs => ?_)
    refine AW.callV (N := MX10_of) (As := [.int (p1), .int ((10 : Int32))]) (S := [(.int ((2 : Int32))), (.int (p1)), (.ref (b))]) (L0 := [some (.ref (b)), some (.int (p1)), some (.int ((10 : Int32)))]) (b := b) (am_r 52 rfl) rfl ovX10_of q1615 rfl rfl mb_ob rfl rfl rfl rfl (dX10_of hA  hg11 (cQ_r ?_))
    refine obind_e hs (fun r12 hg14 hs => ?_)
    refine AW.callV (N := MX10_set) (As := [.int (p1), .int ((2 : Int32)), .int (r9)]) (S := []) (L0 := [some (.ref (b)), some (.int (p1)), some (.int ((2 : Int32))), some (.int (r9))]) (b := b) (am_r 53 rfl) rfl ovX10_set q1623 rfl rfl mb_ob rfl rfl rfl rfl (dX10_set hA  hg14 (cQ_v ?_))
    refine AW.aload_n (z := 0) (am_r 54 rfl) rfl rfl ?_
    refine AW.getO (am_r 55 rfl) rfl klX10 (k := 0) (by omega) q1503 mb_ob rfl ?_
    refine AW.iconst (am_r 56 rfl) rfl ci_2 ?_
    refine AW.dup2 (am_r 57 rfl) rfl rfl rfl ?_
    refine AW.iald (am_r 58 rfl) rfl mb_a1 (vp_of_inb rfl) rfl ?_
    refine AW.iconst (am_r 59 rfl) rfl ci_1 ?_
    refine AW.iadd (am_r 60 rfl) rfl ?_
    refine AW.iast (am_r 61 rfl) rfl mb_a1 (Nat.le_trans hA (by omega)) (vp_of_inb rfl) ?_
    rw [show _ = _ from mbp_a1]
    refine olet_e (P := fun y => AW g MX10_lendOut 102 [some (.ref (b)), some (.int (p1)), some (.int (y0))] [] (mb h0 b y) Q) hs (fun S15 hs => ?_)
    refine AW.aload_n (z := 0) (am_r 62 rfl) rfl rfl ?_
    refine AW.getO (am_r 63 rfl) rfl klX10 (k := 0) (by omega) q1503 mb_ob rfl ?_
    refine AW.iconst (am_r 64 rfl) rfl ci_3 ?_
    refine AW.dup2 (am_r 65 rfl) rfl rfl rfl ?_
    refine AW.iald (am_r 66 rfl) rfl mb_a1 (vp_of_inb rfl) rfl ?_
    refine AW.aload_n (z := 0) (am_r 67 rfl) rfl rfl ?_
    refine AW.getO (am_r 68 rfl) rfl klX10 (k := 0) (by omega) q1503 mb_ob rfl ?_
    refine AW.iconst (am_r 69 rfl) rfl ci_0 ?_
    refine AW.iald (am_r 70 rfl) rfl mb_a1 (vp_of_inb rfl) rfl ?_
    refine AW.aload_n (z := 0) (am_r 71 rfl) rfl rfl ?_
    refine AW.iload_n (z := 1) (am_r 72 rfl) rfl rfl ?_
    refine AW.bipush (am_r 73 rfl) rfl cb_8 ?_
    refine obind_e hs (fun r16 hg18 hs => ?_)
    refine AW.callV (N := MX10_of) (As := [.int (p1), .int ((8 : Int32))]) (S := [(.int (gi S15 0 (0 : Int32).toNatClampNeg 0)), (.int (gi S15 0 (3 : Int32).toNatClampNeg 0)), (.int ((3 : Int32))), (.ref (b + 1))]) (L0 := [some (.ref (b)), some (.int (p1)), some (.int ((8 : Int32)))]) (b := b) (am_r 74 rfl) rfl ovX10_of q1615 rfl rfl mb_ob rfl rfl rfl rfl (dX10_of hA  hg18 (cQ_r ?_))
    refine AW.isub (am_r 75 rfl) rfl ?_
    refine AW.iadd (am_r 76 rfl) rfl ?_
    refine AW.iast (am_r 77 rfl) rfl mb_a1 (Nat.le_trans hA (by omega)) (vp_of_inb rfl) ?_
    rw [show _ = _ from mbp_a1]
    refine olet_e (P := fun y => AW g MX10_lendOut 125 [some (.ref (b)), some (.int (p1)), some (.int (y0))] [] (mb h0 b y) Q) hs (fun S19 hs => ?_)
    refine AW.aload_n (z := 0) (am_r 78 rfl) rfl rfl ?_
    refine AW.iload_n (z := 1) (am_r 79 rfl) rfl rfl ?_
    refine AW.bipush (am_r 80 rfl) rfl cb_8 ?_
    refine AW.iconst (am_r 81 rfl) rfl ci_m1 ?_
    refine obind_e hs (fun r20 hg22 hs => ?_)
    refine AW.callV (N := MX10_set) (As := [.int (p1), .int ((8 : Int32)), .int ((-1 : Int32))]) (S := []) (L0 := [some (.ref (b)), some (.int (p1)), some (.int ((8 : Int32))), some (.int ((-1 : Int32)))]) (b := b) (am_r 82 rfl) rfl ovX10_set q1623 rfl rfl mb_ob rfl rfl rfl rfl (dX10_set hA  hg22 (cQ_v ?_))
    have hr := (Option.some.inj hs).symm
    subst hr
    exact AW.vret (am_r 83 rfl) rfl hQ
  · replace hs := (if_pos hc5).symm.trans hs
    have hr := (Option.some.inj hs).symm
    subst hr
    exact AW.vret (am_r 40 rfl) rfl hQ
noncomputable def sX10_lendOut_j65 (S : Mem) (p1 : Int32)  : Option Mem :=
  sX10_lendOut_j66 S p1 (0 : Int32)
set_option maxRecDepth 100000 in
theorem dX10_lendOut_j65 {g : AG} {h0 : AH} {b : Nat} {S : Mem} {Q : AO → AH → Prop} {p1 : Int32}  (hA : gB g ≤ b)   {r : Mem} (hs : sX10_lendOut_j65 S p1  = some r) (hQ : Q (.ok none) (mb h0 b r)) : AW g MX10_lendOut 65 [some (.ref (b)), some (.int (p1)), none] [] (mb h0 b S) Q := by
  unfold sX10_lendOut_j65 at hs
  refine AW.iconst (am_r 36 rfl) rfl ci_0 ?_
  exact dX10_lendOut_j66 hA  (Or.inl rfl) hs hQ
noncomputable def sX10_lendOut (S : Mem) (p1 : Int32) : Option Mem :=
  obind (sX10_of S p1 (1 : Int32)) fun r1 =>
  if r1 = 0 then
    obind (sX10_of S p1 (3 : Int32)) fun r23 =>
    if r23 = 0 then
      obind (sX10_of S p1 (8 : Int32)) fun r27 =>
      if r27 = (-1 : Int32) then
        sX10_lendOut_j65 S p1 
      else
        obind (sX10_of S p1 (8 : Int32)) fun r31 =>
        if (gi S 0 (0 : Int32).toNatClampNeg 0) < r31 then
          sX10_lendOut_j65 S p1 
        else
          obind (sX10_of S p1 (0 : Int32)) fun r35 =>
          obind (sX10_of S p1 (9 : Int32)) fun r38 =>
          if r35 < r38 then
            sX10_lendOut_j65 S p1 
          else
            sX10_lendOut_j66 S p1 (1 : Int32)
    else
      sX10_lendOut_j65 S p1 
  else
    sX10_lendOut_j65 S p1 
set_option maxRecDepth 100000 in
theorem dX10_lendOut {g : AG} {h0 : AH} {b : Nat} {S : Mem} {Q : AO → AH → Prop} {p1 : Int32} (hA : gB g ≤ b)  {r : Mem} (hs : sX10_lendOut S p1 = some r) (hQ : Q (.ok none) (mb h0 b r)) : AW g MX10_lendOut 0 [some (.ref (b)), some (.int (p1)), none] [] (mb h0 b S) Q := by
  unfold sX10_lendOut at hs
  refine AW.aload_n (z := 0) (am_r 0 rfl) rfl rfl ?_
  refine AW.iload_n (z := 1) (am_r 1 rfl) rfl rfl ?_
  refine AW.iconst (am_r 2 rfl) rfl ci_1 ?_
  refine obind_e hs (fun r1 hg3 hs => ?_)
  refine AW.callV (N := MX10_of) (As := [.int (p1), .int ((1 : Int32))]) (S := []) (L0 := [some (.ref (b)), some (.int (p1)), some (.int ((1 : Int32)))]) (b := b) (am_r 3 rfl) rfl ovX10_of q1615 rfl rfl mb_ob rfl rfl rfl rfl (dX10_of hA  hg3 (cQ_r ?_))
  refine AW.if_ne (tg := 65) (am_r 4 rfl) rfl rfl (fun hc4 => ?_) (fun hc4 => ?_)
  · replace hs := (if_neg hc4).symm.trans hs
    exact dX10_lendOut_j65 hA   hs hQ
  · replace hs := (if_pos hc4).symm.trans hs
    refine AW.aload_n (z := 0) (am_r 5 rfl) rfl rfl ?_
    refine AW.iload_n (z := 1) (am_r 6 rfl) rfl rfl ?_
    refine AW.iconst (am_r 7 rfl) rfl ci_3 ?_
    refine obind_e hs (fun r23 hg25 hs => ?_)
    refine AW.callV (N := MX10_of) (As := [.int (p1), .int ((3 : Int32))]) (S := []) (L0 := [some (.ref (b)), some (.int (p1)), some (.int ((3 : Int32)))]) (b := b) (am_r 8 rfl) rfl ovX10_of q1615 rfl rfl mb_ob rfl rfl rfl rfl (dX10_of hA  hg25 (cQ_r ?_))
    refine AW.if_ne (tg := 65) (am_r 9 rfl) rfl rfl (fun hc26 => ?_) (fun hc26 => ?_)
    · replace hs := (if_neg hc26).symm.trans hs
      exact dX10_lendOut_j65 hA   hs hQ
    · replace hs := (if_pos hc26).symm.trans hs
      refine AW.aload_n (z := 0) (am_r 10 rfl) rfl rfl ?_
      refine AW.iload_n (z := 1) (am_r 11 rfl) rfl rfl ?_
      refine AW.bipush (am_r 12 rfl) rfl cb_8 ?_
      refine obind_e hs (fun r27 hg29 hs => ?_)
      refine AW.callV (N := MX10_of) (As := [.int (p1), .int ((8 : Int32))]) (S := []) (L0 := [some (.ref (b)), some (.int (p1)), some (.int ((8 : Int32)))]) (b := b) (am_r 13 rfl) rfl ovX10_of q1615 rfl rfl mb_ob rfl rfl rfl rfl (dX10_of hA  hg29 (cQ_r ?_))
      refine AW.iconst (am_r 14 rfl) rfl ci_m1 ?_
      refine AW.icmp_eq (tg := 65) (am_r 15 rfl) rfl rfl (fun hc30 => ?_) (fun hc30 => ?_)
      · replace hs := (if_pos hc30).symm.trans hs
        exact dX10_lendOut_j65 hA   hs hQ
      · replace hs := (if_neg hc30).symm.trans hs
        refine AW.aload_n (z := 0) (am_r 16 rfl) rfl rfl ?_
        refine AW.iload_n (z := 1) (am_r 17 rfl) rfl rfl ?_
        refine AW.bipush (am_r 18 rfl) rfl cb_8 ?_
        refine obind_e hs (fun r31 hg33 hs => ?_)
        refine AW.callV (N := MX10_of) (As := [.int (p1), .int ((8 : Int32))]) (S := []) (L0 := [some (.ref (b)), some (.int (p1)), some (.int ((8 : Int32)))]) (b := b) (am_r 19 rfl) rfl ovX10_of q1615 rfl rfl mb_ob rfl rfl rfl rfl (dX10_of hA  hg33 (cQ_r ?_))
        refine AW.aload_n (z := 0) (am_r 20 rfl) rfl rfl ?_
        refine AW.getO (am_r 21 rfl) rfl klX10 (k := 0) (by omega) q1503 mb_ob rfl ?_
        refine AW.iconst (am_r 22 rfl) rfl ci_0 ?_
        refine AW.iald (am_r 23 rfl) rfl mb_a1 (vp_of_inb rfl) rfl ?_
        refine AW.icmp_gt (tg := 65) (am_r 24 rfl) rfl rfl (fun hc34 => ?_) (fun hc34 => ?_)
        · replace hs := (if_pos hc34).symm.trans hs
          exact dX10_lendOut_j65 hA   hs hQ
        · replace hs := (if_neg hc34).symm.trans hs
          refine AW.aload_n (z := 0) (am_r 25 rfl) rfl rfl ?_
          refine AW.iload_n (z := 1) (am_r 26 rfl) rfl rfl ?_
          refine AW.iconst (am_r 27 rfl) rfl ci_0 ?_
          refine obind_e hs (fun r35 hg37 hs => ?_)
          refine AW.callV (N := MX10_of) (As := [.int (p1), .int ((0 : Int32))]) (S := []) (L0 := [some (.ref (b)), some (.int (p1)), some (.int ((0 : Int32)))]) (b := b) (am_r 28 rfl) rfl ovX10_of q1615 rfl rfl mb_ob rfl rfl rfl rfl (dX10_of hA  hg37 (cQ_r ?_))
          refine AW.aload_n (z := 0) (am_r 29 rfl) rfl rfl ?_
          refine AW.iload_n (z := 1) (am_r 30 rfl) rfl rfl ?_
          refine AW.bipush (am_r 31 rfl) rfl cb_9 ?_
          refine obind_e hs (fun r38 hg40 hs => ?_)
          refine AW.callV (N := MX10_of) (As := [.int (p1), .int ((9 : Int32))]) (S := [(.int (r35))]) (L0 := [some (.ref (b)), some (.int (p1)), some (.int ((9 : Int32)))]) (b := b) (am_r 32 rfl) rfl ovX10_of q1615 rfl rfl mb_ob rfl rfl rfl rfl (dX10_of hA  hg40 (cQ_r ?_))
          refine AW.icmp_lt (tg := 65) (am_r 33 rfl) rfl rfl (fun hc41 => ?_) (fun hc41 => ?_)
          · replace hs := (if_pos hc41).symm.trans hs
            exact dX10_lendOut_j65 hA   hs hQ
          · replace hs := (if_neg hc41).symm.trans hs
            refine AW.iconst (am_r 34 rfl) rfl ci_1 ?_
            refine AW.goto (tg := 66) (am_r 35 rfl) rfl ?_
            exact dX10_lendOut_j66 hA  (Or.inr rfl) hs hQ
noncomputable def sX10_nextObject_l4_step (S : Mem)  (a : (Int32 × Int32)) : Option ((Int32 × Int32) ⊕ Int32) :=
  if (gi S 5 (4 : Int32).toNatClampNeg 0) ≤ a.2 then
    oinr (
    some (a.1))
  else
    obind (sX10_reasonOf S a.2) fun r4 =>
    if r4 = 0 then
      if a.1 = (-1 : Int32) then
        some (.inl (a.2, a.2 + (1 : Int32)))
      else
        obind (sX10_urgency S a.2) fun r9 =>
        obind (sX10_urgency S a.1) fun r12 =>
        if r12 ≤ r9 then
          some (.inl (a.1, a.2 + (1 : Int32)))
        else
          some (.inl (a.2, a.2 + (1 : Int32)))
    else
      some (.inl (a.1, a.2 + (1 : Int32)))
noncomputable def sX10_nextObject_l4 (S : Mem)  (a : (Int32 × Int32)) : Option Int32 := itw (sX10_nextObject_l4_step S ) a
set_option maxRecDepth 100000 in
theorem dX10_nextObject_l4 {g : AG} {h0 : AH} {b : Nat} {S : Mem} {Q : AO → AH → Prop}  (hA : gB g ≤ b)  {a : (Int32 × Int32)}  {r : Int32} (hs : sX10_nextObject_l4 S  a = some r) (hQ : Q (.ok (some (.int r))) (mb h0 b S)) : AW g MX10_nextObject 4 [some (.ref (b)), some (.int (a.1)), some (.int (a.2))] [] (mb h0 b S) Q := by
  refine itw_e (P := fun a => AW g MX10_nextObject 4 [some (.ref (b)), some (.int (a.1)), some (.int (a.2))] [] (mb h0 b S) Q) (Post := fun r => Q (.ok (some (.int r))) (mb h0 b S)) (fun a r hs hc he  => ?_) hs hQ 
  unfold sX10_nextObject_l4_step at hs
  refine AW.iload_n (z := 2) (am_r 4 rfl) rfl rfl ?_
  refine AW.aload_n (z := 0) (am_r 5 rfl) rfl rfl ?_
  refine AW.getO (am_r 6 rfl) rfl klX10 (k := 5) (by omega) q1508 mb_ob rfl ?_
  refine AW.iconst (am_r 7 rfl) rfl ci_4 ?_
  refine AW.iald (am_r 8 rfl) rfl mb_a4 (vp_of_inb rfl) rfl ?_
  refine AW.icmp_ge (tg := 48) (am_r 9 rfl) rfl rfl (fun hc1 => ?_) (fun hc1 => ?_)
  · replace hs := (if_pos hc1).symm.trans hs
    refine oinr_e hs (fun z2 hz3 hs => ?_)
    have hQ := he _ hz3
    refine AW.iload_n (z := 1) (am_r 28 rfl) rfl rfl ?_
    have hr := (Option.some.inj hs).symm
    subst hr
    exact AW.iret (am_r 29 rfl) rfl hQ
  · replace hs := (if_neg hc1).symm.trans hs
    refine AW.aload_n (z := 0) (am_r 10 rfl) rfl rfl ?_
    refine AW.iload_n (z := 2) (am_r 11 rfl) rfl rfl ?_
    refine obind_e hs (fun r4 hg6 hs => ?_)
    refine AW.callV (N := MX10_reasonOf) (As := [.int (a.2)]) (S := []) (L0 := [some (.ref (b)), some (.int (a.2)), none, none]) (b := b) (am_r 12 rfl) rfl ovX10_reasonOf q1772 rfl rfl mb_ob rfl rfl rfl rfl (dX10_reasonOf hA  hg6 (cQ_r ?_))
    refine AW.if_ne (tg := 42) (am_r 13 rfl) rfl rfl (fun hc7 => ?_) (fun hc7 => ?_)
    · replace hs := (if_neg hc7).symm.trans hs
      refine AW.iinc (v := a.2 + (1 : Int32)) (L' := [some (.ref (b)), some (.int (a.1)), some (.int (a.2 + (1 : Int32)))]) (am_r 26 rfl) rfl (Nat.le_of_ble_eq_true rfl) rfl (congrArg (fun z => a.2 + z) ci_1) rfl ?_
      refine AW.goto (tg := 4) (am_r 27 rfl) rfl ?_
      have hr := (Option.some.inj hs).symm
      exact hc (a.1, a.2 + (1 : Int32)) hr 
    · replace hs := (if_pos hc7).symm.trans hs
      refine AW.iload_n (z := 1) (am_r 14 rfl) rfl rfl ?_
      refine AW.iconst (am_r 15 rfl) rfl ci_m1 ?_
      refine AW.icmp_eq (tg := 40) (am_r 16 rfl) rfl rfl (fun hc8 => ?_) (fun hc8 => ?_)
      · replace hs := (if_pos hc8).symm.trans hs
        refine AW.iload_n (z := 2) (am_r 24 rfl) rfl rfl ?_
        refine AW.istore_n (L' := [some (.ref (b)), some (.int (a.2)), some (.int (a.2))]) (z := 1) (am_r 25 rfl) rfl (Nat.le_of_ble_eq_true rfl) rfl ?_
        refine AW.iinc (v := a.2 + (1 : Int32)) (L' := [some (.ref (b)), some (.int (a.2)), some (.int (a.2 + (1 : Int32)))]) (am_r 26 rfl) rfl (Nat.le_of_ble_eq_true rfl) rfl (congrArg (fun z => a.2 + z) ci_1) rfl ?_
        refine AW.goto (tg := 4) (am_r 27 rfl) rfl ?_
        have hr := (Option.some.inj hs).symm
        exact hc (a.2, a.2 + (1 : Int32)) hr 
      · replace hs := (if_neg hc8).symm.trans hs
        refine AW.aload_n (z := 0) (am_r 17 rfl) rfl rfl ?_
        refine AW.iload_n (z := 2) (am_r 18 rfl) rfl rfl ?_
        refine obind_e hs (fun r9 hg11 hs => ?_)
        refine AW.callV (N := MX10_urgency) (As := [.int (a.2)]) (S := []) (L0 := [some (.ref (b)), some (.int (a.2))]) (b := b) (am_r 19 rfl) rfl ovX10_urgency q1787 rfl rfl mb_ob rfl rfl rfl rfl (dX10_urgency hA  hg11 (cQ_r ?_))
        refine AW.aload_n (z := 0) (am_r 20 rfl) rfl rfl ?_
        refine AW.iload_n (z := 1) (am_r 21 rfl) rfl rfl ?_
        refine obind_e hs (fun r12 hg14 hs => ?_)
        refine AW.callV (N := MX10_urgency) (As := [.int (a.1)]) (S := [(.int (r9))]) (L0 := [some (.ref (b)), some (.int (a.1))]) (b := b) (am_r 22 rfl) rfl ovX10_urgency q1787 rfl rfl mb_ob rfl rfl rfl rfl (dX10_urgency hA  hg14 (cQ_r ?_))
        refine AW.icmp_ge (tg := 42) (am_r 23 rfl) rfl rfl (fun hc15 => ?_) (fun hc15 => ?_)
        · replace hs := (if_pos hc15).symm.trans hs
          refine AW.iinc (v := a.2 + (1 : Int32)) (L' := [some (.ref (b)), some (.int (a.1)), some (.int (a.2 + (1 : Int32)))]) (am_r 26 rfl) rfl (Nat.le_of_ble_eq_true rfl) rfl (congrArg (fun z => a.2 + z) ci_1) rfl ?_
          refine AW.goto (tg := 4) (am_r 27 rfl) rfl ?_
          have hr := (Option.some.inj hs).symm
          exact hc (a.1, a.2 + (1 : Int32)) hr 
        · replace hs := (if_neg hc15).symm.trans hs
          refine AW.iload_n (z := 2) (am_r 24 rfl) rfl rfl ?_
          refine AW.istore_n (L' := [some (.ref (b)), some (.int (a.2)), some (.int (a.2))]) (z := 1) (am_r 25 rfl) rfl (Nat.le_of_ble_eq_true rfl) rfl ?_
          refine AW.iinc (v := a.2 + (1 : Int32)) (L' := [some (.ref (b)), some (.int (a.2)), some (.int (a.2 + (1 : Int32)))]) (am_r 26 rfl) rfl (Nat.le_of_ble_eq_true rfl) rfl (congrArg (fun z => a.2 + z) ci_1) rfl ?_
          refine AW.goto (tg := 4) (am_r 27 rfl) rfl ?_
          have hr := (Option.some.inj hs).symm
          exact hc (a.2, a.2 + (1 : Int32)) hr 
noncomputable def sX10_nextObject (S : Mem)  : Option Int32 :=
  sX10_nextObject_l4 S  ((-1 : Int32), (0 : Int32))
set_option maxRecDepth 100000 in
theorem dX10_nextObject {g : AG} {h0 : AH} {b : Nat} {S : Mem} {Q : AO → AH → Prop}  (hA : gB g ≤ b)  {r : Int32} (hs : sX10_nextObject S  = some r) (hQ : Q (.ok (some (.int r))) (mb h0 b S)) : AW g MX10_nextObject 0 [some (.ref (b)), none, none] [] (mb h0 b S) Q := by
  unfold sX10_nextObject at hs
  refine AW.iconst (am_r 0 rfl) rfl ci_m1 ?_
  refine AW.istore_n (L' := [some (.ref (b)), some (.int ((-1 : Int32))), none]) (z := 1) (am_r 1 rfl) rfl (Nat.le_of_ble_eq_true rfl) rfl ?_
  refine AW.iconst (am_r 2 rfl) rfl ci_0 ?_
  refine AW.istore_n (L' := [some (.ref (b)), some (.int ((-1 : Int32))), some (.int ((0 : Int32)))]) (z := 2) (am_r 3 rfl) rfl (Nat.le_of_ble_eq_true rfl) rfl ?_
  exact dX10_nextObject_l4 hA   hs hQ
noncomputable def sX10_unqueue_l2_step  (p1 : Int32) (a : (Int32 × Mem)) : Option ((Int32 × Mem) ⊕ Mem) :=
  obind (sX10_of a.2 p1 (3 : Int32)) fun r1 =>
  if r1 ≤ a.1 then
    oinr (
    obind (sX10_add a.2 p1 (3 : Int32) (-1 : Int32)) fun r7 =>
    some (r7))
  else
    obind (sX10_of a.2 p1 ((13 : Int32) + a.1)) fun r10 =>
    obind (sX10_set a.2 p1 (((13 : Int32) + a.1) - (1 : Int32)) r10) fun r13 =>
    some (.inl (a.1 + (1 : Int32), r13))
noncomputable def sX10_unqueue_l2  (p1 : Int32) (a : (Int32 × Mem)) : Option Mem := itw (sX10_unqueue_l2_step  p1) a
set_option maxRecDepth 100000 in
theorem dX10_unqueue_l2 {g : AG} {h0 : AH} {b : Nat} {Q : AO → AH → Prop} {p1 : Int32} (hA : gB g ≤ b)  {a : (Int32 × Mem)}  {r : Mem} (hs : sX10_unqueue_l2  p1 a = some r) (hQ : Q (.ok none) (mb h0 b r)) : AW g MX10_unqueue 2 [some (.ref (b)), some (.int (p1)), some (.int (a.1))] [] (mb h0 b a.2) Q := by
  refine itw_e (P := fun a => AW g MX10_unqueue 2 [some (.ref (b)), some (.int (p1)), some (.int (a.1))] [] (mb h0 b a.2) Q) (Post := fun r => Q (.ok none) (mb h0 b r)) (fun a r hs hc he  => ?_) hs hQ 
  unfold sX10_unqueue_l2_step at hs
  refine AW.iload_n (z := 2) (am_r 2 rfl) rfl rfl ?_
  refine AW.aload_n (z := 0) (am_r 3 rfl) rfl rfl ?_
  refine AW.iload_n (z := 1) (am_r 4 rfl) rfl rfl ?_
  refine AW.iconst (am_r 5 rfl) rfl ci_3 ?_
  refine obind_e hs (fun r1 hg3 hs => ?_)
  refine AW.callV (N := MX10_of) (As := [.int (p1), .int ((3 : Int32))]) (S := [(.int (a.1))]) (L0 := [some (.ref (b)), some (.int (p1)), some (.int ((3 : Int32)))]) (b := b) (am_r 6 rfl) rfl ovX10_of q1615 rfl rfl mb_ob rfl rfl rfl rfl (dX10_of hA  hg3 (cQ_r ?_))
  refine AW.icmp_ge (tg := 38) (am_r 7 rfl) rfl rfl (fun hc4 => ?_) (fun hc4 => ?_)
  · replace hs := (if_pos hc4).symm.trans hs
    refine oinr_e hs (fun z5 hz6 hs => ?_)
    have hQ := he _ hz6
    refine AW.aload_n (z := 0) (am_r 24 rfl) rfl rfl ?_
    refine AW.iload_n (z := 1) (am_r 25 rfl) rfl rfl ?_
    refine AW.iconst (am_r 26 rfl) rfl ci_3 ?_
    refine AW.iconst (am_r 27 rfl) rfl ci_m1 ?_
    refine obind_e hs (fun r7 hg9 hs => ?_)
    refine AW.callV (N := MX10_add) (As := [.int (p1), .int ((3 : Int32)), .int ((-1 : Int32))]) (S := []) (L0 := [some (.ref (b)), some (.int (p1)), some (.int ((3 : Int32))), some (.int ((-1 : Int32)))]) (b := b) (am_r 28 rfl) rfl ovX10_add q1647 rfl rfl mb_ob rfl rfl rfl rfl (dX10_add hA  hg9 (cQ_v ?_))
    have hr := (Option.some.inj hs).symm
    subst hr
    exact AW.vret (am_r 29 rfl) rfl hQ
  · replace hs := (if_neg hc4).symm.trans hs
    refine AW.aload_n (z := 0) (am_r 8 rfl) rfl rfl ?_
    refine AW.iload_n (z := 1) (am_r 9 rfl) rfl rfl ?_
    refine AW.bipush (am_r 10 rfl) rfl cb_13 ?_
    refine AW.iload_n (z := 2) (am_r 11 rfl) rfl rfl ?_
    refine AW.iadd (am_r 12 rfl) rfl ?_
    refine AW.iconst (am_r 13 rfl) rfl ci_1 ?_
    refine AW.isub (am_r 14 rfl) rfl ?_
    refine AW.aload_n (z := 0) (am_r 15 rfl) rfl rfl ?_
    refine AW.iload_n (z := 1) (am_r 16 rfl) rfl rfl ?_
    refine AW.bipush (am_r 17 rfl) rfl cb_13 ?_
    refine AW.iload_n (z := 2) (am_r 18 rfl) rfl rfl ?_
    refine AW.iadd (am_r 19 rfl) rfl ?_
    refine obind_e hs (fun r10 hg12 hs => ?_)
    refine AW.callV (N := MX10_of) (As := [.int (p1), .int ((13 : Int32) + a.1)]) (S := [(.int (((13 : Int32) + a.1) - (1 : Int32))), (.int (p1)), (.ref (b))]) (L0 := [some (.ref (b)), some (.int (p1)), some (.int ((13 : Int32) + a.1))]) (b := b) (am_r 20 rfl) rfl ovX10_of q1615 rfl rfl mb_ob rfl rfl rfl rfl (dX10_of hA  hg12 (cQ_r ?_))
    refine obind_e hs (fun r13 hg15 hs => ?_)
    refine AW.callV (N := MX10_set) (As := [.int (p1), .int (((13 : Int32) + a.1) - (1 : Int32)), .int (r10)]) (S := []) (L0 := [some (.ref (b)), some (.int (p1)), some (.int (((13 : Int32) + a.1) - (1 : Int32))), some (.int (r10))]) (b := b) (am_r 21 rfl) rfl ovX10_set q1623 rfl rfl mb_ob rfl rfl rfl rfl (dX10_set hA  hg15 (cQ_v ?_))
    refine AW.iinc (v := a.1 + (1 : Int32)) (L' := [some (.ref (b)), some (.int (p1)), some (.int (a.1 + (1 : Int32)))]) (am_r 22 rfl) rfl (Nat.le_of_ble_eq_true rfl) rfl (congrArg (fun z => a.1 + z) ci_1) rfl ?_
    refine AW.goto (tg := 2) (am_r 23 rfl) rfl ?_
    have hr := (Option.some.inj hs).symm
    exact hc (a.1 + (1 : Int32), r13) hr 
noncomputable def sX10_unqueue (S : Mem) (p1 : Int32) : Option Mem :=
  sX10_unqueue_l2  p1 ((1 : Int32), S)
set_option maxRecDepth 100000 in
theorem dX10_unqueue {g : AG} {h0 : AH} {b : Nat} {S : Mem} {Q : AO → AH → Prop} {p1 : Int32} (hA : gB g ≤ b)  {r : Mem} (hs : sX10_unqueue S p1 = some r) (hQ : Q (.ok none) (mb h0 b r)) : AW g MX10_unqueue 0 [some (.ref (b)), some (.int (p1)), none] [] (mb h0 b S) Q := by
  unfold sX10_unqueue at hs
  refine AW.iconst (am_r 0 rfl) rfl ci_1 ?_
  refine AW.istore_n (L' := [some (.ref (b)), some (.int (p1)), some (.int ((1 : Int32)))]) (z := 2) (am_r 1 rfl) rfl (Nat.le_of_ble_eq_true rfl) rfl ?_
  exact dX10_unqueue_l2 hA   hs hQ
noncomputable def sX10_begin (S : Mem) (p1 : Int32) : Option Mem :=
  obind (sX10_of S p1 (13 : Int32)) fun r1 =>
  obind (sX10_set S p1 (1 : Int32) (1 : Int32)) fun r4 =>
  obind (sX10_set r4 p1 (5 : Int32) r1) fun r7 =>
  obind (sX10_ofRecipe r7 r1 (0 : Int32)) fun r10 =>
  obind (sX10_set r7 p1 (2 : Int32) r10) fun r13 =>
  obind (sX10_set r13 p1 (4 : Int32) (-1 : Int32)) fun r16 =>
  obind (sX10_unqueue r16 p1) fun r19 =>
  some (r19)
set_option maxRecDepth 100000 in
theorem dX10_begin {g : AG} {h0 : AH} {b : Nat} {S : Mem} {Q : AO → AH → Prop} {p1 : Int32} (hA : gB g ≤ b)  {r : Mem} (hs : sX10_begin S p1 = some r) (hQ : Q (.ok none) (mb h0 b r)) : AW g MX10_begin 0 [some (.ref (b)), some (.int (p1)), none] [] (mb h0 b S) Q := by
  unfold sX10_begin at hs
  refine AW.aload_n (z := 0) (am_r 0 rfl) rfl rfl ?_
  refine AW.iload_n (z := 1) (am_r 1 rfl) rfl rfl ?_
  refine AW.bipush (am_r 2 rfl) rfl cb_13 ?_
  refine obind_e hs (fun r1 hg3 hs => ?_)
  refine AW.callV (N := MX10_of) (As := [.int (p1), .int ((13 : Int32))]) (S := []) (L0 := [some (.ref (b)), some (.int (p1)), some (.int ((13 : Int32)))]) (b := b) (am_r 3 rfl) rfl ovX10_of q1615 rfl rfl mb_ob rfl rfl rfl rfl (dX10_of hA  hg3 (cQ_r ?_))
  refine AW.istore_n (L' := [some (.ref (b)), some (.int (p1)), some (.int (r1))]) (z := 2) (am_r 4 rfl) rfl (Nat.le_of_ble_eq_true rfl) rfl ?_
  refine AW.aload_n (z := 0) (am_r 5 rfl) rfl rfl ?_
  refine AW.iload_n (z := 1) (am_r 6 rfl) rfl rfl ?_
  refine AW.iconst (am_r 7 rfl) rfl ci_1 ?_
  refine AW.iconst (am_r 8 rfl) rfl ci_1 ?_
  refine obind_e hs (fun r4 hg6 hs => ?_)
  refine AW.callV (N := MX10_set) (As := [.int (p1), .int ((1 : Int32)), .int ((1 : Int32))]) (S := []) (L0 := [some (.ref (b)), some (.int (p1)), some (.int ((1 : Int32))), some (.int ((1 : Int32)))]) (b := b) (am_r 9 rfl) rfl ovX10_set q1623 rfl rfl mb_ob rfl rfl rfl rfl (dX10_set hA  hg6 (cQ_v ?_))
  refine AW.aload_n (z := 0) (am_r 10 rfl) rfl rfl ?_
  refine AW.iload_n (z := 1) (am_r 11 rfl) rfl rfl ?_
  refine AW.iconst (am_r 12 rfl) rfl ci_5 ?_
  refine AW.iload_n (z := 2) (am_r 13 rfl) rfl rfl ?_
  refine obind_e hs (fun r7 hg9 hs => ?_)
  refine AW.callV (N := MX10_set) (As := [.int (p1), .int ((5 : Int32)), .int (r1)]) (S := []) (L0 := [some (.ref (b)), some (.int (p1)), some (.int ((5 : Int32))), some (.int (r1))]) (b := b) (am_r 14 rfl) rfl ovX10_set q1623 rfl rfl mb_ob rfl rfl rfl rfl (dX10_set hA  hg9 (cQ_v ?_))
  refine AW.aload_n (z := 0) (am_r 15 rfl) rfl rfl ?_
  refine AW.iload_n (z := 1) (am_r 16 rfl) rfl rfl ?_
  refine AW.iconst (am_r 17 rfl) rfl ci_2 ?_
  refine AW.aload_n (z := 0) (am_r 18 rfl) rfl rfl ?_
  refine AW.iload_n (z := 2) (am_r 19 rfl) rfl rfl ?_
  refine AW.iconst (am_r 20 rfl) rfl ci_0 ?_
  refine obind_e hs (fun r10 hg12 hs => ?_)
  refine AW.callV (N := MX10_ofRecipe) (As := [.int (r1), .int ((0 : Int32))]) (S := [(.int ((2 : Int32))), (.int (p1)), (.ref (b))]) (L0 := [some (.ref (b)), some (.int (r1)), some (.int ((0 : Int32)))]) (b := b) (am_r 21 rfl) rfl ovX10_ofRecipe q1671 rfl rfl mb_ob rfl rfl rfl rfl (dX10_ofRecipe hA  hg12 (cQ_r ?_))
  refine obind_e hs (fun r13 hg15 hs => ?_)
  refine AW.callV (N := MX10_set) (As := [.int (p1), .int ((2 : Int32)), .int (r10)]) (S := []) (L0 := [some (.ref (b)), some (.int (p1)), some (.int ((2 : Int32))), some (.int (r10))]) (b := b) (am_r 22 rfl) rfl ovX10_set q1623 rfl rfl mb_ob rfl rfl rfl rfl (dX10_set hA  hg15 (cQ_v ?_))
  refine AW.aload_n (z := 0) (am_r 23 rfl) rfl rfl ?_
  refine AW.iload_n (z := 1) (am_r 24 rfl) rfl rfl ?_
  refine AW.iconst (am_r 25 rfl) rfl ci_4 ?_
  refine AW.iconst (am_r 26 rfl) rfl ci_m1 ?_
  refine obind_e hs (fun r16 hg18 hs => ?_)
  refine AW.callV (N := MX10_set) (As := [.int (p1), .int ((4 : Int32)), .int ((-1 : Int32))]) (S := []) (L0 := [some (.ref (b)), some (.int (p1)), some (.int ((4 : Int32))), some (.int ((-1 : Int32)))]) (b := b) (am_r 27 rfl) rfl ovX10_set q1623 rfl rfl mb_ob rfl rfl rfl rfl (dX10_set hA  hg18 (cQ_v ?_))
  refine AW.aload_n (z := 0) (am_r 28 rfl) rfl rfl ?_
  refine AW.iload_n (z := 1) (am_r 29 rfl) rfl rfl ?_
  refine obind_e hs (fun r19 hg21 hs => ?_)
  refine AW.callV (N := MX10_unqueue) (As := [.int (p1)]) (S := []) (L0 := [some (.ref (b)), some (.int (p1)), none]) (b := b) (am_r 30 rfl) rfl ovX10_unqueue q1795 rfl rfl mb_ob rfl rfl rfl rfl (dX10_unqueue hA  hg21 (cQ_v ?_))
  have hr := (Option.some.inj hs).symm
  subst hr
  exact AW.vret (am_r 31 rfl) rfl hQ
noncomputable def sX10_hour_l55_step   (a : (Int32 × Mem)) : Option ((Int32 × Mem) ⊕ Mem) :=
  if a.1 = (-1 : Int32) then
    oinr (
    olet (si a.2 0 (0 : Int32).toNatClampNeg 0 ((gi a.2 0 (0 : Int32).toNatClampNeg 0) + (1 : Int32))) fun S16 =>
    some (S16))
  else
    obind (sX10_begin a.2 a.1) fun r17 =>
    obind (sX10_nextObject r17 ) fun r20 =>
    some (.inl (r20, r17))
noncomputable def sX10_hour_l55   (a : (Int32 × Mem)) : Option Mem := itw (sX10_hour_l55_step  ) a
set_option maxRecDepth 100000 in
theorem dX10_hour_l55 {g : AG} {h0 : AH} {b : Nat} {Q : AO → AH → Prop}  (hA : gB g ≤ b)  {a : (Int32 × Mem)}  {r : Mem} (hs : sX10_hour_l55   a = some r) (hQ : Q (.ok none) (mb h0 b r)) : AW g MX10_hour 55 [some (.ref (b)), some (.int (a.1))] [] (mb h0 b a.2) Q := by
  refine itw_e (P := fun a => AW g MX10_hour 55 [some (.ref (b)), some (.int (a.1))] [] (mb h0 b a.2) Q) (Post := fun r => Q (.ok none) (mb h0 b r)) (fun a r hs hc he  => ?_) hs hQ 
  unfold sX10_hour_l55_step at hs
  refine AW.iload_n (z := 1) (am_r 31 rfl) rfl rfl ?_
  refine AW.iconst (am_r 32 rfl) rfl ci_m1 ?_
  refine AW.icmp_eq (tg := 73) (am_r 33 rfl) rfl rfl (fun hc13 => ?_) (fun hc13 => ?_)
  · replace hs := (if_pos hc13).symm.trans hs
    refine oinr_e hs (fun z14 hz15 hs => ?_)
    have hQ := he _ hz15
    refine AW.aload_n (z := 0) (am_r 41 rfl) rfl rfl ?_
    refine AW.getO (am_r 42 rfl) rfl klX10 (k := 0) (by omega) q1503 mb_ob rfl ?_
    refine AW.iconst (am_r 43 rfl) rfl ci_0 ?_
    refine AW.dup2 (am_r 44 rfl) rfl rfl rfl ?_
    refine AW.iald (am_r 45 rfl) rfl mb_a1 (vp_of_inb rfl) rfl ?_
    refine AW.iconst (am_r 46 rfl) rfl ci_1 ?_
    refine AW.iadd (am_r 47 rfl) rfl ?_
    refine AW.iast (am_r 48 rfl) rfl mb_a1 (Nat.le_trans hA (by omega)) (vp_of_inb rfl) ?_
    rw [show _ = _ from mbp_a1]
    refine olet_e (P := fun y => AW g MX10_hour 83 [some (.ref (b)), some (.int (a.1))] [] (mb h0 b y) Q) hs (fun S16 hs => ?_)
    have hr := (Option.some.inj hs).symm
    subst hr
    exact AW.vret (am_r 49 rfl) rfl hQ
  · replace hs := (if_neg hc13).symm.trans hs
    refine AW.aload_n (z := 0) (am_r 34 rfl) rfl rfl ?_
    refine AW.iload_n (z := 1) (am_r 35 rfl) rfl rfl ?_
    refine obind_e hs (fun r17 hg19 hs => ?_)
    refine AW.callV (N := MX10_begin) (As := [.int (a.1)]) (S := []) (L0 := [some (.ref (b)), some (.int (a.1)), none]) (b := b) (am_r 36 rfl) rfl ovX10_begin q1791 rfl rfl mb_ob rfl rfl rfl rfl (dX10_begin hA  hg19 (cQ_v ?_))
    refine AW.aload_n (z := 0) (am_r 37 rfl) rfl rfl ?_
    refine obind_e hs (fun r20 hg22 hs => ?_)
    refine AW.callV (N := MX10_nextObject) (As := []) (S := []) (L0 := [some (.ref (b)), none, none]) (b := b) (am_r 38 rfl) rfl ovX10_nextObject q1768 rfl rfl mb_ob rfl rfl rfl rfl (dX10_nextObject hA  hg22 (cQ_r ?_))
    refine AW.istore_n (L' := [some (.ref (b)), some (.int (r20))]) (z := 1) (am_r 39 rfl) rfl (Nat.le_of_ble_eq_true rfl) rfl ?_
    refine AW.goto (tg := 55) (am_r 40 rfl) rfl ?_
    have hr := (Option.some.inj hs).symm
    exact hc (r20, r17) hr 
noncomputable def sX10_hour_l29_step   (a : (Int32 × Mem)) : Option ((Int32 × Mem) ⊕ Mem) :=
  if (gi a.2 5 (4 : Int32).toNatClampNeg 0) ≤ a.1 then
    oinr (
    obind (sX10_nextObject a.2 ) fun r10 =>
    sX10_hour_l55   (r10, a.2))
  else
    obind (sX10_lendOut a.2 a.1) fun r23 =>
    some (.inl (a.1 + (1 : Int32), r23))
noncomputable def sX10_hour_l29   (a : (Int32 × Mem)) : Option Mem := itw (sX10_hour_l29_step  ) a
set_option maxRecDepth 100000 in
theorem dX10_hour_l29 {g : AG} {h0 : AH} {b : Nat} {Q : AO → AH → Prop}  (hA : gB g ≤ b)  {a : (Int32 × Mem)}  {r : Mem} (hs : sX10_hour_l29   a = some r) (hQ : Q (.ok none) (mb h0 b r)) : AW g MX10_hour 29 [some (.ref (b)), some (.int (a.1))] [] (mb h0 b a.2) Q := by
  refine itw_e (P := fun a => AW g MX10_hour 29 [some (.ref (b)), some (.int (a.1))] [] (mb h0 b a.2) Q) (Post := fun r => Q (.ok none) (mb h0 b r)) (fun a r hs hc he  => ?_) hs hQ 
  unfold sX10_hour_l29_step at hs
  refine AW.iload_n (z := 1) (am_r 17 rfl) rfl rfl ?_
  refine AW.aload_n (z := 0) (am_r 18 rfl) rfl rfl ?_
  refine AW.getO (am_r 19 rfl) rfl klX10 (k := 5) (by omega) q1508 mb_ob rfl ?_
  refine AW.iconst (am_r 20 rfl) rfl ci_4 ?_
  refine AW.iald (am_r 21 rfl) rfl mb_a4 (vp_of_inb rfl) rfl ?_
  refine AW.icmp_ge (tg := 50) (am_r 22 rfl) rfl rfl (fun hc7 => ?_) (fun hc7 => ?_)
  · replace hs := (if_pos hc7).symm.trans hs
    refine oinr_e hs (fun z8 hz9 hs => ?_)
    have hQ := he _ hz9
    refine AW.aload_n (z := 0) (am_r 28 rfl) rfl rfl ?_
    refine obind_e hs (fun r10 hg12 hs => ?_)
    refine AW.callV (N := MX10_nextObject) (As := []) (S := []) (L0 := [some (.ref (b)), none, none]) (b := b) (am_r 29 rfl) rfl ovX10_nextObject q1768 rfl rfl mb_ob rfl rfl rfl rfl (dX10_nextObject hA  hg12 (cQ_r ?_))
    refine AW.istore_n (L' := [some (.ref (b)), some (.int (r10))]) (z := 1) (am_r 30 rfl) rfl (Nat.le_of_ble_eq_true rfl) rfl ?_
    exact dX10_hour_l55 hA   hs hQ
  · replace hs := (if_neg hc7).symm.trans hs
    refine AW.aload_n (z := 0) (am_r 23 rfl) rfl rfl ?_
    refine AW.iload_n (z := 1) (am_r 24 rfl) rfl rfl ?_
    refine obind_e hs (fun r23 hg25 hs => ?_)
    refine AW.callV (N := MX10_lendOut) (As := [.int (a.1)]) (S := []) (L0 := [some (.ref (b)), some (.int (a.1)), none]) (b := b) (am_r 25 rfl) rfl ovX10_lendOut q1764 rfl rfl mb_ob rfl rfl rfl rfl (dX10_lendOut hA  hg25 (cQ_v ?_))
    refine AW.iinc (v := a.1 + (1 : Int32)) (L' := [some (.ref (b)), some (.int (a.1 + (1 : Int32)))]) (am_r 26 rfl) rfl (Nat.le_of_ble_eq_true rfl) rfl (congrArg (fun z => a.1 + z) ci_1) rfl ?_
    refine AW.goto (tg := 29) (am_r 27 rfl) rfl ?_
    have hr := (Option.some.inj hs).symm
    exact hc (a.1 + (1 : Int32), r23) hr 
noncomputable def sX10_hour_l2_step   (a : (Int32 × Mem)) : Option ((Int32 × Mem) ⊕ Mem) :=
  if (gi a.2 5 (4 : Int32).toNatClampNeg 0) ≤ a.1 then
    oinr (
    obind (sX10_givePresses a.2 ) fun r4 =>
    sX10_hour_l29   ((0 : Int32), r4))
  else
    obind (sX10_age a.2 a.1) fun r26 =>
    some (.inl (a.1 + (1 : Int32), r26))
noncomputable def sX10_hour_l2   (a : (Int32 × Mem)) : Option Mem := itw (sX10_hour_l2_step  ) a
set_option maxRecDepth 100000 in
theorem dX10_hour_l2 {g : AG} {h0 : AH} {b : Nat} {Q : AO → AH → Prop}  (hA : gB g ≤ b)  {a : (Int32 × Mem)}  {r : Mem} (hs : sX10_hour_l2   a = some r) (hQ : Q (.ok none) (mb h0 b r)) : AW g MX10_hour 2 [some (.ref (b)), some (.int (a.1))] [] (mb h0 b a.2) Q := by
  refine itw_e (P := fun a => AW g MX10_hour 2 [some (.ref (b)), some (.int (a.1))] [] (mb h0 b a.2) Q) (Post := fun r => Q (.ok none) (mb h0 b r)) (fun a r hs hc he  => ?_) hs hQ 
  unfold sX10_hour_l2_step at hs
  refine AW.iload_n (z := 1) (am_r 2 rfl) rfl rfl ?_
  refine AW.aload_n (z := 0) (am_r 3 rfl) rfl rfl ?_
  refine AW.getO (am_r 4 rfl) rfl klX10 (k := 5) (by omega) q1508 mb_ob rfl ?_
  refine AW.iconst (am_r 5 rfl) rfl ci_4 ?_
  refine AW.iald (am_r 6 rfl) rfl mb_a4 (vp_of_inb rfl) rfl ?_
  refine AW.icmp_ge (tg := 23) (am_r 7 rfl) rfl rfl (fun hc1 => ?_) (fun hc1 => ?_)
  · replace hs := (if_pos hc1).symm.trans hs
    refine oinr_e hs (fun z2 hz3 hs => ?_)
    have hQ := he _ hz3
    refine AW.aload_n (z := 0) (am_r 13 rfl) rfl rfl ?_
    refine obind_e hs (fun r4 hg6 hs => ?_)
    refine AW.callV (N := MX10_givePresses) (As := []) (S := []) (L0 := [some (.ref (b)), none, none]) (b := b) (am_r 14 rfl) rfl ovX10_givePresses q1744 rfl rfl mb_ob rfl rfl rfl rfl (dX10_givePresses hA  hg6 (cQ_v ?_))
    refine AW.iconst (am_r 15 rfl) rfl ci_0 ?_
    refine AW.istore_n (L' := [some (.ref (b)), some (.int ((0 : Int32)))]) (z := 1) (am_r 16 rfl) rfl (Nat.le_of_ble_eq_true rfl) rfl ?_
    exact dX10_hour_l29 hA   hs hQ
  · replace hs := (if_neg hc1).symm.trans hs
    refine AW.aload_n (z := 0) (am_r 8 rfl) rfl rfl ?_
    refine AW.iload_n (z := 1) (am_r 9 rfl) rfl rfl ?_
    refine obind_e hs (fun r26 hg28 hs => ?_)
    refine AW.callV (N := MX10_age) (As := [.int (a.1)]) (S := []) (L0 := [some (.ref (b)), some (.int (a.1)), none, none]) (b := b) (am_r 10 rfl) rfl ovX10_age q1714 rfl rfl mb_ob rfl rfl rfl rfl (dX10_age hA  hg28 (cQ_v ?_))
    refine AW.iinc (v := a.1 + (1 : Int32)) (L' := [some (.ref (b)), some (.int (a.1 + (1 : Int32)))]) (am_r 11 rfl) rfl (Nat.le_of_ble_eq_true rfl) rfl (congrArg (fun z => a.1 + z) ci_1) rfl ?_
    refine AW.goto (tg := 2) (am_r 12 rfl) rfl ?_
    have hr := (Option.some.inj hs).symm
    exact hc (a.1 + (1 : Int32), r26) hr 
noncomputable def sX10_hour (S : Mem)  : Option Mem :=
  sX10_hour_l2   ((0 : Int32), S)
set_option maxRecDepth 100000 in
theorem dX10_hour {g : AG} {h0 : AH} {b : Nat} {S : Mem} {Q : AO → AH → Prop}  (hA : gB g ≤ b)  {r : Mem} (hs : sX10_hour S  = some r) (hQ : Q (.ok none) (mb h0 b r)) : AW g MX10_hour 0 [some (.ref (b)), none] [] (mb h0 b S) Q := by
  unfold sX10_hour at hs
  refine AW.iconst (am_r 0 rfl) rfl ci_0 ?_
  refine AW.istore_n (L' := [some (.ref (b)), some (.int ((0 : Int32)))]) (z := 1) (am_r 1 rfl) rfl (Nat.le_of_ble_eq_true rfl) rfl ?_
  exact dX10_hour_l2 hA   hs hQ
noncomputable def sX10_hours_l2_step  (p1 : Int32) (a : (Int32 × Mem)) : Option ((Int32 × Mem) ⊕ Mem) :=
  if p1 ≤ a.1 then
    oinr (
    some (a.2))
  else
    if (20000 : Int32) ≤ (gi a.2 0 (0 : Int32).toNatClampNeg 0) then
      oinr (
      some (a.2))
    else
      obind (sX10_hour a.2 ) fun r7 =>
      some (.inl (a.1 + (1 : Int32), r7))
noncomputable def sX10_hours_l2  (p1 : Int32) (a : (Int32 × Mem)) : Option Mem := itw (sX10_hours_l2_step  p1) a
set_option maxRecDepth 100000 in
theorem dX10_hours_l2 {g : AG} {h0 : AH} {b : Nat} {Q : AO → AH → Prop} {p1 : Int32} (hA : gB g ≤ b)  {a : (Int32 × Mem)}  {r : Mem} (hs : sX10_hours_l2  p1 a = some r) (hQ : Q (.ok none) (mb h0 b r)) : AW g MX10_hours 2 [some (.ref (b)), some (.int (p1)), some (.int (a.1))] [] (mb h0 b a.2) Q := by
  refine itw_e (P := fun a => AW g MX10_hours 2 [some (.ref (b)), some (.int (p1)), some (.int (a.1))] [] (mb h0 b a.2) Q) (Post := fun r => Q (.ok none) (mb h0 b r)) (fun a r hs hc he  => ?_) hs hQ 
  unfold sX10_hours_l2_step at hs
  refine AW.iload_n (z := 2) (am_r 2 rfl) rfl rfl ?_
  refine AW.iload_n (z := 1) (am_r 3 rfl) rfl rfl ?_
  refine AW.icmp_ge (tg := 29) (am_r 4 rfl) rfl rfl (fun hc1 => ?_) (fun hc1 => ?_)
  · replace hs := (if_pos hc1).symm.trans hs
    refine oinr_e hs (fun z2 hz3 hs => ?_)
    have hQ := he _ hz3
    have hr := (Option.some.inj hs).symm
    subst hr
    exact AW.vret (am_r 15 rfl) rfl hQ
  · replace hs := (if_neg hc1).symm.trans hs
    refine AW.aload_n (z := 0) (am_r 5 rfl) rfl rfl ?_
    refine AW.getO (am_r 6 rfl) rfl klX10 (k := 0) (by omega) q1503 mb_ob rfl ?_
    refine AW.iconst (am_r 7 rfl) rfl ci_0 ?_
    refine AW.iald (am_r 8 rfl) rfl mb_a1 (vp_of_inb rfl) rfl ?_
    refine AW.sipush (am_r 9 rfl) rfl cs_20000 ?_
    refine AW.icmp_ge (tg := 29) (am_r 10 rfl) rfl rfl (fun hc4 => ?_) (fun hc4 => ?_)
    · replace hs := (if_pos hc4).symm.trans hs
      refine oinr_e hs (fun z5 hz6 hs => ?_)
      have hQ := he _ hz6
      have hr := (Option.some.inj hs).symm
      subst hr
      exact AW.vret (am_r 15 rfl) rfl hQ
    · replace hs := (if_neg hc4).symm.trans hs
      refine AW.aload_n (z := 0) (am_r 11 rfl) rfl rfl ?_
      refine obind_e hs (fun r7 hg9 hs => ?_)
      refine AW.callV (N := MX10_hour) (As := []) (S := []) (L0 := [some (.ref (b)), none]) (b := b) (am_r 12 rfl) rfl ovX10_hour q1710 rfl rfl mb_ob rfl rfl rfl rfl (dX10_hour hA  hg9 (cQ_v ?_))
      refine AW.iinc (v := a.1 + (1 : Int32)) (L' := [some (.ref (b)), some (.int (p1)), some (.int (a.1 + (1 : Int32)))]) (am_r 13 rfl) rfl (Nat.le_of_ble_eq_true rfl) rfl (congrArg (fun z => a.1 + z) ci_1) rfl ?_
      refine AW.goto (tg := 2) (am_r 14 rfl) rfl ?_
      have hr := (Option.some.inj hs).symm
      exact hc (a.1 + (1 : Int32), r7) hr 
noncomputable def sX10_hours (S : Mem) (p1 : Int32) : Option Mem :=
  sX10_hours_l2  p1 ((0 : Int32), S)
set_option maxRecDepth 100000 in
theorem dX10_hours {g : AG} {h0 : AH} {b : Nat} {S : Mem} {Q : AO → AH → Prop} {p1 : Int32} (hA : gB g ≤ b)  {r : Mem} (hs : sX10_hours S p1 = some r) (hQ : Q (.ok none) (mb h0 b r)) : AW g MX10_hours 0 [some (.ref (b)), some (.int (p1)), none] [] (mb h0 b S) Q := by
  unfold sX10_hours at hs
  refine AW.iconst (am_r 0 rfl) rfl ci_0 ?_
  refine AW.istore_n (L' := [some (.ref (b)), some (.int (p1)), some (.int ((0 : Int32)))]) (z := 2) (am_r 1 rfl) rfl (Nat.le_of_ble_eq_true rfl) rfl ?_
  exact dX10_hours_l2 hA   hs hQ
noncomputable def sX10_planNow (S : Mem) (p1 : Int32) (p2 : Int32) : Option (Int32 × Mem) :=
  obind (sX10_of S p1 (3 : Int32)) fun r1 =>
  if r1 = (8 : Int32) then
    some (((-2 : Int32), S))
  else
    obind (sX10_keep S ) fun r5 =>
    obind (sX10_of r5 p1 (3 : Int32)) fun r8 =>
    obind (sX10_set r5 p1 ((13 : Int32) + r8) p2) fun r11 =>
    obind (sX10_add r11 p1 (3 : Int32) (1 : Int32)) fun r14 =>
    obind (sX10_of r14 p1 (3 : Int32)) fun r17 =>
    some ((r17, r14))
set_option maxRecDepth 100000 in
theorem dX10_planNow {g : AG} {h0 : AH} {b : Nat} {S : Mem} {Q : AO → AH → Prop} {p1 : Int32} {p2 : Int32} (hA : gB g ≤ b)  {r : (Int32 × Mem)} (hs : sX10_planNow S p1 p2 = some r) (hQ : Q (.ok (some (.int r.1))) (mb h0 b r.2)) : AW g MX10_planNow 0 [some (.ref (b)), some (.int (p1)), some (.int (p2))] [] (mb h0 b S) Q := by
  unfold sX10_planNow at hs
  refine AW.aload_n (z := 0) (am_r 0 rfl) rfl rfl ?_
  refine AW.iload_n (z := 1) (am_r 1 rfl) rfl rfl ?_
  refine AW.iconst (am_r 2 rfl) rfl ci_3 ?_
  refine obind_e hs (fun r1 hg3 hs => ?_)
  refine AW.callV (N := MX10_of) (As := [.int (p1), .int ((3 : Int32))]) (S := []) (L0 := [some (.ref (b)), some (.int (p1)), some (.int ((3 : Int32)))]) (b := b) (am_r 3 rfl) rfl ovX10_of q1615 rfl rfl mb_ob rfl rfl rfl rfl (dX10_of hA  hg3 (cQ_r ?_))
  refine AW.bipush (am_r 4 rfl) rfl cb_8 ?_
  refine AW.icmp_ne (tg := 14) (am_r 5 rfl) rfl rfl (fun hc4 => ?_) (fun hc4 => ?_)
  · replace hs := (if_neg hc4).symm.trans hs
    refine AW.aload_n (z := 0) (am_r 8 rfl) rfl rfl ?_
    refine obind_e hs (fun r5 hg7 hs => ?_)
    refine AW.callV (N := MX10_keep) (As := []) (S := []) (L0 := [some (.ref (b))]) (b := b) (am_r 9 rfl) rfl ovX10_keep q1619 rfl rfl mb_ob rfl rfl rfl rfl (dX10_keep hA  hg7 (cQ_v ?_))
    refine AW.aload_n (z := 0) (am_r 10 rfl) rfl rfl ?_
    refine AW.iload_n (z := 1) (am_r 11 rfl) rfl rfl ?_
    refine AW.bipush (am_r 12 rfl) rfl cb_13 ?_
    refine AW.aload_n (z := 0) (am_r 13 rfl) rfl rfl ?_
    refine AW.iload_n (z := 1) (am_r 14 rfl) rfl rfl ?_
    refine AW.iconst (am_r 15 rfl) rfl ci_3 ?_
    refine obind_e hs (fun r8 hg10 hs => ?_)
    refine AW.callV (N := MX10_of) (As := [.int (p1), .int ((3 : Int32))]) (S := [(.int ((13 : Int32))), (.int (p1)), (.ref (b))]) (L0 := [some (.ref (b)), some (.int (p1)), some (.int ((3 : Int32)))]) (b := b) (am_r 16 rfl) rfl ovX10_of q1615 rfl rfl mb_ob rfl rfl rfl rfl (dX10_of hA  hg10 (cQ_r ?_))
    refine AW.iadd (am_r 17 rfl) rfl ?_
    refine AW.iload_n (z := 2) (am_r 18 rfl) rfl rfl ?_
    refine obind_e hs (fun r11 hg13 hs => ?_)
    refine AW.callV (N := MX10_set) (As := [.int (p1), .int ((13 : Int32) + r8), .int (p2)]) (S := []) (L0 := [some (.ref (b)), some (.int (p1)), some (.int ((13 : Int32) + r8)), some (.int (p2))]) (b := b) (am_r 19 rfl) rfl ovX10_set q1623 rfl rfl mb_ob rfl rfl rfl rfl (dX10_set hA  hg13 (cQ_v ?_))
    refine AW.aload_n (z := 0) (am_r 20 rfl) rfl rfl ?_
    refine AW.iload_n (z := 1) (am_r 21 rfl) rfl rfl ?_
    refine AW.iconst (am_r 22 rfl) rfl ci_3 ?_
    refine AW.iconst (am_r 23 rfl) rfl ci_1 ?_
    refine obind_e hs (fun r14 hg16 hs => ?_)
    refine AW.callV (N := MX10_add) (As := [.int (p1), .int ((3 : Int32)), .int ((1 : Int32))]) (S := []) (L0 := [some (.ref (b)), some (.int (p1)), some (.int ((3 : Int32))), some (.int ((1 : Int32)))]) (b := b) (am_r 24 rfl) rfl ovX10_add q1647 rfl rfl mb_ob rfl rfl rfl rfl (dX10_add hA  hg16 (cQ_v ?_))
    refine AW.aload_n (z := 0) (am_r 25 rfl) rfl rfl ?_
    refine AW.iload_n (z := 1) (am_r 26 rfl) rfl rfl ?_
    refine AW.iconst (am_r 27 rfl) rfl ci_3 ?_
    refine obind_e hs (fun r17 hg19 hs => ?_)
    refine AW.callV (N := MX10_of) (As := [.int (p1), .int ((3 : Int32))]) (S := []) (L0 := [some (.ref (b)), some (.int (p1)), some (.int ((3 : Int32)))]) (b := b) (am_r 28 rfl) rfl ovX10_of q1615 rfl rfl mb_ob rfl rfl rfl rfl (dX10_of hA  hg19 (cQ_r ?_))
    have hr := (Option.some.inj hs).symm
    subst hr
    exact AW.iret (am_r 29 rfl) rfl hQ
  · replace hs := (if_pos hc4).symm.trans hs
    refine AW.bipush (am_r 6 rfl) rfl cb_m2 ?_
    have hr := (Option.some.inj hs).symm
    subst hr
    exact AW.iret (am_r 7 rfl) rfl hQ
noncomputable def sX10_cancelNow_j39 (S : Mem) (p1 : Int32)  : Option (Int32 × Mem) :=
  obind (sX10_of S p1 (3 : Int32)) fun r15 =>
  obind (sX10_of S p1 ((13 : Int32) + r15)) fun r18 =>
  some ((r18, S))
set_option maxRecDepth 100000 in
theorem dX10_cancelNow_j39 {g : AG} {h0 : AH} {b : Nat} {S : Mem} {Q : AO → AH → Prop} {p1 : Int32}  (hA : gB g ≤ b)   {r : (Int32 × Mem)} (hs : sX10_cancelNow_j39 S p1  = some r) (hQ : Q (.ok (some (.int r.1))) (mb h0 b r.2)) : AW g MX10_cancelNow 39 [some (.ref (b)), some (.int (p1))] [] (mb h0 b S) Q := by
  unfold sX10_cancelNow_j39 at hs
  refine AW.aload_n (z := 0) (am_r 24 rfl) rfl rfl ?_
  refine AW.iload_n (z := 1) (am_r 25 rfl) rfl rfl ?_
  refine AW.bipush (am_r 26 rfl) rfl cb_13 ?_
  refine AW.aload_n (z := 0) (am_r 27 rfl) rfl rfl ?_
  refine AW.iload_n (z := 1) (am_r 28 rfl) rfl rfl ?_
  refine AW.iconst (am_r 29 rfl) rfl ci_3 ?_
  refine obind_e hs (fun r15 hg17 hs => ?_)
  refine AW.callV (N := MX10_of) (As := [.int (p1), .int ((3 : Int32))]) (S := [(.int ((13 : Int32))), (.int (p1)), (.ref (b))]) (L0 := [some (.ref (b)), some (.int (p1)), some (.int ((3 : Int32)))]) (b := b) (am_r 30 rfl) rfl ovX10_of q1615 rfl rfl mb_ob rfl rfl rfl rfl (dX10_of hA  hg17 (cQ_r ?_))
  refine AW.iadd (am_r 31 rfl) rfl ?_
  refine obind_e hs (fun r18 hg20 hs => ?_)
  refine AW.callV (N := MX10_of) (As := [.int (p1), .int ((13 : Int32) + r15)]) (S := []) (L0 := [some (.ref (b)), some (.int (p1)), some (.int ((13 : Int32) + r15))]) (b := b) (am_r 32 rfl) rfl ovX10_of q1615 rfl rfl mb_ob rfl rfl rfl rfl (dX10_of hA  hg20 (cQ_r ?_))
  have hr := (Option.some.inj hs).symm
  subst hr
  exact AW.iret (am_r 33 rfl) rfl hQ
noncomputable def sX10_cancelNow (S : Mem) (p1 : Int32) : Option (Int32 × Mem) :=
  obind (sX10_of S p1 (3 : Int32)) fun r1 =>
  if r1 = 0 then
    some (((-4 : Int32), S))
  else
    obind (sX10_keep S ) fun r5 =>
    obind (sX10_add r5 p1 (3 : Int32) (-1 : Int32)) fun r8 =>
    obind (sX10_of r8 p1 (3 : Int32)) fun r11 =>
    if r11 = 0 then
      obind (sX10_set r8 p1 (4 : Int32) (-1 : Int32)) fun r21 =>
      sX10_cancelNow_j39 r21 p1 
    else
      sX10_cancelNow_j39 r8 p1 
set_option maxRecDepth 100000 in
theorem dX10_cancelNow {g : AG} {h0 : AH} {b : Nat} {S : Mem} {Q : AO → AH → Prop} {p1 : Int32} (hA : gB g ≤ b)  {r : (Int32 × Mem)} (hs : sX10_cancelNow S p1 = some r) (hQ : Q (.ok (some (.int r.1))) (mb h0 b r.2)) : AW g MX10_cancelNow 0 [some (.ref (b)), some (.int (p1))] [] (mb h0 b S) Q := by
  unfold sX10_cancelNow at hs
  refine AW.aload_n (z := 0) (am_r 0 rfl) rfl rfl ?_
  refine AW.iload_n (z := 1) (am_r 1 rfl) rfl rfl ?_
  refine AW.iconst (am_r 2 rfl) rfl ci_3 ?_
  refine obind_e hs (fun r1 hg3 hs => ?_)
  refine AW.callV (N := MX10_of) (As := [.int (p1), .int ((3 : Int32))]) (S := []) (L0 := [some (.ref (b)), some (.int (p1)), some (.int ((3 : Int32)))]) (b := b) (am_r 3 rfl) rfl ovX10_of q1615 rfl rfl mb_ob rfl rfl rfl rfl (dX10_of hA  hg3 (cQ_r ?_))
  refine AW.if_ne (tg := 12) (am_r 4 rfl) rfl rfl (fun hc4 => ?_) (fun hc4 => ?_)
  · replace hs := (if_neg hc4).symm.trans hs
    refine AW.aload_n (z := 0) (am_r 7 rfl) rfl rfl ?_
    refine obind_e hs (fun r5 hg7 hs => ?_)
    refine AW.callV (N := MX10_keep) (As := []) (S := []) (L0 := [some (.ref (b))]) (b := b) (am_r 8 rfl) rfl ovX10_keep q1619 rfl rfl mb_ob rfl rfl rfl rfl (dX10_keep hA  hg7 (cQ_v ?_))
    refine AW.aload_n (z := 0) (am_r 9 rfl) rfl rfl ?_
    refine AW.iload_n (z := 1) (am_r 10 rfl) rfl rfl ?_
    refine AW.iconst (am_r 11 rfl) rfl ci_3 ?_
    refine AW.iconst (am_r 12 rfl) rfl ci_m1 ?_
    refine obind_e hs (fun r8 hg10 hs => ?_)
    refine AW.callV (N := MX10_add) (As := [.int (p1), .int ((3 : Int32)), .int ((-1 : Int32))]) (S := []) (L0 := [some (.ref (b)), some (.int (p1)), some (.int ((3 : Int32))), some (.int ((-1 : Int32)))]) (b := b) (am_r 13 rfl) rfl ovX10_add q1647 rfl rfl mb_ob rfl rfl rfl rfl (dX10_add hA  hg10 (cQ_v ?_))
    refine AW.aload_n (z := 0) (am_r 14 rfl) rfl rfl ?_
    refine AW.iload_n (z := 1) (am_r 15 rfl) rfl rfl ?_
    refine AW.iconst (am_r 16 rfl) rfl ci_3 ?_
    refine obind_e hs (fun r11 hg13 hs => ?_)
    refine AW.callV (N := MX10_of) (As := [.int (p1), .int ((3 : Int32))]) (S := []) (L0 := [some (.ref (b)), some (.int (p1)), some (.int ((3 : Int32)))]) (b := b) (am_r 17 rfl) rfl ovX10_of q1615 rfl rfl mb_ob rfl rfl rfl rfl (dX10_of hA  hg13 (cQ_r ?_))
    refine AW.if_ne (tg := 39) (am_r 18 rfl) rfl rfl (fun hc14 => ?_) (fun hc14 => ?_)
    · replace hs := (if_neg hc14).symm.trans hs
      exact dX10_cancelNow_j39 hA   hs hQ
    · replace hs := (if_pos hc14).symm.trans hs
      refine AW.aload_n (z := 0) (am_r 19 rfl) rfl rfl ?_
      refine AW.iload_n (z := 1) (am_r 20 rfl) rfl rfl ?_
      refine AW.iconst (am_r 21 rfl) rfl ci_4 ?_
      refine AW.iconst (am_r 22 rfl) rfl ci_m1 ?_
      refine obind_e hs (fun r21 hg23 hs => ?_)
      refine AW.callV (N := MX10_set) (As := [.int (p1), .int ((4 : Int32)), .int ((-1 : Int32))]) (S := []) (L0 := [some (.ref (b)), some (.int (p1)), some (.int ((4 : Int32))), some (.int ((-1 : Int32)))]) (b := b) (am_r 23 rfl) rfl ovX10_set q1623 rfl rfl mb_ob rfl rfl rfl rfl (dX10_set hA  hg23 (cQ_v ?_))
      exact dX10_cancelNow_j39 hA   hs hQ
  · replace hs := (if_pos hc4).symm.trans hs
    refine AW.bipush (am_r 5 rfl) rfl cb_m4 ?_
    have hr := (Option.some.inj hs).symm
    subst hr
    exact AW.iret (am_r 6 rfl) rfl hQ
noncomputable def sX10_clearNow (S : Mem) (p1 : Int32) : Option (Int32 × Mem) :=
  obind (sX10_of S p1 (3 : Int32)) fun r1 =>
  if r1 = 0 then
    some (((-4 : Int32), S))
  else
    obind (sX10_keep S ) fun r5 =>
    obind (sX10_set r5 p1 (3 : Int32) (0 : Int32)) fun r8 =>
    obind (sX10_set r8 p1 (4 : Int32) (-1 : Int32)) fun r11 =>
    some ((r1, r11))
set_option maxRecDepth 100000 in
theorem dX10_clearNow {g : AG} {h0 : AH} {b : Nat} {S : Mem} {Q : AO → AH → Prop} {p1 : Int32} (hA : gB g ≤ b)  {r : (Int32 × Mem)} (hs : sX10_clearNow S p1 = some r) (hQ : Q (.ok (some (.int r.1))) (mb h0 b r.2)) : AW g MX10_clearNow 0 [some (.ref (b)), some (.int (p1)), none] [] (mb h0 b S) Q := by
  unfold sX10_clearNow at hs
  refine AW.aload_n (z := 0) (am_r 0 rfl) rfl rfl ?_
  refine AW.iload_n (z := 1) (am_r 1 rfl) rfl rfl ?_
  refine AW.iconst (am_r 2 rfl) rfl ci_3 ?_
  refine obind_e hs (fun r1 hg3 hs => ?_)
  refine AW.callV (N := MX10_of) (As := [.int (p1), .int ((3 : Int32))]) (S := []) (L0 := [some (.ref (b)), some (.int (p1)), some (.int ((3 : Int32)))]) (b := b) (am_r 3 rfl) rfl ovX10_of q1615 rfl rfl mb_ob rfl rfl rfl rfl (dX10_of hA  hg3 (cQ_r ?_))
  refine AW.istore_n (L' := [some (.ref (b)), some (.int (p1)), some (.int (r1))]) (z := 2) (am_r 4 rfl) rfl (Nat.le_of_ble_eq_true rfl) rfl ?_
  refine AW.iload_n (z := 2) (am_r 5 rfl) rfl rfl ?_
  refine AW.if_ne (tg := 14) (am_r 6 rfl) rfl rfl (fun hc4 => ?_) (fun hc4 => ?_)
  · replace hs := (if_neg hc4).symm.trans hs
    refine AW.aload_n (z := 0) (am_r 9 rfl) rfl rfl ?_
    refine obind_e hs (fun r5 hg7 hs => ?_)
    refine AW.callV (N := MX10_keep) (As := []) (S := []) (L0 := [some (.ref (b))]) (b := b) (am_r 10 rfl) rfl ovX10_keep q1619 rfl rfl mb_ob rfl rfl rfl rfl (dX10_keep hA  hg7 (cQ_v ?_))
    refine AW.aload_n (z := 0) (am_r 11 rfl) rfl rfl ?_
    refine AW.iload_n (z := 1) (am_r 12 rfl) rfl rfl ?_
    refine AW.iconst (am_r 13 rfl) rfl ci_3 ?_
    refine AW.iconst (am_r 14 rfl) rfl ci_0 ?_
    refine obind_e hs (fun r8 hg10 hs => ?_)
    refine AW.callV (N := MX10_set) (As := [.int (p1), .int ((3 : Int32)), .int ((0 : Int32))]) (S := []) (L0 := [some (.ref (b)), some (.int (p1)), some (.int ((3 : Int32))), some (.int ((0 : Int32)))]) (b := b) (am_r 15 rfl) rfl ovX10_set q1623 rfl rfl mb_ob rfl rfl rfl rfl (dX10_set hA  hg10 (cQ_v ?_))
    refine AW.aload_n (z := 0) (am_r 16 rfl) rfl rfl ?_
    refine AW.iload_n (z := 1) (am_r 17 rfl) rfl rfl ?_
    refine AW.iconst (am_r 18 rfl) rfl ci_4 ?_
    refine AW.iconst (am_r 19 rfl) rfl ci_m1 ?_
    refine obind_e hs (fun r11 hg13 hs => ?_)
    refine AW.callV (N := MX10_set) (As := [.int (p1), .int ((4 : Int32)), .int ((-1 : Int32))]) (S := []) (L0 := [some (.ref (b)), some (.int (p1)), some (.int ((4 : Int32))), some (.int ((-1 : Int32)))]) (b := b) (am_r 20 rfl) rfl ovX10_set q1623 rfl rfl mb_ob rfl rfl rfl rfl (dX10_set hA  hg13 (cQ_v ?_))
    refine AW.iload_n (z := 2) (am_r 21 rfl) rfl rfl ?_
    have hr := (Option.some.inj hs).symm
    subst hr
    exact AW.iret (am_r 22 rfl) rfl hQ
  · replace hs := (if_pos hc4).symm.trans hs
    refine AW.bipush (am_r 7 rfl) rfl cb_m4 ?_
    have hr := (Option.some.inj hs).symm
    subst hr
    exact AW.iret (am_r 8 rfl) rfl hQ
noncomputable def sX10_exchangeNow (S : Mem) (p1 : Int32) (p2 : Int32) (p3 : Int32) : Option (Int32 × Mem) :=
  obind (sX10_of S p1 (3 : Int32)) fun r1 =>
  if (sX10_inRange S p2.toInt64 (0 : Int64) ((r1 - (1 : Int32)).toInt64)) = 0 then
    some (((-4 : Int32), S))
  else
    obind (sX10_of S p1 (3 : Int32)) fun r7 =>
    if (sX10_inRange S p3.toInt64 (0 : Int64) ((r7 - (1 : Int32)).toInt64)) = 0 then
      some (((-4 : Int32), S))
    else
      if p2 = p3 then
        some (((-4 : Int32), S))
      else
        obind (sX10_keep S ) fun r14 =>
        obind (sX10_of r14 p1 ((13 : Int32) + p3)) fun r17 =>
        obind (sX10_of r14 p1 ((13 : Int32) + p2)) fun r20 =>
        obind (sX10_set r14 p1 ((13 : Int32) + p3) r20) fun r23 =>
        obind (sX10_set r23 p1 ((13 : Int32) + p2) r17) fun r26 =>
        if p2 = 0 then
          obind (sX10_set r26 p1 (4 : Int32) (-1 : Int32)) fun r30 =>
          some ((r17, r30))
        else
          if p3 = 0 then
            obind (sX10_set r26 p1 (4 : Int32) (-1 : Int32)) fun r34 =>
            some ((r17, r34))
          else
            some ((r17, r26))
set_option maxRecDepth 100000 in
theorem dX10_exchangeNow {g : AG} {h0 : AH} {b : Nat} {S : Mem} {Q : AO → AH → Prop} {p1 : Int32} {p2 : Int32} {p3 : Int32} (hA : gB g ≤ b)  {r : (Int32 × Mem)} (hs : sX10_exchangeNow S p1 p2 p3 = some r) (hQ : Q (.ok (some (.int r.1))) (mb h0 b r.2)) : AW g MX10_exchangeNow 0 [some (.ref (b)), some (.int (p1)), some (.int (p2)), some (.int (p3)), none] [] (mb h0 b S) Q := by
  unfold sX10_exchangeNow at hs
  refine AW.iload_n (z := 2) (am_r 0 rfl) rfl rfl ?_
  refine AW.i2l (am_r 1 rfl) rfl ?_
  refine AW.lconst (z := 0) (am_r 2 rfl) rfl cl_0 ?_
  refine AW.aload_n (z := 0) (am_r 3 rfl) rfl rfl ?_
  refine AW.iload_n (z := 1) (am_r 4 rfl) rfl rfl ?_
  refine AW.iconst (am_r 5 rfl) rfl ci_3 ?_
  refine obind_e hs (fun r1 hg3 hs => ?_)
  refine AW.callV (N := MX10_of) (As := [.int (p1), .int ((3 : Int32))]) (S := [(.long ((0 : Int64))), (.long (p2.toInt64))]) (L0 := [some (.ref (b)), some (.int (p1)), some (.int ((3 : Int32)))]) (b := b) (am_r 6 rfl) rfl ovX10_of q1615 rfl rfl mb_ob rfl rfl rfl rfl (dX10_of hA  hg3 (cQ_r ?_))
  refine AW.iconst (am_r 7 rfl) rfl ci_1 ?_
  refine AW.isub (am_r 8 rfl) rfl ?_
  refine AW.i2l (am_r 9 rfl) rfl ?_
  refine AW.callS (N := MX10_inRange) (As := [.long (p2.toInt64), .long ((0 : Int64)), .long ((r1 - (1 : Int32)).toInt64)]) (S := []) (L0 := [some (.long (p2.toInt64)), none, some (.long ((0 : Int64))), none, some (.long ((r1 - (1 : Int32)).toInt64)), none]) (am_r 10 rfl) rfl osX10_inRange q1592 rfl rfl rfl rfl rfl (dX10_inRange hA  rfl (fun hok5 => (cQ_r ?_)))
  refine AW.if_eq (tg := 41) (am_r 11 rfl) rfl rfl (fun hc6 => ?_) (fun hc6 => ?_)
  · replace hs := (if_pos hc6).symm.trans hs
    refine AW.bipush (am_r 27 rfl) rfl cb_m4 ?_
    have hr := (Option.some.inj hs).symm
    subst hr
    exact AW.iret (am_r 28 rfl) rfl hQ
  · replace hs := (if_neg hc6).symm.trans hs
    refine AW.iload_n (z := 3) (am_r 12 rfl) rfl rfl ?_
    refine AW.i2l (am_r 13 rfl) rfl ?_
    refine AW.lconst (z := 0) (am_r 14 rfl) rfl cl_0 ?_
    refine AW.aload_n (z := 0) (am_r 15 rfl) rfl rfl ?_
    refine AW.iload_n (z := 1) (am_r 16 rfl) rfl rfl ?_
    refine AW.iconst (am_r 17 rfl) rfl ci_3 ?_
    refine obind_e hs (fun r7 hg9 hs => ?_)
    refine AW.callV (N := MX10_of) (As := [.int (p1), .int ((3 : Int32))]) (S := [(.long ((0 : Int64))), (.long (p3.toInt64))]) (L0 := [some (.ref (b)), some (.int (p1)), some (.int ((3 : Int32)))]) (b := b) (am_r 18 rfl) rfl ovX10_of q1615 rfl rfl mb_ob rfl rfl rfl rfl (dX10_of hA  hg9 (cQ_r ?_))
    refine AW.iconst (am_r 19 rfl) rfl ci_1 ?_
    refine AW.isub (am_r 20 rfl) rfl ?_
    refine AW.i2l (am_r 21 rfl) rfl ?_
    refine AW.callS (N := MX10_inRange) (As := [.long (p3.toInt64), .long ((0 : Int64)), .long ((r7 - (1 : Int32)).toInt64)]) (S := []) (L0 := [some (.long (p3.toInt64)), none, some (.long ((0 : Int64))), none, some (.long ((r7 - (1 : Int32)).toInt64)), none]) (am_r 22 rfl) rfl osX10_inRange q1592 rfl rfl rfl rfl rfl (dX10_inRange hA  rfl (fun hok11 => (cQ_r ?_)))
    refine AW.if_eq (tg := 41) (am_r 23 rfl) rfl rfl (fun hc12 => ?_) (fun hc12 => ?_)
    · replace hs := (if_pos hc12).symm.trans hs
      refine AW.bipush (am_r 27 rfl) rfl cb_m4 ?_
      have hr := (Option.some.inj hs).symm
      subst hr
      exact AW.iret (am_r 28 rfl) rfl hQ
    · replace hs := (if_neg hc12).symm.trans hs
      refine AW.iload_n (z := 2) (am_r 24 rfl) rfl rfl ?_
      refine AW.iload_n (z := 3) (am_r 25 rfl) rfl rfl ?_
      refine AW.icmp_ne (tg := 44) (am_r 26 rfl) rfl rfl (fun hc13 => ?_) (fun hc13 => ?_)
      · replace hs := (if_neg hc13).symm.trans hs
        refine AW.aload_n (z := 0) (am_r 29 rfl) rfl rfl ?_
        refine obind_e hs (fun r14 hg16 hs => ?_)
        refine AW.callV (N := MX10_keep) (As := []) (S := []) (L0 := [some (.ref (b))]) (b := b) (am_r 30 rfl) rfl ovX10_keep q1619 rfl rfl mb_ob rfl rfl rfl rfl (dX10_keep hA  hg16 (cQ_v ?_))
        refine AW.aload_n (z := 0) (am_r 31 rfl) rfl rfl ?_
        refine AW.iload_n (z := 1) (am_r 32 rfl) rfl rfl ?_
        refine AW.bipush (am_r 33 rfl) rfl cb_13 ?_
        refine AW.iload_n (z := 3) (am_r 34 rfl) rfl rfl ?_
        refine AW.iadd (am_r 35 rfl) rfl ?_
        refine obind_e hs (fun r17 hg19 hs => ?_)
        refine AW.callV (N := MX10_of) (As := [.int (p1), .int ((13 : Int32) + p3)]) (S := []) (L0 := [some (.ref (b)), some (.int (p1)), some (.int ((13 : Int32) + p3))]) (b := b) (am_r 36 rfl) rfl ovX10_of q1615 rfl rfl mb_ob rfl rfl rfl rfl (dX10_of hA  hg19 (cQ_r ?_))
        refine AW.istore (L' := [some (.ref (b)), some (.int (p1)), some (.int (p2)), some (.int (p3)), some (.int (r17))]) (am_r 37 rfl) rfl (Nat.le_of_ble_eq_true rfl) rfl ?_
        refine AW.aload_n (z := 0) (am_r 38 rfl) rfl rfl ?_
        refine AW.iload_n (z := 1) (am_r 39 rfl) rfl rfl ?_
        refine AW.bipush (am_r 40 rfl) rfl cb_13 ?_
        refine AW.iload_n (z := 3) (am_r 41 rfl) rfl rfl ?_
        refine AW.iadd (am_r 42 rfl) rfl ?_
        refine AW.aload_n (z := 0) (am_r 43 rfl) rfl rfl ?_
        refine AW.iload_n (z := 1) (am_r 44 rfl) rfl rfl ?_
        refine AW.bipush (am_r 45 rfl) rfl cb_13 ?_
        refine AW.iload_n (z := 2) (am_r 46 rfl) rfl rfl ?_
        refine AW.iadd (am_r 47 rfl) rfl ?_
        refine obind_e hs (fun r20 hg22 hs => ?_)
        refine AW.callV (N := MX10_of) (As := [.int (p1), .int ((13 : Int32) + p2)]) (S := [(.int ((13 : Int32) + p3)), (.int (p1)), (.ref (b))]) (L0 := [some (.ref (b)), some (.int (p1)), some (.int ((13 : Int32) + p2))]) (b := b) (am_r 48 rfl) rfl ovX10_of q1615 rfl rfl mb_ob rfl rfl rfl rfl (dX10_of hA  hg22 (cQ_r ?_))
        refine obind_e hs (fun r23 hg25 hs => ?_)
        refine AW.callV (N := MX10_set) (As := [.int (p1), .int ((13 : Int32) + p3), .int (r20)]) (S := []) (L0 := [some (.ref (b)), some (.int (p1)), some (.int ((13 : Int32) + p3)), some (.int (r20))]) (b := b) (am_r 49 rfl) rfl ovX10_set q1623 rfl rfl mb_ob rfl rfl rfl rfl (dX10_set hA  hg25 (cQ_v ?_))
        refine AW.aload_n (z := 0) (am_r 50 rfl) rfl rfl ?_
        refine AW.iload_n (z := 1) (am_r 51 rfl) rfl rfl ?_
        refine AW.bipush (am_r 52 rfl) rfl cb_13 ?_
        refine AW.iload_n (z := 2) (am_r 53 rfl) rfl rfl ?_
        refine AW.iadd (am_r 54 rfl) rfl ?_
        refine AW.iload (am_r 55 rfl) rfl rfl ?_
        refine obind_e hs (fun r26 hg28 hs => ?_)
        refine AW.callV (N := MX10_set) (As := [.int (p1), .int ((13 : Int32) + p2), .int (r17)]) (S := []) (L0 := [some (.ref (b)), some (.int (p1)), some (.int ((13 : Int32) + p2)), some (.int (r17))]) (b := b) (am_r 56 rfl) rfl ovX10_set q1623 rfl rfl mb_ob rfl rfl rfl rfl (dX10_set hA  hg28 (cQ_v ?_))
        refine AW.iload_n (z := 2) (am_r 57 rfl) rfl rfl ?_
        refine AW.if_eq (tg := 96) (am_r 58 rfl) rfl rfl (fun hc29 => ?_) (fun hc29 => ?_)
        · replace hs := (if_pos hc29).symm.trans hs
          refine AW.aload_n (z := 0) (am_r 61 rfl) rfl rfl ?_
          refine AW.iload_n (z := 1) (am_r 62 rfl) rfl rfl ?_
          refine AW.iconst (am_r 63 rfl) rfl ci_4 ?_
          refine AW.iconst (am_r 64 rfl) rfl ci_m1 ?_
          refine obind_e hs (fun r30 hg32 hs => ?_)
          refine AW.callV (N := MX10_set) (As := [.int (p1), .int ((4 : Int32)), .int ((-1 : Int32))]) (S := []) (L0 := [some (.ref (b)), some (.int (p1)), some (.int ((4 : Int32))), some (.int ((-1 : Int32)))]) (b := b) (am_r 65 rfl) rfl ovX10_set q1623 rfl rfl mb_ob rfl rfl rfl rfl (dX10_set hA  hg32 (cQ_v ?_))
          refine AW.iload (am_r 66 rfl) rfl rfl ?_
          have hr := (Option.some.inj hs).symm
          subst hr
          exact AW.iret (am_r 67 rfl) rfl hQ
        · replace hs := (if_neg hc29).symm.trans hs
          refine AW.iload_n (z := 3) (am_r 59 rfl) rfl rfl ?_
          refine AW.if_ne (tg := 103) (am_r 60 rfl) rfl rfl (fun hc33 => ?_) (fun hc33 => ?_)
          · replace hs := (if_neg hc33).symm.trans hs
            refine AW.iload (am_r 66 rfl) rfl rfl ?_
            have hr := (Option.some.inj hs).symm
            subst hr
            exact AW.iret (am_r 67 rfl) rfl hQ
          · replace hs := (if_pos hc33).symm.trans hs
            refine AW.aload_n (z := 0) (am_r 61 rfl) rfl rfl ?_
            refine AW.iload_n (z := 1) (am_r 62 rfl) rfl rfl ?_
            refine AW.iconst (am_r 63 rfl) rfl ci_4 ?_
            refine AW.iconst (am_r 64 rfl) rfl ci_m1 ?_
            refine obind_e hs (fun r34 hg36 hs => ?_)
            refine AW.callV (N := MX10_set) (As := [.int (p1), .int ((4 : Int32)), .int ((-1 : Int32))]) (S := []) (L0 := [some (.ref (b)), some (.int (p1)), some (.int ((4 : Int32))), some (.int ((-1 : Int32)))]) (b := b) (am_r 65 rfl) rfl ovX10_set q1623 rfl rfl mb_ob rfl rfl rfl rfl (dX10_set hA  hg36 (cQ_v ?_))
            refine AW.iload (am_r 66 rfl) rfl rfl ?_
            have hr := (Option.some.inj hs).symm
            subst hr
            exact AW.iret (am_r 67 rfl) rfl hQ
      · replace hs := (if_pos hc13).symm.trans hs
        refine AW.bipush (am_r 27 rfl) rfl cb_m4 ?_
        have hr := (Option.some.inj hs).symm
        subst hr
        exact AW.iret (am_r 28 rfl) rfl hQ
noncomputable def sX10_clearQueue_j19 (S : Mem) (p1 : Int32) (y0 : Int32) : Option (Int32 × Mem) :=
  olet (sX10_throwsIf S y0 (1 : Int32)) fun r5 =>
  if r5.1 = 0 then
    obind (sX10_clearNow r5.2 p1) fun r8 =>
    some ((r8.1, r8.2))
  else
    some (((0 : Int32), r5.2))
set_option maxRecDepth 100000 in
theorem dX10_clearQueue_j19 {g : AG} {h0 : AH} {b : Nat} {S : Mem} {Q : AO → AH → Prop} {p1 : Int32} {y0 : Int32} (hA : gB g ≤ b)  (hk0 : y0 = 0 ∨ y0 = 1) {r : (Int32 × Mem)} (hs : sX10_clearQueue_j19 S p1 y0 = some r) (hQ : Q (.ok (some (.int r.1))) (mb h0 b r.2)) : AW g MX10_clearQueue 19 [some (.ref (b)), some (.int (p1))] [(.int (y0)), (.ref (b))] (mb h0 b S) Q := by
  unfold sX10_clearQueue_j19 at hs
  refine AW.iconst (am_r 11 rfl) rfl ci_1 ?_
  refine AW.callV (N := MX10_throwsIf) (As := [.int (y0), .int ((1 : Int32))]) (S := []) (L0 := [some (.ref (b)), some (.int (y0)), some (.int ((1 : Int32)))]) (b := b) (am_r 12 rfl) rfl ovX10_throwsIf q1607 rfl rfl mb_ob rfl rfl rfl rfl (dX10_throwsIf hA hk0 rfl (fun hok6 => (cQ_r ?_)))
  refine olet_e (P := fun (y : (Int32 × Mem)) => (y.1 = 0 ∨ y.1 = 1) → AW g MX10_clearQueue 23 [some (.ref (b)), some (.int (p1))] [(.int (y.1))] (mb h0 b y.2) Q) hs (fun r5 hs hok6 => ?_) hok6
  refine AW.if_eq (tg := 30) (am_r 13 rfl) rfl rfl (fun hc7 => ?_) (fun hc7 => ?_)
  · replace hs := (if_pos hc7).symm.trans hs
    refine AW.aload_n (z := 0) (am_r 16 rfl) rfl rfl ?_
    refine AW.iload_n (z := 1) (am_r 17 rfl) rfl rfl ?_
    refine obind_e hs (fun r8 hg10 hs => ?_)
    refine AW.callV (N := MX10_clearNow) (As := [.int (p1)]) (S := []) (L0 := [some (.ref (b)), some (.int (p1)), none]) (b := b) (am_r 18 rfl) rfl ovX10_clearNow q1611 rfl rfl mb_ob rfl rfl rfl rfl (dX10_clearNow hA  hg10 (cQ_r ?_))
    have hr := (Option.some.inj hs).symm
    subst hr
    exact AW.iret (am_r 19 rfl) rfl hQ
  · replace hs := (if_neg hc7).symm.trans hs
    refine AW.iconst (am_r 14 rfl) rfl ci_0 ?_
    refine AW.goto (tg := 35) (am_r 15 rfl) rfl ?_
    have hr := (Option.some.inj hs).symm
    subst hr
    exact AW.iret (am_r 19 rfl) rfl hQ
noncomputable def sX10_clearQueue (S : Mem) (p1 : Int32) : Option (Int32 × Mem) :=
  olet (si S 100 6 0 ((0 : Int32))) fun S1 =>
  if (sX10_isObject S1 p1) = 0 then
    sX10_clearQueue_j19 S1 p1 (1 : Int32)
  else
    sX10_clearQueue_j19 S1 p1 (0 : Int32)
set_option maxRecDepth 100000 in
theorem dX10_clearQueue {g : AG} {h0 : AH} {b : Nat} {S : Mem} {Q : AO → AH → Prop} {p1 : Int32} (hA : gB g ≤ b)  {r : (Int32 × Mem)} (hs : sX10_clearQueue S p1 = some r) (hQ : Q (.ok (some (.int r.1))) (mb h0 b r.2)) : AW g MX10_clearQueue 0 [some (.ref (b)), some (.int (p1))] [] (mb h0 b S) Q := by
  unfold sX10_clearQueue at hs
  refine AW.aload_n (z := 0) (am_r 0 rfl) rfl rfl ?_
  refine AW.iconst (am_r 1 rfl) rfl ci_0 ?_
  refine AW.putO (am_r 2 rfl) rfl klX10 (k := 6) (by omega) q1509 (Or.inl rfl) mb_ob hA rfl rfl (mbp_ob (by decide)) ?_
  refine olet_e (P := fun y => AW g MX10_clearQueue 5 [some (.ref (b)), some (.int (p1))] [] (mb h0 b y) Q) hs (fun S1 hs => ?_)
  refine AW.aload_n (z := 0) (am_r 3 rfl) rfl rfl ?_
  refine AW.aload_n (z := 0) (am_r 4 rfl) rfl rfl ?_
  refine AW.iload_n (z := 1) (am_r 5 rfl) rfl rfl ?_
  refine AW.callV (N := MX10_isObject) (As := [.int (p1)]) (S := [(.ref (b))]) (L0 := [some (.ref (b)), some (.int (p1))]) (b := b) (am_r 6 rfl) rfl ovX10_isObject q1603 rfl rfl mb_ob rfl rfl rfl rfl (dX10_isObject hA  rfl (fun hok3 => (cQ_r ?_)))
  refine AW.if_ne (tg := 18) (am_r 7 rfl) rfl rfl (fun hc4 => ?_) (fun hc4 => ?_)
  · replace hs := (if_neg hc4).symm.trans hs
    refine AW.iconst (am_r 10 rfl) rfl ci_0 ?_
    exact dX10_clearQueue_j19 hA  (Or.inl rfl) hs hQ
  · replace hs := (if_pos hc4).symm.trans hs
    refine AW.iconst (am_r 8 rfl) rfl ci_1 ?_
    refine AW.goto (tg := 19) (am_r 9 rfl) rfl ?_
    exact dX10_clearQueue_j19 hA  (Or.inr rfl) hs hQ
noncomputable def sX10_exchange_j19 (S : Mem) (p1 : Int32) (p2 : Int32) (p3 : Int32) (y0 : Int32) : Option (Int32 × Mem) :=
  olet (sX10_throwsIf S y0 (1 : Int32)) fun r5 =>
  if r5.1 = 0 then
    obind (sX10_exchangeNow r5.2 p1 p2 p3) fun r8 =>
    some ((r8.1, r8.2))
  else
    some (((0 : Int32), r5.2))
set_option maxRecDepth 100000 in
theorem dX10_exchange_j19 {g : AG} {h0 : AH} {b : Nat} {S : Mem} {Q : AO → AH → Prop} {p1 : Int32} {p2 : Int32} {p3 : Int32} {y0 : Int32} (hA : gB g ≤ b)  (hk0 : y0 = 0 ∨ y0 = 1) {r : (Int32 × Mem)} (hs : sX10_exchange_j19 S p1 p2 p3 y0 = some r) (hQ : Q (.ok (some (.int r.1))) (mb h0 b r.2)) : AW g MX10_exchange 19 [some (.ref (b)), some (.int (p1)), some (.int (p2)), some (.int (p3))] [(.int (y0)), (.ref (b))] (mb h0 b S) Q := by
  unfold sX10_exchange_j19 at hs
  refine AW.iconst (am_r 11 rfl) rfl ci_1 ?_
  refine AW.callV (N := MX10_throwsIf) (As := [.int (y0), .int ((1 : Int32))]) (S := []) (L0 := [some (.ref (b)), some (.int (y0)), some (.int ((1 : Int32)))]) (b := b) (am_r 12 rfl) rfl ovX10_throwsIf q1607 rfl rfl mb_ob rfl rfl rfl rfl (dX10_throwsIf hA hk0 rfl (fun hok6 => (cQ_r ?_)))
  refine olet_e (P := fun (y : (Int32 × Mem)) => (y.1 = 0 ∨ y.1 = 1) → AW g MX10_exchange 23 [some (.ref (b)), some (.int (p1)), some (.int (p2)), some (.int (p3))] [(.int (y.1))] (mb h0 b y.2) Q) hs (fun r5 hs hok6 => ?_) hok6
  refine AW.if_eq (tg := 30) (am_r 13 rfl) rfl rfl (fun hc7 => ?_) (fun hc7 => ?_)
  · replace hs := (if_pos hc7).symm.trans hs
    refine AW.aload_n (z := 0) (am_r 16 rfl) rfl rfl ?_
    refine AW.iload_n (z := 1) (am_r 17 rfl) rfl rfl ?_
    refine AW.iload_n (z := 2) (am_r 18 rfl) rfl rfl ?_
    refine AW.iload_n (z := 3) (am_r 19 rfl) rfl rfl ?_
    refine obind_e hs (fun r8 hg10 hs => ?_)
    refine AW.callV (N := MX10_exchangeNow) (As := [.int (p1), .int (p2), .int (p3)]) (S := []) (L0 := [some (.ref (b)), some (.int (p1)), some (.int (p2)), some (.int (p3)), none]) (b := b) (am_r 20 rfl) rfl ovX10_exchangeNow q1631 rfl rfl mb_ob rfl rfl rfl rfl (dX10_exchangeNow hA  hg10 (cQ_r ?_))
    have hr := (Option.some.inj hs).symm
    subst hr
    exact AW.iret (am_r 21 rfl) rfl hQ
  · replace hs := (if_neg hc7).symm.trans hs
    refine AW.iconst (am_r 14 rfl) rfl ci_0 ?_
    refine AW.goto (tg := 37) (am_r 15 rfl) rfl ?_
    have hr := (Option.some.inj hs).symm
    subst hr
    exact AW.iret (am_r 21 rfl) rfl hQ
noncomputable def sX10_exchange (S : Mem) (p1 : Int32) (p2 : Int32) (p3 : Int32) : Option (Int32 × Mem) :=
  olet (si S 100 6 0 ((0 : Int32))) fun S1 =>
  if (sX10_isObject S1 p1) = 0 then
    sX10_exchange_j19 S1 p1 p2 p3 (1 : Int32)
  else
    sX10_exchange_j19 S1 p1 p2 p3 (0 : Int32)
set_option maxRecDepth 100000 in
theorem dX10_exchange {g : AG} {h0 : AH} {b : Nat} {S : Mem} {Q : AO → AH → Prop} {p1 : Int32} {p2 : Int32} {p3 : Int32} (hA : gB g ≤ b)  {r : (Int32 × Mem)} (hs : sX10_exchange S p1 p2 p3 = some r) (hQ : Q (.ok (some (.int r.1))) (mb h0 b r.2)) : AW g MX10_exchange 0 [some (.ref (b)), some (.int (p1)), some (.int (p2)), some (.int (p3))] [] (mb h0 b S) Q := by
  unfold sX10_exchange at hs
  refine AW.aload_n (z := 0) (am_r 0 rfl) rfl rfl ?_
  refine AW.iconst (am_r 1 rfl) rfl ci_0 ?_
  refine AW.putO (am_r 2 rfl) rfl klX10 (k := 6) (by omega) q1509 (Or.inl rfl) mb_ob hA rfl rfl (mbp_ob (by decide)) ?_
  refine olet_e (P := fun y => AW g MX10_exchange 5 [some (.ref (b)), some (.int (p1)), some (.int (p2)), some (.int (p3))] [] (mb h0 b y) Q) hs (fun S1 hs => ?_)
  refine AW.aload_n (z := 0) (am_r 3 rfl) rfl rfl ?_
  refine AW.aload_n (z := 0) (am_r 4 rfl) rfl rfl ?_
  refine AW.iload_n (z := 1) (am_r 5 rfl) rfl rfl ?_
  refine AW.callV (N := MX10_isObject) (As := [.int (p1)]) (S := [(.ref (b))]) (L0 := [some (.ref (b)), some (.int (p1))]) (b := b) (am_r 6 rfl) rfl ovX10_isObject q1603 rfl rfl mb_ob rfl rfl rfl rfl (dX10_isObject hA  rfl (fun hok3 => (cQ_r ?_)))
  refine AW.if_ne (tg := 18) (am_r 7 rfl) rfl rfl (fun hc4 => ?_) (fun hc4 => ?_)
  · replace hs := (if_neg hc4).symm.trans hs
    refine AW.iconst (am_r 10 rfl) rfl ci_0 ?_
    exact dX10_exchange_j19 hA  (Or.inl rfl) hs hQ
  · replace hs := (if_pos hc4).symm.trans hs
    refine AW.iconst (am_r 8 rfl) rfl ci_1 ?_
    refine AW.goto (tg := 19) (am_r 9 rfl) rfl ?_
    exact dX10_exchange_j19 hA  (Or.inr rfl) hs hQ
noncomputable def sX10_approveNow (S : Mem) (p1 : Int32) : Option (Int32 × Mem) :=
  obind (sX10_of S p1 (3 : Int32)) fun r1 =>
  if r1 = 0 then
    some (((-4 : Int32), S))
  else
    obind (sX10_of S p1 (13 : Int32)) fun r5 =>
    obind (sX10_isApprovable S p1 r5) fun r8 =>
    if r8 = 0 then
      some (((-4 : Int32), S))
    else
      obind (sX10_keep S ) fun r12 =>
      obind (sX10_set r12 p1 (4 : Int32) ((gi r12 0 (0 : Int32).toNatClampNeg 0) + (gi r12 5 (1 : Int32).toNatClampNeg 0))) fun r15 =>
      obind (sX10_of r15 p1 (4 : Int32)) fun r18 =>
      some ((r18, r15))
set_option maxRecDepth 100000 in
theorem dX10_approveNow {g : AG} {h0 : AH} {b : Nat} {S : Mem} {Q : AO → AH → Prop} {p1 : Int32} (hA : gB g ≤ b)  {r : (Int32 × Mem)} (hs : sX10_approveNow S p1 = some r) (hQ : Q (.ok (some (.int r.1))) (mb h0 b r.2)) : AW g MX10_approveNow 0 [some (.ref (b)), some (.int (p1))] [] (mb h0 b S) Q := by
  unfold sX10_approveNow at hs
  refine AW.aload_n (z := 0) (am_r 0 rfl) rfl rfl ?_
  refine AW.iload_n (z := 1) (am_r 1 rfl) rfl rfl ?_
  refine AW.iconst (am_r 2 rfl) rfl ci_3 ?_
  refine obind_e hs (fun r1 hg3 hs => ?_)
  refine AW.callV (N := MX10_of) (As := [.int (p1), .int ((3 : Int32))]) (S := []) (L0 := [some (.ref (b)), some (.int (p1)), some (.int ((3 : Int32)))]) (b := b) (am_r 3 rfl) rfl ovX10_of q1615 rfl rfl mb_ob rfl rfl rfl rfl (dX10_of hA  hg3 (cQ_r ?_))
  refine AW.if_eq (tg := 24) (am_r 4 rfl) rfl rfl (fun hc4 => ?_) (fun hc4 => ?_)
  · replace hs := (if_pos hc4).symm.trans hs
    refine AW.bipush (am_r 13 rfl) rfl cb_m4 ?_
    have hr := (Option.some.inj hs).symm
    subst hr
    exact AW.iret (am_r 14 rfl) rfl hQ
  · replace hs := (if_neg hc4).symm.trans hs
    refine AW.aload_n (z := 0) (am_r 5 rfl) rfl rfl ?_
    refine AW.iload_n (z := 1) (am_r 6 rfl) rfl rfl ?_
    refine AW.aload_n (z := 0) (am_r 7 rfl) rfl rfl ?_
    refine AW.iload_n (z := 1) (am_r 8 rfl) rfl rfl ?_
    refine AW.bipush (am_r 9 rfl) rfl cb_13 ?_
    refine obind_e hs (fun r5 hg7 hs => ?_)
    refine AW.callV (N := MX10_of) (As := [.int (p1), .int ((13 : Int32))]) (S := [(.int (p1)), (.ref (b))]) (L0 := [some (.ref (b)), some (.int (p1)), some (.int ((13 : Int32)))]) (b := b) (am_r 10 rfl) rfl ovX10_of q1615 rfl rfl mb_ob rfl rfl rfl rfl (dX10_of hA  hg7 (cQ_r ?_))
    refine obind_e hs (fun r8 hg10 hs => ?_)
    refine AW.callV (N := MX10_isApprovable) (As := [.int (p1), .int (r5)]) (S := []) (L0 := [some (.ref (b)), some (.int (p1)), some (.int (r5))]) (b := b) (am_r 11 rfl) rfl ovX10_isApprovable q1667 rfl rfl mb_ob rfl rfl rfl rfl (dX10_isApprovable hA  hg10 (fun hok9 => (cQ_r ?_)))
    refine AW.if_ne (tg := 27) (am_r 12 rfl) rfl rfl (fun hc11 => ?_) (fun hc11 => ?_)
    · replace hs := (if_neg hc11).symm.trans hs
      refine AW.aload_n (z := 0) (am_r 15 rfl) rfl rfl ?_
      refine obind_e hs (fun r12 hg14 hs => ?_)
      refine AW.callV (N := MX10_keep) (As := []) (S := []) (L0 := [some (.ref (b))]) (b := b) (am_r 16 rfl) rfl ovX10_keep q1619 rfl rfl mb_ob rfl rfl rfl rfl (dX10_keep hA  hg14 (cQ_v ?_))
      refine AW.aload_n (z := 0) (am_r 17 rfl) rfl rfl ?_
      refine AW.iload_n (z := 1) (am_r 18 rfl) rfl rfl ?_
      refine AW.iconst (am_r 19 rfl) rfl ci_4 ?_
      refine AW.aload_n (z := 0) (am_r 20 rfl) rfl rfl ?_
      refine AW.getO (am_r 21 rfl) rfl klX10 (k := 0) (by omega) q1503 mb_ob rfl ?_
      refine AW.iconst (am_r 22 rfl) rfl ci_0 ?_
      refine AW.iald (am_r 23 rfl) rfl mb_a1 (vp_of_inb rfl) rfl ?_
      refine AW.aload_n (z := 0) (am_r 24 rfl) rfl rfl ?_
      refine AW.getO (am_r 25 rfl) rfl klX10 (k := 5) (by omega) q1508 mb_ob rfl ?_
      refine AW.iconst (am_r 26 rfl) rfl ci_1 ?_
      refine AW.iald (am_r 27 rfl) rfl mb_a4 (vp_of_inb rfl) rfl ?_
      refine AW.iadd (am_r 28 rfl) rfl ?_
      refine obind_e hs (fun r15 hg17 hs => ?_)
      refine AW.callV (N := MX10_set) (As := [.int (p1), .int ((4 : Int32)), .int ((gi r12 0 (0 : Int32).toNatClampNeg 0) + (gi r12 5 (1 : Int32).toNatClampNeg 0))]) (S := []) (L0 := [some (.ref (b)), some (.int (p1)), some (.int ((4 : Int32))), some (.int ((gi r12 0 (0 : Int32).toNatClampNeg 0) + (gi r12 5 (1 : Int32).toNatClampNeg 0)))]) (b := b) (am_r 29 rfl) rfl ovX10_set q1623 rfl rfl mb_ob rfl rfl rfl rfl (dX10_set hA  hg17 (cQ_v ?_))
      refine AW.aload_n (z := 0) (am_r 30 rfl) rfl rfl ?_
      refine AW.iload_n (z := 1) (am_r 31 rfl) rfl rfl ?_
      refine AW.iconst (am_r 32 rfl) rfl ci_4 ?_
      refine obind_e hs (fun r18 hg20 hs => ?_)
      refine AW.callV (N := MX10_of) (As := [.int (p1), .int ((4 : Int32))]) (S := []) (L0 := [some (.ref (b)), some (.int (p1)), some (.int ((4 : Int32)))]) (b := b) (am_r 33 rfl) rfl ovX10_of q1615 rfl rfl mb_ob rfl rfl rfl rfl (dX10_of hA  hg20 (cQ_r ?_))
      have hr := (Option.some.inj hs).symm
      subst hr
      exact AW.iret (am_r 34 rfl) rfl hQ
    · replace hs := (if_pos hc11).symm.trans hs
      refine AW.bipush (am_r 13 rfl) rfl cb_m4 ?_
      have hr := (Option.some.inj hs).symm
      subst hr
      exact AW.iret (am_r 14 rfl) rfl hQ
noncomputable def sX10_lendNow (S : Mem) (p1 : Int32) (p2 : Int32) (p3 : Int32) (p4 : Int32) : Option (Int32 × Mem) :=
  obind (sX10_of S p1 (8 : Int32)) fun r1 =>
  if r1 = (-1 : Int32) then
    obind (sX10_keep S ) fun r5 =>
    obind (sX10_set r5 p1 (8 : Int32) p2) fun r8 =>
    obind (sX10_set r8 p1 (9 : Int32) p3) fun r11 =>
    obind (sX10_set r11 p1 (10 : Int32) p4) fun r14 =>
    some ((p2, r14))
  else
    some (((-4 : Int32), S))
set_option maxRecDepth 100000 in
theorem dX10_lendNow {g : AG} {h0 : AH} {b : Nat} {S : Mem} {Q : AO → AH → Prop} {p1 : Int32} {p2 : Int32} {p3 : Int32} {p4 : Int32} (hA : gB g ≤ b)  {r : (Int32 × Mem)} (hs : sX10_lendNow S p1 p2 p3 p4 = some r) (hQ : Q (.ok (some (.int r.1))) (mb h0 b r.2)) : AW g MX10_lendNow 0 [some (.ref (b)), some (.int (p1)), some (.int (p2)), some (.int (p3)), some (.int (p4))] [] (mb h0 b S) Q := by
  unfold sX10_lendNow at hs
  refine AW.aload_n (z := 0) (am_r 0 rfl) rfl rfl ?_
  refine AW.iload_n (z := 1) (am_r 1 rfl) rfl rfl ?_
  refine AW.bipush (am_r 2 rfl) rfl cb_8 ?_
  refine obind_e hs (fun r1 hg3 hs => ?_)
  refine AW.callV (N := MX10_of) (As := [.int (p1), .int ((8 : Int32))]) (S := []) (L0 := [some (.ref (b)), some (.int (p1)), some (.int ((8 : Int32)))]) (b := b) (am_r 3 rfl) rfl ovX10_of q1615 rfl rfl mb_ob rfl rfl rfl rfl (dX10_of hA  hg3 (cQ_r ?_))
  refine AW.iconst (am_r 4 rfl) rfl ci_m1 ?_
  refine AW.icmp_eq (tg := 14) (am_r 5 rfl) rfl rfl (fun hc4 => ?_) (fun hc4 => ?_)
  · replace hs := (if_pos hc4).symm.trans hs
    refine AW.aload_n (z := 0) (am_r 8 rfl) rfl rfl ?_
    refine obind_e hs (fun r5 hg7 hs => ?_)
    refine AW.callV (N := MX10_keep) (As := []) (S := []) (L0 := [some (.ref (b))]) (b := b) (am_r 9 rfl) rfl ovX10_keep q1619 rfl rfl mb_ob rfl rfl rfl rfl (dX10_keep hA  hg7 (cQ_v ?_))
    refine AW.aload_n (z := 0) (am_r 10 rfl) rfl rfl ?_
    refine AW.iload_n (z := 1) (am_r 11 rfl) rfl rfl ?_
    refine AW.bipush (am_r 12 rfl) rfl cb_8 ?_
    refine AW.iload_n (z := 2) (am_r 13 rfl) rfl rfl ?_
    refine obind_e hs (fun r8 hg10 hs => ?_)
    refine AW.callV (N := MX10_set) (As := [.int (p1), .int ((8 : Int32)), .int (p2)]) (S := []) (L0 := [some (.ref (b)), some (.int (p1)), some (.int ((8 : Int32))), some (.int (p2))]) (b := b) (am_r 14 rfl) rfl ovX10_set q1623 rfl rfl mb_ob rfl rfl rfl rfl (dX10_set hA  hg10 (cQ_v ?_))
    refine AW.aload_n (z := 0) (am_r 15 rfl) rfl rfl ?_
    refine AW.iload_n (z := 1) (am_r 16 rfl) rfl rfl ?_
    refine AW.bipush (am_r 17 rfl) rfl cb_9 ?_
    refine AW.iload_n (z := 3) (am_r 18 rfl) rfl rfl ?_
    refine obind_e hs (fun r11 hg13 hs => ?_)
    refine AW.callV (N := MX10_set) (As := [.int (p1), .int ((9 : Int32)), .int (p3)]) (S := []) (L0 := [some (.ref (b)), some (.int (p1)), some (.int ((9 : Int32))), some (.int (p3))]) (b := b) (am_r 19 rfl) rfl ovX10_set q1623 rfl rfl mb_ob rfl rfl rfl rfl (dX10_set hA  hg13 (cQ_v ?_))
    refine AW.aload_n (z := 0) (am_r 20 rfl) rfl rfl ?_
    refine AW.iload_n (z := 1) (am_r 21 rfl) rfl rfl ?_
    refine AW.bipush (am_r 22 rfl) rfl cb_10 ?_
    refine AW.iload (am_r 23 rfl) rfl rfl ?_
    refine obind_e hs (fun r14 hg16 hs => ?_)
    refine AW.callV (N := MX10_set) (As := [.int (p1), .int ((10 : Int32)), .int (p4)]) (S := []) (L0 := [some (.ref (b)), some (.int (p1)), some (.int ((10 : Int32))), some (.int (p4))]) (b := b) (am_r 24 rfl) rfl ovX10_set q1623 rfl rfl mb_ob rfl rfl rfl rfl (dX10_set hA  hg16 (cQ_v ?_))
    refine AW.iload_n (z := 2) (am_r 25 rfl) rfl rfl ?_
    have hr := (Option.some.inj hs).symm
    subst hr
    exact AW.iret (am_r 26 rfl) rfl hQ
  · replace hs := (if_neg hc4).symm.trans hs
    refine AW.bipush (am_r 6 rfl) rfl cb_m4 ?_
    have hr := (Option.some.inj hs).symm
    subst hr
    exact AW.iret (am_r 7 rfl) rfl hQ
noncomputable def sX10_recallNow (S : Mem) (p1 : Int32) : Option (Int32 × Mem) :=
  obind (sX10_of S p1 (8 : Int32)) fun r1 =>
  if r1 = (-1 : Int32) then
    some (((-4 : Int32), S))
  else
    obind (sX10_keep S ) fun r5 =>
    obind (sX10_set r5 p1 (8 : Int32) (-1 : Int32)) fun r8 =>
    some ((r1, r8))
set_option maxRecDepth 100000 in
theorem dX10_recallNow {g : AG} {h0 : AH} {b : Nat} {S : Mem} {Q : AO → AH → Prop} {p1 : Int32} (hA : gB g ≤ b)  {r : (Int32 × Mem)} (hs : sX10_recallNow S p1 = some r) (hQ : Q (.ok (some (.int r.1))) (mb h0 b r.2)) : AW g MX10_recallNow 0 [some (.ref (b)), some (.int (p1)), none] [] (mb h0 b S) Q := by
  unfold sX10_recallNow at hs
  refine AW.aload_n (z := 0) (am_r 0 rfl) rfl rfl ?_
  refine AW.iload_n (z := 1) (am_r 1 rfl) rfl rfl ?_
  refine AW.bipush (am_r 2 rfl) rfl cb_8 ?_
  refine obind_e hs (fun r1 hg3 hs => ?_)
  refine AW.callV (N := MX10_of) (As := [.int (p1), .int ((8 : Int32))]) (S := []) (L0 := [some (.ref (b)), some (.int (p1)), some (.int ((8 : Int32)))]) (b := b) (am_r 3 rfl) rfl ovX10_of q1615 rfl rfl mb_ob rfl rfl rfl rfl (dX10_of hA  hg3 (cQ_r ?_))
  refine AW.istore_n (L' := [some (.ref (b)), some (.int (p1)), some (.int (r1))]) (z := 2) (am_r 4 rfl) rfl (Nat.le_of_ble_eq_true rfl) rfl ?_
  refine AW.iload_n (z := 2) (am_r 5 rfl) rfl rfl ?_
  refine AW.iconst (am_r 6 rfl) rfl ci_m1 ?_
  refine AW.icmp_ne (tg := 16) (am_r 7 rfl) rfl rfl (fun hc4 => ?_) (fun hc4 => ?_)
  · replace hs := (if_neg hc4).symm.trans hs
    refine AW.aload_n (z := 0) (am_r 10 rfl) rfl rfl ?_
    refine obind_e hs (fun r5 hg7 hs => ?_)
    refine AW.callV (N := MX10_keep) (As := []) (S := []) (L0 := [some (.ref (b))]) (b := b) (am_r 11 rfl) rfl ovX10_keep q1619 rfl rfl mb_ob rfl rfl rfl rfl (dX10_keep hA  hg7 (cQ_v ?_))
    refine AW.aload_n (z := 0) (am_r 12 rfl) rfl rfl ?_
    refine AW.iload_n (z := 1) (am_r 13 rfl) rfl rfl ?_
    refine AW.bipush (am_r 14 rfl) rfl cb_8 ?_
    refine AW.iconst (am_r 15 rfl) rfl ci_m1 ?_
    refine obind_e hs (fun r8 hg10 hs => ?_)
    refine AW.callV (N := MX10_set) (As := [.int (p1), .int ((8 : Int32)), .int ((-1 : Int32))]) (S := []) (L0 := [some (.ref (b)), some (.int (p1)), some (.int ((8 : Int32))), some (.int ((-1 : Int32)))]) (b := b) (am_r 16 rfl) rfl ovX10_set q1623 rfl rfl mb_ob rfl rfl rfl rfl (dX10_set hA  hg10 (cQ_v ?_))
    refine AW.iload_n (z := 2) (am_r 17 rfl) rfl rfl ?_
    have hr := (Option.some.inj hs).symm
    subst hr
    exact AW.iret (am_r 18 rfl) rfl hQ
  · replace hs := (if_pos hc4).symm.trans hs
    refine AW.bipush (am_r 8 rfl) rfl cb_m4 ?_
    have hr := (Option.some.inj hs).symm
    subst hr
    exact AW.iret (am_r 9 rfl) rfl hQ
noncomputable def sX10_tickNow (S : Mem) (p1 : Int32) : Option (Int32 × Mem) :=
  if ((gi S 0 (0 : Int32).toNatClampNeg 0) + p1) ≤ (20000 : Int32) then
    obind (sX10_keep S ) fun r2 =>
    obind (sX10_hours r2 p1) fun r5 =>
    some ((gi r5 0 (0 : Int32).toNatClampNeg 0, r5))
  else
    some (((-2 : Int32), S))
set_option maxRecDepth 100000 in
theorem dX10_tickNow {g : AG} {h0 : AH} {b : Nat} {S : Mem} {Q : AO → AH → Prop} {p1 : Int32} (hA : gB g ≤ b)  {r : (Int32 × Mem)} (hs : sX10_tickNow S p1 = some r) (hQ : Q (.ok (some (.int r.1))) (mb h0 b r.2)) : AW g MX10_tickNow 0 [some (.ref (b)), some (.int (p1))] [] (mb h0 b S) Q := by
  unfold sX10_tickNow at hs
  refine AW.aload_n (z := 0) (am_r 0 rfl) rfl rfl ?_
  refine AW.getO (am_r 1 rfl) rfl klX10 (k := 0) (by omega) q1503 mb_ob rfl ?_
  refine AW.iconst (am_r 2 rfl) rfl ci_0 ?_
  refine AW.iald (am_r 3 rfl) rfl mb_a1 (vp_of_inb rfl) rfl ?_
  refine AW.iload_n (z := 1) (am_r 4 rfl) rfl rfl ?_
  refine AW.iadd (am_r 5 rfl) rfl ?_
  refine AW.sipush (am_r 6 rfl) rfl cs_20000 ?_
  refine AW.icmp_le (tg := 17) (am_r 7 rfl) rfl rfl (fun hc1 => ?_) (fun hc1 => ?_)
  · replace hs := (if_pos hc1).symm.trans hs
    refine AW.aload_n (z := 0) (am_r 10 rfl) rfl rfl ?_
    refine obind_e hs (fun r2 hg4 hs => ?_)
    refine AW.callV (N := MX10_keep) (As := []) (S := []) (L0 := [some (.ref (b))]) (b := b) (am_r 11 rfl) rfl ovX10_keep q1619 rfl rfl mb_ob rfl rfl rfl rfl (dX10_keep hA  hg4 (cQ_v ?_))
    refine AW.aload_n (z := 0) (am_r 12 rfl) rfl rfl ?_
    refine AW.iload_n (z := 1) (am_r 13 rfl) rfl rfl ?_
    refine obind_e hs (fun r5 hg7 hs => ?_)
    refine AW.callV (N := MX10_hours) (As := [.int (p1)]) (S := []) (L0 := [some (.ref (b)), some (.int (p1)), none]) (b := b) (am_r 14 rfl) rfl ovX10_hours q1706 rfl rfl mb_ob rfl rfl rfl rfl (dX10_hours hA  hg7 (cQ_v ?_))
    refine AW.aload_n (z := 0) (am_r 15 rfl) rfl rfl ?_
    refine AW.getO (am_r 16 rfl) rfl klX10 (k := 0) (by omega) q1503 mb_ob rfl ?_
    refine AW.iconst (am_r 17 rfl) rfl ci_0 ?_
    refine AW.iald (am_r 18 rfl) rfl mb_a1 (vp_of_inb rfl) rfl ?_
    have hr := (Option.some.inj hs).symm
    subst hr
    exact AW.iret (am_r 19 rfl) rfl hQ
  · replace hs := (if_neg hc1).symm.trans hs
    refine AW.bipush (am_r 8 rfl) rfl cb_m2 ?_
    have hr := (Option.some.inj hs).symm
    subst hr
    exact AW.iret (am_r 9 rfl) rfl hQ
noncomputable def sX10_plan_j27 (S : Mem) (p1 : Int32) (p2 : Int32) (y0 : Int32) : Option (Int32 × Mem) :=
  olet (sX10_throwsIf S y0 (1 : Int32)) fun r5 =>
  if r5.1 = 0 then
    obind (sX10_planNow r5.2 p1 p2) fun r8 =>
    some ((r8.1, r8.2))
  else
    some (((0 : Int32), r5.2))
set_option maxRecDepth 100000 in
theorem dX10_plan_j27 {g : AG} {h0 : AH} {b : Nat} {S : Mem} {Q : AO → AH → Prop} {p1 : Int32} {p2 : Int32} {y0 : Int32} (hA : gB g ≤ b)  (hk0 : y0 = 0 ∨ y0 = 1) {r : (Int32 × Mem)} (hs : sX10_plan_j27 S p1 p2 y0 = some r) (hQ : Q (.ok (some (.int r.1))) (mb h0 b r.2)) : AW g MX10_plan 27 [some (.ref (b)), some (.int (p1)), some (.int (p2))] [(.int (y0)), (.ref (b))] (mb h0 b S) Q := by
  unfold sX10_plan_j27 at hs
  refine AW.iconst (am_r 15 rfl) rfl ci_1 ?_
  refine AW.callV (N := MX10_throwsIf) (As := [.int (y0), .int ((1 : Int32))]) (S := []) (L0 := [some (.ref (b)), some (.int (y0)), some (.int ((1 : Int32)))]) (b := b) (am_r 16 rfl) rfl ovX10_throwsIf q1607 rfl rfl mb_ob rfl rfl rfl rfl (dX10_throwsIf hA hk0 rfl (fun hok6 => (cQ_r ?_)))
  refine olet_e (P := fun (y : (Int32 × Mem)) => (y.1 = 0 ∨ y.1 = 1) → AW g MX10_plan 31 [some (.ref (b)), some (.int (p1)), some (.int (p2))] [(.int (y.1))] (mb h0 b y.2) Q) hs (fun r5 hs hok6 => ?_) hok6
  refine AW.if_eq (tg := 38) (am_r 17 rfl) rfl rfl (fun hc7 => ?_) (fun hc7 => ?_)
  · replace hs := (if_pos hc7).symm.trans hs
    refine AW.aload_n (z := 0) (am_r 20 rfl) rfl rfl ?_
    refine AW.iload_n (z := 1) (am_r 21 rfl) rfl rfl ?_
    refine AW.iload_n (z := 2) (am_r 22 rfl) rfl rfl ?_
    refine obind_e hs (fun r8 hg10 hs => ?_)
    refine AW.callV (N := MX10_planNow) (As := [.int (p1), .int (p2)]) (S := []) (L0 := [some (.ref (b)), some (.int (p1)), some (.int (p2))]) (b := b) (am_r 23 rfl) rfl ovX10_planNow q1643 rfl rfl mb_ob rfl rfl rfl rfl (dX10_planNow hA  hg10 (cQ_r ?_))
    have hr := (Option.some.inj hs).symm
    subst hr
    exact AW.iret (am_r 24 rfl) rfl hQ
  · replace hs := (if_neg hc7).symm.trans hs
    refine AW.iconst (am_r 18 rfl) rfl ci_0 ?_
    refine AW.goto (tg := 44) (am_r 19 rfl) rfl ?_
    have hr := (Option.some.inj hs).symm
    subst hr
    exact AW.iret (am_r 24 rfl) rfl hQ
noncomputable def sX10_plan_j22 (S : Mem) (p1 : Int32) (p2 : Int32)  : Option (Int32 × Mem) :=
  sX10_plan_j27 S p1 p2 (1 : Int32)
set_option maxRecDepth 100000 in
theorem dX10_plan_j22 {g : AG} {h0 : AH} {b : Nat} {S : Mem} {Q : AO → AH → Prop} {p1 : Int32} {p2 : Int32}  (hA : gB g ≤ b)   {r : (Int32 × Mem)} (hs : sX10_plan_j22 S p1 p2  = some r) (hQ : Q (.ok (some (.int r.1))) (mb h0 b r.2)) : AW g MX10_plan 22 [some (.ref (b)), some (.int (p1)), some (.int (p2))] [(.ref (b))] (mb h0 b S) Q := by
  unfold sX10_plan_j22 at hs
  refine AW.iconst (am_r 12 rfl) rfl ci_1 ?_
  refine AW.goto (tg := 27) (am_r 13 rfl) rfl ?_
  exact dX10_plan_j27 hA  (Or.inr rfl) hs hQ
noncomputable def sX10_plan (S : Mem) (p1 : Int32) (p2 : Int32) : Option (Int32 × Mem) :=
  olet (si S 100 6 0 ((0 : Int32))) fun S1 =>
  if (sX10_isObject S1 p1) = 0 then
    sX10_plan_j22 S1 p1 p2 
  else
    if (sX10_isRecipe S1 p2) = 0 then
      sX10_plan_j22 S1 p1 p2 
    else
      sX10_plan_j27 S1 p1 p2 (0 : Int32)
set_option maxRecDepth 100000 in
theorem dX10_plan {g : AG} {h0 : AH} {b : Nat} {S : Mem} {Q : AO → AH → Prop} {p1 : Int32} {p2 : Int32} (hA : gB g ≤ b)  {r : (Int32 × Mem)} (hs : sX10_plan S p1 p2 = some r) (hQ : Q (.ok (some (.int r.1))) (mb h0 b r.2)) : AW g MX10_plan 0 [some (.ref (b)), some (.int (p1)), some (.int (p2))] [] (mb h0 b S) Q := by
  unfold sX10_plan at hs
  refine AW.aload_n (z := 0) (am_r 0 rfl) rfl rfl ?_
  refine AW.iconst (am_r 1 rfl) rfl ci_0 ?_
  refine AW.putO (am_r 2 rfl) rfl klX10 (k := 6) (by omega) q1509 (Or.inl rfl) mb_ob hA rfl rfl (mbp_ob (by decide)) ?_
  refine olet_e (P := fun y => AW g MX10_plan 5 [some (.ref (b)), some (.int (p1)), some (.int (p2))] [] (mb h0 b y) Q) hs (fun S1 hs => ?_)
  refine AW.aload_n (z := 0) (am_r 3 rfl) rfl rfl ?_
  refine AW.aload_n (z := 0) (am_r 4 rfl) rfl rfl ?_
  refine AW.iload_n (z := 1) (am_r 5 rfl) rfl rfl ?_
  refine AW.callV (N := MX10_isObject) (As := [.int (p1)]) (S := [(.ref (b))]) (L0 := [some (.ref (b)), some (.int (p1))]) (b := b) (am_r 6 rfl) rfl ovX10_isObject q1603 rfl rfl mb_ob rfl rfl rfl rfl (dX10_isObject hA  rfl (fun hok3 => (cQ_r ?_)))
  refine AW.if_eq (tg := 22) (am_r 7 rfl) rfl rfl (fun hc4 => ?_) (fun hc4 => ?_)
  · replace hs := (if_pos hc4).symm.trans hs
    exact dX10_plan_j22 hA   hs hQ
  · replace hs := (if_neg hc4).symm.trans hs
    refine AW.aload_n (z := 0) (am_r 8 rfl) rfl rfl ?_
    refine AW.iload_n (z := 2) (am_r 9 rfl) rfl rfl ?_
    refine AW.callV (N := MX10_isRecipe) (As := [.int (p2)]) (S := [(.ref (b))]) (L0 := [some (.ref (b)), some (.int (p2))]) (b := b) (am_r 10 rfl) rfl ovX10_isRecipe q1639 rfl rfl mb_ob rfl rfl rfl rfl (dX10_isRecipe hA  rfl (fun hok12 => (cQ_r ?_)))
    refine AW.if_ne (tg := 26) (am_r 11 rfl) rfl rfl (fun hc13 => ?_) (fun hc13 => ?_)
    · replace hs := (if_neg hc13).symm.trans hs
      refine AW.iconst (am_r 14 rfl) rfl ci_0 ?_
      exact dX10_plan_j27 hA  (Or.inl rfl) hs hQ
    · replace hs := (if_pos hc13).symm.trans hs
      exact dX10_plan_j22 hA   hs hQ
noncomputable def sX10_cancel_j19 (S : Mem) (p1 : Int32) (y0 : Int32) : Option (Int32 × Mem) :=
  olet (sX10_throwsIf S y0 (1 : Int32)) fun r5 =>
  if r5.1 = 0 then
    obind (sX10_cancelNow r5.2 p1) fun r8 =>
    some ((r8.1, r8.2))
  else
    some (((0 : Int32), r5.2))
set_option maxRecDepth 100000 in
theorem dX10_cancel_j19 {g : AG} {h0 : AH} {b : Nat} {S : Mem} {Q : AO → AH → Prop} {p1 : Int32} {y0 : Int32} (hA : gB g ≤ b)  (hk0 : y0 = 0 ∨ y0 = 1) {r : (Int32 × Mem)} (hs : sX10_cancel_j19 S p1 y0 = some r) (hQ : Q (.ok (some (.int r.1))) (mb h0 b r.2)) : AW g MX10_cancel 19 [some (.ref (b)), some (.int (p1))] [(.int (y0)), (.ref (b))] (mb h0 b S) Q := by
  unfold sX10_cancel_j19 at hs
  refine AW.iconst (am_r 11 rfl) rfl ci_1 ?_
  refine AW.callV (N := MX10_throwsIf) (As := [.int (y0), .int ((1 : Int32))]) (S := []) (L0 := [some (.ref (b)), some (.int (y0)), some (.int ((1 : Int32)))]) (b := b) (am_r 12 rfl) rfl ovX10_throwsIf q1607 rfl rfl mb_ob rfl rfl rfl rfl (dX10_throwsIf hA hk0 rfl (fun hok6 => (cQ_r ?_)))
  refine olet_e (P := fun (y : (Int32 × Mem)) => (y.1 = 0 ∨ y.1 = 1) → AW g MX10_cancel 23 [some (.ref (b)), some (.int (p1))] [(.int (y.1))] (mb h0 b y.2) Q) hs (fun r5 hs hok6 => ?_) hok6
  refine AW.if_eq (tg := 30) (am_r 13 rfl) rfl rfl (fun hc7 => ?_) (fun hc7 => ?_)
  · replace hs := (if_pos hc7).symm.trans hs
    refine AW.aload_n (z := 0) (am_r 16 rfl) rfl rfl ?_
    refine AW.iload_n (z := 1) (am_r 17 rfl) rfl rfl ?_
    refine obind_e hs (fun r8 hg10 hs => ?_)
    refine AW.callV (N := MX10_cancelNow) (As := [.int (p1)]) (S := []) (L0 := [some (.ref (b)), some (.int (p1))]) (b := b) (am_r 18 rfl) rfl ovX10_cancelNow q1655 rfl rfl mb_ob rfl rfl rfl rfl (dX10_cancelNow hA  hg10 (cQ_r ?_))
    have hr := (Option.some.inj hs).symm
    subst hr
    exact AW.iret (am_r 19 rfl) rfl hQ
  · replace hs := (if_neg hc7).symm.trans hs
    refine AW.iconst (am_r 14 rfl) rfl ci_0 ?_
    refine AW.goto (tg := 35) (am_r 15 rfl) rfl ?_
    have hr := (Option.some.inj hs).symm
    subst hr
    exact AW.iret (am_r 19 rfl) rfl hQ
noncomputable def sX10_cancel (S : Mem) (p1 : Int32) : Option (Int32 × Mem) :=
  olet (si S 100 6 0 ((0 : Int32))) fun S1 =>
  if (sX10_isObject S1 p1) = 0 then
    sX10_cancel_j19 S1 p1 (1 : Int32)
  else
    sX10_cancel_j19 S1 p1 (0 : Int32)
set_option maxRecDepth 100000 in
theorem dX10_cancel {g : AG} {h0 : AH} {b : Nat} {S : Mem} {Q : AO → AH → Prop} {p1 : Int32} (hA : gB g ≤ b)  {r : (Int32 × Mem)} (hs : sX10_cancel S p1 = some r) (hQ : Q (.ok (some (.int r.1))) (mb h0 b r.2)) : AW g MX10_cancel 0 [some (.ref (b)), some (.int (p1))] [] (mb h0 b S) Q := by
  unfold sX10_cancel at hs
  refine AW.aload_n (z := 0) (am_r 0 rfl) rfl rfl ?_
  refine AW.iconst (am_r 1 rfl) rfl ci_0 ?_
  refine AW.putO (am_r 2 rfl) rfl klX10 (k := 6) (by omega) q1509 (Or.inl rfl) mb_ob hA rfl rfl (mbp_ob (by decide)) ?_
  refine olet_e (P := fun y => AW g MX10_cancel 5 [some (.ref (b)), some (.int (p1))] [] (mb h0 b y) Q) hs (fun S1 hs => ?_)
  refine AW.aload_n (z := 0) (am_r 3 rfl) rfl rfl ?_
  refine AW.aload_n (z := 0) (am_r 4 rfl) rfl rfl ?_
  refine AW.iload_n (z := 1) (am_r 5 rfl) rfl rfl ?_
  refine AW.callV (N := MX10_isObject) (As := [.int (p1)]) (S := [(.ref (b))]) (L0 := [some (.ref (b)), some (.int (p1))]) (b := b) (am_r 6 rfl) rfl ovX10_isObject q1603 rfl rfl mb_ob rfl rfl rfl rfl (dX10_isObject hA  rfl (fun hok3 => (cQ_r ?_)))
  refine AW.if_ne (tg := 18) (am_r 7 rfl) rfl rfl (fun hc4 => ?_) (fun hc4 => ?_)
  · replace hs := (if_neg hc4).symm.trans hs
    refine AW.iconst (am_r 10 rfl) rfl ci_0 ?_
    exact dX10_cancel_j19 hA  (Or.inl rfl) hs hQ
  · replace hs := (if_pos hc4).symm.trans hs
    refine AW.iconst (am_r 8 rfl) rfl ci_1 ?_
    refine AW.goto (tg := 19) (am_r 9 rfl) rfl ?_
    exact dX10_cancel_j19 hA  (Or.inr rfl) hs hQ
noncomputable def sX10_approve_j19 (S : Mem) (p1 : Int32) (y0 : Int32) : Option (Int32 × Mem) :=
  olet (sX10_throwsIf S y0 (1 : Int32)) fun r5 =>
  if r5.1 = 0 then
    obind (sX10_approveNow r5.2 p1) fun r8 =>
    some ((r8.1, r8.2))
  else
    some (((0 : Int32), r5.2))
set_option maxRecDepth 100000 in
theorem dX10_approve_j19 {g : AG} {h0 : AH} {b : Nat} {S : Mem} {Q : AO → AH → Prop} {p1 : Int32} {y0 : Int32} (hA : gB g ≤ b)  (hk0 : y0 = 0 ∨ y0 = 1) {r : (Int32 × Mem)} (hs : sX10_approve_j19 S p1 y0 = some r) (hQ : Q (.ok (some (.int r.1))) (mb h0 b r.2)) : AW g MX10_approve 19 [some (.ref (b)), some (.int (p1))] [(.int (y0)), (.ref (b))] (mb h0 b S) Q := by
  unfold sX10_approve_j19 at hs
  refine AW.iconst (am_r 11 rfl) rfl ci_1 ?_
  refine AW.callV (N := MX10_throwsIf) (As := [.int (y0), .int ((1 : Int32))]) (S := []) (L0 := [some (.ref (b)), some (.int (y0)), some (.int ((1 : Int32)))]) (b := b) (am_r 12 rfl) rfl ovX10_throwsIf q1607 rfl rfl mb_ob rfl rfl rfl rfl (dX10_throwsIf hA hk0 rfl (fun hok6 => (cQ_r ?_)))
  refine olet_e (P := fun (y : (Int32 × Mem)) => (y.1 = 0 ∨ y.1 = 1) → AW g MX10_approve 23 [some (.ref (b)), some (.int (p1))] [(.int (y.1))] (mb h0 b y.2) Q) hs (fun r5 hs hok6 => ?_) hok6
  refine AW.if_eq (tg := 30) (am_r 13 rfl) rfl rfl (fun hc7 => ?_) (fun hc7 => ?_)
  · replace hs := (if_pos hc7).symm.trans hs
    refine AW.aload_n (z := 0) (am_r 16 rfl) rfl rfl ?_
    refine AW.iload_n (z := 1) (am_r 17 rfl) rfl rfl ?_
    refine obind_e hs (fun r8 hg10 hs => ?_)
    refine AW.callV (N := MX10_approveNow) (As := [.int (p1)]) (S := []) (L0 := [some (.ref (b)), some (.int (p1))]) (b := b) (am_r 18 rfl) rfl ovX10_approveNow q1663 rfl rfl mb_ob rfl rfl rfl rfl (dX10_approveNow hA  hg10 (cQ_r ?_))
    have hr := (Option.some.inj hs).symm
    subst hr
    exact AW.iret (am_r 19 rfl) rfl hQ
  · replace hs := (if_neg hc7).symm.trans hs
    refine AW.iconst (am_r 14 rfl) rfl ci_0 ?_
    refine AW.goto (tg := 35) (am_r 15 rfl) rfl ?_
    have hr := (Option.some.inj hs).symm
    subst hr
    exact AW.iret (am_r 19 rfl) rfl hQ
noncomputable def sX10_approve (S : Mem) (p1 : Int32) : Option (Int32 × Mem) :=
  olet (si S 100 6 0 ((0 : Int32))) fun S1 =>
  if (sX10_isObject S1 p1) = 0 then
    sX10_approve_j19 S1 p1 (1 : Int32)
  else
    sX10_approve_j19 S1 p1 (0 : Int32)
set_option maxRecDepth 100000 in
theorem dX10_approve {g : AG} {h0 : AH} {b : Nat} {S : Mem} {Q : AO → AH → Prop} {p1 : Int32} (hA : gB g ≤ b)  {r : (Int32 × Mem)} (hs : sX10_approve S p1 = some r) (hQ : Q (.ok (some (.int r.1))) (mb h0 b r.2)) : AW g MX10_approve 0 [some (.ref (b)), some (.int (p1))] [] (mb h0 b S) Q := by
  unfold sX10_approve at hs
  refine AW.aload_n (z := 0) (am_r 0 rfl) rfl rfl ?_
  refine AW.iconst (am_r 1 rfl) rfl ci_0 ?_
  refine AW.putO (am_r 2 rfl) rfl klX10 (k := 6) (by omega) q1509 (Or.inl rfl) mb_ob hA rfl rfl (mbp_ob (by decide)) ?_
  refine olet_e (P := fun y => AW g MX10_approve 5 [some (.ref (b)), some (.int (p1))] [] (mb h0 b y) Q) hs (fun S1 hs => ?_)
  refine AW.aload_n (z := 0) (am_r 3 rfl) rfl rfl ?_
  refine AW.aload_n (z := 0) (am_r 4 rfl) rfl rfl ?_
  refine AW.iload_n (z := 1) (am_r 5 rfl) rfl rfl ?_
  refine AW.callV (N := MX10_isObject) (As := [.int (p1)]) (S := [(.ref (b))]) (L0 := [some (.ref (b)), some (.int (p1))]) (b := b) (am_r 6 rfl) rfl ovX10_isObject q1603 rfl rfl mb_ob rfl rfl rfl rfl (dX10_isObject hA  rfl (fun hok3 => (cQ_r ?_)))
  refine AW.if_ne (tg := 18) (am_r 7 rfl) rfl rfl (fun hc4 => ?_) (fun hc4 => ?_)
  · replace hs := (if_neg hc4).symm.trans hs
    refine AW.iconst (am_r 10 rfl) rfl ci_0 ?_
    exact dX10_approve_j19 hA  (Or.inl rfl) hs hQ
  · replace hs := (if_pos hc4).symm.trans hs
    refine AW.iconst (am_r 8 rfl) rfl ci_1 ?_
    refine AW.goto (tg := 19) (am_r 9 rfl) rfl ?_
    exact dX10_approve_j19 hA  (Or.inr rfl) hs hQ
noncomputable def sX10_lend_j69 (S : Mem) (p1 : Int32) (p2 : Int32) (p3 : Int32) (p4 : Int32) (y0 : Int32) : Option (Int32 × Mem) :=
  olet (sX10_throwsIf S y0 (2 : Int32)) fun r11 =>
  if r11.1 = 0 then
    obind (sX10_lendNow r11.2 p1 p2 p3 p4) fun r14 =>
    some ((r14.1, r14.2))
  else
    some (((0 : Int32), r11.2))
set_option maxRecDepth 100000 in
theorem dX10_lend_j69 {g : AG} {h0 : AH} {b : Nat} {S : Mem} {Q : AO → AH → Prop} {p1 : Int32} {p2 : Int32} {p3 : Int32} {p4 : Int32} {y0 : Int32} (hA : gB g ≤ b)  (hk0 : y0 = 0 ∨ y0 = 1) {r : (Int32 × Mem)} (hs : sX10_lend_j69 S p1 p2 p3 p4 y0 = some r) (hQ : Q (.ok (some (.int r.1))) (mb h0 b r.2)) : AW g MX10_lend 69 [some (.ref (b)), some (.int (p1)), some (.int (p2)), some (.int (p3)), some (.int (p4))] [(.int (y0)), (.ref (b))] (mb h0 b S) Q := by
  unfold sX10_lend_j69 at hs
  refine AW.iconst (am_r 36 rfl) rfl ci_2 ?_
  refine AW.callV (N := MX10_throwsIf) (As := [.int (y0), .int ((2 : Int32))]) (S := []) (L0 := [some (.ref (b)), some (.int (y0)), some (.int ((2 : Int32)))]) (b := b) (am_r 37 rfl) rfl ovX10_throwsIf q1607 rfl rfl mb_ob rfl rfl rfl rfl (dX10_throwsIf hA hk0 rfl (fun hok12 => (cQ_r ?_)))
  refine olet_e (P := fun (y : (Int32 × Mem)) => (y.1 = 0 ∨ y.1 = 1) → AW g MX10_lend 73 [some (.ref (b)), some (.int (p1)), some (.int (p2)), some (.int (p3)), some (.int (p4))] [(.int (y.1))] (mb h0 b y.2) Q) hs (fun r11 hs hok12 => ?_) hok12
  refine AW.if_eq (tg := 80) (am_r 38 rfl) rfl rfl (fun hc13 => ?_) (fun hc13 => ?_)
  · replace hs := (if_pos hc13).symm.trans hs
    refine AW.aload_n (z := 0) (am_r 41 rfl) rfl rfl ?_
    refine AW.iload_n (z := 1) (am_r 42 rfl) rfl rfl ?_
    refine AW.iload_n (z := 2) (am_r 43 rfl) rfl rfl ?_
    refine AW.iload_n (z := 3) (am_r 44 rfl) rfl rfl ?_
    refine AW.iload (am_r 45 rfl) rfl rfl ?_
    refine obind_e hs (fun r14 hg16 hs => ?_)
    refine AW.callV (N := MX10_lendNow) (As := [.int (p1), .int (p2), .int (p3), .int (p4)]) (S := []) (L0 := [some (.ref (b)), some (.int (p1)), some (.int (p2)), some (.int (p3)), some (.int (p4))]) (b := b) (am_r 46 rfl) rfl ovX10_lendNow q1686 rfl rfl mb_ob rfl rfl rfl rfl (dX10_lendNow hA  hg16 (cQ_r ?_))
    have hr := (Option.some.inj hs).symm
    subst hr
    exact AW.iret (am_r 47 rfl) rfl hQ
  · replace hs := (if_neg hc13).symm.trans hs
    refine AW.iconst (am_r 39 rfl) rfl ci_0 ?_
    refine AW.goto (tg := 89) (am_r 40 rfl) rfl ?_
    have hr := (Option.some.inj hs).symm
    subst hr
    exact AW.iret (am_r 47 rfl) rfl hQ
noncomputable def sX10_lend_j64 (S : Mem) (p1 : Int32) (p2 : Int32) (p3 : Int32) (p4 : Int32)  : Option (Int32 × Mem) :=
  sX10_lend_j69 S p1 p2 p3 p4 (1 : Int32)
set_option maxRecDepth 100000 in
theorem dX10_lend_j64 {g : AG} {h0 : AH} {b : Nat} {S : Mem} {Q : AO → AH → Prop} {p1 : Int32} {p2 : Int32} {p3 : Int32} {p4 : Int32}  (hA : gB g ≤ b)   {r : (Int32 × Mem)} (hs : sX10_lend_j64 S p1 p2 p3 p4  = some r) (hQ : Q (.ok (some (.int r.1))) (mb h0 b r.2)) : AW g MX10_lend 64 [some (.ref (b)), some (.int (p1)), some (.int (p2)), some (.int (p3)), some (.int (p4))] [(.ref (b))] (mb h0 b S) Q := by
  unfold sX10_lend_j64 at hs
  refine AW.iconst (am_r 33 rfl) rfl ci_1 ?_
  refine AW.goto (tg := 69) (am_r 34 rfl) rfl ?_
  exact dX10_lend_j69 hA  (Or.inr rfl) hs hQ
noncomputable def sX10_lend_j19 (S : Mem) (p1 : Int32) (p2 : Int32) (p3 : Int32) (p4 : Int32) (y0 : Int32) : Option (Int32 × Mem) :=
  olet (sX10_throwsIf S y0 (1 : Int32)) fun r5 =>
  if r5.1 = 0 then
    if (sX10_inRange r5.2 p2.toInt64 (0 : Int64) (20000 : Int64)) = 0 then
      sX10_lend_j64 r5.2 p1 p2 p3 p4 
    else
      if (sX10_inRange r5.2 p3.toInt64 (0 : Int64) (1000 : Int64)) = 0 then
        sX10_lend_j64 r5.2 p1 p2 p3 p4 
      else
        if (sX10_inRange r5.2 p4.toInt64 (1 : Int64) (500 : Int64)) = 0 then
          sX10_lend_j64 r5.2 p1 p2 p3 p4 
        else
          sX10_lend_j69 r5.2 p1 p2 p3 p4 (0 : Int32)
  else
    some (((0 : Int32), r5.2))
set_option maxRecDepth 100000 in
theorem dX10_lend_j19 {g : AG} {h0 : AH} {b : Nat} {S : Mem} {Q : AO → AH → Prop} {p1 : Int32} {p2 : Int32} {p3 : Int32} {p4 : Int32} {y0 : Int32} (hA : gB g ≤ b)  (hk0 : y0 = 0 ∨ y0 = 1) {r : (Int32 × Mem)} (hs : sX10_lend_j19 S p1 p2 p3 p4 y0 = some r) (hQ : Q (.ok (some (.int r.1))) (mb h0 b r.2)) : AW g MX10_lend 19 [some (.ref (b)), some (.int (p1)), some (.int (p2)), some (.int (p3)), some (.int (p4))] [(.int (y0)), (.ref (b))] (mb h0 b S) Q := by
  unfold sX10_lend_j19 at hs
  refine AW.iconst (am_r 11 rfl) rfl ci_1 ?_
  refine AW.callV (N := MX10_throwsIf) (As := [.int (y0), .int ((1 : Int32))]) (S := []) (L0 := [some (.ref (b)), some (.int (y0)), some (.int ((1 : Int32)))]) (b := b) (am_r 12 rfl) rfl ovX10_throwsIf q1607 rfl rfl mb_ob rfl rfl rfl rfl (dX10_throwsIf hA hk0 rfl (fun hok6 => (cQ_r ?_)))
  refine olet_e (P := fun (y : (Int32 × Mem)) => (y.1 = 0 ∨ y.1 = 1) → AW g MX10_lend 23 [some (.ref (b)), some (.int (p1)), some (.int (p2)), some (.int (p3)), some (.int (p4))] [(.int (y.1))] (mb h0 b y.2) Q) hs (fun r5 hs hok6 => ?_) hok6
  refine AW.if_ne (tg := 76) (am_r 13 rfl) rfl rfl (fun hc7 => ?_) (fun hc7 => ?_)
  · replace hs := (if_neg hc7).symm.trans hs
    refine AW.iconst (am_r 39 rfl) rfl ci_0 ?_
    refine AW.goto (tg := 89) (am_r 40 rfl) rfl ?_
    have hr := (Option.some.inj hs).symm
    subst hr
    exact AW.iret (am_r 47 rfl) rfl hQ
  · replace hs := (if_pos hc7).symm.trans hs
    refine AW.aload_n (z := 0) (am_r 14 rfl) rfl rfl ?_
    refine AW.iload_n (z := 2) (am_r 15 rfl) rfl rfl ?_
    refine AW.i2l (am_r 16 rfl) rfl ?_
    refine AW.lconst (z := 0) (am_r 17 rfl) rfl cl_0 ?_
    refine AW.ldc2 (v := (20000)) (am_r 18 rfl) rfl q1683 ?_
    refine AW.callS (N := MX10_inRange) (As := [.long (p2.toInt64), .long ((0 : Int64)), .long ((20000 : Int64))]) (S := [(.ref (b))]) (L0 := [some (.long (p2.toInt64)), none, some (.long ((0 : Int64))), none, some (.long ((20000 : Int64))), none]) (am_r 19 rfl) rfl osX10_inRange q1592 rfl rfl rfl rfl rfl (dX10_inRange hA  rfl (fun hok9 => (cQ_r ?_)))
    refine AW.if_eq (tg := 64) (am_r 20 rfl) rfl rfl (fun hc10 => ?_) (fun hc10 => ?_)
    · replace hs := (if_pos hc10).symm.trans hs
      exact dX10_lend_j64 hA   hs hQ
    · replace hs := (if_neg hc10).symm.trans hs
      refine AW.iload_n (z := 3) (am_r 21 rfl) rfl rfl ?_
      refine AW.i2l (am_r 22 rfl) rfl ?_
      refine AW.lconst (z := 0) (am_r 23 rfl) rfl cl_0 ?_
      refine AW.ldc2 (v := (1000)) (am_r 24 rfl) rfl q1684 ?_
      refine AW.callS (N := MX10_inRange) (As := [.long (p3.toInt64), .long ((0 : Int64)), .long ((1000 : Int64))]) (S := [(.ref (b))]) (L0 := [some (.long (p3.toInt64)), none, some (.long ((0 : Int64))), none, some (.long ((1000 : Int64))), none]) (am_r 25 rfl) rfl osX10_inRange q1592 rfl rfl rfl rfl rfl (dX10_inRange hA  rfl (fun hok18 => (cQ_r ?_)))
      refine AW.if_eq (tg := 64) (am_r 26 rfl) rfl rfl (fun hc19 => ?_) (fun hc19 => ?_)
      · replace hs := (if_pos hc19).symm.trans hs
        exact dX10_lend_j64 hA   hs hQ
      · replace hs := (if_neg hc19).symm.trans hs
        refine AW.iload (am_r 27 rfl) rfl rfl ?_
        refine AW.i2l (am_r 28 rfl) rfl ?_
        refine AW.lconst (z := 1) (am_r 29 rfl) rfl cl_1 ?_
        refine AW.ldc2 (v := (500)) (am_r 30 rfl) rfl q1685 ?_
        refine AW.callS (N := MX10_inRange) (As := [.long (p4.toInt64), .long ((1 : Int64)), .long ((500 : Int64))]) (S := [(.ref (b))]) (L0 := [some (.long (p4.toInt64)), none, some (.long ((1 : Int64))), none, some (.long ((500 : Int64))), none]) (am_r 31 rfl) rfl osX10_inRange q1592 rfl rfl rfl rfl rfl (dX10_inRange hA  rfl (fun hok21 => (cQ_r ?_)))
        refine AW.if_ne (tg := 68) (am_r 32 rfl) rfl rfl (fun hc22 => ?_) (fun hc22 => ?_)
        · replace hs := (if_neg hc22).symm.trans hs
          refine AW.iconst (am_r 35 rfl) rfl ci_0 ?_
          exact dX10_lend_j69 hA  (Or.inl rfl) hs hQ
        · replace hs := (if_pos hc22).symm.trans hs
          exact dX10_lend_j64 hA   hs hQ
noncomputable def sX10_lend (S : Mem) (p1 : Int32) (p2 : Int32) (p3 : Int32) (p4 : Int32) : Option (Int32 × Mem) :=
  olet (si S 100 6 0 ((0 : Int32))) fun S1 =>
  if (sX10_isObject S1 p1) = 0 then
    sX10_lend_j19 S1 p1 p2 p3 p4 (1 : Int32)
  else
    sX10_lend_j19 S1 p1 p2 p3 p4 (0 : Int32)
set_option maxRecDepth 100000 in
theorem dX10_lend {g : AG} {h0 : AH} {b : Nat} {S : Mem} {Q : AO → AH → Prop} {p1 : Int32} {p2 : Int32} {p3 : Int32} {p4 : Int32} (hA : gB g ≤ b)  {r : (Int32 × Mem)} (hs : sX10_lend S p1 p2 p3 p4 = some r) (hQ : Q (.ok (some (.int r.1))) (mb h0 b r.2)) : AW g MX10_lend 0 [some (.ref (b)), some (.int (p1)), some (.int (p2)), some (.int (p3)), some (.int (p4))] [] (mb h0 b S) Q := by
  unfold sX10_lend at hs
  refine AW.aload_n (z := 0) (am_r 0 rfl) rfl rfl ?_
  refine AW.iconst (am_r 1 rfl) rfl ci_0 ?_
  refine AW.putO (am_r 2 rfl) rfl klX10 (k := 6) (by omega) q1509 (Or.inl rfl) mb_ob hA rfl rfl (mbp_ob (by decide)) ?_
  refine olet_e (P := fun y => AW g MX10_lend 5 [some (.ref (b)), some (.int (p1)), some (.int (p2)), some (.int (p3)), some (.int (p4))] [] (mb h0 b y) Q) hs (fun S1 hs => ?_)
  refine AW.aload_n (z := 0) (am_r 3 rfl) rfl rfl ?_
  refine AW.aload_n (z := 0) (am_r 4 rfl) rfl rfl ?_
  refine AW.iload_n (z := 1) (am_r 5 rfl) rfl rfl ?_
  refine AW.callV (N := MX10_isObject) (As := [.int (p1)]) (S := [(.ref (b))]) (L0 := [some (.ref (b)), some (.int (p1))]) (b := b) (am_r 6 rfl) rfl ovX10_isObject q1603 rfl rfl mb_ob rfl rfl rfl rfl (dX10_isObject hA  rfl (fun hok3 => (cQ_r ?_)))
  refine AW.if_ne (tg := 18) (am_r 7 rfl) rfl rfl (fun hc4 => ?_) (fun hc4 => ?_)
  · replace hs := (if_neg hc4).symm.trans hs
    refine AW.iconst (am_r 10 rfl) rfl ci_0 ?_
    exact dX10_lend_j19 hA  (Or.inl rfl) hs hQ
  · replace hs := (if_pos hc4).symm.trans hs
    refine AW.iconst (am_r 8 rfl) rfl ci_1 ?_
    refine AW.goto (tg := 19) (am_r 9 rfl) rfl ?_
    exact dX10_lend_j19 hA  (Or.inr rfl) hs hQ
noncomputable def sX10_recall_j19 (S : Mem) (p1 : Int32) (y0 : Int32) : Option (Int32 × Mem) :=
  olet (sX10_throwsIf S y0 (1 : Int32)) fun r5 =>
  if r5.1 = 0 then
    obind (sX10_recallNow r5.2 p1) fun r8 =>
    some ((r8.1, r8.2))
  else
    some (((0 : Int32), r5.2))
set_option maxRecDepth 100000 in
theorem dX10_recall_j19 {g : AG} {h0 : AH} {b : Nat} {S : Mem} {Q : AO → AH → Prop} {p1 : Int32} {y0 : Int32} (hA : gB g ≤ b)  (hk0 : y0 = 0 ∨ y0 = 1) {r : (Int32 × Mem)} (hs : sX10_recall_j19 S p1 y0 = some r) (hQ : Q (.ok (some (.int r.1))) (mb h0 b r.2)) : AW g MX10_recall 19 [some (.ref (b)), some (.int (p1))] [(.int (y0)), (.ref (b))] (mb h0 b S) Q := by
  unfold sX10_recall_j19 at hs
  refine AW.iconst (am_r 11 rfl) rfl ci_1 ?_
  refine AW.callV (N := MX10_throwsIf) (As := [.int (y0), .int ((1 : Int32))]) (S := []) (L0 := [some (.ref (b)), some (.int (y0)), some (.int ((1 : Int32)))]) (b := b) (am_r 12 rfl) rfl ovX10_throwsIf q1607 rfl rfl mb_ob rfl rfl rfl rfl (dX10_throwsIf hA hk0 rfl (fun hok6 => (cQ_r ?_)))
  refine olet_e (P := fun (y : (Int32 × Mem)) => (y.1 = 0 ∨ y.1 = 1) → AW g MX10_recall 23 [some (.ref (b)), some (.int (p1))] [(.int (y.1))] (mb h0 b y.2) Q) hs (fun r5 hs hok6 => ?_) hok6
  refine AW.if_eq (tg := 30) (am_r 13 rfl) rfl rfl (fun hc7 => ?_) (fun hc7 => ?_)
  · replace hs := (if_pos hc7).symm.trans hs
    refine AW.aload_n (z := 0) (am_r 16 rfl) rfl rfl ?_
    refine AW.iload_n (z := 1) (am_r 17 rfl) rfl rfl ?_
    refine obind_e hs (fun r8 hg10 hs => ?_)
    refine AW.callV (N := MX10_recallNow) (As := [.int (p1)]) (S := []) (L0 := [some (.ref (b)), some (.int (p1)), none]) (b := b) (am_r 18 rfl) rfl ovX10_recallNow q1694 rfl rfl mb_ob rfl rfl rfl rfl (dX10_recallNow hA  hg10 (cQ_r ?_))
    have hr := (Option.some.inj hs).symm
    subst hr
    exact AW.iret (am_r 19 rfl) rfl hQ
  · replace hs := (if_neg hc7).symm.trans hs
    refine AW.iconst (am_r 14 rfl) rfl ci_0 ?_
    refine AW.goto (tg := 35) (am_r 15 rfl) rfl ?_
    have hr := (Option.some.inj hs).symm
    subst hr
    exact AW.iret (am_r 19 rfl) rfl hQ
noncomputable def sX10_recall (S : Mem) (p1 : Int32) : Option (Int32 × Mem) :=
  olet (si S 100 6 0 ((0 : Int32))) fun S1 =>
  if (sX10_isObject S1 p1) = 0 then
    sX10_recall_j19 S1 p1 (1 : Int32)
  else
    sX10_recall_j19 S1 p1 (0 : Int32)
set_option maxRecDepth 100000 in
theorem dX10_recall {g : AG} {h0 : AH} {b : Nat} {S : Mem} {Q : AO → AH → Prop} {p1 : Int32} (hA : gB g ≤ b)  {r : (Int32 × Mem)} (hs : sX10_recall S p1 = some r) (hQ : Q (.ok (some (.int r.1))) (mb h0 b r.2)) : AW g MX10_recall 0 [some (.ref (b)), some (.int (p1))] [] (mb h0 b S) Q := by
  unfold sX10_recall at hs
  refine AW.aload_n (z := 0) (am_r 0 rfl) rfl rfl ?_
  refine AW.iconst (am_r 1 rfl) rfl ci_0 ?_
  refine AW.putO (am_r 2 rfl) rfl klX10 (k := 6) (by omega) q1509 (Or.inl rfl) mb_ob hA rfl rfl (mbp_ob (by decide)) ?_
  refine olet_e (P := fun y => AW g MX10_recall 5 [some (.ref (b)), some (.int (p1))] [] (mb h0 b y) Q) hs (fun S1 hs => ?_)
  refine AW.aload_n (z := 0) (am_r 3 rfl) rfl rfl ?_
  refine AW.aload_n (z := 0) (am_r 4 rfl) rfl rfl ?_
  refine AW.iload_n (z := 1) (am_r 5 rfl) rfl rfl ?_
  refine AW.callV (N := MX10_isObject) (As := [.int (p1)]) (S := [(.ref (b))]) (L0 := [some (.ref (b)), some (.int (p1))]) (b := b) (am_r 6 rfl) rfl ovX10_isObject q1603 rfl rfl mb_ob rfl rfl rfl rfl (dX10_isObject hA  rfl (fun hok3 => (cQ_r ?_)))
  refine AW.if_ne (tg := 18) (am_r 7 rfl) rfl rfl (fun hc4 => ?_) (fun hc4 => ?_)
  · replace hs := (if_neg hc4).symm.trans hs
    refine AW.iconst (am_r 10 rfl) rfl ci_0 ?_
    exact dX10_recall_j19 hA  (Or.inl rfl) hs hQ
  · replace hs := (if_pos hc4).symm.trans hs
    refine AW.iconst (am_r 8 rfl) rfl ci_1 ?_
    refine AW.goto (tg := 19) (am_r 9 rfl) rfl ?_
    exact dX10_recall_j19 hA  (Or.inr rfl) hs hQ
noncomputable def sX10_tick_j23 (S : Mem) (p1 : Int32) (y0 : Int32) : Option (Int32 × Mem) :=
  olet (sX10_throwsIf S y0 (1 : Int32)) fun r5 =>
  if r5.1 = 0 then
    obind (sX10_tickNow r5.2 p1) fun r8 =>
    some ((r8.1, r8.2))
  else
    some (((0 : Int32), r5.2))
set_option maxRecDepth 100000 in
theorem dX10_tick_j23 {g : AG} {h0 : AH} {b : Nat} {S : Mem} {Q : AO → AH → Prop} {p1 : Int32} {y0 : Int32} (hA : gB g ≤ b)  (hk0 : y0 = 0 ∨ y0 = 1) {r : (Int32 × Mem)} (hs : sX10_tick_j23 S p1 y0 = some r) (hQ : Q (.ok (some (.int r.1))) (mb h0 b r.2)) : AW g MX10_tick 23 [some (.ref (b)), some (.int (p1))] [(.int (y0)), (.ref (b))] (mb h0 b S) Q := by
  unfold sX10_tick_j23 at hs
  refine AW.iconst (am_r 13 rfl) rfl ci_1 ?_
  refine AW.callV (N := MX10_throwsIf) (As := [.int (y0), .int ((1 : Int32))]) (S := []) (L0 := [some (.ref (b)), some (.int (y0)), some (.int ((1 : Int32)))]) (b := b) (am_r 14 rfl) rfl ovX10_throwsIf q1607 rfl rfl mb_ob rfl rfl rfl rfl (dX10_throwsIf hA hk0 rfl (fun hok6 => (cQ_r ?_)))
  refine olet_e (P := fun (y : (Int32 × Mem)) => (y.1 = 0 ∨ y.1 = 1) → AW g MX10_tick 27 [some (.ref (b)), some (.int (p1))] [(.int (y.1))] (mb h0 b y.2) Q) hs (fun r5 hs hok6 => ?_) hok6
  refine AW.if_eq (tg := 34) (am_r 15 rfl) rfl rfl (fun hc7 => ?_) (fun hc7 => ?_)
  · replace hs := (if_pos hc7).symm.trans hs
    refine AW.aload_n (z := 0) (am_r 18 rfl) rfl rfl ?_
    refine AW.iload_n (z := 1) (am_r 19 rfl) rfl rfl ?_
    refine obind_e hs (fun r8 hg10 hs => ?_)
    refine AW.callV (N := MX10_tickNow) (As := [.int (p1)]) (S := []) (L0 := [some (.ref (b)), some (.int (p1))]) (b := b) (am_r 20 rfl) rfl ovX10_tickNow q1702 rfl rfl mb_ob rfl rfl rfl rfl (dX10_tickNow hA  hg10 (cQ_r ?_))
    have hr := (Option.some.inj hs).symm
    subst hr
    exact AW.iret (am_r 21 rfl) rfl hQ
  · replace hs := (if_neg hc7).symm.trans hs
    refine AW.iconst (am_r 16 rfl) rfl ci_0 ?_
    refine AW.goto (tg := 39) (am_r 17 rfl) rfl ?_
    have hr := (Option.some.inj hs).symm
    subst hr
    exact AW.iret (am_r 21 rfl) rfl hQ
noncomputable def sX10_tick (S : Mem) (p1 : Int32) : Option (Int32 × Mem) :=
  olet (si S 100 6 0 ((0 : Int32))) fun S1 =>
  if (sX10_inRange S1 p1.toInt64 (1 : Int64) (1000 : Int64)) = 0 then
    sX10_tick_j23 S1 p1 (1 : Int32)
  else
    sX10_tick_j23 S1 p1 (0 : Int32)
set_option maxRecDepth 100000 in
theorem dX10_tick {g : AG} {h0 : AH} {b : Nat} {S : Mem} {Q : AO → AH → Prop} {p1 : Int32} (hA : gB g ≤ b)  {r : (Int32 × Mem)} (hs : sX10_tick S p1 = some r) (hQ : Q (.ok (some (.int r.1))) (mb h0 b r.2)) : AW g MX10_tick 0 [some (.ref (b)), some (.int (p1))] [] (mb h0 b S) Q := by
  unfold sX10_tick at hs
  refine AW.aload_n (z := 0) (am_r 0 rfl) rfl rfl ?_
  refine AW.iconst (am_r 1 rfl) rfl ci_0 ?_
  refine AW.putO (am_r 2 rfl) rfl klX10 (k := 6) (by omega) q1509 (Or.inl rfl) mb_ob hA rfl rfl (mbp_ob (by decide)) ?_
  refine olet_e (P := fun y => AW g MX10_tick 5 [some (.ref (b)), some (.int (p1))] [] (mb h0 b y) Q) hs (fun S1 hs => ?_)
  refine AW.aload_n (z := 0) (am_r 3 rfl) rfl rfl ?_
  refine AW.iload_n (z := 1) (am_r 4 rfl) rfl rfl ?_
  refine AW.i2l (am_r 5 rfl) rfl ?_
  refine AW.lconst (z := 1) (am_r 6 rfl) rfl cl_1 ?_
  refine AW.ldc2 (v := (1000)) (am_r 7 rfl) rfl q1684 ?_
  refine AW.callS (N := MX10_inRange) (As := [.long (p1.toInt64), .long ((1 : Int64)), .long ((1000 : Int64))]) (S := [(.ref (b))]) (L0 := [some (.long (p1.toInt64)), none, some (.long ((1 : Int64))), none, some (.long ((1000 : Int64))), none]) (am_r 8 rfl) rfl osX10_inRange q1592 rfl rfl rfl rfl rfl (dX10_inRange hA  rfl (fun hok3 => (cQ_r ?_)))
  refine AW.if_ne (tg := 22) (am_r 9 rfl) rfl rfl (fun hc4 => ?_) (fun hc4 => ?_)
  · replace hs := (if_neg hc4).symm.trans hs
    refine AW.iconst (am_r 12 rfl) rfl ci_0 ?_
    exact dX10_tick_j23 hA  (Or.inl rfl) hs hQ
  · replace hs := (if_pos hc4).symm.trans hs
    refine AW.iconst (am_r 10 rfl) rfl ci_1 ?_
    refine AW.goto (tg := 23) (am_r 11 rfl) rfl ?_
    exact dX10_tick_j23 hA  (Or.inr rfl) hs hQ
noncomputable def sX10_freePresses_l4_step (S : Mem)  (a : (Int32 × Int32)) : Option ((Int32 × Int32) ⊕ Int32) :=
  if (gi S 5 (2 : Int32).toNatClampNeg 0) ≤ a.2 then
    oinr (
    some (a.1))
  else
    obind (sX10_inPress S a.2) fun r4 =>
    if r4 = (-1 : Int32) then
      olet (a.1 + (1 : Int32)) fun v9 =>
      some (.inl (v9, a.2 + (1 : Int32)))
    else
      olet (a.1 + (0 : Int32)) fun v8 =>
      some (.inl (v8, a.2 + (1 : Int32)))
noncomputable def sX10_freePresses_l4 (S : Mem)  (a : (Int32 × Int32)) : Option Int32 := itw (sX10_freePresses_l4_step S ) a
set_option maxRecDepth 100000 in
theorem dX10_freePresses_l4 {g : AG} {h0 : AH} {b : Nat} {S : Mem} {Q : AO → AH → Prop}  (hA : gB g ≤ b)  {a : (Int32 × Int32)}  {r : Int32} (hs : sX10_freePresses_l4 S  a = some r) (hQ : Q (.ok (some (.int r))) (mb h0 b S)) : AW g MX10_freePresses 4 [some (.ref (b)), some (.int (a.1)), some (.int (a.2))] [] (mb h0 b S) Q := by
  refine itw_e (P := fun a => AW g MX10_freePresses 4 [some (.ref (b)), some (.int (a.1)), some (.int (a.2))] [] (mb h0 b S) Q) (Post := fun r => Q (.ok (some (.int r))) (mb h0 b S)) (fun a r hs hc he  => ?_) hs hQ 
  unfold sX10_freePresses_l4_step at hs
  refine AW.iload_n (z := 2) (am_r 4 rfl) rfl rfl ?_
  refine AW.aload_n (z := 0) (am_r 5 rfl) rfl rfl ?_
  refine AW.getO (am_r 6 rfl) rfl klX10 (k := 5) (by omega) q1508 mb_ob rfl ?_
  refine AW.iconst (am_r 7 rfl) rfl ci_2 ?_
  refine AW.iald (am_r 8 rfl) rfl mb_a4 (vp_of_inb rfl) rfl ?_
  refine AW.icmp_ge (tg := 37) (am_r 9 rfl) rfl rfl (fun hc1 => ?_) (fun hc1 => ?_)
  · replace hs := (if_pos hc1).symm.trans hs
    refine oinr_e hs (fun z2 hz3 hs => ?_)
    have hQ := he _ hz3
    refine AW.iload_n (z := 1) (am_r 23 rfl) rfl rfl ?_
    have hr := (Option.some.inj hs).symm
    subst hr
    exact AW.iret (am_r 24 rfl) rfl hQ
  · replace hs := (if_neg hc1).symm.trans hs
    refine AW.iload_n (z := 1) (am_r 10 rfl) rfl rfl ?_
    refine AW.aload_n (z := 0) (am_r 11 rfl) rfl rfl ?_
    refine AW.iload_n (z := 2) (am_r 12 rfl) rfl rfl ?_
    refine obind_e hs (fun r4 hg6 hs => ?_)
    refine AW.callV (N := MX10_inPress) (As := [.int (a.2)]) (S := [(.int (a.1))]) (L0 := [some (.ref (b)), some (.int (a.2)), none]) (b := b) (am_r 13 rfl) rfl ovX10_inPress q1760 rfl rfl mb_ob rfl rfl rfl rfl (dX10_inPress hA  hg6 (cQ_r ?_))
    refine AW.iconst (am_r 14 rfl) rfl ci_m1 ?_
    refine AW.icmp_ne (tg := 28) (am_r 15 rfl) rfl rfl (fun hc7 => ?_) (fun hc7 => ?_)
    · replace hs := (if_neg hc7).symm.trans hs
      refine AW.iconst (am_r 18 rfl) rfl ci_0 ?_
      refine AW.iadd (am_r 19 rfl) rfl ?_
      refine olet_e (P := fun y => AW g MX10_freePresses 30 [some (.ref (b)), some (.int (a.1)), some (.int (a.2))] [(.int (y))] (mb h0 b S) Q) hs (fun v8 hs => ?_)
      refine AW.istore_n (L' := [some (.ref (b)), some (.int (v8)), some (.int (a.2))]) (z := 1) (am_r 20 rfl) rfl (Nat.le_of_ble_eq_true rfl) rfl ?_
      refine AW.iinc (v := a.2 + (1 : Int32)) (L' := [some (.ref (b)), some (.int (v8)), some (.int (a.2 + (1 : Int32)))]) (am_r 21 rfl) rfl (Nat.le_of_ble_eq_true rfl) rfl (congrArg (fun z => a.2 + z) ci_1) rfl ?_
      refine AW.goto (tg := 4) (am_r 22 rfl) rfl ?_
      have hr := (Option.some.inj hs).symm
      exact hc (v8, a.2 + (1 : Int32)) hr 
    · replace hs := (if_pos hc7).symm.trans hs
      refine AW.iconst (am_r 16 rfl) rfl ci_1 ?_
      refine AW.goto (tg := 29) (am_r 17 rfl) rfl ?_
      refine AW.iadd (am_r 19 rfl) rfl ?_
      refine olet_e (P := fun y => AW g MX10_freePresses 30 [some (.ref (b)), some (.int (a.1)), some (.int (a.2))] [(.int (y))] (mb h0 b S) Q) hs (fun v9 hs => ?_)
      refine AW.istore_n (L' := [some (.ref (b)), some (.int (v9)), some (.int (a.2))]) (z := 1) (am_r 20 rfl) rfl (Nat.le_of_ble_eq_true rfl) rfl ?_
      refine AW.iinc (v := a.2 + (1 : Int32)) (L' := [some (.ref (b)), some (.int (v9)), some (.int (a.2 + (1 : Int32)))]) (am_r 21 rfl) rfl (Nat.le_of_ble_eq_true rfl) rfl (congrArg (fun z => a.2 + z) ci_1) rfl ?_
      refine AW.goto (tg := 4) (am_r 22 rfl) rfl ?_
      have hr := (Option.some.inj hs).symm
      exact hc (v9, a.2 + (1 : Int32)) hr 
noncomputable def sX10_freePresses (S : Mem)  : Option Int32 :=
  sX10_freePresses_l4 S  ((0 : Int32), (0 : Int32))
set_option maxRecDepth 100000 in
theorem dX10_freePresses {g : AG} {h0 : AH} {b : Nat} {S : Mem} {Q : AO → AH → Prop}  (hA : gB g ≤ b)  {r : Int32} (hs : sX10_freePresses S  = some r) (hQ : Q (.ok (some (.int r))) (mb h0 b S)) : AW g MX10_freePresses 0 [some (.ref (b)), none, none] [] (mb h0 b S) Q := by
  unfold sX10_freePresses at hs
  refine AW.iconst (am_r 0 rfl) rfl ci_0 ?_
  refine AW.istore_n (L' := [some (.ref (b)), some (.int ((0 : Int32))), none]) (z := 1) (am_r 1 rfl) rfl (Nat.le_of_ble_eq_true rfl) rfl ?_
  refine AW.iconst (am_r 2 rfl) rfl ci_0 ?_
  refine AW.istore_n (L' := [some (.ref (b)), some (.int ((0 : Int32))), some (.int ((0 : Int32)))]) (z := 2) (am_r 3 rfl) rfl (Nat.le_of_ble_eq_true rfl) rfl ?_
  exact dX10_freePresses_l4 hA   hs hQ
noncomputable def sX10_count (S : Mem) (p1 : Int32) : Option (Int32 × Mem) :=
  olet (si S 100 6 0 ((0 : Int32))) fun S1 =>
  if p1 = (0 : Int32) then
    some ((gi S1 5 (0 : Int32).toNatClampNeg 0, S1))
  else
  if p1 = (1 : Int32) then
    some ((gi S1 5 (2 : Int32).toNatClampNeg 0, S1))
  else
  if p1 = (2 : Int32) then
    some ((gi S1 5 (3 : Int32).toNatClampNeg 0, S1))
  else
  if p1 = (3 : Int32) then
    some ((gi S1 5 (4 : Int32).toNatClampNeg 0, S1))
  else
  if p1 = (4 : Int32) then
    some ((gi S1 0 (0 : Int32).toNatClampNeg 0, S1))
  else
  if p1 = (5 : Int32) then
    some ((gi S1 5 (1 : Int32).toNatClampNeg 0, S1))
  else
  if p1 = (6 : Int32) then
    obind (sX10_freeBenches S1 ) fun r9 =>
    some ((r9, S1))
  else
  if p1 = (7 : Int32) then
    obind (sX10_freePresses S1 ) fun r13 =>
    some ((r13, S1))
  else
  if p1 = (8 : Int32) then
    some ((gi S1 0 (4 : Int32).toNatClampNeg 0, S1))
  else
  if p1 = (9 : Int32) then
    some ((gi S1 0 (1 : Int32).toNatClampNeg 0, S1))
  else
  if p1 = (10 : Int32) then
    some ((gi S1 0 (2 : Int32).toNatClampNeg 0, S1))
  else
  if p1 = (11 : Int32) then
    some ((gi S1 0 (3 : Int32).toNatClampNeg 0, S1))
  else
  if p1 = (12 : Int32) then
    some ((gi S1 100 4 0, S1))
  else
  some (((-1 : Int32), S1))
set_option maxRecDepth 100000 in
theorem dX10_count {g : AG} {h0 : AH} {b : Nat} {S : Mem} {Q : AO → AH → Prop} {p1 : Int32} (hA : gB g ≤ b)  {r : (Int32 × Mem)} (hs : sX10_count S p1 = some r) (hQ : Q (.ok (some (.int r.1))) (mb h0 b r.2)) : AW g MX10_count 0 [some (.ref (b)), some (.int (p1))] [] (mb h0 b S) Q := by
  unfold sX10_count at hs
  refine AW.aload_n (z := 0) (am_r 0 rfl) rfl rfl ?_
  refine AW.iconst (am_r 1 rfl) rfl ci_0 ?_
  refine AW.putO (am_r 2 rfl) rfl klX10 (k := 6) (by omega) q1509 (Or.inl rfl) mb_ob hA rfl rfl (mbp_ob (by decide)) ?_
  refine olet_e (P := fun y => AW g MX10_count 5 [some (.ref (b)), some (.int (p1))] [] (mb h0 b y) Q) hs (fun S1 hs => ?_)
  refine AW.iload_n (z := 1) (am_r 3 rfl) rfl rfl ?_
  by_cases hw2 : p1 = (0 : Int32)
  · replace hs := (if_pos hw2).symm.trans hs
    refine AW.tabsw_at (tg := 72) (i := 0) (am_r 4 rfl) hw2 rfl rfl rfl (by decide) ?_
    refine AW.aload_n (z := 0) (am_r 5 rfl) rfl rfl ?_
    refine AW.getO (am_r 6 rfl) rfl klX10 (k := 5) (by omega) q1508 mb_ob rfl ?_
    refine AW.iconst (am_r 7 rfl) rfl ci_0 ?_
    refine AW.iald (am_r 8 rfl) rfl mb_a4 (vp_of_inb rfl) rfl ?_
    have hr := (Option.some.inj hs).symm
    subst hr
    exact AW.iret (am_r 9 rfl) rfl hQ
  replace hs := (if_neg hw2).symm.trans hs
  by_cases hw3 : p1 = (1 : Int32)
  · replace hs := (if_pos hw3).symm.trans hs
    refine AW.tabsw_at (tg := 79) (i := 1) (am_r 4 rfl) hw3 rfl rfl rfl (by decide) ?_
    refine AW.aload_n (z := 0) (am_r 10 rfl) rfl rfl ?_
    refine AW.getO (am_r 11 rfl) rfl klX10 (k := 5) (by omega) q1508 mb_ob rfl ?_
    refine AW.iconst (am_r 12 rfl) rfl ci_2 ?_
    refine AW.iald (am_r 13 rfl) rfl mb_a4 (vp_of_inb rfl) rfl ?_
    have hr := (Option.some.inj hs).symm
    subst hr
    exact AW.iret (am_r 14 rfl) rfl hQ
  replace hs := (if_neg hw3).symm.trans hs
  by_cases hw4 : p1 = (2 : Int32)
  · replace hs := (if_pos hw4).symm.trans hs
    refine AW.tabsw_at (tg := 86) (i := 2) (am_r 4 rfl) hw4 rfl rfl rfl (by decide) ?_
    refine AW.aload_n (z := 0) (am_r 15 rfl) rfl rfl ?_
    refine AW.getO (am_r 16 rfl) rfl klX10 (k := 5) (by omega) q1508 mb_ob rfl ?_
    refine AW.iconst (am_r 17 rfl) rfl ci_3 ?_
    refine AW.iald (am_r 18 rfl) rfl mb_a4 (vp_of_inb rfl) rfl ?_
    have hr := (Option.some.inj hs).symm
    subst hr
    exact AW.iret (am_r 19 rfl) rfl hQ
  replace hs := (if_neg hw4).symm.trans hs
  by_cases hw5 : p1 = (3 : Int32)
  · replace hs := (if_pos hw5).symm.trans hs
    refine AW.tabsw_at (tg := 93) (i := 3) (am_r 4 rfl) hw5 rfl rfl rfl (by decide) ?_
    refine AW.aload_n (z := 0) (am_r 20 rfl) rfl rfl ?_
    refine AW.getO (am_r 21 rfl) rfl klX10 (k := 5) (by omega) q1508 mb_ob rfl ?_
    refine AW.iconst (am_r 22 rfl) rfl ci_4 ?_
    refine AW.iald (am_r 23 rfl) rfl mb_a4 (vp_of_inb rfl) rfl ?_
    have hr := (Option.some.inj hs).symm
    subst hr
    exact AW.iret (am_r 24 rfl) rfl hQ
  replace hs := (if_neg hw5).symm.trans hs
  by_cases hw6 : p1 = (4 : Int32)
  · replace hs := (if_pos hw6).symm.trans hs
    refine AW.tabsw_at (tg := 100) (i := 4) (am_r 4 rfl) hw6 rfl rfl rfl (by decide) ?_
    refine AW.aload_n (z := 0) (am_r 25 rfl) rfl rfl ?_
    refine AW.getO (am_r 26 rfl) rfl klX10 (k := 0) (by omega) q1503 mb_ob rfl ?_
    refine AW.iconst (am_r 27 rfl) rfl ci_0 ?_
    refine AW.iald (am_r 28 rfl) rfl mb_a1 (vp_of_inb rfl) rfl ?_
    have hr := (Option.some.inj hs).symm
    subst hr
    exact AW.iret (am_r 29 rfl) rfl hQ
  replace hs := (if_neg hw6).symm.trans hs
  by_cases hw7 : p1 = (5 : Int32)
  · replace hs := (if_pos hw7).symm.trans hs
    refine AW.tabsw_at (tg := 107) (i := 5) (am_r 4 rfl) hw7 rfl rfl rfl (by decide) ?_
    refine AW.aload_n (z := 0) (am_r 30 rfl) rfl rfl ?_
    refine AW.getO (am_r 31 rfl) rfl klX10 (k := 5) (by omega) q1508 mb_ob rfl ?_
    refine AW.iconst (am_r 32 rfl) rfl ci_1 ?_
    refine AW.iald (am_r 33 rfl) rfl mb_a4 (vp_of_inb rfl) rfl ?_
    have hr := (Option.some.inj hs).symm
    subst hr
    exact AW.iret (am_r 34 rfl) rfl hQ
  replace hs := (if_neg hw7).symm.trans hs
  by_cases hw8 : p1 = (6 : Int32)
  · replace hs := (if_pos hw8).symm.trans hs
    refine AW.tabsw_at (tg := 114) (i := 6) (am_r 4 rfl) hw8 rfl rfl rfl (by decide) ?_
    refine AW.aload_n (z := 0) (am_r 35 rfl) rfl rfl ?_
    refine obind_e hs (fun r9 hg11 hs => ?_)
    refine AW.callV (N := MX10_freeBenches) (As := []) (S := []) (L0 := [some (.ref (b))]) (b := b) (am_r 36 rfl) rfl ovX10_freeBenches q1776 rfl rfl mb_ob rfl rfl rfl rfl (dX10_freeBenches hA  hg11 (cQ_r ?_))
    have hr := (Option.some.inj hs).symm
    subst hr
    exact AW.iret (am_r 37 rfl) rfl hQ
  replace hs := (if_neg hw8).symm.trans hs
  by_cases hw12 : p1 = (7 : Int32)
  · replace hs := (if_pos hw12).symm.trans hs
    refine AW.tabsw_at (tg := 119) (i := 7) (am_r 4 rfl) hw12 rfl rfl rfl (by decide) ?_
    refine AW.aload_n (z := 0) (am_r 38 rfl) rfl rfl ?_
    refine obind_e hs (fun r13 hg15 hs => ?_)
    refine AW.callV (N := MX10_freePresses) (As := []) (S := []) (L0 := [some (.ref (b)), none, none]) (b := b) (am_r 39 rfl) rfl ovX10_freePresses q1803 rfl rfl mb_ob rfl rfl rfl rfl (dX10_freePresses hA  hg15 (cQ_r ?_))
    have hr := (Option.some.inj hs).symm
    subst hr
    exact AW.iret (am_r 40 rfl) rfl hQ
  replace hs := (if_neg hw12).symm.trans hs
  by_cases hw16 : p1 = (8 : Int32)
  · replace hs := (if_pos hw16).symm.trans hs
    refine AW.tabsw_at (tg := 124) (i := 8) (am_r 4 rfl) hw16 rfl rfl rfl (by decide) ?_
    refine AW.aload_n (z := 0) (am_r 41 rfl) rfl rfl ?_
    refine AW.getO (am_r 42 rfl) rfl klX10 (k := 0) (by omega) q1503 mb_ob rfl ?_
    refine AW.iconst (am_r 43 rfl) rfl ci_4 ?_
    refine AW.iald (am_r 44 rfl) rfl mb_a1 (vp_of_inb rfl) rfl ?_
    have hr := (Option.some.inj hs).symm
    subst hr
    exact AW.iret (am_r 45 rfl) rfl hQ
  replace hs := (if_neg hw16).symm.trans hs
  by_cases hw17 : p1 = (9 : Int32)
  · replace hs := (if_pos hw17).symm.trans hs
    refine AW.tabsw_at (tg := 131) (i := 9) (am_r 4 rfl) hw17 rfl rfl rfl (by decide) ?_
    refine AW.aload_n (z := 0) (am_r 46 rfl) rfl rfl ?_
    refine AW.getO (am_r 47 rfl) rfl klX10 (k := 0) (by omega) q1503 mb_ob rfl ?_
    refine AW.iconst (am_r 48 rfl) rfl ci_1 ?_
    refine AW.iald (am_r 49 rfl) rfl mb_a1 (vp_of_inb rfl) rfl ?_
    have hr := (Option.some.inj hs).symm
    subst hr
    exact AW.iret (am_r 50 rfl) rfl hQ
  replace hs := (if_neg hw17).symm.trans hs
  by_cases hw18 : p1 = (10 : Int32)
  · replace hs := (if_pos hw18).symm.trans hs
    refine AW.tabsw_at (tg := 138) (i := 10) (am_r 4 rfl) hw18 rfl rfl rfl (by decide) ?_
    refine AW.aload_n (z := 0) (am_r 51 rfl) rfl rfl ?_
    refine AW.getO (am_r 52 rfl) rfl klX10 (k := 0) (by omega) q1503 mb_ob rfl ?_
    refine AW.iconst (am_r 53 rfl) rfl ci_2 ?_
    refine AW.iald (am_r 54 rfl) rfl mb_a1 (vp_of_inb rfl) rfl ?_
    have hr := (Option.some.inj hs).symm
    subst hr
    exact AW.iret (am_r 55 rfl) rfl hQ
  replace hs := (if_neg hw18).symm.trans hs
  by_cases hw19 : p1 = (11 : Int32)
  · replace hs := (if_pos hw19).symm.trans hs
    refine AW.tabsw_at (tg := 145) (i := 11) (am_r 4 rfl) hw19 rfl rfl rfl (by decide) ?_
    refine AW.aload_n (z := 0) (am_r 56 rfl) rfl rfl ?_
    refine AW.getO (am_r 57 rfl) rfl klX10 (k := 0) (by omega) q1503 mb_ob rfl ?_
    refine AW.iconst (am_r 58 rfl) rfl ci_3 ?_
    refine AW.iald (am_r 59 rfl) rfl mb_a1 (vp_of_inb rfl) rfl ?_
    have hr := (Option.some.inj hs).symm
    subst hr
    exact AW.iret (am_r 60 rfl) rfl hQ
  replace hs := (if_neg hw19).symm.trans hs
  by_cases hw20 : p1 = (12 : Int32)
  · replace hs := (if_pos hw20).symm.trans hs
    refine AW.tabsw_at (tg := 152) (i := 12) (am_r 4 rfl) hw20 rfl rfl rfl (by decide) ?_
    refine AW.aload_n (z := 0) (am_r 61 rfl) rfl rfl ?_
    refine AW.getO (am_r 62 rfl) rfl klX10 (k := 4) (by omega) q1507 mb_ob rfl ?_
    have hr := (Option.some.inj hs).symm
    subst hr
    exact AW.iret (am_r 63 rfl) rfl hQ
  replace hs := (if_neg hw20).symm.trans hs
  refine AW.tabsw_d (tg := 157) [0, 1, 2, 3, 4, 5, 6, 7, 8, 9, 10, 11, 12] (am_r 4 rfl) rfl (by decide) (by decide) (List.forall_mem_cons.mpr ⟨hw2, List.forall_mem_cons.mpr ⟨hw3, List.forall_mem_cons.mpr ⟨hw4, List.forall_mem_cons.mpr ⟨hw5, List.forall_mem_cons.mpr ⟨hw6, List.forall_mem_cons.mpr ⟨hw7, List.forall_mem_cons.mpr ⟨hw8, List.forall_mem_cons.mpr ⟨hw12, List.forall_mem_cons.mpr ⟨hw16, List.forall_mem_cons.mpr ⟨hw17, List.forall_mem_cons.mpr ⟨hw18, List.forall_mem_cons.mpr ⟨hw19, List.forall_mem_cons.mpr ⟨hw20, fun _ h => nomatch h⟩⟩⟩⟩⟩⟩⟩⟩⟩⟩⟩⟩⟩) ?_
  refine AW.iconst (am_r 64 rfl) rfl ci_m1 ?_
  have hr := (Option.some.inj hs).symm
  subst hr
  exact AW.iret (am_r 65 rfl) rfl hQ
noncomputable def sX10_press_j19 (S : Mem) (p1 : Int32) (p2 : Int32) (y0 : Int32) : Option (Int32 × Mem) :=
  olet (sX10_throwsIf S y0 (1 : Int32)) fun r5 =>
  if r5.1 = 0 then
    if p2 = 0 then
      obind (sX10_pressSize r5.2 p1) fun r13 =>
      some ((r13, r5.2))
    else
      if p2 = (1 : Int32) then
        obind (sX10_inPress r5.2 p1) fun r10 =>
        some ((r10, r5.2))
      else
        some (((-1 : Int32), r5.2))
  else
    some (((0 : Int32), r5.2))
set_option maxRecDepth 100000 in
theorem dX10_press_j19 {g : AG} {h0 : AH} {b : Nat} {S : Mem} {Q : AO → AH → Prop} {p1 : Int32} {p2 : Int32} {y0 : Int32} (hA : gB g ≤ b)  (hk0 : y0 = 0 ∨ y0 = 1) {r : (Int32 × Mem)} (hs : sX10_press_j19 S p1 p2 y0 = some r) (hQ : Q (.ok (some (.int r.1))) (mb h0 b r.2)) : AW g MX10_press 19 [some (.ref (b)), some (.int (p1)), some (.int (p2))] [(.int (y0)), (.ref (b))] (mb h0 b S) Q := by
  unfold sX10_press_j19 at hs
  refine AW.iconst (am_r 11 rfl) rfl ci_1 ?_
  refine AW.callV (N := MX10_throwsIf) (As := [.int (y0), .int ((1 : Int32))]) (S := []) (L0 := [some (.ref (b)), some (.int (y0)), some (.int ((1 : Int32)))]) (b := b) (am_r 12 rfl) rfl ovX10_throwsIf q1607 rfl rfl mb_ob rfl rfl rfl rfl (dX10_throwsIf hA hk0 rfl (fun hok6 => (cQ_r ?_)))
  refine olet_e (P := fun (y : (Int32 × Mem)) => (y.1 = 0 ∨ y.1 = 1) → AW g MX10_press 23 [some (.ref (b)), some (.int (p1)), some (.int (p2))] [(.int (y.1))] (mb h0 b y.2) Q) hs (fun r5 hs hok6 => ?_) hok6
  refine AW.if_eq (tg := 30) (am_r 13 rfl) rfl rfl (fun hc7 => ?_) (fun hc7 => ?_)
  · replace hs := (if_pos hc7).symm.trans hs
    refine AW.iload_n (z := 2) (am_r 16 rfl) rfl rfl ?_
    refine AW.if_ne (tg := 42) (am_r 17 rfl) rfl rfl (fun hc8 => ?_) (fun hc8 => ?_)
    · replace hs := (if_neg hc8).symm.trans hs
      refine AW.iload_n (z := 2) (am_r 22 rfl) rfl rfl ?_
      refine AW.iconst (am_r 23 rfl) rfl ci_1 ?_
      refine AW.icmp_ne (tg := 55) (am_r 24 rfl) rfl rfl (fun hc9 => ?_) (fun hc9 => ?_)
      · replace hs := (if_neg hc9).symm.trans hs
        refine AW.iconst (am_r 29 rfl) rfl ci_m1 ?_
        have hr := (Option.some.inj hs).symm
        subst hr
        exact AW.iret (am_r 30 rfl) rfl hQ
      · replace hs := (if_pos hc9).symm.trans hs
        refine AW.aload_n (z := 0) (am_r 25 rfl) rfl rfl ?_
        refine AW.iload_n (z := 1) (am_r 26 rfl) rfl rfl ?_
        refine obind_e hs (fun r10 hg12 hs => ?_)
        refine AW.callV (N := MX10_inPress) (As := [.int (p1)]) (S := []) (L0 := [some (.ref (b)), some (.int (p1)), none]) (b := b) (am_r 27 rfl) rfl ovX10_inPress q1760 rfl rfl mb_ob rfl rfl rfl rfl (dX10_inPress hA  hg12 (cQ_r ?_))
        refine AW.goto (tg := 56) (am_r 28 rfl) rfl ?_
        have hr := (Option.some.inj hs).symm
        subst hr
        exact AW.iret (am_r 30 rfl) rfl hQ
    · replace hs := (if_pos hc8).symm.trans hs
      refine AW.aload_n (z := 0) (am_r 18 rfl) rfl rfl ?_
      refine AW.iload_n (z := 1) (am_r 19 rfl) rfl rfl ?_
      refine obind_e hs (fun r13 hg15 hs => ?_)
      refine AW.callV (N := MX10_pressSize) (As := [.int (p1)]) (S := []) (L0 := [some (.ref (b)), some (.int (p1))]) (b := b) (am_r 20 rfl) rfl ovX10_pressSize q1756 rfl rfl mb_ob rfl rfl rfl rfl (dX10_pressSize hA  hg15 (cQ_r ?_))
      refine AW.goto (tg := 56) (am_r 21 rfl) rfl ?_
      have hr := (Option.some.inj hs).symm
      subst hr
      exact AW.iret (am_r 30 rfl) rfl hQ
  · replace hs := (if_neg hc7).symm.trans hs
    refine AW.iconst (am_r 14 rfl) rfl ci_0 ?_
    refine AW.goto (tg := 56) (am_r 15 rfl) rfl ?_
    have hr := (Option.some.inj hs).symm
    subst hr
    exact AW.iret (am_r 30 rfl) rfl hQ
noncomputable def sX10_press (S : Mem) (p1 : Int32) (p2 : Int32) : Option (Int32 × Mem) :=
  olet (si S 100 6 0 ((0 : Int32))) fun S1 =>
  if (sX10_isPress S1 p1) = 0 then
    sX10_press_j19 S1 p1 p2 (1 : Int32)
  else
    sX10_press_j19 S1 p1 p2 (0 : Int32)
set_option maxRecDepth 100000 in
theorem dX10_press {g : AG} {h0 : AH} {b : Nat} {S : Mem} {Q : AO → AH → Prop} {p1 : Int32} {p2 : Int32} (hA : gB g ≤ b)  {r : (Int32 × Mem)} (hs : sX10_press S p1 p2 = some r) (hQ : Q (.ok (some (.int r.1))) (mb h0 b r.2)) : AW g MX10_press 0 [some (.ref (b)), some (.int (p1)), some (.int (p2))] [] (mb h0 b S) Q := by
  unfold sX10_press at hs
  refine AW.aload_n (z := 0) (am_r 0 rfl) rfl rfl ?_
  refine AW.iconst (am_r 1 rfl) rfl ci_0 ?_
  refine AW.putO (am_r 2 rfl) rfl klX10 (k := 6) (by omega) q1509 (Or.inl rfl) mb_ob hA rfl rfl (mbp_ob (by decide)) ?_
  refine olet_e (P := fun y => AW g MX10_press 5 [some (.ref (b)), some (.int (p1)), some (.int (p2))] [] (mb h0 b y) Q) hs (fun S1 hs => ?_)
  refine AW.aload_n (z := 0) (am_r 3 rfl) rfl rfl ?_
  refine AW.aload_n (z := 0) (am_r 4 rfl) rfl rfl ?_
  refine AW.iload_n (z := 1) (am_r 5 rfl) rfl rfl ?_
  refine AW.callV (N := MX10_isPress) (As := [.int (p1)]) (S := [(.ref (b))]) (L0 := [some (.ref (b)), some (.int (p1))]) (b := b) (am_r 6 rfl) rfl ovX10_isPress q1811 rfl rfl mb_ob rfl rfl rfl rfl (dX10_isPress hA  rfl (fun hok3 => (cQ_r ?_)))
  refine AW.if_ne (tg := 18) (am_r 7 rfl) rfl rfl (fun hc4 => ?_) (fun hc4 => ?_)
  · replace hs := (if_neg hc4).symm.trans hs
    refine AW.iconst (am_r 10 rfl) rfl ci_0 ?_
    exact dX10_press_j19 hA  (Or.inl rfl) hs hQ
  · replace hs := (if_pos hc4).symm.trans hs
    refine AW.iconst (am_r 8 rfl) rfl ci_1 ?_
    refine AW.goto (tg := 19) (am_r 9 rfl) rfl ?_
    exact dX10_press_j19 hA  (Or.inr rfl) hs hQ
noncomputable def sX10_recipe_j19 (S : Mem) (p1 : Int32) (p2 : Int32) (y0 : Int32) : Option (Int32 × Mem) :=
  olet (sX10_throwsIf S y0 (1 : Int32)) fun r5 =>
  if r5.1 = 0 then
    if (sX10_inRange r5.2 p2.toInt64 (0 : Int64) (6 : Int64)) = 0 then
      some (((-1 : Int32), r5.2))
    else
      obind (sX10_ofRecipe r5.2 p1 p2) fun r11 =>
      some ((r11, r5.2))
  else
    some (((0 : Int32), r5.2))
set_option maxRecDepth 100000 in
theorem dX10_recipe_j19 {g : AG} {h0 : AH} {b : Nat} {S : Mem} {Q : AO → AH → Prop} {p1 : Int32} {p2 : Int32} {y0 : Int32} (hA : gB g ≤ b)  (hk0 : y0 = 0 ∨ y0 = 1) {r : (Int32 × Mem)} (hs : sX10_recipe_j19 S p1 p2 y0 = some r) (hQ : Q (.ok (some (.int r.1))) (mb h0 b r.2)) : AW g MX10_recipe 19 [some (.ref (b)), some (.int (p1)), some (.int (p2))] [(.int (y0)), (.ref (b))] (mb h0 b S) Q := by
  unfold sX10_recipe_j19 at hs
  refine AW.iconst (am_r 11 rfl) rfl ci_1 ?_
  refine AW.callV (N := MX10_throwsIf) (As := [.int (y0), .int ((1 : Int32))]) (S := []) (L0 := [some (.ref (b)), some (.int (y0)), some (.int ((1 : Int32)))]) (b := b) (am_r 12 rfl) rfl ovX10_throwsIf q1607 rfl rfl mb_ob rfl rfl rfl rfl (dX10_throwsIf hA hk0 rfl (fun hok6 => (cQ_r ?_)))
  refine olet_e (P := fun (y : (Int32 × Mem)) => (y.1 = 0 ∨ y.1 = 1) → AW g MX10_recipe 23 [some (.ref (b)), some (.int (p1)), some (.int (p2))] [(.int (y.1))] (mb h0 b y.2) Q) hs (fun r5 hs hok6 => ?_) hok6
  refine AW.if_eq (tg := 30) (am_r 13 rfl) rfl rfl (fun hc7 => ?_) (fun hc7 => ?_)
  · replace hs := (if_pos hc7).symm.trans hs
    refine AW.iload_n (z := 2) (am_r 16 rfl) rfl rfl ?_
    refine AW.i2l (am_r 17 rfl) rfl ?_
    refine AW.lconst (z := 0) (am_r 18 rfl) rfl cl_0 ?_
    refine AW.ldc2 (v := (6)) (am_r 19 rfl) rfl q1819 ?_
    refine AW.callS (N := MX10_inRange) (As := [.long (p2.toInt64), .long ((0 : Int64)), .long ((6 : Int64))]) (S := []) (L0 := [some (.long (p2.toInt64)), none, some (.long ((0 : Int64))), none, some (.long ((6 : Int64))), none]) (am_r 20 rfl) rfl osX10_inRange q1592 rfl rfl rfl rfl rfl (dX10_inRange hA  rfl (fun hok9 => (cQ_r ?_)))
    refine AW.if_eq (tg := 51) (am_r 21 rfl) rfl rfl (fun hc10 => ?_) (fun hc10 => ?_)
    · replace hs := (if_pos hc10).symm.trans hs
      refine AW.iconst (am_r 27 rfl) rfl ci_m1 ?_
      have hr := (Option.some.inj hs).symm
      subst hr
      exact AW.iret (am_r 28 rfl) rfl hQ
    · replace hs := (if_neg hc10).symm.trans hs
      refine AW.aload_n (z := 0) (am_r 22 rfl) rfl rfl ?_
      refine AW.iload_n (z := 1) (am_r 23 rfl) rfl rfl ?_
      refine AW.iload_n (z := 2) (am_r 24 rfl) rfl rfl ?_
      refine obind_e hs (fun r11 hg13 hs => ?_)
      refine AW.callV (N := MX10_ofRecipe) (As := [.int (p1), .int (p2)]) (S := []) (L0 := [some (.ref (b)), some (.int (p1)), some (.int (p2))]) (b := b) (am_r 25 rfl) rfl ovX10_ofRecipe q1671 rfl rfl mb_ob rfl rfl rfl rfl (dX10_ofRecipe hA  hg13 (cQ_r ?_))
      refine AW.goto (tg := 52) (am_r 26 rfl) rfl ?_
      have hr := (Option.some.inj hs).symm
      subst hr
      exact AW.iret (am_r 28 rfl) rfl hQ
  · replace hs := (if_neg hc7).symm.trans hs
    refine AW.iconst (am_r 14 rfl) rfl ci_0 ?_
    refine AW.goto (tg := 52) (am_r 15 rfl) rfl ?_
    have hr := (Option.some.inj hs).symm
    subst hr
    exact AW.iret (am_r 28 rfl) rfl hQ
noncomputable def sX10_recipe (S : Mem) (p1 : Int32) (p2 : Int32) : Option (Int32 × Mem) :=
  olet (si S 100 6 0 ((0 : Int32))) fun S1 =>
  if (sX10_isRecipe S1 p1) = 0 then
    sX10_recipe_j19 S1 p1 p2 (1 : Int32)
  else
    sX10_recipe_j19 S1 p1 p2 (0 : Int32)
set_option maxRecDepth 100000 in
theorem dX10_recipe {g : AG} {h0 : AH} {b : Nat} {S : Mem} {Q : AO → AH → Prop} {p1 : Int32} {p2 : Int32} (hA : gB g ≤ b)  {r : (Int32 × Mem)} (hs : sX10_recipe S p1 p2 = some r) (hQ : Q (.ok (some (.int r.1))) (mb h0 b r.2)) : AW g MX10_recipe 0 [some (.ref (b)), some (.int (p1)), some (.int (p2))] [] (mb h0 b S) Q := by
  unfold sX10_recipe at hs
  refine AW.aload_n (z := 0) (am_r 0 rfl) rfl rfl ?_
  refine AW.iconst (am_r 1 rfl) rfl ci_0 ?_
  refine AW.putO (am_r 2 rfl) rfl klX10 (k := 6) (by omega) q1509 (Or.inl rfl) mb_ob hA rfl rfl (mbp_ob (by decide)) ?_
  refine olet_e (P := fun y => AW g MX10_recipe 5 [some (.ref (b)), some (.int (p1)), some (.int (p2))] [] (mb h0 b y) Q) hs (fun S1 hs => ?_)
  refine AW.aload_n (z := 0) (am_r 3 rfl) rfl rfl ?_
  refine AW.aload_n (z := 0) (am_r 4 rfl) rfl rfl ?_
  refine AW.iload_n (z := 1) (am_r 5 rfl) rfl rfl ?_
  refine AW.callV (N := MX10_isRecipe) (As := [.int (p1)]) (S := [(.ref (b))]) (L0 := [some (.ref (b)), some (.int (p1))]) (b := b) (am_r 6 rfl) rfl ovX10_isRecipe q1639 rfl rfl mb_ob rfl rfl rfl rfl (dX10_isRecipe hA  rfl (fun hok3 => (cQ_r ?_)))
  refine AW.if_ne (tg := 18) (am_r 7 rfl) rfl rfl (fun hc4 => ?_) (fun hc4 => ?_)
  · replace hs := (if_neg hc4).symm.trans hs
    refine AW.iconst (am_r 10 rfl) rfl ci_0 ?_
    exact dX10_recipe_j19 hA  (Or.inl rfl) hs hQ
  · replace hs := (if_pos hc4).symm.trans hs
    refine AW.iconst (am_r 8 rfl) rfl ci_1 ?_
    refine AW.goto (tg := 19) (am_r 9 rfl) rfl ?_
    exact dX10_recipe_j19 hA  (Or.inr rfl) hs hQ
