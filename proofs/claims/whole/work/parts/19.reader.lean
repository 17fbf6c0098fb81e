/-! ===== THE READER'S METHODS, DECOMPILED (laid by a program) ===== -/
theorem cb_57 : (Int8.ofInt (57)).toInt32 = (57 : Int32) := by decide
theorem cb_122 : (Int8.ofInt (122)).toInt32 = (122 : Int32) := by decide
theorem cn_7 : Int32.ofNat 7 = (7 : Int32) := by decide
theorem cn_200 : Int32.ofNat 200 = (200 : Int32) := by decide
theorem cn_1000 : Int32.ofNat 1000 = (1000 : Int32) := by decide
def sX8_rewind (S : Mem)  : Mem :=
  olet (si S 1 2 0 ((0 : Int32))) fun S1 =>
  olet (si S1 1 3 0 ((0 : Int32))) fun S2 =>
  olet (si S2 1 4 0 ((0 : Int32))) fun S3 =>
  olet (si S3 1 5 0 ((0 : Int32))) fun S4 =>
  S4
set_option maxRecDepth 100000 in
theorem dX8_rewind {g : AG} {h0 : AH} {u : Nat} {S : Mem} {Q : AO → AH → Prop}  (hR : gB g ≤ u) (hst : Sta g h0)  {r : Mem} (hs : sX8_rewind S  = r) (hQ : Q (.ok none) (rb h0 u r)) : AW g MX8_rewind 0 [some (.ref (u + 1))] [] (rb h0 u S) Q := by
  unfold sX8_rewind at hs
  refine AW.aload_n (z := 0) (am_r 0 rfl) rfl rfl ?_
  refine AW.iconst (am_r 1 rfl) rfl ci_0 ?_
  refine AW.putO (am_r 2 rfl) rfl klX8 (k := 2) (by omega) q329 (Or.inl rfl) rb_1 (Nat.le_trans hR (by omega)) rfl rfl (rbp_1 (by decide)) ?_
  refine olet_e (P := fun y => AW g MX8_rewind 5 [some (.ref (u + 1))] [] (rb h0 u y) Q) hs (fun S1 hs => ?_)
  refine AW.aload_n (z := 0) (am_r 3 rfl) rfl rfl ?_
  refine AW.iconst (am_r 4 rfl) rfl ci_0 ?_
  refine AW.putO (am_r 5 rfl) rfl klX8 (k := 3) (by omega) q330 (Or.inl rfl) rb_1 (Nat.le_trans hR (by omega)) rfl rfl (rbp_1 (by decide)) ?_
  refine olet_e (P := fun y => AW g MX8_rewind 10 [some (.ref (u + 1))] [] (rb h0 u y) Q) hs (fun S2 hs => ?_)
  refine AW.aload_n (z := 0) (am_r 6 rfl) rfl rfl ?_
  refine AW.iconst (am_r 7 rfl) rfl ci_0 ?_
  refine AW.putO (am_r 8 rfl) rfl klX8 (k := 4) (by omega) q332 (Or.inl rfl) rb_1 (Nat.le_trans hR (by omega)) rfl rfl (rbp_1 (by decide)) ?_
  refine olet_e (P := fun y => AW g MX8_rewind 15 [some (.ref (u + 1))] [] (rb h0 u y) Q) hs (fun S3 hs => ?_)
  refine AW.aload_n (z := 0) (am_r 9 rfl) rfl rfl ?_
  refine AW.iconst (am_r 10 rfl) rfl ci_0 ?_
  refine AW.putO (am_r 11 rfl) rfl klX8 (k := 5) (by omega) q333 (Or.inl rfl) rb_1 (Nat.le_trans hR (by omega)) rfl rfl (rbp_1 (by decide)) ?_
  refine olet_e (P := fun y => AW g MX8_rewind 20 [some (.ref (u + 1))] [] (rb h0 u y) Q) hs (fun S4 hs => ?_)
  have hr := hs.symm
  subst hr
  exact AW.vret (am_r 12 rfl) rfl hQ
def sX4_begin (S : Mem)  : Mem :=
  olet (sX8_rewind S ) fun S3 =>
  olet (si S3 0 3 0 ((0 : Int32))) fun S4 =>
  olet (si S4 0 4 0 ((0 : Int32))) fun S5 =>
  olet (si S5 0 5 0 ((-1 : Int32))) fun S6 =>
  olet (si S6 0 6 0 ((0 : Int32))) fun S7 =>
  olet (si S7 0 7 0 ((0 : Int32))) fun S8 =>
  S8
set_option maxRecDepth 100000 in
theorem dX4_begin {g : AG} {h0 : AH} {u : Nat} {S : Mem} {Q : AO → AH → Prop}  (hR : gB g ≤ u) (hst : Sta g h0)  {r : Mem} (hs : sX4_begin S  = r) (hQ : Q (.ok none) (rb h0 u r)) : AW g MX4_begin 0 [some (.ref (u))] [] (rb h0 u S) Q := by
  unfold sX4_begin at hs
  refine AW.aload_n (z := 0) (am_r 0 rfl) rfl rfl ?_
  refine AW.getO (am_r 1 rfl) rfl klX4 (k := 0) (by omega) q352 rb_0 rfl ?_
  refine AW.callV (N := MX8_rewind) (As := []) (S := []) (L0 := [some (.ref (u + 1))]) (b := u + 1) (am_r 2 rfl) rfl ovX8_rewind q452 rfl rfl rb_1 rfl rfl rfl rfl (dX8_rewind hR hst  rfl (cQ_v ?_))
  refine olet_e (P := fun (y : Mem) => AW g MX4_begin 7 [some (.ref (u))] [] (rb h0 u y) Q) hs (fun S3 hs => ?_)
  refine AW.aload_n (z := 0) (am_r 3 rfl) rfl rfl ?_
  refine AW.iconst (am_r 4 rfl) rfl ci_0 ?_
  refine AW.putO (am_r 5 rfl) rfl klX4 (k := 3) (by omega) q356 (Or.inl rfl) rb_0 hR rfl rfl (rbp_0 (by decide)) ?_
  refine olet_e (P := fun y => AW g MX4_begin 12 [some (.ref (u))] [] (rb h0 u y) Q) hs (fun S4 hs => ?_)
  refine AW.aload_n (z := 0) (am_r 6 rfl) rfl rfl ?_
  refine AW.iconst (am_r 7 rfl) rfl ci_0 ?_
  refine AW.putO (am_r 8 rfl) rfl klX4 (k := 4) (by omega) q359 (Or.inl rfl) rb_0 hR rfl rfl (rbp_0 (by decide)) ?_
  refine olet_e (P := fun y => AW g MX4_begin 17 [some (.ref (u))] [] (rb h0 u y) Q) hs (fun S5 hs => ?_)
  refine AW.aload_n (z := 0) (am_r 9 rfl) rfl rfl ?_
  refine AW.iconst (am_r 10 rfl) rfl ci_m1 ?_
  refine AW.putO (am_r 11 rfl) rfl klX4 (k := 5) (by omega) q360 (Or.inl rfl) rb_0 hR rfl rfl (rbp_0 (by decide)) ?_
  refine olet_e (P := fun y => AW g MX4_begin 22 [some (.ref (u))] [] (rb h0 u y) Q) hs (fun S6 hs => ?_)
  refine AW.aload_n (z := 0) (am_r 12 rfl) rfl rfl ?_
  refine AW.iconst (am_r 13 rfl) rfl ci_0 ?_
  refine AW.putO (am_r 14 rfl) rfl klX4 (k := 6) (by omega) q362 (Or.inl rfl) rb_0 hR (nar_b (Or.inl rfl)) rfl (rbp_0 (by decide)) ?_
  refine olet_e (P := fun y => AW g MX4_begin 27 [some (.ref (u))] [] (rb h0 u y) Q) hs (fun S7 hs => ?_)
  refine AW.aload_n (z := 0) (am_r 15 rfl) rfl rfl ?_
  refine AW.iconst (am_r 16 rfl) rfl ci_0 ?_
  refine AW.putO (am_r 17 rfl) rfl klX4 (k := 7) (by omega) q363 (Or.inl rfl) rb_0 hR (nar_b (Or.inl rfl)) rfl (rbp_0 (by decide)) ?_
  refine olet_e (P := fun y => AW g MX4_begin 32 [some (.ref (u))] [] (rb h0 u y) Q) hs (fun S8 hs => ?_)
  have hr := hs.symm
  subst hr
  exact AW.vret (am_r 18 rfl) rfl hQ
def sX8_byteAt (S : Mem) (p1 : Int32) : Int32 :=
  if p1 < 0 then
    (0 : Int32)
  else
    if (gi S 1 1 0) ≤ p1 then
      (0 : Int32)
    else
      if (1000 : Int32) ≤ p1 then
        (0 : Int32)
      else
        gi S 2 p1.toNatClampNeg 0
set_option maxRecDepth 100000 in
theorem dX8_byteAt {g : AG} {h0 : AH} {u : Nat} {S : Mem} {Q : AO → AH → Prop} {p1 : Int32} (hR : gB g ≤ u) (hst : Sta g h0)  {r : Int32} (hs : sX8_byteAt S p1 = r) (hQ : Q (.ok (some (.int r))) (rb h0 u S)) : AW g MX8_byteAt 0 [some (.ref (u + 1)), some (.int (p1))] [] (rb h0 u S) Q := by
  unfold sX8_byteAt at hs
  refine AW.iload_n (z := 1) (am_r 0 rfl) rfl rfl ?_
  refine AW.if_lt (tg := 30) (am_r 1 rfl) rfl rfl (fun hc1 => ?_) (fun hc1 => ?_)
  · replace hs := (if_pos hc1).symm.trans hs
    refine AW.iconst (am_r 16 rfl) rfl ci_0 ?_
    have hr := hs.symm
    subst hr
    exact AW.iret (am_r 17 rfl) rfl hQ
  · replace hs := (if_neg hc1).symm.trans hs
    refine AW.iload_n (z := 1) (am_r 2 rfl) rfl rfl ?_
    refine AW.aload_n (z := 0) (am_r 3 rfl) rfl rfl ?_
    refine AW.getO (am_r 4 rfl) rfl klX8 (k := 1) (by omega) q325 rb_1 rfl ?_
    refine AW.icmp_ge (tg := 30) (am_r 5 rfl) rfl rfl (fun hc2 => ?_) (fun hc2 => ?_)
    · replace hs := (if_pos hc2).symm.trans hs
      refine AW.iconst (am_r 16 rfl) rfl ci_0 ?_
      have hr := hs.symm
      subst hr
      exact AW.iret (am_r 17 rfl) rfl hQ
    · replace hs := (if_neg hc2).symm.trans hs
      refine AW.iload_n (z := 1) (am_r 6 rfl) rfl rfl ?_
      refine AW.aload_n (z := 0) (am_r 7 rfl) rfl rfl ?_
      refine AW.getO (am_r 8 rfl) rfl klX8 (k := 0) (by omega) q324 rb_1 rfl ?_
      refine AW.alen (am_r 9 rfl) rfl rfl rb_2 cn_1000 ?_
      refine AW.icmp_ge (tg := 30) (am_r 10 rfl) rfl rfl (fun hc3 => ?_) (fun hc3 => ?_)
      · replace hs := (if_pos hc3).symm.trans hs
        refine AW.iconst (am_r 16 rfl) rfl ci_0 ?_
        have hr := hs.symm
        subst hr
        exact AW.iret (am_r 17 rfl) rfl hQ
      · replace hs := (if_neg hc3).symm.trans hs
        refine AW.aload_n (z := 0) (am_r 11 rfl) rfl rfl ?_
        refine AW.getO (am_r 12 rfl) rfl klX8 (k := 0) (by omega) q324 rb_1 rfl ?_
        refine AW.iload_n (z := 1) (am_r 13 rfl) rfl rfl ?_
        refine AW.bald (am_r 14 rfl) rfl rb_2 (vp_mk hc1 (by decide) (vp_hi hc3)) rfl ?_
        refine AW.goto (tg := 31) (am_r 15 rfl) rfl ?_
        have hr := hs.symm
        subst hr
        exact AW.iret (am_r 17 rfl) rfl hQ
def sX8_isBlank (S : Mem) (p1 : Int32) : Int32 :=
  if p1 = (32 : Int32) then
    (1 : Int32)
  else
    if p1 = (10 : Int32) then
      (1 : Int32)
    else
      (0 : Int32)
set_option maxRecDepth 100000 in
theorem dX8_isBlank {g : AG} {h0 : AH} {u : Nat} {S : Mem} {Q : AO → AH → Prop} {p1 : Int32} (hR : gB g ≤ u) (hst : Sta g h0)  {r : Int32} (hs : sX8_isBlank S p1 = r) (hQ : (r = 0 ∨ r = 1) → Q (.ok (some (.int r))) (rb h0 u S)) : AW g MX8_isBlank 0 [some (.int (p1))] [] (rb h0 u S) Q := by
  unfold sX8_isBlank at hs
  refine AW.iload_n (z := 0) (am_r 0 rfl) rfl rfl ?_
  refine AW.bipush (am_r 1 rfl) rfl cb_32 ?_
  refine AW.icmp_eq (tg := 12) (am_r 2 rfl) rfl rfl (fun hc1 => ?_) (fun hc1 => ?_)
  · replace hs := (if_pos hc1).symm.trans hs
    refine AW.iconst (am_r 6 rfl) rfl ci_1 ?_
    refine AW.goto (tg := 17) (am_r 7 rfl) rfl ?_
    have hr := hs.symm
    subst hr
    exact AW.zret (am_r 9 rfl) rfl (Or.inr rfl) (hQ (Or.inr rfl))
  · replace hs := (if_neg hc1).symm.trans hs
    refine AW.iload_n (z := 0) (am_r 3 rfl) rfl rfl ?_
    refine AW.bipush (am_r 4 rfl) rfl cb_10 ?_
    refine AW.icmp_ne (tg := 16) (am_r 5 rfl) rfl rfl (fun hc2 => ?_) (fun hc2 => ?_)
    · replace hs := (if_neg hc2).symm.trans hs
      refine AW.iconst (am_r 8 rfl) rfl ci_0 ?_
      have hr := hs.symm
      subst hr
      exact AW.zret (am_r 9 rfl) rfl (Or.inl rfl) (hQ (Or.inl rfl))
    · replace hs := (if_pos hc2).symm.trans hs
      refine AW.iconst (am_r 6 rfl) rfl ci_1 ?_
      refine AW.goto (tg := 17) (am_r 7 rfl) rfl ?_
      have hr := hs.symm
      subst hr
      exact AW.zret (am_r 9 rfl) rfl (Or.inr rfl) (hQ (Or.inr rfl))
def sX8_isLetter (S : Mem) (p1 : Int32) : Int32 :=
  if p1 < (97 : Int32) then
    (0 : Int32)
  else
    if (122 : Int32) < p1 then
      (0 : Int32)
    else
      (1 : Int32)
set_option maxRecDepth 100000 in
theorem dX8_isLetter {g : AG} {h0 : AH} {u : Nat} {S : Mem} {Q : AO → AH → Prop} {p1 : Int32} (hR : gB g ≤ u) (hst : Sta g h0)  {r : Int32} (hs : sX8_isLetter S p1 = r) (hQ : (r = 0 ∨ r = 1) → Q (.ok (some (.int r))) (rb h0 u S)) : AW g MX8_isLetter 0 [some (.int (p1))] [] (rb h0 u S) Q := by
  unfold sX8_isLetter at hs
  refine AW.iload_n (z := 0) (am_r 0 rfl) rfl rfl ?_
  refine AW.bipush (am_r 1 rfl) rfl cb_97 ?_
  refine AW.icmp_lt (tg := 16) (am_r 2 rfl) rfl rfl (fun hc1 => ?_) (fun hc1 => ?_)
  · replace hs := (if_pos hc1).symm.trans hs
    refine AW.iconst (am_r 8 rfl) rfl ci_0 ?_
    have hr := hs.symm
    subst hr
    exact AW.zret (am_r 9 rfl) rfl (Or.inl rfl) (hQ (Or.inl rfl))
  · replace hs := (if_neg hc1).symm.trans hs
    refine AW.iload_n (z := 0) (am_r 3 rfl) rfl rfl ?_
    refine AW.bipush (am_r 4 rfl) rfl cb_122 ?_
    refine AW.icmp_gt (tg := 16) (am_r 5 rfl) rfl rfl (fun hc2 => ?_) (fun hc2 => ?_)
    · replace hs := (if_pos hc2).symm.trans hs
      refine AW.iconst (am_r 8 rfl) rfl ci_0 ?_
      have hr := hs.symm
      subst hr
      exact AW.zret (am_r 9 rfl) rfl (Or.inl rfl) (hQ (Or.inl rfl))
    · replace hs := (if_neg hc2).symm.trans hs
      refine AW.iconst (am_r 6 rfl) rfl ci_1 ?_
      refine AW.goto (tg := 17) (am_r 7 rfl) rfl ?_
      have hr := hs.symm
      subst hr
      exact AW.zret (am_r 9 rfl) rfl (Or.inr rfl) (hQ (Or.inr rfl))
noncomputable def sX8_readWord_j38 (S : Mem)   : Option Mem :=
  if (8 : Int32) < ((gi S 1 4 0) - (gi S 1 3 0)) then
    olet (si S 1 2 0 ((4 : Int32))) fun S5 =>
    some (S5)
  else
    olet (si S 1 2 0 ((1 : Int32))) fun S6 =>
    some (S6)
set_option maxRecDepth 100000 in
theorem dX8_readWord_j38 {g : AG} {h0 : AH} {u : Nat} {S : Mem} {Q : AO → AH → Prop}   (hR : gB g ≤ u) (hst : Sta g h0)   {r : Mem} (hs : sX8_readWord_j38 S   = some r) (hQ : Q (.ok none) (rb h0 u r)) : AW g MX8_readWord 38 [some (.ref (u + 1))] [] (rb h0 u S) Q := by
  unfold sX8_readWord_j38 at hs
  refine AW.aload_n (z := 0) (am_r 18 rfl) rfl rfl ?_
  refine AW.aload_n (z := 0) (am_r 19 rfl) rfl rfl ?_
  refine AW.getO (am_r 20 rfl) rfl klX8 (k := 4) (by omega) q332 rb_1 rfl ?_
  refine AW.aload_n (z := 0) (am_r 21 rfl) rfl rfl ?_
  refine AW.getO (am_r 22 rfl) rfl klX8 (k := 3) (by omega) q330 rb_1 rfl ?_
  refine AW.isub (am_r 23 rfl) rfl ?_
  refine AW.bipush (am_r 24 rfl) rfl cb_8 ?_
  refine AW.icmp_gt (tg := 57) (am_r 25 rfl) rfl rfl (fun hc4 => ?_) (fun hc4 => ?_)
  · replace hs := (if_pos hc4).symm.trans hs
    refine AW.iconst (am_r 28 rfl) rfl ci_4 ?_
    refine AW.putO (am_r 29 rfl) rfl klX8 (k := 2) (by omega) q329 (Or.inl rfl) rb_1 (Nat.le_trans hR (by omega)) rfl rfl (rbp_1 (by decide)) ?_
    refine olet_e (P := fun y => AW g MX8_readWord 61 [some (.ref (u + 1))] [] (rb h0 u y) Q) hs (fun S5 hs => ?_)
    have hr := (Option.some.inj hs).symm
    subst hr
    exact AW.vret (am_r 30 rfl) rfl hQ
  · replace hs := (if_neg hc4).symm.trans hs
    refine AW.iconst (am_r 26 rfl) rfl ci_1 ?_
    refine AW.goto (tg := 58) (am_r 27 rfl) rfl ?_
    refine AW.putO (am_r 29 rfl) rfl klX8 (k := 2) (by omega) q329 (Or.inl rfl) rb_1 (Nat.le_trans hR (by omega)) rfl rfl (rbp_1 (by decide)) ?_
    refine olet_e (P := fun y => AW g MX8_readWord 61 [some (.ref (u + 1))] [] (rb h0 u y) Q) hs (fun S6 hs => ?_)
    have hr := (Option.some.inj hs).symm
    subst hr
    exact AW.vret (am_r 30 rfl) rfl hQ
noncomputable def sX8_readWord_l0_step   (a : Mem) : Option (Mem ⊕ Mem) :=
  if (gi a 1 1 0) ≤ (gi a 1 4 0) then
    oinr (
    sX8_readWord_j38 a  )
  else
    if (sX8_isLetter a (sX8_byteAt a (gi a 1 4 0))) = 0 then
      oinr (
      sX8_readWord_j38 a  )
    else
      olet (si a 1 4 0 ((gi a 1 4 0) + (1 : Int32))) fun S14 =>
      some (.inl S14)
noncomputable def sX8_readWord_l0   (a : Mem) : Option Mem := itw (sX8_readWord_l0_step  ) a
set_option maxRecDepth 100000 in
theorem dX8_readWord_l0 {g : AG} {h0 : AH} {u : Nat} {Q : AO → AH → Prop}  (hR : gB g ≤ u) (hst : Sta g h0)  {a : Mem}  {r : Mem} (hs : sX8_readWord_l0   a = some r) (hQ : Q (.ok none) (rb h0 u r)) : AW g MX8_readWord 0 [some (.ref (u + 1))] [] (rb h0 u a) Q := by
  refine itw_e (P := fun a => AW g MX8_readWord 0 [some (.ref (u + 1))] [] (rb h0 u a) Q) (Post := fun r => Q (.ok none) (rb h0 u r)) (fun a r hs hc he  => ?_) hs hQ 
  unfold sX8_readWord_l0_step at hs
  refine AW.aload_n (z := 0) (am_r 0 rfl) rfl rfl ?_
  refine AW.getO (am_r 1 rfl) rfl klX8 (k := 4) (by omega) q332 rb_1 rfl ?_
  refine AW.aload_n (z := 0) (am_r 2 rfl) rfl rfl ?_
  refine AW.getO (am_r 3 rfl) rfl klX8 (k := 1) (by omega) q325 rb_1 rfl ?_
  refine AW.icmp_ge (tg := 38) (am_r 4 rfl) rfl rfl (fun hc1 => ?_) (fun hc1 => ?_)
  · replace hs := (if_pos hc1).symm.trans hs
    refine oinr_e hs (fun z2 hz3 hs => ?_)
    have hQ := he _ hz3
    exact dX8_readWord_j38 hR hst   hs hQ
  · replace hs := (if_neg hc1).symm.trans hs
    refine AW.aload_n (z := 0) (am_r 5 rfl) rfl rfl ?_
    refine AW.aload_n (z := 0) (am_r 6 rfl) rfl rfl ?_
    refine AW.getO (am_r 7 rfl) rfl klX8 (k := 4) (by omega) q332 rb_1 rfl ?_
    refine AW.callV (N := MX8_byteAt) (As := [.int (gi a 1 4 0)]) (S := []) (L0 := [some (.ref (u + 1)), some (.int (gi a 1 4 0))]) (b := u + 1) (am_r 8 rfl) rfl ovX8_byteAt q468 rfl rfl rb_1 rfl rfl rfl rfl (dX8_byteAt hR hst  rfl (cQ_r ?_))
    refine AW.callS (N := MX8_isLetter) (As := [.int (sX8_byteAt a (gi a 1 4 0))]) (S := []) (L0 := [some (.int (sX8_byteAt a (gi a 1 4 0)))]) (am_r 9 rfl) rfl osX8_isLetter q475 rfl rfl rfl rfl rfl (dX8_isLetter hR hst  rfl (fun hok10 => (cQ_r ?_)))
    refine AW.if_eq (tg := 38) (am_r 10 rfl) rfl rfl (fun hc11 => ?_) (fun hc11 => ?_)
    · replace hs := (if_pos hc11).symm.trans hs
      refine oinr_e hs (fun z12 hz13 hs => ?_)
      have hQ := he _ hz13
      exact dX8_readWord_j38 hR hst   hs hQ
    · replace hs := (if_neg hc11).symm.trans hs
      refine AW.aload_n (z := 0) (am_r 11 rfl) rfl rfl ?_
      refine AW.dup (am_r 12 rfl) rfl rfl ?_
      refine AW.getO (am_r 13 rfl) rfl klX8 (k := 4) (by omega) q332 rb_1 rfl ?_
      refine AW.iconst (am_r 14 rfl) rfl ci_1 ?_
      refine AW.iadd (am_r 15 rfl) rfl ?_
      refine AW.putO (am_r 16 rfl) rfl klX8 (k := 4) (by omega) q332 (Or.inl rfl) rb_1 (Nat.le_trans hR (by omega)) rfl rfl (rbp_1 (by decide)) ?_
      refine olet_e (P := fun y => AW g MX8_readWord 35 [some (.ref (u + 1))] [] (rb h0 u y) Q) hs (fun S14 hs => ?_)
      refine AW.goto (tg := 0) (am_r 17 rfl) rfl ?_
      have hr := (Option.some.inj hs).symm
      exact hc S14 hr 
noncomputable def sX8_readWord (S : Mem)  : Option Mem :=
  sX8_readWord_l0   S
set_option maxRecDepth 100000 in
theorem dX8_readWord {g : AG} {h0 : AH} {u : Nat} {S : Mem} {Q : AO → AH → Prop}  (hR : gB g ≤ u) (hst : Sta g h0)  {r : Mem} (hs : sX8_readWord S  = some r) (hQ : Q (.ok none) (rb h0 u r)) : AW g MX8_readWord 0 [some (.ref (u + 1))] [] (rb h0 u S) Q := by
  unfold sX8_readWord at hs
  exact dX8_readWord_l0 hR hst   hs hQ
def sX8_isDigit (S : Mem) (p1 : Int32) : Int32 :=
  if p1 < (48 : Int32) then
    (0 : Int32)
  else
    if (57 : Int32) < p1 then
      (0 : Int32)
    else
      (1 : Int32)
set_option maxRecDepth 100000 in
theorem dX8_isDigit {g : AG} {h0 : AH} {u : Nat} {S : Mem} {Q : AO → AH → Prop} {p1 : Int32} (hR : gB g ≤ u) (hst : Sta g h0)  {r : Int32} (hs : sX8_isDigit S p1 = r) (hQ : (r = 0 ∨ r = 1) → Q (.ok (some (.int r))) (rb h0 u S)) : AW g MX8_isDigit 0 [some (.int (p1))] [] (rb h0 u S) Q := by
  unfold sX8_isDigit at hs
  refine AW.iload_n (z := 0) (am_r 0 rfl) rfl rfl ?_
  refine AW.bipush (am_r 1 rfl) rfl cb_48 ?_
  refine AW.icmp_lt (tg := 16) (am_r 2 rfl) rfl rfl (fun hc1 => ?_) (fun hc1 => ?_)
  · replace hs := (if_pos hc1).symm.trans hs
    refine AW.iconst (am_r 8 rfl) rfl ci_0 ?_
    have hr := hs.symm
    subst hr
    exact AW.zret (am_r 9 rfl) rfl (Or.inl rfl) (hQ (Or.inl rfl))
  · replace hs := (if_neg hc1).symm.trans hs
    refine AW.iload_n (z := 0) (am_r 3 rfl) rfl rfl ?_
    refine AW.bipush (am_r 4 rfl) rfl cb_57 ?_
    refine AW.icmp_gt (tg := 16) (am_r 5 rfl) rfl rfl (fun hc2 => ?_) (fun hc2 => ?_)
    · replace hs := (if_pos hc2).symm.trans hs
      refine AW.iconst (am_r 8 rfl) rfl ci_0 ?_
      have hr := hs.symm
      subst hr
      exact AW.zret (am_r 9 rfl) rfl (Or.inl rfl) (hQ (Or.inl rfl))
    · replace hs := (if_neg hc2).symm.trans hs
      refine AW.iconst (am_r 6 rfl) rfl ci_1 ?_
      refine AW.goto (tg := 17) (am_r 7 rfl) rfl ?_
      have hr := hs.symm
      subst hr
      exact AW.zret (am_r 9 rfl) rfl (Or.inr rfl) (hQ (Or.inr rfl))
noncomputable def sX8_readNumber_j66 (S : Mem)   : Option Mem :=
  if (9 : Int32) < ((gi S 1 4 0) - (gi S 1 3 0)) then
    olet (si S 1 2 0 ((4 : Int32))) fun S6 =>
    some (S6)
  else
    olet (si S 1 2 0 ((2 : Int32))) fun S7 =>
    some (S7)
set_option maxRecDepth 100000 in
theorem dX8_readNumber_j66 {g : AG} {h0 : AH} {u : Nat} {S : Mem} {Q : AO → AH → Prop}   (hR : gB g ≤ u) (hst : Sta g h0)   {r : Mem} (hs : sX8_readNumber_j66 S   = some r) (hQ : Q (.ok none) (rb h0 u r)) : AW g MX8_readNumber 66 [some (.ref (u + 1))] [] (rb h0 u S) Q := by
  unfold sX8_readNumber_j66 at hs
  refine AW.aload_n (z := 0) (am_r 34 rfl) rfl rfl ?_
  refine AW.aload_n (z := 0) (am_r 35 rfl) rfl rfl ?_
  refine AW.getO (am_r 36 rfl) rfl klX8 (k := 4) (by omega) q332 rb_1 rfl ?_
  refine AW.aload_n (z := 0) (am_r 37 rfl) rfl rfl ?_
  refine AW.getO (am_r 38 rfl) rfl klX8 (k := 3) (by omega) q330 rb_1 rfl ?_
  refine AW.isub (am_r 39 rfl) rfl ?_
  refine AW.bipush (am_r 40 rfl) rfl cb_9 ?_
  refine AW.icmp_gt (tg := 85) (am_r 41 rfl) rfl rfl (fun hc5 => ?_) (fun hc5 => ?_)
  · replace hs := (if_pos hc5).symm.trans hs
    refine AW.iconst (am_r 44 rfl) rfl ci_4 ?_
    refine AW.putO (am_r 45 rfl) rfl klX8 (k := 2) (by omega) q329 (Or.inl rfl) rb_1 (Nat.le_trans hR (by omega)) rfl rfl (rbp_1 (by decide)) ?_
    refine olet_e (P := fun y => AW g MX8_readNumber 89 [some (.ref (u + 1))] [] (rb h0 u y) Q) hs (fun S6 hs => ?_)
    have hr := (Option.some.inj hs).symm
    subst hr
    exact AW.vret (am_r 46 rfl) rfl hQ
  · replace hs := (if_neg hc5).symm.trans hs
    refine AW.iconst (am_r 42 rfl) rfl ci_2 ?_
    refine AW.goto (tg := 86) (am_r 43 rfl) rfl ?_
    refine AW.putO (am_r 45 rfl) rfl klX8 (k := 2) (by omega) q329 (Or.inl rfl) rb_1 (Nat.le_trans hR (by omega)) rfl rfl (rbp_1 (by decide)) ?_
    refine olet_e (P := fun y => AW g MX8_readNumber 89 [some (.ref (u + 1))] [] (rb h0 u y) Q) hs (fun S7 hs => ?_)
    have hr := (Option.some.inj hs).symm
    subst hr
    exact AW.vret (am_r 46 rfl) rfl hQ
noncomputable def sX8_readNumber_l5_step   (a : Mem) : Option (Mem ⊕ Mem) :=
  if (gi a 1 1 0) ≤ (gi a 1 4 0) then
    oinr (
    sX8_readNumber_j66 a  )
  else
    if (sX8_isDigit a (sX8_byteAt a (gi a 1 4 0))) = 0 then
      oinr (
      sX8_readNumber_j66 a  )
    else
      olet (si a 1 5 0 ((((10 : Int32) * (gi a 1 5 0)) + (sX8_byteAt a (gi a 1 4 0))) - (48 : Int32))) fun S17 =>
      olet (si S17 1 4 0 ((gi S17 1 4 0) + (1 : Int32))) fun S18 =>
      some (.inl S18)
noncomputable def sX8_readNumber_l5   (a : Mem) : Option Mem := itw (sX8_readNumber_l5_step  ) a
set_option maxRecDepth 100000 in
theorem dX8_readNumber_l5 {g : AG} {h0 : AH} {u : Nat} {Q : AO → AH → Prop}  (hR : gB g ≤ u) (hst : Sta g h0)  {a : Mem}  {r : Mem} (hs : sX8_readNumber_l5   a = some r) (hQ : Q (.ok none) (rb h0 u r)) : AW g MX8_readNumber 5 [some (.ref (u + 1))] [] (rb h0 u a) Q := by
  refine itw_e (P := fun a => AW g MX8_readNumber 5 [some (.ref (u + 1))] [] (rb h0 u a) Q) (Post := fun r => Q (.ok none) (rb h0 u r)) (fun a r hs hc he  => ?_) hs hQ 
  unfold sX8_readNumber_l5_step at hs
  refine AW.aload_n (z := 0) (am_r 3 rfl) rfl rfl ?_
  refine AW.getO (am_r 4 rfl) rfl klX8 (k := 4) (by omega) q332 rb_1 rfl ?_
  refine AW.aload_n (z := 0) (am_r 5 rfl) rfl rfl ?_
  refine AW.getO (am_r 6 rfl) rfl klX8 (k := 1) (by omega) q325 rb_1 rfl ?_
  refine AW.icmp_ge (tg := 66) (am_r 7 rfl) rfl rfl (fun hc2 => ?_) (fun hc2 => ?_)
  · replace hs := (if_pos hc2).symm.trans hs
    refine oinr_e hs (fun z3 hz4 hs => ?_)
    have hQ := he _ hz4
    exact dX8_readNumber_j66 hR hst   hs hQ
  · replace hs := (if_neg hc2).symm.trans hs
    refine AW.aload_n (z := 0) (am_r 8 rfl) rfl rfl ?_
    refine AW.aload_n (z := 0) (am_r 9 rfl) rfl rfl ?_
    refine AW.getO (am_r 10 rfl) rfl klX8 (k := 4) (by omega) q332 rb_1 rfl ?_
    refine AW.callV (N := MX8_byteAt) (As := [.int (gi a 1 4 0)]) (S := []) (L0 := [some (.ref (u + 1)), some (.int (gi a 1 4 0))]) (b := u + 1) (am_r 11 rfl) rfl ovX8_byteAt q468 rfl rfl rb_1 rfl rfl rfl rfl (dX8_byteAt hR hst  rfl (cQ_r ?_))
    refine AW.callS (N := MX8_isDigit) (As := [.int (sX8_byteAt a (gi a 1 4 0))]) (S := []) (L0 := [some (.int (sX8_byteAt a (gi a 1 4 0)))]) (am_r 12 rfl) rfl osX8_isDigit q482 rfl rfl rfl rfl rfl (dX8_isDigit hR hst  rfl (fun hok11 => (cQ_r ?_)))
    refine AW.if_eq (tg := 66) (am_r 13 rfl) rfl rfl (fun hc12 => ?_) (fun hc12 => ?_)
    · replace hs := (if_pos hc12).symm.trans hs
      refine oinr_e hs (fun z13 hz14 hs => ?_)
      have hQ := he _ hz14
      exact dX8_readNumber_j66 hR hst   hs hQ
    · replace hs := (if_neg hc12).symm.trans hs
      refine AW.aload_n (z := 0) (am_r 14 rfl) rfl rfl ?_
      refine AW.bipush (am_r 15 rfl) rfl cb_10 ?_
      refine AW.aload_n (z := 0) (am_r 16 rfl) rfl rfl ?_
      refine AW.getO (am_r 17 rfl) rfl klX8 (k := 5) (by omega) q333 rb_1 rfl ?_
      refine AW.imul (am_r 18 rfl) rfl ?_
      refine AW.aload_n (z := 0) (am_r 19 rfl) rfl rfl ?_
      refine AW.aload_n (z := 0) (am_r 20 rfl) rfl rfl ?_
      refine AW.getO (am_r 21 rfl) rfl klX8 (k := 4) (by omega) q332 rb_1 rfl ?_
      refine AW.callV (N := MX8_byteAt) (As := [.int (gi a 1 4 0)]) (S := [(.int ((10 : Int32) * (gi a 1 5 0))), (.ref (u + 1))]) (L0 := [some (.ref (u + 1)), some (.int (gi a 1 4 0))]) (b := u + 1) (am_r 22 rfl) rfl ovX8_byteAt q468 rfl rfl rb_1 rfl rfl rfl rfl (dX8_byteAt hR hst  rfl (cQ_r ?_))
      refine AW.iadd (am_r 23 rfl) rfl ?_
      refine AW.bipush (am_r 24 rfl) rfl cb_48 ?_
      refine AW.isub (am_r 25 rfl) rfl ?_
      refine AW.putO (am_r 26 rfl) rfl klX8 (k := 5) (by omega) q333 (Or.inl rfl) rb_1 (Nat.le_trans hR (by omega)) rfl rfl (rbp_1 (by decide)) ?_
      refine olet_e (P := fun y => AW g MX8_readNumber 53 [some (.ref (u + 1))] [] (rb h0 u y) Q) hs (fun S17 hs => ?_)
      refine AW.aload_n (z := 0) (am_r 27 rfl) rfl rfl ?_
      refine AW.dup (am_r 28 rfl) rfl rfl ?_
      refine AW.getO (am_r 29 rfl) rfl klX8 (k := 4) (by omega) q332 rb_1 rfl ?_
      refine AW.iconst (am_r 30 rfl) rfl ci_1 ?_
      refine AW.iadd (am_r 31 rfl) rfl ?_
      refine AW.putO (am_r 32 rfl) rfl klX8 (k := 4) (by omega) q332 (Or.inl rfl) rb_1 (Nat.le_trans hR (by omega)) rfl rfl (rbp_1 (by decide)) ?_
      refine olet_e (P := fun y => AW g MX8_readNumber 63 [some (.ref (u + 1))] [] (rb h0 u y) Q) hs (fun S18 hs => ?_)
      refine AW.goto (tg := 5) (am_r 33 rfl) rfl ?_
      have hr := (Option.some.inj hs).symm
      exact hc S18 hr 
noncomputable def sX8_readNumber (S : Mem)  : Option Mem :=
  olet (si S 1 5 0 ((0 : Int32))) fun S1 =>
  sX8_readNumber_l5   S1
set_option maxRecDepth 100000 in
theorem dX8_readNumber {g : AG} {h0 : AH} {u : Nat} {S : Mem} {Q : AO → AH → Prop}  (hR : gB g ≤ u) (hst : Sta g h0)  {r : Mem} (hs : sX8_readNumber S  = some r) (hQ : Q (.ok none) (rb h0 u r)) : AW g MX8_readNumber 0 [some (.ref (u + 1))] [] (rb h0 u S) Q := by
  unfold sX8_readNumber at hs
  refine AW.aload_n (z := 0) (am_r 0 rfl) rfl rfl ?_
  refine AW.iconst (am_r 1 rfl) rfl ci_0 ?_
  refine AW.putO (am_r 2 rfl) rfl klX8 (k := 5) (by omega) q333 (Or.inl rfl) rb_1 (Nat.le_trans hR (by omega)) rfl rfl (rbp_1 (by decide)) ?_
  refine olet_e (P := fun y => AW g MX8_readNumber 5 [some (.ref (u + 1))] [] (rb h0 u y) Q) hs (fun S1 hs => ?_)
  exact dX8_readNumber_l5 hR hst   hs hQ
noncomputable def sX8_step_j126 (S : Mem)  (y0 : Int32) : Option Mem :=
  olet (si S 1 2 0 (y0)) fun S19 =>
  olet (si S19 1 4 0 ((gi S19 1 4 0) + (1 : Int32))) fun S20 =>
  some (S20)
set_option maxRecDepth 100000 in
theorem dX8_step_j126 {g : AG} {h0 : AH} {u : Nat} {S : Mem} {Q : AO → AH → Prop}  {y0 : Int32} (hR : gB g ≤ u) (hst : Sta g h0)   {r : Mem} (hs : sX8_step_j126 S  y0 = some r) (hQ : Q (.ok none) (rb h0 u r)) : AW g MX8_step 126 [some (.ref (u + 1))] [(.int (y0)), (.ref (u + 1))] (rb h0 u S) Q := by
  unfold sX8_step_j126 at hs
  refine AW.putO (am_r 59 rfl) rfl klX8 (k := 2) (by omega) q329 (Or.inl rfl) rb_1 (Nat.le_trans hR (by omega)) rfl rfl (rbp_1 (by decide)) ?_
  refine olet_e (P := fun y => AW g MX8_step 129 [some (.ref (u + 1))] [] (rb h0 u y) Q) hs (fun S19 hs => ?_)
  refine AW.aload_n (z := 0) (am_r 60 rfl) rfl rfl ?_
  refine AW.dup (am_r 61 rfl) rfl rfl ?_
  refine AW.getO (am_r 62 rfl) rfl klX8 (k := 4) (by omega) q332 rb_1 rfl ?_
  refine AW.iconst (am_r 63 rfl) rfl ci_1 ?_
  refine AW.iadd (am_r 64 rfl) rfl ?_
  refine AW.putO (am_r 65 rfl) rfl klX8 (k := 4) (by omega) q332 (Or.inl rfl) rb_1 (Nat.le_trans hR (by omega)) rfl rfl (rbp_1 (by decide)) ?_
  refine olet_e (P := fun y => AW g MX8_step 139 [some (.ref (u + 1))] [] (rb h0 u y) Q) hs (fun S20 hs => ?_)
  have hr := (Option.some.inj hs).symm
  subst hr
  exact AW.vret (am_r 66 rfl) rfl hQ
noncomputable def sX8_step_j38 (S : Mem)   : Option Mem :=
  olet (si S 1 3 0 (gi S 1 4 0)) fun S4 =>
  if (gi S4 1 3 0) < (gi S4 1 1 0) then
    if (sX8_isLetter S4 (sX8_byteAt S4 (gi S4 1 3 0))) = 0 then
      if (sX8_isDigit S4 (sX8_byteAt S4 (gi S4 1 3 0))) = 0 then
        if (sX8_byteAt S4 (gi S4 1 3 0)) = (59 : Int32) then
          sX8_step_j126 S4  (3 : Int32)
        else
          sX8_step_j126 S4  (4 : Int32)
      else
        obind (sX8_readNumber S4 ) fun r21 =>
        some (r21)
    else
      obind (sX8_readWord S4 ) fun r24 =>
      some (r24)
  else
    olet (si S4 1 2 0 ((0 : Int32))) fun S27 =>
    some (S27)
set_option maxRecDepth 100000 in
theorem dX8_step_j38 {g : AG} {h0 : AH} {u : Nat} {S : Mem} {Q : AO → AH → Prop}   (hR : gB g ≤ u) (hst : Sta g h0)   {r : Mem} (hs : sX8_step_j38 S   = some r) (hQ : Q (.ok none) (rb h0 u r)) : AW g MX8_step 38 [some (.ref (u + 1))] [] (rb h0 u S) Q := by
  unfold sX8_step_j38 at hs
  refine AW.aload_n (z := 0) (am_r 18 rfl) rfl rfl ?_
  refine AW.aload_n (z := 0) (am_r 19 rfl) rfl rfl ?_
  refine AW.getO (am_r 20 rfl) rfl klX8 (k := 4) (by omega) q332 rb_1 rfl ?_
  refine AW.putO (am_r 21 rfl) rfl klX8 (k := 3) (by omega) q330 (Or.inl rfl) rb_1 (Nat.le_trans hR (by omega)) rfl rfl (rbp_1 (by decide)) ?_
  refine olet_e (P := fun y => AW g MX8_step 46 [some (.ref (u + 1))] [] (rb h0 u y) Q) hs (fun S4 hs => ?_)
  refine AW.aload_n (z := 0) (am_r 22 rfl) rfl rfl ?_
  refine AW.getO (am_r 23 rfl) rfl klX8 (k := 3) (by omega) q330 rb_1 rfl ?_
  refine AW.aload_n (z := 0) (am_r 24 rfl) rfl rfl ?_
  refine AW.getO (am_r 25 rfl) rfl klX8 (k := 1) (by omega) q325 rb_1 rfl ?_
  refine AW.icmp_lt (tg := 65) (am_r 26 rfl) rfl rfl (fun hc5 => ?_) (fun hc5 => ?_)
  · replace hs := (if_pos hc5).symm.trans hs
    refine AW.aload_n (z := 0) (am_r 31 rfl) rfl rfl ?_
    refine AW.aload_n (z := 0) (am_r 32 rfl) rfl rfl ?_
    refine AW.getO (am_r 33 rfl) rfl klX8 (k := 3) (by omega) q330 rb_1 rfl ?_
    refine AW.callV (N := MX8_byteAt) (As := [.int (gi S4 1 3 0)]) (S := []) (L0 := [some (.ref (u + 1)), some (.int (gi S4 1 3 0))]) (b := u + 1) (am_r 34 rfl) rfl ovX8_byteAt q468 rfl rfl rb_1 rfl rfl rfl rfl (dX8_byteAt hR hst  rfl (cQ_r ?_))
    refine AW.callS (N := MX8_isLetter) (As := [.int (sX8_byteAt S4 (gi S4 1 3 0))]) (S := []) (L0 := [some (.int (sX8_byteAt S4 (gi S4 1 3 0)))]) (am_r 35 rfl) rfl osX8_isLetter q475 rfl rfl rfl rfl rfl (dX8_isLetter hR hst  rfl (fun hok9 => (cQ_r ?_)))
    refine AW.if_eq (tg := 86) (am_r 36 rfl) rfl rfl (fun hc10 => ?_) (fun hc10 => ?_)
    · replace hs := (if_pos hc10).symm.trans hs
      refine AW.aload_n (z := 0) (am_r 40 rfl) rfl rfl ?_
      refine AW.aload_n (z := 0) (am_r 41 rfl) rfl rfl ?_
      refine AW.getO (am_r 42 rfl) rfl klX8 (k := 3) (by omega) q330 rb_1 rfl ?_
      refine AW.callV (N := MX8_byteAt) (As := [.int (gi S4 1 3 0)]) (S := []) (L0 := [some (.ref (u + 1)), some (.int (gi S4 1 3 0))]) (b := u + 1) (am_r 43 rfl) rfl ovX8_byteAt q468 rfl rfl rb_1 rfl rfl rfl rfl (dX8_byteAt hR hst  rfl (cQ_r ?_))
      refine AW.callS (N := MX8_isDigit) (As := [.int (sX8_byteAt S4 (gi S4 1 3 0))]) (S := []) (L0 := [some (.int (sX8_byteAt S4 (gi S4 1 3 0)))]) (am_r 44 rfl) rfl osX8_isDigit q482 rfl rfl rfl rfl rfl (dX8_isDigit hR hst  rfl (fun hok14 => (cQ_r ?_)))
      refine AW.if_eq (tg := 107) (am_r 45 rfl) rfl rfl (fun hc15 => ?_) (fun hc15 => ?_)
      · replace hs := (if_pos hc15).symm.trans hs
        refine AW.aload_n (z := 0) (am_r 49 rfl) rfl rfl ?_
        refine AW.aload_n (z := 0) (am_r 50 rfl) rfl rfl ?_
        refine AW.aload_n (z := 0) (am_r 51 rfl) rfl rfl ?_
        refine AW.getO (am_r 52 rfl) rfl klX8 (k := 3) (by omega) q330 rb_1 rfl ?_
        refine AW.callV (N := MX8_byteAt) (As := [.int (gi S4 1 3 0)]) (S := [(.ref (u + 1))]) (L0 := [some (.ref (u + 1)), some (.int (gi S4 1 3 0))]) (b := u + 1) (am_r 53 rfl) rfl ovX8_byteAt q468 rfl rfl rb_1 rfl rfl rfl rfl (dX8_byteAt hR hst  rfl (cQ_r ?_))
        refine AW.bipush (am_r 54 rfl) rfl cb_59 ?_
        refine AW.icmp_ne (tg := 125) (am_r 55 rfl) rfl rfl (fun hc18 => ?_) (fun hc18 => ?_)
        · replace hs := (if_neg hc18).symm.trans hs
          refine AW.iconst (am_r 58 rfl) rfl ci_4 ?_
          exact dX8_step_j126 hR hst   hs hQ
        · replace hs := (if_pos hc18).symm.trans hs
          refine AW.iconst (am_r 56 rfl) rfl ci_3 ?_
          refine AW.goto (tg := 126) (am_r 57 rfl) rfl ?_
          exact dX8_step_j126 hR hst   hs hQ
      · replace hs := (if_neg hc15).symm.trans hs
        refine AW.aload_n (z := 0) (am_r 46 rfl) rfl rfl ?_
        refine obind_e hs (fun r21 hg23 hs => ?_)
        refine AW.callV (N := MX8_readNumber) (As := []) (S := []) (L0 := [some (.ref (u + 1))]) (b := u + 1) (am_r 47 rfl) rfl ovX8_readNumber q485 rfl rfl rb_1 rfl rfl rfl rfl (dX8_readNumber hR hst  hg23 (cQ_v ?_))
        refine AW.goto (tg := 139) (am_r 48 rfl) rfl ?_
        have hr := (Option.some.inj hs).symm
        subst hr
        exact AW.vret (am_r 66 rfl) rfl hQ
    · replace hs := (if_neg hc10).symm.trans hs
      refine AW.aload_n (z := 0) (am_r 37 rfl) rfl rfl ?_
      refine obind_e hs (fun r24 hg26 hs => ?_)
      refine AW.callV (N := MX8_readWord) (As := []) (S := []) (L0 := [some (.ref (u + 1))]) (b := u + 1) (am_r 38 rfl) rfl ovX8_readWord q478 rfl rfl rb_1 rfl rfl rfl rfl (dX8_readWord hR hst  hg26 (cQ_v ?_))
      refine AW.goto (tg := 139) (am_r 39 rfl) rfl ?_
      have hr := (Option.some.inj hs).symm
      subst hr
      exact AW.vret (am_r 66 rfl) rfl hQ
  · replace hs := (if_neg hc5).symm.trans hs
    refine AW.aload_n (z := 0) (am_r 27 rfl) rfl rfl ?_
    refine AW.iconst (am_r 28 rfl) rfl ci_0 ?_
    refine AW.putO (am_r 29 rfl) rfl klX8 (k := 2) (by omega) q329 (Or.inl rfl) rb_1 (Nat.le_trans hR (by omega)) rfl rfl (rbp_1 (by decide)) ?_
    refine olet_e (P := fun y => AW g MX8_step 62 [some (.ref (u + 1))] [] (rb h0 u y) Q) hs (fun S27 hs => ?_)
    refine AW.goto (tg := 139) (am_r 30 rfl) rfl ?_
    have hr := (Option.some.inj hs).symm
    subst hr
    exact AW.vret (am_r 66 rfl) rfl hQ
noncomputable def sX8_step_l0_step   (a : Mem) : Option (Mem ⊕ Mem) :=
  if (gi a 1 1 0) ≤ (gi a 1 4 0) then
    oinr (
    sX8_step_j38 a  )
  else
    if (sX8_isBlank a (sX8_byteAt a (gi a 1 4 0))) = 0 then
      oinr (
      sX8_step_j38 a  )
    else
      olet (si a 1 4 0 ((gi a 1 4 0) + (1 : Int32))) fun S35 =>
      some (.inl S35)
noncomputable def sX8_step_l0   (a : Mem) : Option Mem := itw (sX8_step_l0_step  ) a
set_option maxRecDepth 100000 in
theorem dX8_step_l0 {g : AG} {h0 : AH} {u : Nat} {Q : AO → AH → Prop}  (hR : gB g ≤ u) (hst : Sta g h0)  {a : Mem}  {r : Mem} (hs : sX8_step_l0   a = some r) (hQ : Q (.ok none) (rb h0 u r)) : AW g MX8_step 0 [some (.ref (u + 1))] [] (rb h0 u a) Q := by
  refine itw_e (P := fun a => AW g MX8_step 0 [some (.ref (u + 1))] [] (rb h0 u a) Q) (Post := fun r => Q (.ok none) (rb h0 u r)) (fun a r hs hc he  => ?_) hs hQ 
  unfold sX8_step_l0_step at hs
  refine AW.aload_n (z := 0) (am_r 0 rfl) rfl rfl ?_
  refine AW.getO (am_r 1 rfl) rfl klX8 (k := 4) (by omega) q332 rb_1 rfl ?_
  refine AW.aload_n (z := 0) (am_r 2 rfl) rfl rfl ?_
  refine AW.getO (am_r 3 rfl) rfl klX8 (k := 1) (by omega) q325 rb_1 rfl ?_
  refine AW.icmp_ge (tg := 38) (am_r 4 rfl) rfl rfl (fun hc1 => ?_) (fun hc1 => ?_)
  · replace hs := (if_pos hc1).symm.trans hs
    refine oinr_e hs (fun z2 hz3 hs => ?_)
    have hQ := he _ hz3
    exact dX8_step_j38 hR hst   hs hQ
  · replace hs := (if_neg hc1).symm.trans hs
    refine AW.aload_n (z := 0) (am_r 5 rfl) rfl rfl ?_
    refine AW.aload_n (z := 0) (am_r 6 rfl) rfl rfl ?_
    refine AW.getO (am_r 7 rfl) rfl klX8 (k := 4) (by omega) q332 rb_1 rfl ?_
    refine AW.callV (N := MX8_byteAt) (As := [.int (gi a 1 4 0)]) (S := []) (L0 := [some (.ref (u + 1)), some (.int (gi a 1 4 0))]) (b := u + 1) (am_r 8 rfl) rfl ovX8_byteAt q468 rfl rfl rb_1 rfl rfl rfl rfl (dX8_byteAt hR hst  rfl (cQ_r ?_))
    refine AW.callS (N := MX8_isBlank) (As := [.int (sX8_byteAt a (gi a 1 4 0))]) (S := []) (L0 := [some (.int (sX8_byteAt a (gi a 1 4 0)))]) (am_r 9 rfl) rfl osX8_isBlank q472 rfl rfl rfl rfl rfl (dX8_isBlank hR hst  rfl (fun hok31 => (cQ_r ?_)))
    refine AW.if_eq (tg := 38) (am_r 10 rfl) rfl rfl (fun hc32 => ?_) (fun hc32 => ?_)
    · replace hs := (if_pos hc32).symm.trans hs
      refine oinr_e hs (fun z33 hz34 hs => ?_)
      have hQ := he _ hz34
      exact dX8_step_j38 hR hst   hs hQ
    · replace hs := (if_neg hc32).symm.trans hs
      refine AW.aload_n (z := 0) (am_r 11 rfl) rfl rfl ?_
      refine AW.dup (am_r 12 rfl) rfl rfl ?_
      refine AW.getO (am_r 13 rfl) rfl klX8 (k := 4) (by omega) q332 rb_1 rfl ?_
      refine AW.iconst (am_r 14 rfl) rfl ci_1 ?_
      refine AW.iadd (am_r 15 rfl) rfl ?_
      refine AW.putO (am_r 16 rfl) rfl klX8 (k := 4) (by omega) q332 (Or.inl rfl) rb_1 (Nat.le_trans hR (by omega)) rfl rfl (rbp_1 (by decide)) ?_
      refine olet_e (P := fun y => AW g MX8_step 35 [some (.ref (u + 1))] [] (rb h0 u y) Q) hs (fun S35 hs => ?_)
      refine AW.goto (tg := 0) (am_r 17 rfl) rfl ?_
      have hr := (Option.some.inj hs).symm
      exact hc S35 hr 
noncomputable def sX8_step (S : Mem)  : Option Mem :=
  sX8_step_l0   S
set_option maxRecDepth 100000 in
theorem dX8_step {g : AG} {h0 : AH} {u : Nat} {S : Mem} {Q : AO → AH → Prop}  (hR : gB g ≤ u) (hst : Sta g h0)  {r : Mem} (hs : sX8_step S  = some r) (hQ : Q (.ok none) (rb h0 u r)) : AW g MX8_step 0 [some (.ref (u + 1))] [] (rb h0 u S) Q := by
  unfold sX8_step at hs
  exact dX8_step_l0 hR hst   hs hQ
/-- is the token the word of place k? -/
def sX8_isWord (S : Mem) (k : Nat) : Int32 := if gi S 1 2 0 = 1 then (if gi S 1 4 0 - gi S 1 3 0 = Int32.ofNat (txl k).length then (if (List.range (txl k).length).all (fun j => decide ((txl k).getD j 0 = sX8_byteAt S (gi S 1 3 0 + Int32.ofNat j))) = true then 1 else 0) else 0) else 0
theorem sX8_isWord_01 (S : Mem) (k : Nat) : sX8_isWord S k = 0 ∨ sX8_isWord S k = 1 := by
  unfold sX8_isWord
  split
  · split
    · split <;> simp
    · simp
  · simp
theorem dX8_isWord {g : AG} {h0 : AH} {u : Nat} {S : Mem} {Q : AO → AH → Prop} {k : Nat} (hR : gB g ≤ u) (hst : Sta g h0) (hk : tok k) {v : Int32} (hs : sX8_isWord S k = v) (hQ : (v = 0 ∨ v = 1) → Q (.ok (some (.int v))) (rb h0 u S)) : AW g MX8_isWord 0 [some (.ref (u + 1)), some (.ref (gS g k)), none] [] (rb h0 u S) Q := by
  have hq : Q (.ok (some (.int (sX8_isWord S k)))) (rb h0 u S) := by subst hs; exact hQ (sX8_isWord_01 S k)
  clear hQ hs
  obtain ⟨hs1, ⟨hv, hv2⟩, hs3⟩ := Sta.blk (n := 5) (f := rdc u S) hst hR
  obtain ⟨hS1, a, ha1, hc, ha⟩ := hs3 k hk.1 hk.2
  have hlen : (txl k).length < 8 := by
    have e : k = 4 ∨ k = 5 ∨ k = 6 ∨ k = 7 ∨ k = 8 ∨ k = 9 ∨ k = 10 ∨ k = 11 ∨ k = 12 ∨ k = 13 ∨ k = 14 := by have := hk.1; have := hk.2; omega
    rcases e with rfl | rfl | rfl | rfl | rfl | rfl | rfl | rfl | rfl | rfl | rfl <;> decide
  have hch : ∀ j, j < (txl k).length → jch ((txl k).getD j 0) = (txl k).getD j 0 := by
    have e : k = 4 ∨ k = 5 ∨ k = 6 ∨ k = 7 ∨ k = 8 ∨ k = 9 ∨ k = 10 ∨ k = 11 ∨ k = 12 ∨ k = 13 ∨ k = 14 := by have := hk.1; have := hk.2; omega
    rcases e with rfl | rfl | rfl | rfl | rfl | rfl | rfl | rfl | rfl | rfl | rfl <;> decide
  generalize hN : (txl k).length = n at *
  have loop : ∀ m j, j + m = n → (∀ i, i < j → (txl k).getD i 0 = sX8_byteAt S (gi S 1 3 0 + Int32.ofNat i)) → gi S 1 2 0 = 1 → gi S 1 4 0 - gi S 1 3 0 = Int32.ofNat n → AW g MX8_isWord 28 [some (.ref (u + 1)), some (.ref (gS g k)), some (.int (Int32.ofNat j))] [] (rb h0 u S) Q := by
    intro m
    induction m with
    | zero =>
      intro j hj hp k1 k2
      refine AW.iload_n (z := 2) (am_r 16 rfl) rfl rfl ?_
      refine AW.aload_n (z := 1) (am_r 17 rfl) rfl rfl ?_
      refine AW.callV (N := MJ0_length_8abf5) (As := []) (S := [.int (Int32.ofNat j)]) (L0 := [some (.ref (gS g k))]) (b := gS g k) (am_r 18 rfl) rfl ovJ0_length_8abf5 q502 rfl rfl hc rfl rfl rfl rfl (dJ0_length hv hc rfl rfl ha (cQ_r ?_))
      have ej : j = n := by omega
      subst ej
      refine AW.icmp_ge (tg := 62) (am_r 19 rfl) rfl rfl (fun _ => ?_) (fun z => absurd (Int32.le_refl _) z)
      refine AW.iconst (am_r 34 rfl) rfl ci_1 ?_
      have e1 : sX8_isWord S k = 1 := by
        unfold sX8_isWord
        rw [if_pos k1, hN, if_pos k2, if_pos]
        rw [List.all_eq_true]
        intro i hi
        rw [decide_eq_true_eq]
        exact hp i (List.mem_range.mp hi)
      rw [e1] at hq
      exact AW.zret (am_r 35 rfl) rfl (Or.inr rfl) hq
    | succ m ih =>
      intro j hj hp k1 k2
      have hjn : j < n := by omega
      have hj2 : (Int32.ofNat j).toInt = (j : Int) := Int32.toInt_ofNat_of_lt (by omega)
      have hn2 : (Int32.ofNat n).toInt = (n : Int) := Int32.toInt_ofNat_of_lt (by omega)
      have h00 : ((0 : Int32)).toInt = 0 := rfl
      have hlt : Int32.ofNat j < Int32.ofNat n := Int32.lt_iff_toInt_lt.mpr (by omega)
      have hge : ¬ Int32.ofNat j < 0 := fun z => by have := Int32.lt_iff_toInt_lt.mp z; omega
      have hcl : (Int32.ofNat j).toNatClampNeg = j := by
        show (Int32.ofNat j).toInt.toNat = j
        omega
      have hvp : vp_in (Int32.ofNat j) n := by
        rintro (z | z)
        · exact hge z
        · omega
      refine AW.iload_n (z := 2) (am_r 16 rfl) rfl rfl ?_
      refine AW.aload_n (z := 1) (am_r 17 rfl) rfl rfl ?_
      refine AW.callV (N := MJ0_length_8abf5) (As := []) (S := [.int (Int32.ofNat j)]) (L0 := [some (.ref (gS g k))]) (b := gS g k) (am_r 18 rfl) rfl ovJ0_length_8abf5 q502 rfl rfl hc rfl rfl rfl rfl (dJ0_length hv hc rfl rfl ha (cQ_r ?_))
      refine AW.icmp_ge (tg := 62) (am_r 19 rfl) rfl rfl (fun z => absurd hlt (Int32.not_lt.mpr z)) (fun _ => ?_)
      refine AW.aload_n (z := 1) (am_r 20 rfl) rfl rfl ?_
      refine AW.iload_n (z := 2) (am_r 21 rfl) rfl rfl ?_
      refine AW.callV (N := MJ0_charAt_5068e) (As := [.int (Int32.ofNat j)]) (S := []) (L0 := [some (.ref (gS g k)), some (.int (Int32.ofNat j))]) (b := gS g k) (am_r 22 rfl) rfl ovJ0_charAt_5068e q512 rfl rfl hc rfl rfl rfl rfl (dJ0_charAt hv hv2 hc rfl rfl ha hge hlt hvp (cQ_r ?_))
      rw [hcl, hch j hjn]
      refine AW.aload_n (z := 0) (am_r 23 rfl) rfl rfl ?_
      refine AW.aload_n (z := 0) (am_r 24 rfl) rfl rfl ?_
      refine AW.getO (am_r 25 rfl) rfl klX8 (k := 3) (by omega) q330 rb_1 rfl ?_
      refine AW.iload_n (z := 2) (am_r 26 rfl) rfl rfl ?_
      refine AW.iadd (am_r 27 rfl) rfl ?_
      refine AW.callV (N := MX8_byteAt) (As := [.int (gi S 1 3 0 + Int32.ofNat j)]) (S := [.int ((txl k).getD j 0)]) (L0 := [some (.ref (u + 1)), some (.int (gi S 1 3 0 + Int32.ofNat j))]) (b := u + 1) (am_r 28 rfl) rfl ovX8_byteAt q468 rfl rfl rb_1 rfl rfl rfl rfl (dX8_byteAt hR hst rfl (cQ_r ?_))
      refine AW.icmp_eq (tg := 56) (am_r 29 rfl) rfl rfl (fun he => ?_) (fun hne => ?_)
      · refine AW.iinc (v := Int32.ofNat (j + 1)) (L' := [some (.ref (u + 1)), some (.ref (gS g k)), some (.int (Int32.ofNat (j + 1)))]) (am_r 32 rfl) rfl (Nat.le_of_ble_eq_true rfl) rfl ?_ rfl ?_
        · rw [ci_1]
          apply Int32.toInt_inj.mp
          rw [Int32.toInt_add, hj2, Int32.toInt_ofNat_of_lt (by omega)]
          show Int.bmod ((j : Int) + 1) _ = _
          rw [Int.bmod_eq_of_le (by omega) (by omega)]
          omega
        refine AW.goto (tg := 28) (am_r 33 rfl) rfl ?_
        refine ih (j + 1) (by omega) (fun i hi => ?_) k1 k2
        by_cases hij : i = j
        · subst hij; exact he
        · exact hp i (by omega)
      · refine AW.iconst (am_r 30 rfl) rfl ci_0 ?_
        have e1 : sX8_isWord S k = 0 := by
          unfold sX8_isWord
          rw [if_pos k1, hN, if_pos k2, if_neg]
          rw [List.all_eq_true]
          intro z
          have := z j (List.mem_range.mpr hjn)
          rw [decide_eq_true_eq] at this
          exact hne this
        rw [e1] at hq
        exact AW.zret (am_r 31 rfl) rfl (Or.inl rfl) hq
  refine AW.aload_n (z := 0) (am_r 0 rfl) rfl rfl ?_
  refine AW.getO (am_r 1 rfl) rfl klX8 (k := 2) (by omega) q329 rb_1 rfl ?_
  refine AW.iconst (am_r 2 rfl) rfl ci_1 ?_
  refine AW.icmp_ne (tg := 24) (am_r 3 rfl) rfl rfl (fun hne => ?_) (fun k1 => ?_)
  · refine AW.iconst (am_r 12 rfl) rfl ci_0 ?_
    have e1 : sX8_isWord S k = 0 := by
      unfold sX8_isWord
      rw [if_neg hne]
    rw [e1] at hq
    exact AW.zret (am_r 13 rfl) rfl (Or.inl rfl) hq
  refine AW.aload_n (z := 0) (am_r 4 rfl) rfl rfl ?_
  refine AW.getO (am_r 5 rfl) rfl klX8 (k := 4) (by omega) q332 rb_1 rfl ?_
  refine AW.aload_n (z := 0) (am_r 6 rfl) rfl rfl ?_
  refine AW.getO (am_r 7 rfl) rfl klX8 (k := 3) (by omega) q330 rb_1 rfl ?_
  refine AW.isub (am_r 8 rfl) rfl ?_
  refine AW.aload_n (z := 1) (am_r 9 rfl) rfl rfl ?_
  refine AW.callV (N := MJ0_length_8abf5) (As := []) (S := [.int (gi S 1 4 0 - gi S 1 3 0)]) (L0 := [some (.ref (gS g k))]) (b := gS g k) (am_r 10 rfl) rfl ovJ0_length_8abf5 q502 rfl rfl hc rfl rfl rfl rfl (dJ0_length hv hc rfl rfl ha (cQ_r ?_))
  refine AW.icmp_eq (tg := 26) (am_r 11 rfl) rfl rfl (fun k2 => ?_) (fun k2 => ?_)
  · refine AW.iconst (am_r 14 rfl) rfl ci_0 ?_
    refine AW.istore_n (L' := [some (.ref (u + 1)), some (.ref (gS g k)), some (.int (Int32.ofNat 0))]) (z := 2) (am_r 15 rfl) rfl (Nat.le_of_ble_eq_true rfl) rfl ?_
    exact loop n 0 (by omega) (fun i hi => absurd hi (by omega)) k1 k2
  · refine AW.iconst (am_r 12 rfl) rfl ci_0 ?_
    have e1 : sX8_isWord S k = 0 := by
      unfold sX8_isWord
      rw [if_pos k1, hN, if_neg k2]
    rw [e1] at hq
    exact AW.zret (am_r 13 rfl) rfl (Or.inl rfl) hq
def sX4_statementWord (S : Mem)  : Int32 :=
  if (sX8_isWord S 4) = 0 then
    if (sX8_isWord S 5) = 0 then
      if (sX8_isWord S 6) = 0 then
        if (sX8_isWord S 7) = 0 then
          if (sX8_isWord S 8) = 0 then
            (-1 : Int32)
          else
            (4 : Int32)
        else
          (3 : Int32)
      else
        (2 : Int32)
    else
      (1 : Int32)
  else
    (0 : Int32)
set_option maxRecDepth 100000 in
theorem dX4_statementWord {g : AG} {h0 : AH} {u : Nat} {S : Mem} {Q : AO → AH → Prop}  (hR : gB g ≤ u) (hst : Sta g h0)  {r : Int32} (hs : sX4_statementWord S  = r) (hQ : Q (.ok (some (.int r))) (rb h0 u S)) : AW g MX4_statementWord 0 [some (.ref (u))] [] (rb h0 u S) Q := by
  unfold sX4_statementWord at hs
  refine AW.aload_n (z := 0) (am_r 0 rfl) rfl rfl ?_
  refine AW.getO (am_r 1 rfl) rfl klX4 (k := 0) (by omega) q352 rb_0 rfl ?_
  refine AW.ldcs (k := 4) (am_r 2 rfl) rfl rfl rfl ?_
  refine AW.callV (N := MX8_isWord) (As := [.ref (gS g 4)]) (S := []) (L0 := [some (.ref (u + 1)), some (.ref (gS g 4)), none]) (b := u + 1) (am_r 3 rfl) rfl ovX8_isWord q498 rfl rfl rb_1 rfl rfl rfl rfl (dX8_isWord hR hst tok_4 rfl (fun hok2 => (cQ_r ?_)))
  refine AW.if_eq (tg := 14) (am_r 4 rfl) rfl rfl (fun hc3 => ?_) (fun hc3 => ?_)
  · replace hs := (if_pos hc3).symm.trans hs
    refine AW.aload_n (z := 0) (am_r 7 rfl) rfl rfl ?_
    refine AW.getO (am_r 8 rfl) rfl klX4 (k := 0) (by omega) q352 rb_0 rfl ?_
    refine AW.ldcs (k := 5) (am_r 9 rfl) rfl rfl rfl ?_
    refine AW.callV (N := MX8_isWord) (As := [.ref (gS g 5)]) (S := []) (L0 := [some (.ref (u + 1)), some (.ref (gS g 5)), none]) (b := u + 1) (am_r 10 rfl) rfl ovX8_isWord q498 rfl rfl rb_1 rfl rfl rfl rfl (dX8_isWord hR hst tok_5 rfl (fun hok5 => (cQ_r ?_)))
    refine AW.if_eq (tg := 28) (am_r 11 rfl) rfl rfl (fun hc6 => ?_) (fun hc6 => ?_)
    · replace hs := (if_pos hc6).symm.trans hs
      refine AW.aload_n (z := 0) (am_r 14 rfl) rfl rfl ?_
      refine AW.getO (am_r 15 rfl) rfl klX4 (k := 0) (by omega) q352 rb_0 rfl ?_
      refine AW.ldcs (k := 6) (am_r 16 rfl) rfl rfl rfl ?_
      refine AW.callV (N := MX8_isWord) (As := [.ref (gS g 6)]) (S := []) (L0 := [some (.ref (u + 1)), some (.ref (gS g 6)), none]) (b := u + 1) (am_r 17 rfl) rfl ovX8_isWord q498 rfl rfl rb_1 rfl rfl rfl rfl (dX8_isWord hR hst tok_6 rfl (fun hok8 => (cQ_r ?_)))
      refine AW.if_eq (tg := 42) (am_r 18 rfl) rfl rfl (fun hc9 => ?_) (fun hc9 => ?_)
      · replace hs := (if_pos hc9).symm.trans hs
        refine AW.aload_n (z := 0) (am_r 21 rfl) rfl rfl ?_
        refine AW.getO (am_r 22 rfl) rfl klX4 (k := 0) (by omega) q352 rb_0 rfl ?_
        refine AW.ldcs (k := 7) (am_r 23 rfl) rfl rfl rfl ?_
        refine AW.callV (N := MX8_isWord) (As := [.ref (gS g 7)]) (S := []) (L0 := [some (.ref (u + 1)), some (.ref (gS g 7)), none]) (b := u + 1) (am_r 24 rfl) rfl ovX8_isWord q498 rfl rfl rb_1 rfl rfl rfl rfl (dX8_isWord hR hst tok_7 rfl (fun hok11 => (cQ_r ?_)))
        refine AW.if_eq (tg := 56) (am_r 25 rfl) rfl rfl (fun hc12 => ?_) (fun hc12 => ?_)
        · replace hs := (if_pos hc12).symm.trans hs
          refine AW.aload_n (z := 0) (am_r 28 rfl) rfl rfl ?_
          refine AW.getO (am_r 29 rfl) rfl klX4 (k := 0) (by omega) q352 rb_0 rfl ?_
          refine AW.ldcs (k := 8) (am_r 30 rfl) rfl rfl rfl ?_
          refine AW.callV (N := MX8_isWord) (As := [.ref (gS g 8)]) (S := []) (L0 := [some (.ref (u + 1)), some (.ref (gS g 8)), none]) (b := u + 1) (am_r 31 rfl) rfl ovX8_isWord q498 rfl rfl rb_1 rfl rfl rfl rfl (dX8_isWord hR hst tok_8 rfl (fun hok14 => (cQ_r ?_)))
          refine AW.if_eq (tg := 72) (am_r 32 rfl) rfl rfl (fun hc15 => ?_) (fun hc15 => ?_)
          · replace hs := (if_pos hc15).symm.trans hs
            refine AW.iconst (am_r 35 rfl) rfl ci_m1 ?_
            have hr := hs.symm
            subst hr
            exact AW.iret (am_r 36 rfl) rfl hQ
          · replace hs := (if_neg hc15).symm.trans hs
            refine AW.iconst (am_r 33 rfl) rfl ci_4 ?_
            refine AW.goto (tg := 73) (am_r 34 rfl) rfl ?_
            have hr := hs.symm
            subst hr
            exact AW.iret (am_r 36 rfl) rfl hQ
        · replace hs := (if_neg hc12).symm.trans hs
          refine AW.iconst (am_r 26 rfl) rfl ci_3 ?_
          have hr := hs.symm
          subst hr
          exact AW.iret (am_r 27 rfl) rfl hQ
      · replace hs := (if_neg hc9).symm.trans hs
        refine AW.iconst (am_r 19 rfl) rfl ci_2 ?_
        have hr := hs.symm
        subst hr
        exact AW.iret (am_r 20 rfl) rfl hQ
    · replace hs := (if_neg hc6).symm.trans hs
      refine AW.iconst (am_r 12 rfl) rfl ci_1 ?_
      have hr := hs.symm
      subst hr
      exact AW.iret (am_r 13 rfl) rfl hQ
  · replace hs := (if_neg hc3).symm.trans hs
    refine AW.iconst (am_r 5 rfl) rfl ci_0 ?_
    have hr := hs.symm
    subst hr
    exact AW.iret (am_r 6 rfl) rfl hQ
def sX4_failed (S : Mem) (p1 : Int32) : (Int32 × Mem) :=
  olet (si S 0 4 0 (p1)) fun S1 =>
  olet (si S1 0 5 0 (gi S1 1 3 0)) fun S2 =>
  ((0 : Int32), S2)
set_option maxRecDepth 100000 in
theorem dX4_failed {g : AG} {h0 : AH} {u : Nat} {S : Mem} {Q : AO → AH → Prop} {p1 : Int32} (hR : gB g ≤ u) (hst : Sta g h0)  {r : (Int32 × Mem)} (hs : sX4_failed S p1 = r) (hQ : (r.1 = 0 ∨ r.1 = 1) → Q (.ok (some (.int r.1))) (rb h0 u r.2)) : AW g MX4_failed 0 [some (.ref (u)), some (.int (p1))] [] (rb h0 u S) Q := by
  unfold sX4_failed at hs
  refine AW.aload_n (z := 0) (am_r 0 rfl) rfl rfl ?_
  refine AW.iload_n (z := 1) (am_r 1 rfl) rfl rfl ?_
  refine AW.putO (am_r 2 rfl) rfl klX4 (k := 4) (by omega) q359 (Or.inl rfl) rb_0 hR rfl rfl (rbp_0 (by decide)) ?_
  refine olet_e (P := fun y => AW g MX4_failed 5 [some (.ref (u)), some (.int (p1))] [] (rb h0 u y) Q) hs (fun S1 hs => ?_)
  refine AW.aload_n (z := 0) (am_r 3 rfl) rfl rfl ?_
  refine AW.aload_n (z := 0) (am_r 4 rfl) rfl rfl ?_
  refine AW.getO (am_r 5 rfl) rfl klX4 (k := 0) (by omega) q352 rb_0 rfl ?_
  refine AW.getO (am_r 6 rfl) rfl klX8 (k := 3) (by omega) q331 rb_1 rfl ?_
  refine AW.putO (am_r 7 rfl) rfl klX4 (k := 5) (by omega) q360 (Or.inl rfl) rb_0 hR rfl rfl (rbp_0 (by decide)) ?_
  refine olet_e (P := fun y => AW g MX4_failed 16 [some (.ref (u)), some (.int (p1))] [] (rb h0 u y) Q) hs (fun S2 hs => ?_)
  refine AW.iconst (am_r 8 rfl) rfl ci_0 ?_
  have hr := hs.symm
  subst hr
  exact AW.zret (am_r 9 rfl) rfl (Or.inl rfl) (hQ (Or.inl rfl))
def sX4_isFull (S : Mem) (p2 : Int32) : Int32 :=
  if p2 = (2 : Int32) then
    if (gi S 0 7 0) < (6 : Int32) then
      (0 : Int32)
    else
      (1 : Int32)
  else
  if p2 = (3 : Int32) then
    if (gi S 0 8 0) < (10 : Int32) then
      (0 : Int32)
    else
      (1 : Int32)
  else
  if p2 = (4 : Int32) then
    if (gi S 0 9 0) < (16 : Int32) then
      (0 : Int32)
    else
      (1 : Int32)
  else
  (0 : Int32)
set_option maxRecDepth 100000 in
theorem dX4_isFull {g : AG} {h0 : AH} {b : Nat} {S : Mem} {Q : AO → AH → Prop} {p2 : Int32} (hA : gB g ≤ b)  {r : Int32} (hs : sX4_isFull S p2 = r) (hQ : (r = 0 ∨ r = 1) → Q (.ok (some (.int r))) (sb h0 b S)) : AW g MX4_isFull 0 [some (.ref (b)), some (.int (p2))] [] (sb h0 b S) Q := by
  unfold sX4_isFull at hs
  refine AW.iload_n (z := 1) (am_r 0 rfl) rfl rfl ?_
  by_cases hw1 : p2 = (2 : Int32)
  · replace hs := (if_pos hw1).symm.trans hs
    refine AW.tabsw_at (tg := 28) (i := 0) (am_r 1 rfl) hw1 rfl rfl rfl (by decide) ?_
    refine AW.aload_n (z := 0) (am_r 2 rfl) rfl rfl ?_
    refine AW.getO (am_r 3 rfl) rfl klX7 (k := 7) (by omega) q237 sb_st rfl ?_
    refine AW.bipush (am_r 4 rfl) rfl cb_6 ?_
    refine AW.icmp_lt (tg := 41) (am_r 5 rfl) rfl rfl (fun hc2 => ?_) (fun hc2 => ?_)
    · replace hs := (if_pos hc2).symm.trans hs
      refine AW.iconst (am_r 8 rfl) rfl ci_0 ?_
      have hr := hs.symm
      subst hr
      exact AW.zret (am_r 9 rfl) rfl (Or.inl rfl) (hQ (Or.inl rfl))
    · replace hs := (if_neg hc2).symm.trans hs
      refine AW.iconst (am_r 6 rfl) rfl ci_1 ?_
      refine AW.goto (tg := 42) (am_r 7 rfl) rfl ?_
      have hr := hs.symm
      subst hr
      exact AW.zret (am_r 9 rfl) rfl (Or.inr rfl) (hQ (Or.inr rfl))
  replace hs := (if_neg hw1).symm.trans hs
  by_cases hw3 : p2 = (3 : Int32)
  · replace hs := (if_pos hw3).symm.trans hs
    refine AW.tabsw_at (tg := 43) (i := 1) (am_r 1 rfl) hw3 rfl rfl rfl (by decide) ?_
    refine AW.aload_n (z := 0) (am_r 10 rfl) rfl rfl ?_
    refine AW.getO (am_r 11 rfl) rfl klX7 (k := 8) (by omega) q241 sb_st rfl ?_
    refine AW.bipush (am_r 12 rfl) rfl cb_10 ?_
    refine AW.icmp_lt (tg := 56) (am_r 13 rfl) rfl rfl (fun hc4 => ?_) (fun hc4 => ?_)
    · replace hs := (if_pos hc4).symm.trans hs
      refine AW.iconst (am_r 16 rfl) rfl ci_0 ?_
      have hr := hs.symm
      subst hr
      exact AW.zret (am_r 17 rfl) rfl (Or.inl rfl) (hQ (Or.inl rfl))
    · replace hs := (if_neg hc4).symm.trans hs
      refine AW.iconst (am_r 14 rfl) rfl ci_1 ?_
      refine AW.goto (tg := 57) (am_r 15 rfl) rfl ?_
      have hr := hs.symm
      subst hr
      exact AW.zret (am_r 17 rfl) rfl (Or.inr rfl) (hQ (Or.inr rfl))
  replace hs := (if_neg hw3).symm.trans hs
  by_cases hw5 : p2 = (4 : Int32)
  · replace hs := (if_pos hw5).symm.trans hs
    refine AW.tabsw_at (tg := 58) (i := 2) (am_r 1 rfl) hw5 rfl rfl rfl (by decide) ?_
    refine AW.aload_n (z := 0) (am_r 18 rfl) rfl rfl ?_
    refine AW.getO (am_r 19 rfl) rfl klX7 (k := 9) (by omega) q245 sb_st rfl ?_
    refine AW.bipush (am_r 20 rfl) rfl cb_16 ?_
    refine AW.icmp_lt (tg := 71) (am_r 21 rfl) rfl rfl (fun hc6 => ?_) (fun hc6 => ?_)
    · replace hs := (if_pos hc6).symm.trans hs
      refine AW.iconst (am_r 24 rfl) rfl ci_0 ?_
      have hr := hs.symm
      subst hr
      exact AW.zret (am_r 25 rfl) rfl (Or.inl rfl) (hQ (Or.inl rfl))
    · replace hs := (if_neg hc6).symm.trans hs
      refine AW.iconst (am_r 22 rfl) rfl ci_1 ?_
      refine AW.goto (tg := 72) (am_r 23 rfl) rfl ?_
      have hr := hs.symm
      subst hr
      exact AW.zret (am_r 25 rfl) rfl (Or.inr rfl) (hQ (Or.inr rfl))
  replace hs := (if_neg hw5).symm.trans hs
  refine AW.tabsw_d (tg := 73) [2, 3, 4] (am_r 1 rfl) rfl (by decide) (by decide) (List.forall_mem_cons.mpr ⟨hw1, List.forall_mem_cons.mpr ⟨hw3, List.forall_mem_cons.mpr ⟨hw5, fun _ h => nomatch h⟩⟩⟩) ?_
  refine AW.iconst (am_r 26 rfl) rfl ci_0 ?_
  have hr := hs.symm
  subst hr
  exact AW.zret (am_r 27 rfl) rfl (Or.inl rfl) (hQ (Or.inl rfl))
def sX4_rangesOf (S : Mem) (p1 : Int32) : Nat :=
  if p1 = (0 : Int32) then
    0
  else
  if p1 = (1 : Int32) then
    1
  else
  if p1 = (2 : Int32) then
    2
  else
  if p1 = (3 : Int32) then
    3
  else
  if p1 = (4 : Int32) then
    4
  else
  if p1 = (5 : Int32) then
    5
  else
  if p1 = (6 : Int32) then
    6
  else
  if p1 = (7 : Int32) then
    6
  else
  if p1 = (8 : Int32) then
    7
  else
  if p1 = (9 : Int32) then
    6
  else
  if p1 = (10 : Int32) then
    8
  else
  6
set_option maxRecDepth 100000 in
theorem dX4_rangesOf {g : AG} {h0 : AH} {u : Nat} {S : Mem} {Q : AO → AH → Prop} {p1 : Int32} (hR : gB g ≤ u) (hst : Sta g h0)  {r : Nat} (hs : sX4_rangesOf S p1 = r) (hQ : sok r → Q (.ok (some (.ref (sA g r)))) (rb h0 u S)) : AW g MX4_rangesOf 0 [some (.int (p1))] [] (rb h0 u S) Q := by
  unfold sX4_rangesOf at hs
  refine AW.iload_n (z := 0) (am_r 0 rfl) rfl rfl ?_
  by_cases hw1 : p1 = (0 : Int32)
  · replace hs := (if_pos hw1).symm.trans hs
    refine AW.tabsw_at (tg := 60) (i := 0) (am_r 1 rfl) hw1 rfl rfl rfl (by decide) ?_
    refine AW.getsN (host := RX9) (k := 0) (am_r 2 rfl) rfl rfl (by decide) (hst.1 0 (by decide)).1 ?_
    have hr := hs.symm
    subst hr
    exact AW.aret (am_r 3 rfl) rfl (Or.inr ⟨_, rfl⟩) (Or.inr ⟨_, rfl⟩) (hQ sok_0)
  replace hs := (if_neg hw1).symm.trans hs
  by_cases hw2 : p1 = (1 : Int32)
  · replace hs := (if_pos hw2).symm.trans hs
    refine AW.tabsw_at (tg := 64) (i := 1) (am_r 1 rfl) hw2 rfl rfl rfl (by decide) ?_
    refine AW.getsN (host := RX9) (k := 1) (am_r 4 rfl) rfl rfl (by decide) (hst.1 1 (by decide)).1 ?_
    have hr := hs.symm
    subst hr
    exact AW.aret (am_r 5 rfl) rfl (Or.inr ⟨_, rfl⟩) (Or.inr ⟨_, rfl⟩) (hQ sok_1)
  replace hs := (if_neg hw2).symm.trans hs
  by_cases hw3 : p1 = (2 : Int32)
  · replace hs := (if_pos hw3).symm.trans hs
    refine AW.tabsw_at (tg := 68) (i := 2) (am_r 1 rfl) hw3 rfl rfl rfl (by decide) ?_
    refine AW.getsN (host := RX9) (k := 2) (am_r 6 rfl) rfl rfl (by decide) (hst.1 2 (by decide)).1 ?_
    have hr := hs.symm
    subst hr
    exact AW.aret (am_r 7 rfl) rfl (Or.inr ⟨_, rfl⟩) (Or.inr ⟨_, rfl⟩) (hQ sok_2)
  replace hs := (if_neg hw3).symm.trans hs
  by_cases hw4 : p1 = (3 : Int32)
  · replace hs := (if_pos hw4).symm.trans hs
    refine AW.tabsw_at (tg := 72) (i := 3) (am_r 1 rfl) hw4 rfl rfl rfl (by decide) ?_
    refine AW.getsN (host := RX9) (k := 3) (am_r 8 rfl) rfl rfl (by decide) (hst.1 3 (by decide)).1 ?_
    have hr := hs.symm
    subst hr
    exact AW.aret (am_r 9 rfl) rfl (Or.inr ⟨_, rfl⟩) (Or.inr ⟨_, rfl⟩) (hQ sok_3)
  replace hs := (if_neg hw4).symm.trans hs
  by_cases hw5 : p1 = (4 : Int32)
  · replace hs := (if_pos hw5).symm.trans hs
    refine AW.tabsw_at (tg := 76) (i := 4) (am_r 1 rfl) hw5 rfl rfl rfl (by decide) ?_
    refine AW.getsN (host := RX9) (k := 4) (am_r 10 rfl) rfl rfl (by decide) (hst.1 4 (by decide)).1 ?_
    have hr := hs.symm
    subst hr
    exact AW.aret (am_r 11 rfl) rfl (Or.inr ⟨_, rfl⟩) (Or.inr ⟨_, rfl⟩) (hQ sok_4)
  replace hs := (if_neg hw5).symm.trans hs
  by_cases hw6 : p1 = (5 : Int32)
  · replace hs := (if_pos hw6).symm.trans hs
    refine AW.tabsw_at (tg := 80) (i := 5) (am_r 1 rfl) hw6 rfl rfl rfl (by decide) ?_
    refine AW.getsN (host := RX9) (k := 5) (am_r 12 rfl) rfl rfl (by decide) (hst.1 5 (by decide)).1 ?_
    have hr := hs.symm
    subst hr
    exact AW.aret (am_r 13 rfl) rfl (Or.inr ⟨_, rfl⟩) (Or.inr ⟨_, rfl⟩) (hQ sok_5)
  replace hs := (if_neg hw6).symm.trans hs
  by_cases hw7 : p1 = (6 : Int32)
  · replace hs := (if_pos hw7).symm.trans hs
    refine AW.tabsw_at (tg := 92) (i := 6) (am_r 1 rfl) hw7 rfl rfl rfl (by decide) ?_
    refine AW.getsN (host := RX9) (k := 6) (am_r 18 rfl) rfl rfl (by decide) (hst.1 6 (by decide)).1 ?_
    have hr := hs.symm
    subst hr
    exact AW.aret (am_r 19 rfl) rfl (Or.inr ⟨_, rfl⟩) (Or.inr ⟨_, rfl⟩) (hQ sok_6)
  replace hs := (if_neg hw7).symm.trans hs
  by_cases hw8 : p1 = (7 : Int32)
  · replace hs := (if_pos hw8).symm.trans hs
    refine AW.tabsw_at (tg := 92) (i := 7) (am_r 1 rfl) hw8 rfl rfl rfl (by decide) ?_
    refine AW.getsN (host := RX9) (k := 6) (am_r 18 rfl) rfl rfl (by decide) (hst.1 6 (by decide)).1 ?_
    have hr := hs.symm
    subst hr
    exact AW.aret (am_r 19 rfl) rfl (Or.inr ⟨_, rfl⟩) (Or.inr ⟨_, rfl⟩) (hQ sok_6)
  replace hs := (if_neg hw8).symm.trans hs
  by_cases hw9 : p1 = (8 : Int32)
  · replace hs := (if_pos hw9).symm.trans hs
    refine AW.tabsw_at (tg := 84) (i := 8) (am_r 1 rfl) hw9 rfl rfl rfl (by decide) ?_
    refine AW.getsN (host := RX9) (k := 7) (am_r 14 rfl) rfl rfl (by decide) (hst.1 7 (by decide)).1 ?_
    have hr := hs.symm
    subst hr
    exact AW.aret (am_r 15 rfl) rfl (Or.inr ⟨_, rfl⟩) (Or.inr ⟨_, rfl⟩) (hQ sok_7)
  replace hs := (if_neg hw9).symm.trans hs
  by_cases hw10 : p1 = (9 : Int32)
  · replace hs := (if_pos hw10).symm.trans hs
    refine AW.tabsw_at (tg := 92) (i := 9) (am_r 1 rfl) hw10 rfl rfl rfl (by decide) ?_
    refine AW.getsN (host := RX9) (k := 6) (am_r 18 rfl) rfl rfl (by decide) (hst.1 6 (by decide)).1 ?_
    have hr := hs.symm
    subst hr
    exact AW.aret (am_r 19 rfl) rfl (Or.inr ⟨_, rfl⟩) (Or.inr ⟨_, rfl⟩) (hQ sok_6)
  replace hs := (if_neg hw10).symm.trans hs
  by_cases hw11 : p1 = (10 : Int32)
  · replace hs := (if_pos hw11).symm.trans hs
    refine AW.tabsw_at (tg := 88) (i := 10) (am_r 1 rfl) hw11 rfl rfl rfl (by decide) ?_
    refine AW.getsN (host := RX9) (k := 8) (am_r 16 rfl) rfl rfl (by decide) (hst.1 8 (by decide)).1 ?_
    have hr := hs.symm
    subst hr
    exact AW.aret (am_r 17 rfl) rfl (Or.inr ⟨_, rfl⟩) (Or.inr ⟨_, rfl⟩) (hQ sok_8)
  replace hs := (if_neg hw11).symm.trans hs
  refine AW.tabsw_d (tg := 92) [0, 1, 2, 3, 4, 5, 6, 7, 8, 9, 10] (am_r 1 rfl) rfl (by decide) (by decide) (List.forall_mem_cons.mpr ⟨hw1, List.forall_mem_cons.mpr ⟨hw2, List.forall_mem_cons.mpr ⟨hw3, List.forall_mem_cons.mpr ⟨hw4, List.forall_mem_cons.mpr ⟨hw5, List.forall_mem_cons.mpr ⟨hw6, List.forall_mem_cons.mpr ⟨hw7, List.forall_mem_cons.mpr ⟨hw8, List.forall_mem_cons.mpr ⟨hw9, List.forall_mem_cons.mpr ⟨hw10, List.forall_mem_cons.mpr ⟨hw11, fun _ h => nomatch h⟩⟩⟩⟩⟩⟩⟩⟩⟩⟩⟩) ?_
  refine AW.getsN (host := RX9) (k := 6) (am_r 18 rfl) rfl rfl (by decide) (hst.1 6 (by decide)).1 ?_
  have hr := hs.symm
  subst hr
  exact AW.aret (am_r 19 rfl) rfl (Or.inr ⟨_, rfl⟩) (Or.inr ⟨_, rfl⟩) (hQ sok_6)
noncomputable def sX4_readNumbers_j107 (S : Mem) (p1 : Int32)  : Option (Int32 × Mem) :=
  obind (sX8_step S ) fun r6 =>
  if (gi r6 1 2 0) = (3 : Int32) then
    some (((1 : Int32), r6))
  else
    olet (sX4_failed r6 (1 : Int32)) fun r10 =>
    if r10.1 = 0 then
      some (((0 : Int32), r10.2))
    else
      some (((1 : Int32), r10.2))
set_option maxRecDepth 100000 in
theorem dX4_readNumbers_j107 {g : AG} {h0 : AH} {u : Nat} {S : Mem} {Q : AO → AH → Prop} {p1 : Int32}  (hR : gB g ≤ u) (hst : Sta g h0)   {r : (Int32 × Mem)} (hs : sX4_readNumbers_j107 S p1  = some r) (hQ : (r.1 = 0 ∨ r.1 = 1) → Q (.ok (some (.int r.1))) (rb h0 u r.2)) : AW g MX4_readNumbers 107 [some (.ref (u)), none, none, none] [] (rb h0 u S) Q := by
  unfold sX4_readNumbers_j107 at hs
  refine AW.aload_n (z := 0) (am_r 63 rfl) rfl rfl ?_
  refine AW.getO (am_r 64 rfl) rfl klX4 (k := 0) (by omega) q352 rb_0 rfl ?_
  refine obind_e hs (fun r6 hg8 hs => ?_)
  refine AW.callV (N := MX8_step) (As := []) (S := []) (L0 := [some (.ref (u + 1))]) (b := u + 1) (am_r 65 rfl) rfl ovX8_step q464 rfl rfl rb_1 rfl rfl rfl rfl (dX8_step hR hst  hg8 (cQ_v ?_))
  refine AW.aload_n (z := 0) (am_r 66 rfl) rfl rfl ?_
  refine AW.getO (am_r 67 rfl) rfl klX4 (k := 0) (by omega) q352 rb_0 rfl ?_
  refine AW.getO (am_r 68 rfl) rfl klX8 (k := 2) (by omega) q328 rb_1 rfl ?_
  refine AW.iconst (am_r 69 rfl) rfl ci_3 ?_
  refine AW.icmp_eq (tg := 133) (am_r 70 rfl) rfl rfl (fun hc9 => ?_) (fun hc9 => ?_)
  · replace hs := (if_pos hc9).symm.trans hs
    refine AW.iconst (am_r 75 rfl) rfl ci_1 ?_
    refine AW.goto (tg := 138) (am_r 76 rfl) rfl ?_
    have hr := (Option.some.inj hs).symm
    subst hr
    exact AW.zret (am_r 78 rfl) rfl (Or.inr rfl) (hQ (Or.inr rfl))
  · replace hs := (if_neg hc9).symm.trans hs
    refine AW.aload_n (z := 0) (am_r 71 rfl) rfl rfl ?_
    refine AW.iconst (am_r 72 rfl) rfl ci_1 ?_
    refine AW.callV (N := MX4_failed) (As := [.int ((1 : Int32))]) (S := []) (L0 := [some (.ref (u)), some (.int ((1 : Int32)))]) (b := u) (am_r 73 rfl) rfl ovX4_failed q554 rfl rfl rb_0 rfl rfl rfl rfl (dX4_failed hR hst  rfl (fun hok11 => (cQ_r ?_)))
    refine olet_e (P := fun (y : (Int32 × Mem)) => (y.1 = 0 ∨ y.1 = 1) → AW g MX4_readNumbers 130 [some (.ref (u)), none, none, none] [(.int (y.1))] (rb h0 u y.2) Q) hs (fun r10 hs hok11 => ?_) hok11
    refine AW.if_eq (tg := 137) (am_r 74 rfl) rfl rfl (fun hc12 => ?_) (fun hc12 => ?_)
    · replace hs := (if_pos hc12).symm.trans hs
      refine AW.iconst (am_r 77 rfl) rfl ci_0 ?_
      have hr := (Option.some.inj hs).symm
      subst hr
      exact AW.zret (am_r 78 rfl) rfl (Or.inl rfl) (hQ (Or.inl rfl))
    · replace hs := (if_neg hc12).symm.trans hs
      refine AW.iconst (am_r 75 rfl) rfl ci_1 ?_
      refine AW.goto (tg := 138) (am_r 76 rfl) rfl ?_
      have hr := (Option.some.inj hs).symm
      subst hr
      exact AW.zret (am_r 78 rfl) rfl (Or.inr rfl) (hQ (Or.inr rfl))
noncomputable def sX4_readNumbers_l7_step  (p1 : Int32) (a : (Nat × Int32 × Mem)) : Option ((Nat × Int32 × Mem) ⊕ (Int32 × Mem)) :=
  if (Int32.ofNat (rn a.1)) ≤ (((2 : Int32) * a.2.1) + (1 : Int32)) then
    oinr (
    sX4_readNumbers_j107 a.2.2 p1 )
  else
    if (7 : Int32) ≤ a.2.1 then
      oinr (
      sX4_readNumbers_j107 a.2.2 p1 )
    else
      obind (sX8_step a.2.2 ) fun r16 =>
      if (gi r16 1 2 0) = (2 : Int32) then
        oif (inb ((2 : Int32) * a.2.1) (rn a.1)) (
        if (gi r16 1 5 0) < (rv a.1 ((2 : Int32) * a.2.1).toNatClampNeg) then
          oinr (
          olet (sX4_failed r16 (2 : Int32)) fun r24 =>
          some ((r24.1, r24.2)))
        else
          oif (inb (((2 : Int32) * a.2.1) + (1 : Int32)) (rn a.1)) (
          if (gi r16 1 5 0) ≤ (rv a.1 (((2 : Int32) * a.2.1) + (1 : Int32)).toNatClampNeg) then
            oif (inb a.2.1 7) (
            olet (si r16 3 a.2.1.toNatClampNeg 0 (gi r16 1 5 0)) fun S29 =>
            some (.inl (a.1, a.2.1 + (1 : Int32), S29)))
          else
            oinr (
            olet (sX4_failed r16 (2 : Int32)) fun r32 =>
            some ((r32.1, r32.2)))))
      else
        oinr (
        olet (sX4_failed r16 (1 : Int32)) fun r36 =>
        some ((r36.1, r36.2)))
noncomputable def sX4_readNumbers_l7  (p1 : Int32) (a : (Nat × Int32 × Mem)) : Option (Int32 × Mem) := itw (sX4_readNumbers_l7_step  p1) a
set_option maxRecDepth 100000 in
theorem dX4_readNumbers_l7 {g : AG} {h0 : AH} {u : Nat} {Q : AO → AH → Prop} {p1 : Int32} (hR : gB g ≤ u) (hst : Sta g h0)  {a : (Nat × Int32 × Mem)} (hk0 : sok a.1) {r : (Int32 × Mem)} (hs : sX4_readNumbers_l7  p1 a = some r) (hQ : (r.1 = 0 ∨ r.1 = 1) → Q (.ok (some (.int r.1))) (rb h0 u r.2)) : AW g MX4_readNumbers 7 [some (.ref (u)), none, some (.ref (sA g a.1)), some (.int (a.2.1))] [] (rb h0 u a.2.2) Q := by
  refine itw_e (P := fun a => sok a.1 → AW g MX4_readNumbers 7 [some (.ref (u)), none, some (.ref (sA g a.1)), some (.int (a.2.1))] [] (rb h0 u a.2.2) Q) (Post := fun r => (r.1 = 0 ∨ r.1 = 1) → Q (.ok (some (.int r.1))) (rb h0 u r.2)) (fun a r hs hc he hk0 => ?_) hs hQ hk0
  unfold sX4_readNumbers_l7_step at hs
  refine AW.iconst (am_r 5 rfl) rfl ci_2 ?_
  refine AW.iload_n (z := 3) (am_r 6 rfl) rfl rfl ?_
  refine AW.imul (am_r 7 rfl) rfl ?_
  refine AW.iconst (am_r 8 rfl) rfl ci_1 ?_
  refine AW.iadd (am_r 9 rfl) rfl ?_
  refine AW.aload_n (z := 2) (am_r 10 rfl) rfl rfl ?_
  refine AW.alen (am_r 11 rfl) rfl rfl ((Sta.blk hst hR).1 _ hk0).2.1 rfl ?_
  refine AW.icmp_ge (tg := 107) (am_r 12 rfl) rfl rfl (fun hc3 => ?_) (fun hc3 => ?_)
  · replace hs := (if_pos hc3).symm.trans hs
    refine oinr_e hs (fun z4 hz5 hs => ?_)
    have hQ := he _ hz5
    refine AW.lessL (L' := [some (.ref (u)), none, none, none]) ⟨rfl, trivial⟩ ?_
    exact dX4_readNumbers_j107 hR hst   hs hQ
  · replace hs := (if_neg hc3).symm.trans hs
    refine AW.iload_n (z := 3) (am_r 13 rfl) rfl rfl ?_
    refine AW.aload_n (z := 0) (am_r 14 rfl) rfl rfl ?_
    refine AW.getO (am_r 15 rfl) rfl klX4 (k := 1) (by omega) q354 rb_0 rfl ?_
    refine AW.alen (am_r 16 rfl) rfl rfl rb_3 cn_7 ?_
    refine AW.icmp_ge (tg := 107) (am_r 17 rfl) rfl rfl (fun hc13 => ?_) (fun hc13 => ?_)
    · replace hs := (if_pos hc13).symm.trans hs
      refine oinr_e hs (fun z14 hz15 hs => ?_)
      have hQ := he _ hz15
      refine AW.lessL (L' := [some (.ref (u)), none, none, none]) ⟨rfl, trivial⟩ ?_
      exact dX4_readNumbers_j107 hR hst   hs hQ
    · replace hs := (if_neg hc13).symm.trans hs
      refine AW.aload_n (z := 0) (am_r 18 rfl) rfl rfl ?_
      refine AW.getO (am_r 19 rfl) rfl klX4 (k := 0) (by omega) q352 rb_0 rfl ?_
      refine obind_e hs (fun r16 hg18 hs => ?_)
      refine AW.callV (N := MX8_step) (As := []) (S := []) (L0 := [some (.ref (u + 1))]) (b := u + 1) (am_r 20 rfl) rfl ovX8_step q464 rfl rfl rb_1 rfl rfl rfl rfl (dX8_step hR hst  hg18 (cQ_v ?_))
      refine AW.aload_n (z := 0) (am_r 21 rfl) rfl rfl ?_
      refine AW.getO (am_r 22 rfl) rfl klX4 (k := 0) (by omega) q352 rb_0 rfl ?_
      refine AW.getO (am_r 23 rfl) rfl klX8 (k := 2) (by omega) q328 rb_1 rfl ?_
      refine AW.iconst (am_r 24 rfl) rfl ci_2 ?_
      refine AW.icmp_eq (tg := 50) (am_r 25 rfl) rfl rfl (fun hc19 => ?_) (fun hc19 => ?_)
      · replace hs := (if_pos hc19).symm.trans hs
        refine AW.aload_n (z := 0) (am_r 30 rfl) rfl rfl ?_
        refine AW.getO (am_r 31 rfl) rfl klX4 (k := 0) (by omega) q352 rb_0 rfl ?_
        refine AW.getO (am_r 32 rfl) rfl klX8 (k := 5) (by omega) q334 rb_1 rfl ?_
        refine AW.aload_n (z := 2) (am_r 33 rfl) rfl rfl ?_
        refine AW.iconst (am_r 34 rfl) rfl ci_2 ?_
        refine AW.iload_n (z := 3) (am_r 35 rfl) rfl rfl ?_
        refine AW.imul (am_r 36 rfl) rfl ?_
        refine oif_g hs (fun hg20 hs => ?_)
        refine AW.iald (am_r 37 rfl) rfl ((Sta.blk hst hR).1 _ hk0).2.1 (vp_of_inb hg20) rfl ?_
        refine AW.icmp_lt (tg := 82) (am_r 38 rfl) rfl rfl (fun hc21 => ?_) (fun hc21 => ?_)
        · replace hs := (if_pos hc21).symm.trans hs
          refine oinr_e hs (fun z22 hz23 hs => ?_)
          have hQ := he _ hz23
          refine AW.aload_n (z := 0) (am_r 50 rfl) rfl rfl ?_
          refine AW.iconst (am_r 51 rfl) rfl ci_2 ?_
          refine AW.callV (N := MX4_failed) (As := [.int ((2 : Int32))]) (S := []) (L0 := [some (.ref (u)), some (.int ((2 : Int32)))]) (b := u) (am_r 52 rfl) rfl ovX4_failed q554 rfl rfl rb_0 rfl rfl rfl rfl (dX4_failed hR hst  rfl (fun hok25 => (cQ_r ?_)))
          refine olet_e (P := fun (y : (Int32 × Mem)) => (y.1 = 0 ∨ y.1 = 1) → AW g MX4_readNumbers 87 [some (.ref (u)), none, some (.ref (sA g a.1)), some (.int (a.2.1))] [(.int (y.1))] (rb h0 u y.2) Q) hs (fun r24 hs hok25 => ?_) hok25
          have hr := (Option.some.inj hs).symm
          subst hr
          exact AW.zret (am_r 53 rfl) rfl hok25 (hQ hok25)
        · replace hs := (if_neg hc21).symm.trans hs
          refine AW.aload_n (z := 0) (am_r 39 rfl) rfl rfl ?_
          refine AW.getO (am_r 40 rfl) rfl klX4 (k := 0) (by omega) q352 rb_0 rfl ?_
          refine AW.getO (am_r 41 rfl) rfl klX8 (k := 5) (by omega) q334 rb_1 rfl ?_
          refine AW.aload_n (z := 2) (am_r 42 rfl) rfl rfl ?_
          refine AW.iconst (am_r 43 rfl) rfl ci_2 ?_
          refine AW.iload_n (z := 3) (am_r 44 rfl) rfl rfl ?_
          refine AW.imul (am_r 45 rfl) rfl ?_
          refine AW.iconst (am_r 46 rfl) rfl ci_1 ?_
          refine AW.iadd (am_r 47 rfl) rfl ?_
          refine oif_g hs (fun hg26 hs => ?_)
          refine AW.iald (am_r 48 rfl) rfl ((Sta.blk hst hR).1 _ hk0).2.1 (vp_of_inb hg26) rfl ?_
          refine AW.icmp_le (tg := 88) (am_r 49 rfl) rfl rfl (fun hc27 => ?_) (fun hc27 => ?_)
          · replace hs := (if_pos hc27).symm.trans hs
            refine AW.aload_n (z := 0) (am_r 54 rfl) rfl rfl ?_
            refine AW.getO (am_r 55 rfl) rfl klX4 (k := 1) (by omega) q354 rb_0 rfl ?_
            refine AW.iload_n (z := 3) (am_r 56 rfl) rfl rfl ?_
            refine AW.aload_n (z := 0) (am_r 57 rfl) rfl rfl ?_
            refine AW.getO (am_r 58 rfl) rfl klX4 (k := 0) (by omega) q352 rb_0 rfl ?_
            refine AW.getO (am_r 59 rfl) rfl klX8 (k := 5) (by omega) q334 rb_1 rfl ?_
            refine oif_g hs (fun hg28 hs => ?_)
            refine AW.iast (am_r 60 rfl) rfl rb_3 (Nat.le_trans hR (by omega)) (vp_of_inb hg28) ?_
            rw [show _ = _ from rbp_3]
            refine olet_e (P := fun y => AW g MX4_readNumbers 101 [some (.ref (u)), none, some (.ref (sA g a.1)), some (.int (a.2.1))] [] (rb h0 u y) Q) hs (fun S29 hs => ?_)
            refine AW.iinc (v := a.2.1 + (1 : Int32)) (L' := [some (.ref (u)), none, some (.ref (sA g a.1)), some (.int (a.2.1 + (1 : Int32)))]) (am_r 61 rfl) rfl (Nat.le_of_ble_eq_true rfl) rfl (congrArg (fun z => a.2.1 + z) ci_1) rfl ?_
            refine AW.goto (tg := 7) (am_r 62 rfl) rfl ?_
            have hr := (Option.some.inj hs).symm
            exact hc (a.1, a.2.1 + (1 : Int32), S29) hr hk0
          · replace hs := (if_neg hc27).symm.trans hs
            refine oinr_e hs (fun z30 hz31 hs => ?_)
            have hQ := he _ hz31
            refine AW.aload_n (z := 0) (am_r 50 rfl) rfl rfl ?_
            refine AW.iconst (am_r 51 rfl) rfl ci_2 ?_
            refine AW.callV (N := MX4_failed) (As := [.int ((2 : Int32))]) (S := []) (L0 := [some (.ref (u)), some (.int ((2 : Int32)))]) (b := u) (am_r 52 rfl) rfl ovX4_failed q554 rfl rfl rb_0 rfl rfl rfl rfl (dX4_failed hR hst  rfl (fun hok33 => (cQ_r ?_)))
            refine olet_e (P := fun (y : (Int32 × Mem)) => (y.1 = 0 ∨ y.1 = 1) → AW g MX4_readNumbers 87 [some (.ref (u)), none, some (.ref (sA g a.1)), some (.int (a.2.1))] [(.int (y.1))] (rb h0 u y.2) Q) hs (fun r32 hs hok33 => ?_) hok33
            have hr := (Option.some.inj hs).symm
            subst hr
            exact AW.zret (am_r 53 rfl) rfl hok33 (hQ hok33)
      · replace hs := (if_neg hc19).symm.trans hs
        refine oinr_e hs (fun z34 hz35 hs => ?_)
        have hQ := he _ hz35
        refine AW.aload_n (z := 0) (am_r 26 rfl) rfl rfl ?_
        refine AW.iconst (am_r 27 rfl) rfl ci_1 ?_
        refine AW.callV (N := MX4_failed) (As := [.int ((1 : Int32))]) (S := []) (L0 := [some (.ref (u)), some (.int ((1 : Int32)))]) (b := u) (am_r 28 rfl) rfl ovX4_failed q554 rfl rfl rb_0 rfl rfl rfl rfl (dX4_failed hR hst  rfl (fun hok37 => (cQ_r ?_)))
        refine olet_e (P := fun (y : (Int32 × Mem)) => (y.1 = 0 ∨ y.1 = 1) → AW g MX4_readNumbers 49 [some (.ref (u)), none, some (.ref (sA g a.1)), some (.int (a.2.1))] [(.int (y.1))] (rb h0 u y.2) Q) hs (fun r36 hs hok37 => ?_) hok37
        have hr := (Option.some.inj hs).symm
        subst hr
        exact AW.zret (am_r 29 rfl) rfl hok37 (hQ hok37)
noncomputable def sX4_readNumbers (S : Mem) (p1 : Int32) : Option (Int32 × Mem) :=
  sX4_readNumbers_l7  p1 (sX4_rangesOf S p1, (0 : Int32), S)
set_option maxRecDepth 100000 in
theorem dX4_readNumbers {g : AG} {h0 : AH} {u : Nat} {S : Mem} {Q : AO → AH → Prop} {p1 : Int32} (hR : gB g ≤ u) (hst : Sta g h0)  {r : (Int32 × Mem)} (hs : sX4_readNumbers S p1 = some r) (hQ : (r.1 = 0 ∨ r.1 = 1) → Q (.ok (some (.int r.1))) (rb h0 u r.2)) : AW g MX4_readNumbers 0 [some (.ref (u)), some (.int (p1)), none, none] [] (rb h0 u S) Q := by
  unfold sX4_readNumbers at hs
  refine AW.iload_n (z := 1) (am_r 0 rfl) rfl rfl ?_
  refine AW.callS (N := MX4_rangesOf) (As := [.int (p1)]) (S := []) (L0 := [some (.int (p1))]) (am_r 1 rfl) rfl osX4_rangesOf q565 rfl rfl rfl rfl rfl (dX4_rangesOf hR hst  rfl (fun hok2 => (cQ_r ?_)))
  refine AW.astore_n (L' := [some (.ref (u)), some (.int (p1)), some (.ref (sA g (sX4_rangesOf S p1))), none]) (z := 2) (am_r 2 rfl) rfl (Nat.le_of_ble_eq_true rfl) rfl ?_
  refine AW.iconst (am_r 3 rfl) rfl ci_0 ?_
  refine AW.istore_n (L' := [some (.ref (u)), some (.int (p1)), some (.ref (sA g (sX4_rangesOf S p1))), some (.int ((0 : Int32)))]) (z := 3) (am_r 4 rfl) rfl (Nat.le_of_ble_eq_true rfl) rfl ?_
  refine AW.lessL (L' := [some (.ref (u)), none, some (.ref (sA g (sX4_rangesOf S p1))), some (.int ((0 : Int32)))]) ⟨rfl, rfl, rfl, trivial⟩ ?_
  exact dX4_readNumbers_l7 hR hst  hok2 hs hQ
def sX4_number (S : Mem) (p1 : Int32) : Int32 :=
  if p1 < 0 then
    (0 : Int32)
  else
    if (7 : Int32) ≤ p1 then
      (0 : Int32)
    else
      gi S 3 p1.toNatClampNeg 0
set_option maxRecDepth 100000 in
theorem dX4_number {g : AG} {h0 : AH} {u : Nat} {S : Mem} {Q : AO → AH → Prop} {p1 : Int32} (hR : gB g ≤ u) (hst : Sta g h0)  {r : Int32} (hs : sX4_number S p1 = r) (hQ : Q (.ok (some (.int r))) (rb h0 u S)) : AW g MX4_number 0 [some (.ref (u)), some (.int (p1))] [] (rb h0 u S) Q := by
  unfold sX4_number at hs
  refine AW.iload_n (z := 1) (am_r 0 rfl) rfl rfl ?_
  refine AW.if_lt (tg := 22) (am_r 1 rfl) rfl rfl (fun hc1 => ?_) (fun hc1 => ?_)
  · replace hs := (if_pos hc1).symm.trans hs
    refine AW.iconst (am_r 12 rfl) rfl ci_0 ?_
    have hr := hs.symm
    subst hr
    exact AW.iret (am_r 13 rfl) rfl hQ
  · replace hs := (if_neg hc1).symm.trans hs
    refine AW.iload_n (z := 1) (am_r 2 rfl) rfl rfl ?_
    refine AW.aload_n (z := 0) (am_r 3 rfl) rfl rfl ?_
    refine AW.getO (am_r 4 rfl) rfl klX4 (k := 1) (by omega) q354 rb_0 rfl ?_
    refine AW.alen (am_r 5 rfl) rfl rfl rb_3 cn_7 ?_
    refine AW.icmp_ge (tg := 22) (am_r 6 rfl) rfl rfl (fun hc2 => ?_) (fun hc2 => ?_)
    · replace hs := (if_pos hc2).symm.trans hs
      refine AW.iconst (am_r 12 rfl) rfl ci_0 ?_
      have hr := hs.symm
      subst hr
      exact AW.iret (am_r 13 rfl) rfl hQ
    · replace hs := (if_neg hc2).symm.trans hs
      refine AW.aload_n (z := 0) (am_r 7 rfl) rfl rfl ?_
      refine AW.getO (am_r 8 rfl) rfl klX4 (k := 1) (by omega) q354 rb_0 rfl ?_
      refine AW.iload_n (z := 1) (am_r 9 rfl) rfl rfl ?_
      refine AW.iald (am_r 10 rfl) rfl rb_3 (vp_mk hc1 (by decide) (vp_hi hc2)) rfl ?_
      refine AW.goto (tg := 23) (am_r 11 rfl) rfl ?_
      have hr := hs.symm
      subst hr
      exact AW.iret (am_r 13 rfl) rfl hQ
def sX4_fill (S : (Mem × Mem)) (i1 : Nat) : (Mem × Mem) :=
  olet (si S.2 2 0 i1 (sX4_number S.1 (0 : Int32))) fun S3 =>
  olet (si S3 2 1 i1 (sX4_number S.1 (1 : Int32))) fun S6 =>
  olet (si S6 2 2 i1 (sX4_number S.1 (2 : Int32))) fun S9 =>
  olet (si S9 2 3 i1 (sX4_number S.1 (3 : Int32))) fun S12 =>
  olet (si S12 2 4 i1 (sX4_number S.1 (4 : Int32))) fun S15 =>
  olet (si S15 2 5 i1 (sX4_number S.1 (5 : Int32))) fun S18 =>
  olet (si S18 2 6 i1 (sX4_number S.1 (6 : Int32))) fun S21 =>
  (S.1, S21)
set_option maxRecDepth 100000 in
theorem dX4_fill {g : AG} {h0 : AH} {u b : Nat} {S : (Mem × Mem)} {Q : AO → AH → Prop} {i1 : Nat} (hR : gB g ≤ u) (hA : gB g ≤ b) (hd : u + 5 ≤ b ∨ b + 58 ≤ u) (hst : Sta g h0) (hi1 : rok i1) {r : (Mem × Mem)} (hs : sX4_fill S i1 = r) (hQ : Q (.ok none) (rb (sb h0 b r.2) u r.1)) : AW g MX4_fill 0 [some (.ref (u)), some (.ref (b + 9 + i1))] [] (rb (sb h0 b S.2) u S.1) Q := by
  unfold sX4_fill at hs
  refine AW.aload_n (z := 1) (am_r 0 rfl) rfl rfl ?_
  refine AW.aload_n (z := 0) (am_r 1 rfl) rfl rfl ?_
  refine AW.iconst (am_r 2 rfl) rfl ci_0 ?_
  refine AW.callV (N := MX4_number) (As := [.int ((0 : Int32))]) (S := [(.ref (b + 9 + i1))]) (L0 := [some (.ref (u)), some (.int ((0 : Int32)))]) (b := u) (am_r 3 rfl) rfl ovX4_number q588 rfl rfl rb_0 rfl rfl rfl rfl (dX4_number hR (Sta.blk hst hA)  rfl (cQ_r ?_))
  refine AW.putO (am_r 4 rfl) rfl klX5 (k := 0) (by omega) q71 (Or.inl rfl) (rs_get hd (fun _ => (sb_re hi1))) (Nat.le_trans hA (by omega)) rfl rfl (rs_put hd (fun _ => (sbp_re hi1))) ?_
  refine olet_e (P := fun y => AW g MX4_fill 9 [some (.ref (u)), some (.ref (b + 9 + i1))] [] (rb (sb h0 b y) u S.1) Q) hs (fun S3 hs => ?_)
  refine AW.aload_n (z := 1) (am_r 5 rfl) rfl rfl ?_
  refine AW.aload_n (z := 0) (am_r 6 rfl) rfl rfl ?_
  refine AW.iconst (am_r 7 rfl) rfl ci_1 ?_
  refine AW.callV (N := MX4_number) (As := [.int ((1 : Int32))]) (S := [(.ref (b + 9 + i1))]) (L0 := [some (.ref (u)), some (.int ((1 : Int32)))]) (b := u) (am_r 8 rfl) rfl ovX4_number q588 rfl rfl rb_0 rfl rfl rfl rfl (dX4_number hR (Sta.blk hst hA)  rfl (cQ_r ?_))
  refine AW.putO (am_r 9 rfl) rfl klX5 (k := 1) (by omega) q75 (Or.inl rfl) (rs_get hd (fun _ => (sb_re hi1))) (Nat.le_trans hA (by omega)) rfl rfl (rs_put hd (fun _ => (sbp_re hi1))) ?_
  refine olet_e (P := fun y => AW g MX4_fill 18 [some (.ref (u)), some (.ref (b + 9 + i1))] [] (rb (sb h0 b y) u S.1) Q) hs (fun S6 hs => ?_)
  refine AW.aload_n (z := 1) (am_r 10 rfl) rfl rfl ?_
  refine AW.aload_n (z := 0) (am_r 11 rfl) rfl rfl ?_
  refine AW.iconst (am_r 12 rfl) rfl ci_2 ?_
  refine AW.callV (N := MX4_number) (As := [.int ((2 : Int32))]) (S := [(.ref (b + 9 + i1))]) (L0 := [some (.ref (u)), some (.int ((2 : Int32)))]) (b := u) (am_r 13 rfl) rfl ovX4_number q588 rfl rfl rb_0 rfl rfl rfl rfl (dX4_number hR (Sta.blk hst hA)  rfl (cQ_r ?_))
  refine AW.putO (am_r 14 rfl) rfl klX5 (k := 2) (by omega) q79 (Or.inl rfl) (rs_get hd (fun _ => (sb_re hi1))) (Nat.le_trans hA (by omega)) rfl rfl (rs_put hd (fun _ => (sbp_re hi1))) ?_
  refine olet_e (P := fun y => AW g MX4_fill 27 [some (.ref (u)), some (.ref (b + 9 + i1))] [] (rb (sb h0 b y) u S.1) Q) hs (fun S9 hs => ?_)
  refine AW.aload_n (z := 1) (am_r 15 rfl) rfl rfl ?_
  refine AW.aload_n (z := 0) (am_r 16 rfl) rfl rfl ?_
  refine AW.iconst (am_r 17 rfl) rfl ci_3 ?_
  refine AW.callV (N := MX4_number) (As := [.int ((3 : Int32))]) (S := [(.ref (b + 9 + i1))]) (L0 := [some (.ref (u)), some (.int ((3 : Int32)))]) (b := u) (am_r 18 rfl) rfl ovX4_number q588 rfl rfl rb_0 rfl rfl rfl rfl (dX4_number hR (Sta.blk hst hA)  rfl (cQ_r ?_))
  refine AW.putO (am_r 19 rfl) rfl klX5 (k := 3) (by omega) q83 (Or.inl rfl) (rs_get hd (fun _ => (sb_re hi1))) (Nat.le_trans hA (by omega)) rfl rfl (rs_put hd (fun _ => (sbp_re hi1))) ?_
  refine olet_e (P := fun y => AW g MX4_fill 36 [some (.ref (u)), some (.ref (b + 9 + i1))] [] (rb (sb h0 b y) u S.1) Q) hs (fun S12 hs => ?_)
  refine AW.aload_n (z := 1) (am_r 20 rfl) rfl rfl ?_
  refine AW.aload_n (z := 0) (am_r 21 rfl) rfl rfl ?_
  refine AW.iconst (am_r 22 rfl) rfl ci_4 ?_
  refine AW.callV (N := MX4_number) (As := [.int ((4 : Int32))]) (S := [(.ref (b + 9 + i1))]) (L0 := [some (.ref (u)), some (.int ((4 : Int32)))]) (b := u) (am_r 23 rfl) rfl ovX4_number q588 rfl rfl rb_0 rfl rfl rfl rfl (dX4_number hR (Sta.blk hst hA)  rfl (cQ_r ?_))
  refine AW.putO (am_r 24 rfl) rfl klX5 (k := 4) (by omega) q86 (Or.inl rfl) (rs_get hd (fun _ => (sb_re hi1))) (Nat.le_trans hA (by omega)) rfl rfl (rs_put hd (fun _ => (sbp_re hi1))) ?_
  refine olet_e (P := fun y => AW g MX4_fill 45 [some (.ref (u)), some (.ref (b + 9 + i1))] [] (rb (sb h0 b y) u S.1) Q) hs (fun S15 hs => ?_)
  refine AW.aload_n (z := 1) (am_r 25 rfl) rfl rfl ?_
  refine AW.aload_n (z := 0) (am_r 26 rfl) rfl rfl ?_
  refine AW.iconst (am_r 27 rfl) rfl ci_5 ?_
  refine AW.callV (N := MX4_number) (As := [.int ((5 : Int32))]) (S := [(.ref (b + 9 + i1))]) (L0 := [some (.ref (u)), some (.int ((5 : Int32)))]) (b := u) (am_r 28 rfl) rfl ovX4_number q588 rfl rfl rb_0 rfl rfl rfl rfl (dX4_number hR (Sta.blk hst hA)  rfl (cQ_r ?_))
  refine AW.putO (am_r 29 rfl) rfl klX5 (k := 5) (by omega) q89 (Or.inl rfl) (rs_get hd (fun _ => (sb_re hi1))) (Nat.le_trans hA (by omega)) rfl rfl (rs_put hd (fun _ => (sbp_re hi1))) ?_
  refine olet_e (P := fun y => AW g MX4_fill 54 [some (.ref (u)), some (.ref (b + 9 + i1))] [] (rb (sb h0 b y) u S.1) Q) hs (fun S18 hs => ?_)
  refine AW.aload_n (z := 1) (am_r 30 rfl) rfl rfl ?_
  refine AW.aload_n (z := 0) (am_r 31 rfl) rfl rfl ?_
  refine AW.bipush (am_r 32 rfl) rfl cb_6 ?_
  refine AW.callV (N := MX4_number) (As := [.int ((6 : Int32))]) (S := [(.ref (b + 9 + i1))]) (L0 := [some (.ref (u)), some (.int ((6 : Int32)))]) (b := u) (am_r 33 rfl) rfl ovX4_number q588 rfl rfl rb_0 rfl rfl rfl rfl (dX4_number hR (Sta.blk hst hA)  rfl (cQ_r ?_))
  refine AW.putO (am_r 34 rfl) rfl klX5 (k := 6) (by omega) q92 (Or.inl rfl) (rs_get hd (fun _ => (sb_re hi1))) (Nat.le_trans hA (by omega)) rfl rfl (rs_put hd (fun _ => (sbp_re hi1))) ?_
  refine olet_e (P := fun y => AW g MX4_fill 64 [some (.ref (u)), some (.ref (b + 9 + i1))] [] (rb (sb h0 b y) u S.1) Q) hs (fun S21 hs => ?_)
  have hr := hs.symm
  subst hr
  exact AW.vret (am_r 35 rfl) rfl hQ
def sX4_addTo (S : (Mem × Mem)) (p2 : Int32) : (Mem × Mem) :=
  if p2 = (0 : Int32) then
    olet (si S.2 0 10 0 (sX4_number S.1 (0 : Int32))) fun S4 =>
    olet (si S.1 0 6 0 ((1 : Int32))) fun S5 =>
    (S5, S4)
  else
  if p2 = (1 : Int32) then
    olet (si S.2 0 11 0 (sX4_number S.1 (0 : Int32))) fun S9 =>
    olet (si S.1 0 7 0 ((1 : Int32))) fun S10 =>
    (S10, S9)
  else
  if p2 = (2 : Int32) then
    olet (sX7_addPress S.2 (sX4_number S.1 (0 : Int32))) fun S16 =>
    (S.1, S16)
  else
  if p2 = (3 : Int32) then
    olet (sX7_addRecipe S.2 ) fun r18 =>
    olet (sX4_fill (S.1, r18.2) r18.1) fun S22 =>
    S22
  else
  olet (sX7_addItem S.2 (sX4_number S.1 (0 : Int32)) (sX4_number S.1 (1 : Int32)) (sX4_number S.1 (2 : Int32))) fun S31 =>
  (S.1, S31)
set_option maxRecDepth 100000 in
theorem dX4_addTo {g : AG} {h0 : AH} {u b : Nat} {S : (Mem × Mem)} {Q : AO → AH → Prop} {p2 : Int32} (hR : gB g ≤ u) (hA : gB g ≤ b) (hd : u + 5 ≤ b ∨ b + 58 ≤ u) (hst : Sta g h0)  {r : (Mem × Mem)} (hs : sX4_addTo S p2 = r) (hQ : Q (.ok none) (rb (sb h0 b r.2) u r.1)) : AW g MX4_addTo 0 [some (.ref (u)), some (.ref (b)), some (.int (p2))] [] (rb (sb h0 b S.2) u S.1) Q := by
  unfold sX4_addTo at hs
  refine AW.iload_n (z := 2) (am_r 0 rfl) rfl rfl ?_
  by_cases hw1 : p2 = (0 : Int32)
  · replace hs := (if_pos hw1).symm.trans hs
    refine AW.tabsw_at (tg := 32) (i := 0) (am_r 1 rfl) hw1 rfl rfl rfl (by decide) ?_
    refine AW.aload_n (z := 1) (am_r 2 rfl) rfl rfl ?_
    refine AW.aload_n (z := 0) (am_r 3 rfl) rfl rfl ?_
    refine AW.iconst (am_r 4 rfl) rfl ci_0 ?_
    refine AW.callV (N := MX4_number) (As := [.int ((0 : Int32))]) (S := [(.ref (b))]) (L0 := [some (.ref (u)), some (.int ((0 : Int32)))]) (b := u) (am_r 5 rfl) rfl ovX4_number q588 rfl rfl rb_0 rfl rfl rfl rfl (dX4_number hR (Sta.blk hst hA)  rfl (cQ_r ?_))
    refine AW.putO (am_r 6 rfl) rfl klX7 (k := 10) (by omega) q248 (Or.inl rfl) (rs_get hd (fun _ => sb_st)) hA rfl rfl (rs_put hd (fun _ => (sbp_st (by omega)))) ?_
    refine olet_e (P := fun y => AW g MX4_addTo 41 [some (.ref (u)), some (.ref (b)), some (.int (p2))] [] (rb (sb h0 b y) u S.1) Q) hs (fun S4 hs => ?_)
    refine AW.aload_n (z := 0) (am_r 7 rfl) rfl rfl ?_
    refine AW.iconst (am_r 8 rfl) rfl ci_1 ?_
    refine AW.putO (am_r 9 rfl) rfl klX4 (k := 6) (by omega) q362 (Or.inl rfl) rb_0 hR (nar_b (Or.inr rfl)) rfl (rbp_0 (by decide)) ?_
    refine olet_e (P := fun y => AW g MX4_addTo 46 [some (.ref (u)), some (.ref (b)), some (.int (p2))] [] (rb (sb h0 b S4) u y) Q) hs (fun S5 hs => ?_)
    refine AW.goto (tg := 108) (am_r 10 rfl) rfl ?_
    have hr := hs.symm
    subst hr
    exact AW.vret (am_r 42 rfl) rfl hQ
  replace hs := (if_neg hw1).symm.trans hs
  by_cases hw6 : p2 = (1 : Int32)
  · replace hs := (if_pos hw6).symm.trans hs
    refine AW.tabsw_at (tg := 49) (i := 1) (am_r 1 rfl) hw6 rfl rfl rfl (by decide) ?_
    refine AW.aload_n (z := 1) (am_r 11 rfl) rfl rfl ?_
    refine AW.aload_n (z := 0) (am_r 12 rfl) rfl rfl ?_
    refine AW.iconst (am_r 13 rfl) rfl ci_0 ?_
    refine AW.callV (N := MX4_number) (As := [.int ((0 : Int32))]) (S := [(.ref (b))]) (L0 := [some (.ref (u)), some (.int ((0 : Int32)))]) (b := u) (am_r 14 rfl) rfl ovX4_number q588 rfl rfl rb_0 rfl rfl rfl rfl (dX4_number hR (Sta.blk hst hA)  rfl (cQ_r ?_))
    refine AW.putO (am_r 15 rfl) rfl klX7 (k := 11) (by omega) q251 (Or.inl rfl) (rs_get hd (fun _ => sb_st)) hA rfl rfl (rs_put hd (fun _ => (sbp_st (by omega)))) ?_
    refine olet_e (P := fun y => AW g MX4_addTo 58 [some (.ref (u)), some (.ref (b)), some (.int (p2))] [] (rb (sb h0 b y) u S.1) Q) hs (fun S9 hs => ?_)
    refine AW.aload_n (z := 0) (am_r 16 rfl) rfl rfl ?_
    refine AW.iconst (am_r 17 rfl) rfl ci_1 ?_
    refine AW.putO (am_r 18 rfl) rfl klX4 (k := 7) (by omega) q363 (Or.inl rfl) rb_0 hR (nar_b (Or.inr rfl)) rfl (rbp_0 (by decide)) ?_
    refine olet_e (P := fun y => AW g MX4_addTo 63 [some (.ref (u)), some (.ref (b)), some (.int (p2))] [] (rb (sb h0 b S9) u y) Q) hs (fun S10 hs => ?_)
    refine AW.goto (tg := 108) (am_r 19 rfl) rfl ?_
    have hr := hs.symm
    subst hr
    exact AW.vret (am_r 42 rfl) rfl hQ
  replace hs := (if_neg hw6).symm.trans hs
  by_cases hw11 : p2 = (2 : Int32)
  · replace hs := (if_pos hw11).symm.trans hs
    refine AW.tabsw_at (tg := 66) (i := 2) (am_r 1 rfl) hw11 rfl rfl rfl (by decide) ?_
    refine AW.aload_n (z := 1) (am_r 20 rfl) rfl rfl ?_
    refine AW.aload_n (z := 0) (am_r 21 rfl) rfl rfl ?_
    refine AW.iconst (am_r 22 rfl) rfl ci_0 ?_
    refine AW.callV (N := MX4_number) (As := [.int ((0 : Int32))]) (S := [(.ref (b))]) (L0 := [some (.ref (u)), some (.int ((0 : Int32)))]) (b := u) (am_r 23 rfl) rfl ovX4_number q588 rfl rfl rb_0 rfl rfl rfl rfl (dX4_number hR (Sta.blk hst hA)  rfl (cQ_r ?_))
    refine AW.callV (N := MX7_addPress) (As := [.int (sX4_number S.1 (0 : Int32))]) (S := []) (L0 := [some (.ref (b)), some (.int (sX4_number S.1 (0 : Int32)))]) (b := b) (am_r 24 rfl) rfl ovX7_addPress q592 rfl rfl (rs_get hd (fun _ => sb_st)) rfl rfl rfl rfl (AW.heq (rs_comm hd) (dX7_addPress hA  rfl (cQ_v (AW.heq (rs_comm hd).symm ?_))))
    refine olet_e (P := fun (y : Mem) => AW g MX4_addTo 75 [some (.ref (u)), some (.ref (b)), some (.int (p2))] [] (rb (sb h0 b y) u S.1) Q) hs (fun S16 hs => ?_)
    refine AW.goto (tg := 108) (am_r 25 rfl) rfl ?_
    have hr := hs.symm
    subst hr
    exact AW.vret (am_r 42 rfl) rfl hQ
  replace hs := (if_neg hw11).symm.trans hs
  by_cases hw17 : p2 = (3 : Int32)
  · replace hs := (if_pos hw17).symm.trans hs
    refine AW.tabsw_at (tg := 78) (i := 3) (am_r 1 rfl) hw17 rfl rfl rfl (by decide) ?_
    refine AW.aload_n (z := 0) (am_r 26 rfl) rfl rfl ?_
    refine AW.aload_n (z := 1) (am_r 27 rfl) rfl rfl ?_
    refine AW.callV (N := MX7_addRecipe) (As := []) (S := [(.ref (u))]) (L0 := [some (.ref (b)), none]) (b := b) (am_r 28 rfl) rfl ovX7_addRecipe q604 rfl rfl (rs_get hd (fun _ => sb_st)) rfl rfl rfl rfl (AW.heq (rs_comm hd) (dX7_addRecipe hA  rfl (fun hok19 => (cQ_r (AW.heq (rs_comm hd).symm ?_)))))
    refine olet_e (P := fun (y : (Nat × Mem)) => (rok y.1) → AW g MX4_addTo 83 [some (.ref (u)), some (.ref (b)), some (.int (p2))] [(.ref (b + 9 + y.1)), (.ref (u))] (rb (sb h0 b y.2) u S.1) Q) hs (fun r18 hs hok19 => ?_) hok19
    refine AW.callV (N := MX4_fill) (As := [.ref (b + 9 + r18.1)]) (S := []) (L0 := [some (.ref (u)), some (.ref (b + 9 + r18.1))]) (b := u) (am_r 29 rfl) rfl ovX4_fill q612 rfl rfl rb_0 rfl rfl rfl rfl (dX4_fill (S := (S.1, r18.2)) hR hA hd hst hok19 rfl (cQ_v ?_))
    refine olet_e (P := fun (y : (Mem × Mem)) => AW g MX4_addTo 86 [some (.ref (u)), some (.ref (b)), some (.int (p2))] [] (rb (sb h0 b y.2) u y.1) Q) hs (fun S22 hs => ?_)
    refine AW.goto (tg := 108) (am_r 30 rfl) rfl ?_
    have hr := hs.symm
    subst hr
    exact AW.vret (am_r 42 rfl) rfl hQ
  replace hs := (if_neg hw17).symm.trans hs
  refine AW.tabsw_d (tg := 89) [0, 1, 2, 3] (am_r 1 rfl) rfl (by decide) (by decide) (List.forall_mem_cons.mpr ⟨hw1, List.forall_mem_cons.mpr ⟨hw6, List.forall_mem_cons.mpr ⟨hw11, List.forall_mem_cons.mpr ⟨hw17, fun _ h => nomatch h⟩⟩⟩⟩) ?_
  refine AW.aload_n (z := 1) (am_r 31 rfl) rfl rfl ?_
  refine AW.aload_n (z := 0) (am_r 32 rfl) rfl rfl ?_
  refine AW.iconst (am_r 33 rfl) rfl ci_0 ?_
  refine AW.callV (N := MX4_number) (As := [.int ((0 : Int32))]) (S := [(.ref (b))]) (L0 := [some (.ref (u)), some (.int ((0 : Int32)))]) (b := u) (am_r 34 rfl) rfl ovX4_number q588 rfl rfl rb_0 rfl rfl rfl rfl (dX4_number hR (Sta.blk hst hA)  rfl (cQ_r ?_))
  refine AW.aload_n (z := 0) (am_r 35 rfl) rfl rfl ?_
  refine AW.iconst (am_r 36 rfl) rfl ci_1 ?_
  refine AW.callV (N := MX4_number) (As := [.int ((1 : Int32))]) (S := [(.int (sX4_number S.1 (0 : Int32))), (.ref (b))]) (L0 := [some (.ref (u)), some (.int ((1 : Int32)))]) (b := u) (am_r 37 rfl) rfl ovX4_number q588 rfl rfl rb_0 rfl rfl rfl rfl (dX4_number hR (Sta.blk hst hA)  rfl (cQ_r ?_))
  refine AW.aload_n (z := 0) (am_r 38 rfl) rfl rfl ?_
  refine AW.iconst (am_r 39 rfl) rfl ci_2 ?_
  refine AW.callV (N := MX4_number) (As := [.int ((2 : Int32))]) (S := [(.int (sX4_number S.1 (1 : Int32))), (.int (sX4_number S.1 (0 : Int32))), (.ref (b))]) (L0 := [some (.ref (u)), some (.int ((2 : Int32)))]) (b := u) (am_r 40 rfl) rfl ovX4_number q588 rfl rfl rb_0 rfl rfl rfl rfl (dX4_number hR (Sta.blk hst hA)  rfl (cQ_r ?_))
  refine AW.callV (N := MX7_addItem) (As := [.int (sX4_number S.1 (0 : Int32)), .int (sX4_number S.1 (1 : Int32)), .int (sX4_number S.1 (2 : Int32))]) (S := []) (L0 := [some (.ref (b)), some (.int (sX4_number S.1 (0 : Int32))), some (.int (sX4_number S.1 (1 : Int32))), some (.int (sX4_number S.1 (2 : Int32)))]) (b := b) (am_r 41 rfl) rfl ovX7_addItem q616 rfl rfl (rs_get hd (fun _ => sb_st)) rfl rfl rfl rfl (AW.heq (rs_comm hd) (dX7_addItem hA  rfl (cQ_v (AW.heq (rs_comm hd).symm ?_))))
  refine olet_e (P := fun (y : Mem) => AW g MX4_addTo 108 [some (.ref (u)), some (.ref (b)), some (.int (p2))] [] (rb (sb h0 b y) u S.1) Q) hs (fun S31 hs => ?_)
  have hr := hs.symm
  subst hr
  exact AW.vret (am_r 42 rfl) rfl hQ
noncomputable def sX4_readStatement_j45 (S : (Mem × Mem))  (y0 : Int32) : Option (Int32 × (Mem × Mem)) :=
  if (sX4_isFull S.2 y0) = 0 then
    obind (sX4_readNumbers S.1 y0) fun r10 =>
    if r10.1 = 0 then
      some (((0 : Int32), (r10.2, S.2)))
    else
      olet (sX4_addTo (r10.2, S.2) y0) fun S16 =>
      some (((1 : Int32), S16))
  else
    olet (sX4_failed S.1 (4 : Int32)) fun r17 =>
    some ((r17.1, (r17.2, S.2)))
set_option maxRecDepth 100000 in
theorem dX4_readStatement_j45 {g : AG} {h0 : AH} {u b : Nat} {S : (Mem × Mem)} {Q : AO → AH → Prop}  {y0 : Int32} (hR : gB g ≤ u) (hA : gB g ≤ b) (hd : u + 5 ≤ b ∨ b + 58 ≤ u) (hst : Sta g h0)   {r : (Int32 × (Mem × Mem))} (hs : sX4_readStatement_j45 S  y0 = some r) (hQ : (r.1 = 0 ∨ r.1 = 1) → Q (.ok (some (.int r.1))) (rb (sb h0 b r.2.2) u r.2.1)) : AW g MX4_readStatement 45 [some (.ref (u)), some (.ref (b)), some (.int (y0))] [] (rb (sb h0 b S.2) u S.1) Q := by
  unfold sX4_readStatement_j45 at hs
  refine AW.aload_n (z := 1) (am_r 25 rfl) rfl rfl ?_
  refine AW.iload_n (z := 2) (am_r 26 rfl) rfl rfl ?_
  refine AW.callS (N := MX4_isFull) (As := [.ref (b), .int (y0)]) (S := []) (L0 := [some (.ref (b)), some (.int (y0))]) (am_r 27 rfl) rfl osX4_isFull q558 rfl rfl rfl rfl rfl (AW.heq (rs_comm hd) (dX4_isFull hA  rfl (fun hok8 => (cQ_r (AW.heq (rs_comm hd).symm ?_)))))
  refine AW.if_eq (tg := 59) (am_r 28 rfl) rfl rfl (fun hc9 => ?_) (fun hc9 => ?_)
  · replace hs := (if_pos hc9).symm.trans hs
    refine AW.aload_n (z := 0) (am_r 33 rfl) rfl rfl ?_
    refine AW.iload_n (z := 2) (am_r 34 rfl) rfl rfl ?_
    refine obind_e hs (fun r10 hg12 hs => ?_)
    refine AW.callV (N := MX4_readNumbers) (As := [.int (y0)]) (S := []) (L0 := [some (.ref (u)), some (.int (y0)), none, none]) (b := u) (am_r 35 rfl) rfl ovX4_readNumbers q561 rfl rfl rb_0 rfl rfl rfl rfl (dX4_readNumbers hR (Sta.blk hst hA)  hg12 (fun hok11 => (cQ_r ?_)))
    refine AW.if_ne (tg := 69) (am_r 36 rfl) rfl rfl (fun hc13 => ?_) (fun hc13 => ?_)
    · replace hs := (if_neg hc13).symm.trans hs
      refine AW.aload_n (z := 0) (am_r 39 rfl) rfl rfl ?_
      refine AW.aload_n (z := 1) (am_r 40 rfl) rfl rfl ?_
      refine AW.iload_n (z := 2) (am_r 41 rfl) rfl rfl ?_
      refine AW.callV (N := MX4_addTo) (As := [.ref (b), .int (y0)]) (S := []) (L0 := [some (.ref (u)), some (.ref (b)), some (.int (y0))]) (b := u) (am_r 42 rfl) rfl ovX4_addTo q584 rfl rfl rb_0 rfl rfl rfl rfl (dX4_addTo (S := (r10.2, S.2)) hR hA hd hst  rfl (cQ_v ?_))
      refine olet_e (P := fun (y : (Mem × Mem)) => AW g MX4_readStatement 75 [some (.ref (u)), some (.ref (b)), some (.int (y0))] [] (rb (sb h0 b y.2) u y.1) Q) hs (fun S16 hs => ?_)
      refine AW.iconst (am_r 43 rfl) rfl ci_1 ?_
      have hr := (Option.some.inj hs).symm
      subst hr
      exact AW.zret (am_r 44 rfl) rfl (Or.inr rfl) (hQ (Or.inr rfl))
    · replace hs := (if_pos hc13).symm.trans hs
      refine AW.iconst (am_r 37 rfl) rfl ci_0 ?_
      have hr := (Option.some.inj hs).symm
      subst hr
      exact AW.zret (am_r 38 rfl) rfl (Or.inl rfl) (hQ (Or.inl rfl))
  · replace hs := (if_neg hc9).symm.trans hs
    refine AW.aload_n (z := 0) (am_r 29 rfl) rfl rfl ?_
    refine AW.iconst (am_r 30 rfl) rfl ci_4 ?_
    refine AW.callV (N := MX4_failed) (As := [.int ((4 : Int32))]) (S := []) (L0 := [some (.ref (u)), some (.int ((4 : Int32)))]) (b := u) (am_r 31 rfl) rfl ovX4_failed q554 rfl rfl rb_0 rfl rfl rfl rfl (dX4_failed hR (Sta.blk hst hA)  rfl (fun hok18 => (cQ_r ?_)))
    refine olet_e (P := fun (y : (Int32 × Mem)) => (y.1 = 0 ∨ y.1 = 1) → AW g MX4_readStatement 58 [some (.ref (u)), some (.ref (b)), some (.int (y0))] [(.int (y.1))] (rb (sb h0 b S.2) u y.2) Q) hs (fun r17 hs hok18 => ?_) hok18
    have hr := (Option.some.inj hs).symm
    subst hr
    exact AW.zret (am_r 32 rfl) rfl hok18 (hQ hok18)
noncomputable def sX4_readStatement_j27 (S : (Mem × Mem))  (y0 : Int32) : Option (Int32 × (Mem × Mem)) :=
  if y0 = (1 : Int32) then
    if (gi S.1 0 7 0) = 0 then
      sX4_readStatement_j45 S  y0
    else
      olet (sX4_failed S.1 (3 : Int32)) fun r20 =>
      some ((r20.1, (r20.2, S.2)))
  else
    sX4_readStatement_j45 S  y0
set_option maxRecDepth 100000 in
theorem dX4_readStatement_j27 {g : AG} {h0 : AH} {u b : Nat} {S : (Mem × Mem)} {Q : AO → AH → Prop}  {y0 : Int32} (hR : gB g ≤ u) (hA : gB g ≤ b) (hd : u + 5 ≤ b ∨ b + 58 ≤ u) (hst : Sta g h0)   {r : (Int32 × (Mem × Mem))} (hs : sX4_readStatement_j27 S  y0 = some r) (hQ : (r.1 = 0 ∨ r.1 = 1) → Q (.ok (some (.int r.1))) (rb (sb h0 b r.2.2) u r.2.1)) : AW g MX4_readStatement 27 [some (.ref (u)), some (.ref (b)), some (.int (y0))] [] (rb (sb h0 b S.2) u S.1) Q := by
  unfold sX4_readStatement_j27 at hs
  refine AW.iload_n (z := 2) (am_r 15 rfl) rfl rfl ?_
  refine AW.iconst (am_r 16 rfl) rfl ci_1 ?_
  refine AW.icmp_ne (tg := 45) (am_r 17 rfl) rfl rfl (fun hc6 => ?_) (fun hc6 => ?_)
  · replace hs := (if_neg hc6).symm.trans hs
    exact dX4_readStatement_j45 hR hA hd hst   hs hQ
  · replace hs := (if_pos hc6).symm.trans hs
    refine AW.aload_n (z := 0) (am_r 18 rfl) rfl rfl ?_
    refine AW.getO (am_r 19 rfl) rfl klX4 (k := 7) (by omega) q363 rb_0 rfl ?_
    refine AW.if_eq (tg := 45) (am_r 20 rfl) rfl rfl (fun hc19 => ?_) (fun hc19 => ?_)
    · replace hs := (if_pos hc19).symm.trans hs
      exact dX4_readStatement_j45 hR hA hd hst   hs hQ
    · replace hs := (if_neg hc19).symm.trans hs
      refine AW.aload_n (z := 0) (am_r 21 rfl) rfl rfl ?_
      refine AW.iconst (am_r 22 rfl) rfl ci_3 ?_
      refine AW.callV (N := MX4_failed) (As := [.int ((3 : Int32))]) (S := []) (L0 := [some (.ref (u)), some (.int ((3 : Int32)))]) (b := u) (am_r 23 rfl) rfl ovX4_failed q554 rfl rfl rb_0 rfl rfl rfl rfl (dX4_failed hR (Sta.blk hst hA)  rfl (fun hok21 => (cQ_r ?_)))
      refine olet_e (P := fun (y : (Int32 × Mem)) => (y.1 = 0 ∨ y.1 = 1) → AW g MX4_readStatement 44 [some (.ref (u)), some (.ref (b)), some (.int (y0))] [(.int (y.1))] (rb (sb h0 b S.2) u y.2) Q) hs (fun r20 hs hok21 => ?_) hok21
      have hr := (Option.some.inj hs).symm
      subst hr
      exact AW.zret (am_r 24 rfl) rfl hok21 (hQ hok21)
noncomputable def sX4_readStatement (S : (Mem × Mem))  : Option (Int32 × (Mem × Mem)) :=
  olet (sX4_statementWord S.1 ) fun v3 =>
  if v3 = (-1 : Int32) then
    olet (sX4_failed S.1 (1 : Int32)) fun r25 =>
    some ((r25.1, (r25.2, S.2)))
  else
    if v3 = 0 then
      if (gi S.1 0 6 0) = 0 then
        sX4_readStatement_j27 S  v3
      else
        olet (sX4_failed S.1 (3 : Int32)) fun r23 =>
        some ((r23.1, (r23.2, S.2)))
    else
      sX4_readStatement_j27 S  v3
set_option maxRecDepth 100000 in
theorem dX4_readStatement {g : AG} {h0 : AH} {u b : Nat} {S : (Mem × Mem)} {Q : AO → AH → Prop}  (hR : gB g ≤ u) (hA : gB g ≤ b) (hd : u + 5 ≤ b ∨ b + 58 ≤ u) (hst : Sta g h0)  {r : (Int32 × (Mem × Mem))} (hs : sX4_readStatement S  = some r) (hQ : (r.1 = 0 ∨ r.1 = 1) → Q (.ok (some (.int r.1))) (rb (sb h0 b r.2.2) u r.2.1)) : AW g MX4_readStatement 0 [some (.ref (u)), some (.ref (b)), none] [] (rb (sb h0 b S.2) u S.1) Q := by
  unfold sX4_readStatement at hs
  refine AW.aload_n (z := 0) (am_r 0 rfl) rfl rfl ?_
  refine AW.callV (N := MX4_statementWord) (As := []) (S := []) (L0 := [some (.ref (u))]) (b := u) (am_r 1 rfl) rfl ovX4_statementWord q493 rfl rfl rb_0 rfl rfl rfl rfl (dX4_statementWord hR (Sta.blk hst hA)  rfl (cQ_r ?_))
  refine olet_e (P := fun y => AW g MX4_readStatement 4 [some (.ref (u)), some (.ref (b)), none] [(.int (y))] (rb (sb h0 b S.2) u S.1) Q) hs (fun v3 hs => ?_)
  refine AW.istore_n (L' := [some (.ref (u)), some (.ref (b)), some (.int (v3))]) (z := 2) (am_r 2 rfl) rfl (Nat.le_of_ble_eq_true rfl) rfl ?_
  refine AW.iload_n (z := 2) (am_r 3 rfl) rfl rfl ?_
  refine AW.iconst (am_r 4 rfl) rfl ci_m1 ?_
  refine AW.icmp_ne (tg := 16) (am_r 5 rfl) rfl rfl (fun hc4 => ?_) (fun hc4 => ?_)
  · replace hs := (if_neg hc4).symm.trans hs
    refine AW.iload_n (z := 2) (am_r 10 rfl) rfl rfl ?_
    refine AW.if_ne (tg := 27) (am_r 11 rfl) rfl rfl (fun hc5 => ?_) (fun hc5 => ?_)
    · replace hs := (if_neg hc5).symm.trans hs
      exact dX4_readStatement_j27 hR hA hd hst   hs hQ
    · replace hs := (if_pos hc5).symm.trans hs
      refine AW.aload_n (z := 0) (am_r 12 rfl) rfl rfl ?_
      refine AW.getO (am_r 13 rfl) rfl klX4 (k := 6) (by omega) q362 rb_0 rfl ?_
      refine AW.if_ne (tg := 39) (am_r 14 rfl) rfl rfl (fun hc22 => ?_) (fun hc22 => ?_)
      · replace hs := (if_neg hc22).symm.trans hs
        refine AW.aload_n (z := 0) (am_r 21 rfl) rfl rfl ?_
        refine AW.iconst (am_r 22 rfl) rfl ci_3 ?_
        refine AW.callV (N := MX4_failed) (As := [.int ((3 : Int32))]) (S := []) (L0 := [some (.ref (u)), some (.int ((3 : Int32)))]) (b := u) (am_r 23 rfl) rfl ovX4_failed q554 rfl rfl rb_0 rfl rfl rfl rfl (dX4_failed hR (Sta.blk hst hA)  rfl (fun hok24 => (cQ_r ?_)))
        refine olet_e (P := fun (y : (Int32 × Mem)) => (y.1 = 0 ∨ y.1 = 1) → AW g MX4_readStatement 44 [some (.ref (u)), some (.ref (b)), some (.int (v3))] [(.int (y.1))] (rb (sb h0 b S.2) u y.2) Q) hs (fun r23 hs hok24 => ?_) hok24
        have hr := (Option.some.inj hs).symm
        subst hr
        exact AW.zret (am_r 24 rfl) rfl hok24 (hQ hok24)
      · replace hs := (if_pos hc22).symm.trans hs
        exact dX4_readStatement_j27 hR hA hd hst   hs hQ
  · replace hs := (if_pos hc4).symm.trans hs
    refine AW.aload_n (z := 0) (am_r 6 rfl) rfl rfl ?_
    refine AW.iconst (am_r 7 rfl) rfl ci_1 ?_
    refine AW.callV (N := MX4_failed) (As := [.int ((1 : Int32))]) (S := []) (L0 := [some (.ref (u)), some (.int ((1 : Int32)))]) (b := u) (am_r 8 rfl) rfl ovX4_failed q554 rfl rfl rb_0 rfl rfl rfl rfl (dX4_failed hR (Sta.blk hst hA)  rfl (fun hok26 => (cQ_r ?_)))
    refine olet_e (P := fun (y : (Int32 × Mem)) => (y.1 = 0 ∨ y.1 = 1) → AW g MX4_readStatement 15 [some (.ref (u)), some (.ref (b)), some (.int (v3))] [(.int (y.1))] (rb (sb h0 b S.2) u y.2) Q) hs (fun r25 hs hok26 => ?_) hok26
    have hr := (Option.some.inj hs).symm
    subst hr
    exact AW.zret (am_r 9 rfl) rfl hok26 (hQ hok26)
noncomputable def sX4_readStudio_l12_step   (a : (Int32 × Int32 × (Mem × Mem))) : Option ((Int32 × Int32 × (Mem × Mem)) ⊕ (Int32 × (Mem × Mem))) :=
  if a.1 = 0 then
    oinr (
    olet (si a.2.2.1 1 1 0 ((0 : Int32))) fun S10 =>
    some ((a.1, (S10, a.2.2.2))))
  else
    if (1000 : Int32) < a.2.1 then
      oinr (
      olet (si a.2.2.1 1 1 0 ((0 : Int32))) fun S14 =>
      some ((a.1, (S14, a.2.2.2))))
    else
      obind (sX8_step a.2.2.1 ) fun r15 =>
      if (gi r15 1 2 0) = 0 then
        oinr (
        olet (si r15 1 1 0 ((0 : Int32))) fun S24 =>
        some ((a.1, (S24, a.2.2.2))))
      else
        obind (sX4_readStatement (r15, a.2.2.2) ) fun r19 =>
        some (.inl (r19.1, a.2.1 + (1 : Int32), r19.2))
noncomputable def sX4_readStudio_l12   (a : (Int32 × Int32 × (Mem × Mem))) : Option (Int32 × (Mem × Mem)) := itw (sX4_readStudio_l12_step  ) a
set_option maxRecDepth 100000 in
theorem dX4_readStudio_l12 {g : AG} {h0 : AH} {u b : Nat} {Q : AO → AH → Prop}  (hR : gB g ≤ u) (hA : gB g ≤ b) (hd : u + 5 ≤ b ∨ b + 58 ≤ u) (hst : Sta g h0)  {a : (Int32 × Int32 × (Mem × Mem))} (hk0 : a.1 = 0 ∨ a.1 = 1) {r : (Int32 × (Mem × Mem))} (hs : sX4_readStudio_l12   a = some r) (hQ : (r.1 = 0 ∨ r.1 = 1) → Q (.ok (some (.int r.1))) (rb (sb h0 b r.2.2) u r.2.1)) : AW g MX4_readStudio 12 [some (.ref (u)), some (.ref (b)), some (.int (a.1)), some (.int (a.2.1))] [] (rb (sb h0 b a.2.2.2) u a.2.2.1) Q := by
  refine itw_e (P := fun a => a.1 = 0 ∨ a.1 = 1 → AW g MX4_readStudio 12 [some (.ref (u)), some (.ref (b)), some (.int (a.1)), some (.int (a.2.1))] [] (rb (sb h0 b a.2.2.2) u a.2.2.1) Q) (Post := fun r => (r.1 = 0 ∨ r.1 = 1) → Q (.ok (some (.int r.1))) (rb (sb h0 b r.2.2) u r.2.1)) (fun a r hs hc he hk0 => ?_) hs hQ hk0
  unfold sX4_readStudio_l12_step at hs
  refine AW.iload_n (z := 2) (am_r 8 rfl) rfl rfl ?_
  refine AW.if_eq (tg := 55) (am_r 9 rfl) rfl rfl (fun hc7 => ?_) (fun hc7 => ?_)
  · replace hs := (if_pos hc7).symm.trans hs
    refine oinr_e hs (fun z8 hz9 hs => ?_)
    have hQ := he _ hz9
    refine AW.aload_n (z := 0) (am_r 27 rfl) rfl rfl ?_
    refine AW.getO (am_r 28 rfl) rfl klX4 (k := 0) (by omega) q352 rb_0 rfl ?_
    refine AW.iconst (am_r 29 rfl) rfl ci_0 ?_
    refine AW.putO (am_r 30 rfl) rfl klX8 (k := 1) (by omega) q327 (Or.inl rfl) rb_1 (Nat.le_trans hR (by omega)) rfl rfl (rbp_1 (by decide)) ?_
    refine olet_e (P := fun y => AW g MX4_readStudio 63 [some (.ref (u)), some (.ref (b)), some (.int (a.1)), some (.int (a.2.1))] [] (rb (sb h0 b a.2.2.2) u y) Q) hs (fun S10 hs => ?_)
    refine AW.iload_n (z := 2) (am_r 31 rfl) rfl rfl ?_
    have hr := (Option.some.inj hs).symm
    subst hr
    exact AW.zret (am_r 32 rfl) rfl hk0 (hQ hk0)
  · replace hs := (if_neg hc7).symm.trans hs
    refine AW.iload_n (z := 3) (am_r 10 rfl) rfl rfl ?_
    refine AW.sipush (am_r 11 rfl) rfl cs_1000 ?_
    refine AW.icmp_gt (tg := 55) (am_r 12 rfl) rfl rfl (fun hc11 => ?_) (fun hc11 => ?_)
    · replace hs := (if_pos hc11).symm.trans hs
      refine oinr_e hs (fun z12 hz13 hs => ?_)
      have hQ := he _ hz13
      refine AW.aload_n (z := 0) (am_r 27 rfl) rfl rfl ?_
      refine AW.getO (am_r 28 rfl) rfl klX4 (k := 0) (by omega) q352 rb_0 rfl ?_
      refine AW.iconst (am_r 29 rfl) rfl ci_0 ?_
      refine AW.putO (am_r 30 rfl) rfl klX8 (k := 1) (by omega) q327 (Or.inl rfl) rb_1 (Nat.le_trans hR (by omega)) rfl rfl (rbp_1 (by decide)) ?_
      refine olet_e (P := fun y => AW g MX4_readStudio 63 [some (.ref (u)), some (.ref (b)), some (.int (a.1)), some (.int (a.2.1))] [] (rb (sb h0 b a.2.2.2) u y) Q) hs (fun S14 hs => ?_)
      refine AW.iload_n (z := 2) (am_r 31 rfl) rfl rfl ?_
      have hr := (Option.some.inj hs).symm
      subst hr
      exact AW.zret (am_r 32 rfl) rfl hk0 (hQ hk0)
    · replace hs := (if_neg hc11).symm.trans hs
      refine AW.aload_n (z := 0) (am_r 13 rfl) rfl rfl ?_
      refine AW.getO (am_r 14 rfl) rfl klX4 (k := 0) (by omega) q352 rb_0 rfl ?_
      refine obind_e hs (fun r15 hg17 hs => ?_)
      refine AW.callV (N := MX8_step) (As := []) (S := []) (L0 := [some (.ref (u + 1))]) (b := u + 1) (am_r 15 rfl) rfl ovX8_step q464 rfl rfl rb_1 rfl rfl rfl rfl (dX8_step hR (Sta.blk hst hA)  hg17 (cQ_v ?_))
      refine AW.aload_n (z := 0) (am_r 16 rfl) rfl rfl ?_
      refine AW.getO (am_r 17 rfl) rfl klX4 (k := 0) (by omega) q352 rb_0 rfl ?_
      refine AW.getO (am_r 18 rfl) rfl klX8 (k := 2) (by omega) q328 rb_1 rfl ?_
      refine AW.if_ne (tg := 43) (am_r 19 rfl) rfl rfl (fun hc18 => ?_) (fun hc18 => ?_)
      · replace hs := (if_neg hc18).symm.trans hs
        refine AW.aload_n (z := 0) (am_r 21 rfl) rfl rfl ?_
        refine AW.aload_n (z := 1) (am_r 22 rfl) rfl rfl ?_
        refine obind_e hs (fun r19 hg21 hs => ?_)
        refine AW.callV (N := MX4_readStatement) (As := [.ref (b)]) (S := []) (L0 := [some (.ref (u)), some (.ref (b)), none]) (b := u) (am_r 23 rfl) rfl ovX4_readStatement q489 rfl rfl rb_0 rfl rfl rfl rfl (dX4_readStatement (S := (r15, a.2.2.2)) hR hA hd hst  hg21 (fun hok20 => (cQ_r ?_)))
        refine AW.istore_n (L' := [some (.ref (u)), some (.ref (b)), some (.int (r19.1)), some (.int (a.2.1))]) (z := 2) (am_r 24 rfl) rfl (Nat.le_of_ble_eq_true rfl) rfl ?_
        refine AW.iinc (v := a.2.1 + (1 : Int32)) (L' := [some (.ref (u)), some (.ref (b)), some (.int (r19.1)), some (.int (a.2.1 + (1 : Int32)))]) (am_r 25 rfl) rfl (Nat.le_of_ble_eq_true rfl) rfl (congrArg (fun z => a.2.1 + z) ci_1) rfl ?_
        refine AW.goto (tg := 12) (am_r 26 rfl) rfl ?_
        have hr := (Option.some.inj hs).symm
        exact hc (r19.1, a.2.1 + (1 : Int32), r19.2) hr hok20
      · replace hs := (if_pos hc18).symm.trans hs
        refine oinr_e hs (fun z22 hz23 hs => ?_)
        have hQ := he _ hz23
        refine AW.goto (tg := 55) (am_r 20 rfl) rfl ?_
        refine AW.aload_n (z := 0) (am_r 27 rfl) rfl rfl ?_
        refine AW.getO (am_r 28 rfl) rfl klX4 (k := 0) (by omega) q352 rb_0 rfl ?_
        refine AW.iconst (am_r 29 rfl) rfl ci_0 ?_
        refine AW.putO (am_r 30 rfl) rfl klX8 (k := 1) (by omega) q327 (Or.inl rfl) rb_1 (Nat.le_trans hR (by omega)) rfl rfl (rbp_1 (by decide)) ?_
        refine olet_e (P := fun y => AW g MX4_readStudio 63 [some (.ref (u)), some (.ref (b)), some (.int (a.1)), some (.int (a.2.1))] [] (rb (sb h0 b a.2.2.2) u y) Q) hs (fun S24 hs => ?_)
        refine AW.iload_n (z := 2) (am_r 31 rfl) rfl rfl ?_
        have hr := (Option.some.inj hs).symm
        subst hr
        exact AW.zret (am_r 32 rfl) rfl hk0 (hQ hk0)
noncomputable def sX4_readStudio (S : (Mem × Mem))  : Option (Int32 × (Mem × Mem)) :=
  olet (sX4_begin S.1 ) fun S3 =>
  olet (sX7_clear S.2 ) fun S6 =>
  sX4_readStudio_l12   ((1 : Int32), (0 : Int32), (S3, S6))
set_option maxRecDepth 100000 in
theorem dX4_readStudio {g : AG} {h0 : AH} {u b : Nat} {S : (Mem × Mem)} {Q : AO → AH → Prop}  (hR : gB g ≤ u) (hA : gB g ≤ b) (hd : u + 5 ≤ b ∨ b + 58 ≤ u) (hst : Sta g h0)  {r : (Int32 × (Mem × Mem))} (hs : sX4_readStudio S  = some r) (hQ : (r.1 = 0 ∨ r.1 = 1) → Q (.ok (some (.int r.1))) (rb (sb h0 b r.2.2) u r.2.1)) : AW g MX4_readStudio 0 [some (.ref (u)), some (.ref (b)), none, none] [] (rb (sb h0 b S.2) u S.1) Q := by
  unfold sX4_readStudio at hs
  refine AW.aload_n (z := 0) (am_r 0 rfl) rfl rfl ?_
  refine AW.callV (N := MX4_begin) (As := []) (S := []) (L0 := [some (.ref (u))]) (b := u) (am_r 1 rfl) rfl ovX4_begin q448 rfl rfl rb_0 rfl rfl rfl rfl (dX4_begin hR (Sta.blk hst hA)  rfl (cQ_v ?_))
  refine olet_e (P := fun (y : Mem) => AW g MX4_readStudio 4 [some (.ref (u)), some (.ref (b)), none, none] [] (rb (sb h0 b S.2) u y) Q) hs (fun S3 hs => ?_)
  refine AW.aload_n (z := 1) (am_r 2 rfl) rfl rfl ?_
  refine AW.callV (N := MX7_clear) (As := []) (S := []) (L0 := [some (.ref (b))]) (b := b) (am_r 3 rfl) rfl ovX7_clear q456 rfl rfl (rs_get hd (fun _ => sb_st)) rfl rfl rfl rfl (AW.heq (rs_comm hd) (dX7_clear hA  rfl (cQ_v (AW.heq (rs_comm hd).symm ?_))))
  refine olet_e (P := fun (y : Mem) => AW g MX4_readStudio 8 [some (.ref (u)), some (.ref (b)), none, none] [] (rb (sb h0 b y) u S3) Q) hs (fun S6 hs => ?_)
  refine AW.iconst (am_r 4 rfl) rfl ci_1 ?_
  refine AW.istore_n (L' := [some (.ref (u)), some (.ref (b)), some (.int ((1 : Int32))), none]) (z := 2) (am_r 5 rfl) rfl (Nat.le_of_ble_eq_true rfl) rfl ?_
  refine AW.iconst (am_r 6 rfl) rfl ci_0 ?_
  refine AW.istore_n (L' := [some (.ref (u)), some (.ref (b)), some (.int ((1 : Int32))), some (.int ((0 : Int32)))]) (z := 3) (am_r 7 rfl) rfl (Nat.le_of_ble_eq_true rfl) rfl ?_
  exact dX4_readStudio_l12 hR hA hd hst  (Or.inr rfl) hs hQ
def sX4_commandWord (S : Mem)  : Int32 :=
  if (sX8_isWord S 9) = 0 then
    if (sX8_isWord S 10) = 0 then
      if (sX8_isWord S 11) = 0 then
        if (sX8_isWord S 12) = 0 then
          if (sX8_isWord S 13) = 0 then
            if (sX8_isWord S 14) = 0 then
              (-1 : Int32)
            else
              (10 : Int32)
          else
            (9 : Int32)
        else
          (8 : Int32)
      else
        (7 : Int32)
    else
      (6 : Int32)
  else
    (5 : Int32)
set_option maxRecDepth 100000 in
theorem dX4_commandWord {g : AG} {h0 : AH} {u : Nat} {S : Mem} {Q : AO → AH → Prop}  (hR : gB g ≤ u) (hst : Sta g h0)  {r : Int32} (hs : sX4_commandWord S  = r) (hQ : Q (.ok (some (.int r))) (rb h0 u S)) : AW g MX4_commandWord 0 [some (.ref (u))] [] (rb h0 u S) Q := by
  unfold sX4_commandWord at hs
  refine AW.aload_n (z := 0) (am_r 0 rfl) rfl rfl ?_
  refine AW.getO (am_r 1 rfl) rfl klX4 (k := 0) (by omega) q352 rb_0 rfl ?_
  refine AW.ldcs (k := 9) (am_r 2 rfl) rfl rfl rfl ?_
  refine AW.callV (N := MX8_isWord) (As := [.ref (gS g 9)]) (S := []) (L0 := [some (.ref (u + 1)), some (.ref (gS g 9)), none]) (b := u + 1) (am_r 3 rfl) rfl ovX8_isWord q498 rfl rfl rb_1 rfl rfl rfl rfl (dX8_isWord hR hst tok_9 rfl (fun hok2 => (cQ_r ?_)))
  refine AW.if_eq (tg := 14) (am_r 4 rfl) rfl rfl (fun hc3 => ?_) (fun hc3 => ?_)
  · replace hs := (if_pos hc3).symm.trans hs
    refine AW.aload_n (z := 0) (am_r 7 rfl) rfl rfl ?_
    refine AW.getO (am_r 8 rfl) rfl klX4 (k := 0) (by omega) q352 rb_0 rfl ?_
    refine AW.ldcs (k := 10) (am_r 9 rfl) rfl rfl rfl ?_
    refine AW.callV (N := MX8_isWord) (As := [.ref (gS g 10)]) (S := []) (L0 := [some (.ref (u + 1)), some (.ref (gS g 10)), none]) (b := u + 1) (am_r 10 rfl) rfl ovX8_isWord q498 rfl rfl rb_1 rfl rfl rfl rfl (dX8_isWord hR hst tok_10 rfl (fun hok5 => (cQ_r ?_)))
    refine AW.if_eq (tg := 29) (am_r 11 rfl) rfl rfl (fun hc6 => ?_) (fun hc6 => ?_)
    · replace hs := (if_pos hc6).symm.trans hs
      refine AW.aload_n (z := 0) (am_r 14 rfl) rfl rfl ?_
      refine AW.getO (am_r 15 rfl) rfl klX4 (k := 0) (by omega) q352 rb_0 rfl ?_
      refine AW.ldcs (k := 11) (am_r 16 rfl) rfl rfl rfl ?_
      refine AW.callV (N := MX8_isWord) (As := [.ref (gS g 11)]) (S := []) (L0 := [some (.ref (u + 1)), some (.ref (gS g 11)), none]) (b := u + 1) (am_r 17 rfl) rfl ovX8_isWord q498 rfl rfl rb_1 rfl rfl rfl rfl (dX8_isWord hR hst tok_11 rfl (fun hok8 => (cQ_r ?_)))
      refine AW.if_eq (tg := 44) (am_r 18 rfl) rfl rfl (fun hc9 => ?_) (fun hc9 => ?_)
      · replace hs := (if_pos hc9).symm.trans hs
        refine AW.aload_n (z := 0) (am_r 21 rfl) rfl rfl ?_
        refine AW.getO (am_r 22 rfl) rfl klX4 (k := 0) (by omega) q352 rb_0 rfl ?_
        refine AW.ldcs (k := 12) (am_r 23 rfl) rfl rfl rfl ?_
        refine AW.callV (N := MX8_isWord) (As := [.ref (gS g 12)]) (S := []) (L0 := [some (.ref (u + 1)), some (.ref (gS g 12)), none]) (b := u + 1) (am_r 24 rfl) rfl ovX8_isWord q498 rfl rfl rb_1 rfl rfl rfl rfl (dX8_isWord hR hst tok_12 rfl (fun hok11 => (cQ_r ?_)))
        refine AW.if_eq (tg := 59) (am_r 25 rfl) rfl rfl (fun hc12 => ?_) (fun hc12 => ?_)
        · replace hs := (if_pos hc12).symm.trans hs
          refine AW.aload_n (z := 0) (am_r 28 rfl) rfl rfl ?_
          refine AW.getO (am_r 29 rfl) rfl klX4 (k := 0) (by omega) q352 rb_0 rfl ?_
          refine AW.ldcs (k := 13) (am_r 30 rfl) rfl rfl rfl ?_
          refine AW.callV (N := MX8_isWord) (As := [.ref (gS g 13)]) (S := []) (L0 := [some (.ref (u + 1)), some (.ref (gS g 13)), none]) (b := u + 1) (am_r 31 rfl) rfl ovX8_isWord q498 rfl rfl rb_1 rfl rfl rfl rfl (dX8_isWord hR hst tok_13 rfl (fun hok14 => (cQ_r ?_)))
          refine AW.if_eq (tg := 74) (am_r 32 rfl) rfl rfl (fun hc15 => ?_) (fun hc15 => ?_)
          · replace hs := (if_pos hc15).symm.trans hs
            refine AW.aload_n (z := 0) (am_r 35 rfl) rfl rfl ?_
            refine AW.getO (am_r 36 rfl) rfl klX4 (k := 0) (by omega) q352 rb_0 rfl ?_
            refine AW.ldcs (k := 14) (am_r 37 rfl) rfl rfl rfl ?_
            refine AW.callV (N := MX8_isWord) (As := [.ref (gS g 14)]) (S := []) (L0 := [some (.ref (u + 1)), some (.ref (gS g 14)), none]) (b := u + 1) (am_r 38 rfl) rfl ovX8_isWord q498 rfl rfl rb_1 rfl rfl rfl rfl (dX8_isWord hR hst tok_14 rfl (fun hok17 => (cQ_r ?_)))
            refine AW.if_eq (tg := 91) (am_r 39 rfl) rfl rfl (fun hc18 => ?_) (fun hc18 => ?_)
            · replace hs := (if_pos hc18).symm.trans hs
              refine AW.iconst (am_r 42 rfl) rfl ci_m1 ?_
              have hr := hs.symm
              subst hr
              exact AW.iret (am_r 43 rfl) rfl hQ
            · replace hs := (if_neg hc18).symm.trans hs
              refine AW.bipush (am_r 40 rfl) rfl cb_10 ?_
              refine AW.goto (tg := 92) (am_r 41 rfl) rfl ?_
              have hr := hs.symm
              subst hr
              exact AW.iret (am_r 43 rfl) rfl hQ
          · replace hs := (if_neg hc15).symm.trans hs
            refine AW.bipush (am_r 33 rfl) rfl cb_9 ?_
            have hr := hs.symm
            subst hr
            exact AW.iret (am_r 34 rfl) rfl hQ
        · replace hs := (if_neg hc12).symm.trans hs
          refine AW.bipush (am_r 26 rfl) rfl cb_8 ?_
          have hr := hs.symm
          subst hr
          exact AW.iret (am_r 27 rfl) rfl hQ
      · replace hs := (if_neg hc9).symm.trans hs
        refine AW.bipush (am_r 19 rfl) rfl cb_7 ?_
        have hr := hs.symm
        subst hr
        exact AW.iret (am_r 20 rfl) rfl hQ
    · replace hs := (if_neg hc6).symm.trans hs
      refine AW.bipush (am_r 12 rfl) rfl cb_6 ?_
      have hr := hs.symm
      subst hr
      exact AW.iret (am_r 13 rfl) rfl hQ
  · replace hs := (if_neg hc3).symm.trans hs
    refine AW.iconst (am_r 5 rfl) rfl ci_5 ?_
    have hr := hs.symm
    subst hr
    exact AW.iret (am_r 6 rfl) rfl hQ
noncomputable def sX4_keepCommand (S : Mem) (p1 : Int32) : Option Mem :=
  olet ((gi S 0 3 0) * (5 : Int32)) fun v1 =>
  if v1 < 0 then
    some (S)
  else
    if (200 : Int32) ≤ (v1 + (4 : Int32)) then
      some (S)
    else
      oif (inb v1 200) (
      olet (si S 4 v1.toNatClampNeg 0 (p1)) fun S5 =>
      oif (inb (v1 + (1 : Int32)) 200) (
      olet (si S5 4 (v1 + (1 : Int32)).toNatClampNeg 0 (sX4_number S5 (0 : Int32))) fun S9 =>
      oif (inb (v1 + (2 : Int32)) 200) (
      olet (si S9 4 (v1 + (2 : Int32)).toNatClampNeg 0 (sX4_number S9 (1 : Int32))) fun S13 =>
      oif (inb (v1 + (3 : Int32)) 200) (
      olet (si S13 4 (v1 + (3 : Int32)).toNatClampNeg 0 (sX4_number S13 (2 : Int32))) fun S17 =>
      oif (inb (v1 + (4 : Int32)) 200) (
      olet (si S17 4 (v1 + (4 : Int32)).toNatClampNeg 0 (sX4_number S17 (3 : Int32))) fun S21 =>
      olet (si S21 0 3 0 ((gi S21 0 3 0) + (1 : Int32))) fun S22 =>
      some (S22))))))
set_option maxRecDepth 100000 in
theorem dX4_keepCommand {g : AG} {h0 : AH} {u : Nat} {S : Mem} {Q : AO → AH → Prop} {p1 : Int32} (hR : gB g ≤ u) (hst : Sta g h0)  {r : Mem} (hs : sX4_keepCommand S p1 = some r) (hQ : Q (.ok none) (rb h0 u r)) : AW g MX4_keepCommand 0 [some (.ref (u)), some (.int (p1)), none] [] (rb h0 u S) Q := by
  unfold sX4_keepCommand at hs
  refine AW.aload_n (z := 0) (am_r 0 rfl) rfl rfl ?_
  refine AW.getO (am_r 1 rfl) rfl klX4 (k := 3) (by omega) q356 rb_0 rfl ?_
  refine AW.iconst (am_r 2 rfl) rfl ci_5 ?_
  refine AW.imul (am_r 3 rfl) rfl ?_
  refine olet_e (P := fun y => AW g MX4_keepCommand 6 [some (.ref (u)), some (.int (p1)), none] [(.int (y))] (rb h0 u S) Q) hs (fun v1 hs => ?_)
  refine AW.istore_n (L' := [some (.ref (u)), some (.int (p1)), some (.int (v1))]) (z := 2) (am_r 4 rfl) rfl (Nat.le_of_ble_eq_true rfl) rfl ?_
  refine AW.iload_n (z := 2) (am_r 5 rfl) rfl rfl ?_
  refine AW.if_lt (tg := 91) (am_r 6 rfl) rfl rfl (fun hc2 => ?_) (fun hc2 => ?_)
  · replace hs := (if_pos hc2).symm.trans hs
    have hr := (Option.some.inj hs).symm
    subst hr
    exact AW.vret (am_r 61 rfl) rfl hQ
  · replace hs := (if_neg hc2).symm.trans hs
    refine AW.iload_n (z := 2) (am_r 7 rfl) rfl rfl ?_
    refine AW.iconst (am_r 8 rfl) rfl ci_4 ?_
    refine AW.iadd (am_r 9 rfl) rfl ?_
    refine AW.aload_n (z := 0) (am_r 10 rfl) rfl rfl ?_
    refine AW.getO (am_r 11 rfl) rfl klX4 (k := 2) (by omega) q355 rb_0 rfl ?_
    refine AW.alen (am_r 12 rfl) rfl rfl rb_4 cn_200 ?_
    refine AW.icmp_ge (tg := 91) (am_r 13 rfl) rfl rfl (fun hc3 => ?_) (fun hc3 => ?_)
    · replace hs := (if_pos hc3).symm.trans hs
      have hr := (Option.some.inj hs).symm
      subst hr
      exact AW.vret (am_r 61 rfl) rfl hQ
    · replace hs := (if_neg hc3).symm.trans hs
      refine AW.aload_n (z := 0) (am_r 14 rfl) rfl rfl ?_
      refine AW.getO (am_r 15 rfl) rfl klX4 (k := 2) (by omega) q355 rb_0 rfl ?_
      refine AW.iload_n (z := 2) (am_r 16 rfl) rfl rfl ?_
      refine AW.iload_n (z := 1) (am_r 17 rfl) rfl rfl ?_
      refine oif_g hs (fun hg4 hs => ?_)
      refine AW.iast (am_r 18 rfl) rfl rb_4 (Nat.le_trans hR (by omega)) (vp_of_inb hg4) ?_
      rw [show _ = _ from rbp_4]
      refine olet_e (P := fun y => AW g MX4_keepCommand 29 [some (.ref (u)), some (.int (p1)), some (.int (v1))] [] (rb h0 u y) Q) hs (fun S5 hs => ?_)
      refine AW.aload_n (z := 0) (am_r 19 rfl) rfl rfl ?_
      refine AW.getO (am_r 20 rfl) rfl klX4 (k := 2) (by omega) q355 rb_0 rfl ?_
      refine AW.iload_n (z := 2) (am_r 21 rfl) rfl rfl ?_
      refine AW.iconst (am_r 22 rfl) rfl ci_1 ?_
      refine AW.iadd (am_r 23 rfl) rfl ?_
      refine AW.aload_n (z := 0) (am_r 24 rfl) rfl rfl ?_
      refine AW.iconst (am_r 25 rfl) rfl ci_0 ?_
      refine AW.callV (N := MX4_number) (As := [.int ((0 : Int32))]) (S := [(.int (v1 + (1 : Int32))), (.ref (u + 4))]) (L0 := [some (.ref (u)), some (.int ((0 : Int32)))]) (b := u) (am_r 26 rfl) rfl ovX4_number q588 rfl rfl rb_0 rfl rfl rfl rfl (dX4_number hR hst  rfl (cQ_r ?_))
      refine oif_g hs (fun hg8 hs => ?_)
      refine AW.iast (am_r 27 rfl) rfl rb_4 (Nat.le_trans hR (by omega)) (vp_of_inb hg8) ?_
      rw [show _ = _ from rbp_4]
      refine olet_e (P := fun y => AW g MX4_keepCommand 42 [some (.ref (u)), some (.int (p1)), some (.int (v1))] [] (rb h0 u y) Q) hs (fun S9 hs => ?_)
      refine AW.aload_n (z := 0) (am_r 28 rfl) rfl rfl ?_
      refine AW.getO (am_r 29 rfl) rfl klX4 (k := 2) (by omega) q355 rb_0 rfl ?_
      refine AW.iload_n (z := 2) (am_r 30 rfl) rfl rfl ?_
      refine AW.iconst (am_r 31 rfl) rfl ci_2 ?_
      refine AW.iadd (am_r 32 rfl) rfl ?_
      refine AW.aload_n (z := 0) (am_r 33 rfl) rfl rfl ?_
      refine AW.iconst (am_r 34 rfl) rfl ci_1 ?_
      refine AW.callV (N := MX4_number) (As := [.int ((1 : Int32))]) (S := [(.int (v1 + (2 : Int32))), (.ref (u + 4))]) (L0 := [some (.ref (u)), some (.int ((1 : Int32)))]) (b := u) (am_r 35 rfl) rfl ovX4_number q588 rfl rfl rb_0 rfl rfl rfl rfl (dX4_number hR hst  rfl (cQ_r ?_))
      refine oif_g hs (fun hg12 hs => ?_)
      refine AW.iast (am_r 36 rfl) rfl rb_4 (Nat.le_trans hR (by omega)) (vp_of_inb hg12) ?_
      rw [show _ = _ from rbp_4]
      refine olet_e (P := fun y => AW g MX4_keepCommand 55 [some (.ref (u)), some (.int (p1)), some (.int (v1))] [] (rb h0 u y) Q) hs (fun S13 hs => ?_)
      refine AW.aload_n (z := 0) (am_r 37 rfl) rfl rfl ?_
      refine AW.getO (am_r 38 rfl) rfl klX4 (k := 2) (by omega) q355 rb_0 rfl ?_
      refine AW.iload_n (z := 2) (am_r 39 rfl) rfl rfl ?_
      refine AW.iconst (am_r 40 rfl) rfl ci_3 ?_
      refine AW.iadd (am_r 41 rfl) rfl ?_
      refine AW.aload_n (z := 0) (am_r 42 rfl) rfl rfl ?_
      refine AW.iconst (am_r 43 rfl) rfl ci_2 ?_
      refine AW.callV (N := MX4_number) (As := [.int ((2 : Int32))]) (S := [(.int (v1 + (3 : Int32))), (.ref (u + 4))]) (L0 := [some (.ref (u)), some (.int ((2 : Int32)))]) (b := u) (am_r 44 rfl) rfl ovX4_number q588 rfl rfl rb_0 rfl rfl rfl rfl (dX4_number hR hst  rfl (cQ_r ?_))
      refine oif_g hs (fun hg16 hs => ?_)
      refine AW.iast (am_r 45 rfl) rfl rb_4 (Nat.le_trans hR (by omega)) (vp_of_inb hg16) ?_
      rw [show _ = _ from rbp_4]
      refine olet_e (P := fun y => AW g MX4_keepCommand 68 [some (.ref (u)), some (.int (p1)), some (.int (v1))] [] (rb h0 u y) Q) hs (fun S17 hs => ?_)
      refine AW.aload_n (z := 0) (am_r 46 rfl) rfl rfl ?_
      refine AW.getO (am_r 47 rfl) rfl klX4 (k := 2) (by omega) q355 rb_0 rfl ?_
      refine AW.iload_n (z := 2) (am_r 48 rfl) rfl rfl ?_
      refine AW.iconst (am_r 49 rfl) rfl ci_4 ?_
      refine AW.iadd (am_r 50 rfl) rfl ?_
      refine AW.aload_n (z := 0) (am_r 51 rfl) rfl rfl ?_
      refine AW.iconst (am_r 52 rfl) rfl ci_3 ?_
      refine AW.callV (N := MX4_number) (As := [.int ((3 : Int32))]) (S := [(.int (v1 + (4 : Int32))), (.ref (u + 4))]) (L0 := [some (.ref (u)), some (.int ((3 : Int32)))]) (b := u) (am_r 53 rfl) rfl ovX4_number q588 rfl rfl rb_0 rfl rfl rfl rfl (dX4_number hR hst  rfl (cQ_r ?_))
      refine oif_g hs (fun hg20 hs => ?_)
      refine AW.iast (am_r 54 rfl) rfl rb_4 (Nat.le_trans hR (by omega)) (vp_of_inb hg20) ?_
      rw [show _ = _ from rbp_4]
      refine olet_e (P := fun y => AW g MX4_keepCommand 81 [some (.ref (u)), some (.int (p1)), some (.int (v1))] [] (rb h0 u y) Q) hs (fun S21 hs => ?_)
      refine AW.aload_n (z := 0) (am_r 55 rfl) rfl rfl ?_
      refine AW.dup (am_r 56 rfl) rfl rfl ?_
      refine AW.getO (am_r 57 rfl) rfl klX4 (k := 3) (by omega) q356 rb_0 rfl ?_
      refine AW.iconst (am_r 58 rfl) rfl ci_1 ?_
      refine AW.iadd (am_r 59 rfl) rfl ?_
      refine AW.putO (am_r 60 rfl) rfl klX4 (k := 3) (by omega) q356 (Or.inl rfl) rb_0 hR rfl rfl (rbp_0 (by decide)) ?_
      refine olet_e (P := fun y => AW g MX4_keepCommand 91 [some (.ref (u)), some (.int (p1)), some (.int (v1))] [] (rb h0 u y) Q) hs (fun S22 hs => ?_)
      have hr := (Option.some.inj hs).symm
      subst hr
      exact AW.vret (am_r 61 rfl) rfl hQ
noncomputable def sX4_readCommand (S : Mem)  : Option (Int32 × Mem) :=
  olet (sX4_commandWord S ) fun v3 =>
  if v3 = (-1 : Int32) then
    olet (sX4_failed S (1 : Int32)) fun r15 =>
    some ((r15.1, r15.2))
  else
    if (gi S 0 3 0) < (40 : Int32) then
      obind (sX4_readNumbers S v3) fun r6 =>
      if r6.1 = 0 then
        some (((0 : Int32), r6.2))
      else
        obind (sX4_keepCommand r6.2 v3) fun r10 =>
        some (((1 : Int32), r10))
    else
      olet (sX4_failed S (4 : Int32)) fun r13 =>
      some ((r13.1, r13.2))
set_option maxRecDepth 100000 in
theorem dX4_readCommand {g : AG} {h0 : AH} {u : Nat} {S : Mem} {Q : AO → AH → Prop}  (hR : gB g ≤ u) (hst : Sta g h0)  {r : (Int32 × Mem)} (hs : sX4_readCommand S  = some r) (hQ : (r.1 = 0 ∨ r.1 = 1) → Q (.ok (some (.int r.1))) (rb h0 u r.2)) : AW g MX4_readCommand 0 [some (.ref (u)), none] [] (rb h0 u S) Q := by
  unfold sX4_readCommand at hs
  refine AW.aload_n (z := 0) (am_r 0 rfl) rfl rfl ?_
  refine AW.callV (N := MX4_commandWord) (As := []) (S := []) (L0 := [some (.ref (u))]) (b := u) (am_r 1 rfl) rfl ovX4_commandWord q751 rfl rfl rb_0 rfl rfl rfl rfl (dX4_commandWord hR hst  rfl (cQ_r ?_))
  refine olet_e (P := fun y => AW g MX4_readCommand 4 [some (.ref (u)), none] [(.int (y))] (rb h0 u S) Q) hs (fun v3 hs => ?_)
  refine AW.istore_n (L' := [some (.ref (u)), some (.int (v3))]) (z := 1) (am_r 2 rfl) rfl (Nat.le_of_ble_eq_true rfl) rfl ?_
  refine AW.iload_n (z := 1) (am_r 3 rfl) rfl rfl ?_
  refine AW.iconst (am_r 4 rfl) rfl ci_m1 ?_
  refine AW.icmp_ne (tg := 16) (am_r 5 rfl) rfl rfl (fun hc4 => ?_) (fun hc4 => ?_)
  · replace hs := (if_neg hc4).symm.trans hs
    refine AW.aload_n (z := 0) (am_r 10 rfl) rfl rfl ?_
    refine AW.getO (am_r 11 rfl) rfl klX4 (k := 3) (by omega) q356 rb_0 rfl ?_
    refine AW.bipush (am_r 12 rfl) rfl cb_40 ?_
    refine AW.icmp_lt (tg := 31) (am_r 13 rfl) rfl rfl (fun hc5 => ?_) (fun hc5 => ?_)
    · replace hs := (if_pos hc5).symm.trans hs
      refine AW.aload_n (z := 0) (am_r 18 rfl) rfl rfl ?_
      refine AW.iload_n (z := 1) (am_r 19 rfl) rfl rfl ?_
      refine obind_e hs (fun r6 hg8 hs => ?_)
      refine AW.callV (N := MX4_readNumbers) (As := [.int (v3)]) (S := []) (L0 := [some (.ref (u)), some (.int (v3)), none, none]) (b := u) (am_r 20 rfl) rfl ovX4_readNumbers q561 rfl rfl rb_0 rfl rfl rfl rfl (dX4_readNumbers hR hst  hg8 (fun hok7 => (cQ_r ?_)))
      refine AW.if_ne (tg := 41) (am_r 21 rfl) rfl rfl (fun hc9 => ?_) (fun hc9 => ?_)
      · replace hs := (if_neg hc9).symm.trans hs
        refine AW.aload_n (z := 0) (am_r 24 rfl) rfl rfl ?_
        refine AW.iload_n (z := 1) (am_r 25 rfl) rfl rfl ?_
        refine obind_e hs (fun r10 hg12 hs => ?_)
        refine AW.callV (N := MX4_keepCommand) (As := [.int (v3)]) (S := []) (L0 := [some (.ref (u)), some (.int (v3)), none]) (b := u) (am_r 26 rfl) rfl ovX4_keepCommand q761 rfl rfl rb_0 rfl rfl rfl rfl (dX4_keepCommand hR hst  hg12 (cQ_v ?_))
        refine AW.iconst (am_r 27 rfl) rfl ci_1 ?_
        have hr := (Option.some.inj hs).symm
        subst hr
        exact AW.zret (am_r 28 rfl) rfl (Or.inr rfl) (hQ (Or.inr rfl))
      · replace hs := (if_pos hc9).symm.trans hs
        refine AW.iconst (am_r 22 rfl) rfl ci_0 ?_
        have hr := (Option.some.inj hs).symm
        subst hr
        exact AW.zret (am_r 23 rfl) rfl (Or.inl rfl) (hQ (Or.inl rfl))
    · replace hs := (if_neg hc5).symm.trans hs
      refine AW.aload_n (z := 0) (am_r 14 rfl) rfl rfl ?_
      refine AW.iconst (am_r 15 rfl) rfl ci_4 ?_
      refine AW.callV (N := MX4_failed) (As := [.int ((4 : Int32))]) (S := []) (L0 := [some (.ref (u)), some (.int ((4 : Int32)))]) (b := u) (am_r 16 rfl) rfl ovX4_failed q554 rfl rfl rb_0 rfl rfl rfl rfl (dX4_failed hR hst  rfl (fun hok14 => (cQ_r ?_)))
      refine olet_e (P := fun (y : (Int32 × Mem)) => (y.1 = 0 ∨ y.1 = 1) → AW g MX4_readCommand 30 [some (.ref (u)), some (.int (v3))] [(.int (y.1))] (rb h0 u y.2) Q) hs (fun r13 hs hok14 => ?_) hok14
      have hr := (Option.some.inj hs).symm
      subst hr
      exact AW.zret (am_r 17 rfl) rfl hok14 (hQ hok14)
  · replace hs := (if_pos hc4).symm.trans hs
    refine AW.aload_n (z := 0) (am_r 6 rfl) rfl rfl ?_
    refine AW.iconst (am_r 7 rfl) rfl ci_1 ?_
    refine AW.callV (N := MX4_failed) (As := [.int ((1 : Int32))]) (S := []) (L0 := [some (.ref (u)), some (.int ((1 : Int32)))]) (b := u) (am_r 8 rfl) rfl ovX4_failed q554 rfl rfl rb_0 rfl rfl rfl rfl (dX4_failed hR hst  rfl (fun hok16 => (cQ_r ?_)))
    refine olet_e (P := fun (y : (Int32 × Mem)) => (y.1 = 0 ∨ y.1 = 1) → AW g MX4_readCommand 15 [some (.ref (u)), some (.int (v3))] [(.int (y.1))] (rb h0 u y.2) Q) hs (fun r15 hs hok16 => ?_) hok16
    have hr := (Option.some.inj hs).symm
    subst hr
    exact AW.zret (am_r 9 rfl) rfl hok16 (hQ hok16)
noncomputable def sX4_readScript_l8_step   (a : (Int32 × Int32 × Mem)) : Option ((Int32 × Int32 × Mem) ⊕ (Int32 × Mem)) :=
  if a.1 = 0 then
    oinr (
    olet (si a.2.2 1 1 0 ((0 : Int32))) fun S7 =>
    some ((a.1, S7)))
  else
    if (40 : Int32) < a.2.1 then
      oinr (
      olet (si a.2.2 1 1 0 ((0 : Int32))) fun S11 =>
      some ((a.1, S11)))
    else
      obind (sX8_step a.2.2 ) fun r12 =>
      if (gi r12 1 2 0) = 0 then
        oinr (
        olet (si r12 1 1 0 ((0 : Int32))) fun S21 =>
        some ((a.1, S21)))
      else
        obind (sX4_readCommand r12 ) fun r16 =>
        some (.inl (r16.1, a.2.1 + (1 : Int32), r16.2))
noncomputable def sX4_readScript_l8   (a : (Int32 × Int32 × Mem)) : Option (Int32 × Mem) := itw (sX4_readScript_l8_step  ) a
set_option maxRecDepth 100000 in
theorem dX4_readScript_l8 {g : AG} {h0 : AH} {u : Nat} {Q : AO → AH → Prop}  (hR : gB g ≤ u) (hst : Sta g h0)  {a : (Int32 × Int32 × Mem)} (hk0 : a.1 = 0 ∨ a.1 = 1) {r : (Int32 × Mem)} (hs : sX4_readScript_l8   a = some r) (hQ : (r.1 = 0 ∨ r.1 = 1) → Q (.ok (some (.int r.1))) (rb h0 u r.2)) : AW g MX4_readScript 8 [some (.ref (u)), some (.int (a.1)), some (.int (a.2.1))] [] (rb h0 u a.2.2) Q := by
  refine itw_e (P := fun a => a.1 = 0 ∨ a.1 = 1 → AW g MX4_readScript 8 [some (.ref (u)), some (.int (a.1)), some (.int (a.2.1))] [] (rb h0 u a.2.2) Q) (Post := fun r => (r.1 = 0 ∨ r.1 = 1) → Q (.ok (some (.int r.1))) (rb h0 u r.2)) (fun a r hs hc he hk0 => ?_) hs hQ hk0
  unfold sX4_readScript_l8_step at hs
  refine AW.iload_n (z := 1) (am_r 6 rfl) rfl rfl ?_
  refine AW.if_eq (tg := 49) (am_r 7 rfl) rfl rfl (fun hc4 => ?_) (fun hc4 => ?_)
  · replace hs := (if_pos hc4).symm.trans hs
    refine oinr_e hs (fun z5 hz6 hs => ?_)
    have hQ := he _ hz6
    refine AW.aload_n (z := 0) (am_r 24 rfl) rfl rfl ?_
    refine AW.getO (am_r 25 rfl) rfl klX4 (k := 0) (by omega) q352 rb_0 rfl ?_
    refine AW.iconst (am_r 26 rfl) rfl ci_0 ?_
    refine AW.putO (am_r 27 rfl) rfl klX8 (k := 1) (by omega) q327 (Or.inl rfl) rb_1 (Nat.le_trans hR (by omega)) rfl rfl (rbp_1 (by decide)) ?_
    refine olet_e (P := fun y => AW g MX4_readScript 57 [some (.ref (u)), some (.int (a.1)), some (.int (a.2.1))] [] (rb h0 u y) Q) hs (fun S7 hs => ?_)
    refine AW.iload_n (z := 1) (am_r 28 rfl) rfl rfl ?_
    have hr := (Option.some.inj hs).symm
    subst hr
    exact AW.zret (am_r 29 rfl) rfl hk0 (hQ hk0)
  · replace hs := (if_neg hc4).symm.trans hs
    refine AW.iload_n (z := 2) (am_r 8 rfl) rfl rfl ?_
    refine AW.bipush (am_r 9 rfl) rfl cb_40 ?_
    refine AW.icmp_gt (tg := 49) (am_r 10 rfl) rfl rfl (fun hc8 => ?_) (fun hc8 => ?_)
    · replace hs := (if_pos hc8).symm.trans hs
      refine oinr_e hs (fun z9 hz10 hs => ?_)
      have hQ := he _ hz10
      refine AW.aload_n (z := 0) (am_r 24 rfl) rfl rfl ?_
      refine AW.getO (am_r 25 rfl) rfl klX4 (k := 0) (by omega) q352 rb_0 rfl ?_
      refine AW.iconst (am_r 26 rfl) rfl ci_0 ?_
      refine AW.putO (am_r 27 rfl) rfl klX8 (k := 1) (by omega) q327 (Or.inl rfl) rb_1 (Nat.le_trans hR (by omega)) rfl rfl (rbp_1 (by decide)) ?_
      refine olet_e (P := fun y => AW g MX4_readScript 57 [some (.ref (u)), some (.int (a.1)), some (.int (a.2.1))] [] (rb h0 u y) Q) hs (fun S11 hs => ?_)
      refine AW.iload_n (z := 1) (am_r 28 rfl) rfl rfl ?_
      have hr := (Option.some.inj hs).symm
      subst hr
      exact AW.zret (am_r 29 rfl) rfl hk0 (hQ hk0)
    · replace hs := (if_neg hc8).symm.trans hs
      refine AW.aload_n (z := 0) (am_r 11 rfl) rfl rfl ?_
      refine AW.getO (am_r 12 rfl) rfl klX4 (k := 0) (by omega) q352 rb_0 rfl ?_
      refine obind_e hs (fun r12 hg14 hs => ?_)
      refine AW.callV (N := MX8_step) (As := []) (S := []) (L0 := [some (.ref (u + 1))]) (b := u + 1) (am_r 13 rfl) rfl ovX8_step q464 rfl rfl rb_1 rfl rfl rfl rfl (dX8_step hR hst  hg14 (cQ_v ?_))
      refine AW.aload_n (z := 0) (am_r 14 rfl) rfl rfl ?_
      refine AW.getO (am_r 15 rfl) rfl klX4 (k := 0) (by omega) q352 rb_0 rfl ?_
      refine AW.getO (am_r 16 rfl) rfl klX8 (k := 2) (by omega) q328 rb_1 rfl ?_
      refine AW.if_ne (tg := 38) (am_r 17 rfl) rfl rfl (fun hc15 => ?_) (fun hc15 => ?_)
      · replace hs := (if_neg hc15).symm.trans hs
        refine AW.aload_n (z := 0) (am_r 19 rfl) rfl rfl ?_
        refine obind_e hs (fun r16 hg18 hs => ?_)
        refine AW.callV (N := MX4_readCommand) (As := []) (S := []) (L0 := [some (.ref (u)), none]) (b := u) (am_r 20 rfl) rfl ovX4_readCommand q747 rfl rfl rb_0 rfl rfl rfl rfl (dX4_readCommand hR hst  hg18 (fun hok17 => (cQ_r ?_)))
        refine AW.istore_n (L' := [some (.ref (u)), some (.int (r16.1)), some (.int (a.2.1))]) (z := 1) (am_r 21 rfl) rfl (Nat.le_of_ble_eq_true rfl) rfl ?_
        refine AW.iinc (v := a.2.1 + (1 : Int32)) (L' := [some (.ref (u)), some (.int (r16.1)), some (.int (a.2.1 + (1 : Int32)))]) (am_r 22 rfl) rfl (Nat.le_of_ble_eq_true rfl) rfl (congrArg (fun z => a.2.1 + z) ci_1) rfl ?_
        refine AW.goto (tg := 8) (am_r 23 rfl) rfl ?_
        have hr := (Option.some.inj hs).symm
        exact hc (r16.1, a.2.1 + (1 : Int32), r16.2) hr hok17
      · replace hs := (if_pos hc15).symm.trans hs
        refine oinr_e hs (fun z19 hz20 hs => ?_)
        have hQ := he _ hz20
        refine AW.goto (tg := 49) (am_r 18 rfl) rfl ?_
        refine AW.aload_n (z := 0) (am_r 24 rfl) rfl rfl ?_
        refine AW.getO (am_r 25 rfl) rfl klX4 (k := 0) (by omega) q352 rb_0 rfl ?_
        refine AW.iconst (am_r 26 rfl) rfl ci_0 ?_
        refine AW.putO (am_r 27 rfl) rfl klX8 (k := 1) (by omega) q327 (Or.inl rfl) rb_1 (Nat.le_trans hR (by omega)) rfl rfl (rbp_1 (by decide)) ?_
        refine olet_e (P := fun y => AW g MX4_readScript 57 [some (.ref (u)), some (.int (a.1)), some (.int (a.2.1))] [] (rb h0 u y) Q) hs (fun S21 hs => ?_)
        refine AW.iload_n (z := 1) (am_r 28 rfl) rfl rfl ?_
        have hr := (Option.some.inj hs).symm
        subst hr
        exact AW.zret (am_r 29 rfl) rfl hk0 (hQ hk0)
noncomputable def sX4_readScript (S : Mem)  : Option (Int32 × Mem) :=
  olet (sX4_begin S ) fun S3 =>
  sX4_readScript_l8   ((1 : Int32), (0 : Int32), S3)
set_option maxRecDepth 100000 in
theorem dX4_readScript {g : AG} {h0 : AH} {u : Nat} {S : Mem} {Q : AO → AH → Prop}  (hR : gB g ≤ u) (hst : Sta g h0)  {r : (Int32 × Mem)} (hs : sX4_readScript S  = some r) (hQ : (r.1 = 0 ∨ r.1 = 1) → Q (.ok (some (.int r.1))) (rb h0 u r.2)) : AW g MX4_readScript 0 [some (.ref (u)), none, none] [] (rb h0 u S) Q := by
  unfold sX4_readScript at hs
  refine AW.aload_n (z := 0) (am_r 0 rfl) rfl rfl ?_
  refine AW.callV (N := MX4_begin) (As := []) (S := []) (L0 := [some (.ref (u))]) (b := u) (am_r 1 rfl) rfl ovX4_begin q448 rfl rfl rb_0 rfl rfl rfl rfl (dX4_begin hR hst  rfl (cQ_v ?_))
  refine olet_e (P := fun (y : Mem) => AW g MX4_readScript 4 [some (.ref (u)), none, none] [] (rb h0 u y) Q) hs (fun S3 hs => ?_)
  refine AW.iconst (am_r 2 rfl) rfl ci_1 ?_
  refine AW.istore_n (L' := [some (.ref (u)), some (.int ((1 : Int32))), none]) (z := 1) (am_r 3 rfl) rfl (Nat.le_of_ble_eq_true rfl) rfl ?_
  refine AW.iconst (am_r 4 rfl) rfl ci_0 ?_
  refine AW.istore_n (L' := [some (.ref (u)), some (.int ((1 : Int32))), some (.int ((0 : Int32)))]) (z := 2) (am_r 5 rfl) rfl (Nat.le_of_ble_eq_true rfl) rfl ?_
  exact dX4_readScript_l8 hR hst  (Or.inr rfl) hs hQ
def sX4_commandPart (S : Mem) (p1 : Int32) (p2 : Int32) : Int32 :=
  olet ((p1 * (5 : Int32)) + p2) fun v1 =>
  if v1 < 0 then
    (-1 : Int32)
  else
    if (200 : Int32) ≤ v1 then
      (-1 : Int32)
    else
      gi S 4 v1.toNatClampNeg 0
set_option maxRecDepth 100000 in
theorem dX4_commandPart {g : AG} {h0 : AH} {u : Nat} {S : Mem} {Q : AO → AH → Prop} {p1 : Int32} {p2 : Int32} (hR : gB g ≤ u) (hst : Sta g h0)  {r : Int32} (hs : sX4_commandPart S p1 p2 = r) (hQ : Q (.ok (some (.int r))) (rb h0 u S)) : AW g MX4_commandPart 0 [some (.ref (u)), some (.int (p1)), some (.int (p2)), none] [] (rb h0 u S) Q := by
  unfold sX4_commandPart at hs
  refine AW.iload_n (z := 1) (am_r 0 rfl) rfl rfl ?_
  refine AW.iconst (am_r 1 rfl) rfl ci_5 ?_
  refine AW.imul (am_r 2 rfl) rfl ?_
  refine AW.iload_n (z := 2) (am_r 3 rfl) rfl rfl ?_
  refine AW.iadd (am_r 4 rfl) rfl ?_
  refine olet_e (P := fun y => AW g MX4_commandPart 5 [some (.ref (u)), some (.int (p1)), some (.int (p2)), none] [(.int (y))] (rb h0 u S) Q) hs (fun v1 hs => ?_)
  refine AW.istore_n (L' := [some (.ref (u)), some (.int (p1)), some (.int (p2)), some (.int (v1))]) (z := 3) (am_r 5 rfl) rfl (Nat.le_of_ble_eq_true rfl) rfl ?_
  refine AW.iload_n (z := 3) (am_r 6 rfl) rfl rfl ?_
  refine AW.if_lt (tg := 28) (am_r 7 rfl) rfl rfl (fun hc2 => ?_) (fun hc2 => ?_)
  · replace hs := (if_pos hc2).symm.trans hs
    refine AW.iconst (am_r 18 rfl) rfl ci_m1 ?_
    have hr := hs.symm
    subst hr
    exact AW.iret (am_r 19 rfl) rfl hQ
  · replace hs := (if_neg hc2).symm.trans hs
    refine AW.iload_n (z := 3) (am_r 8 rfl) rfl rfl ?_
    refine AW.aload_n (z := 0) (am_r 9 rfl) rfl rfl ?_
    refine AW.getO (am_r 10 rfl) rfl klX4 (k := 2) (by omega) q355 rb_0 rfl ?_
    refine AW.alen (am_r 11 rfl) rfl rfl rb_4 cn_200 ?_
    refine AW.icmp_ge (tg := 28) (am_r 12 rfl) rfl rfl (fun hc3 => ?_) (fun hc3 => ?_)
    · replace hs := (if_pos hc3).symm.trans hs
      refine AW.iconst (am_r 18 rfl) rfl ci_m1 ?_
      have hr := hs.symm
      subst hr
      exact AW.iret (am_r 19 rfl) rfl hQ
    · replace hs := (if_neg hc3).symm.trans hs
      refine AW.aload_n (z := 0) (am_r 13 rfl) rfl rfl ?_
      refine AW.getO (am_r 14 rfl) rfl klX4 (k := 2) (by omega) q355 rb_0 rfl ?_
      refine AW.iload_n (z := 3) (am_r 15 rfl) rfl rfl ?_
      refine AW.iald (am_r 16 rfl) rfl rb_4 (vp_mk hc2 (by decide) (vp_hi hc3)) rfl ?_
      refine AW.goto (tg := 29) (am_r 17 rfl) rfl ?_
      have hr := hs.symm
      subst hr
      exact AW.iret (am_r 19 rfl) rfl hQ
def sX8_hasRoomFor (S : Mem) (p1 : Int32) : Int32 :=
  if (1000 : Int32) < ((gi S 1 1 0) + p1) then
    (0 : Int32)
  else
    (1 : Int32)
set_option maxRecDepth 100000 in
theorem dX8_hasRoomFor {g : AG} {h0 : AH} {u : Nat} {S : Mem} {Q : AO → AH → Prop} {p1 : Int32} (hR : gB g ≤ u) (hst : Sta g h0)  {r : Int32} (hs : sX8_hasRoomFor S p1 = r) (hQ : (r = 0 ∨ r = 1) → Q (.ok (some (.int r))) (rb h0 u S)) : AW g MX8_hasRoomFor 0 [some (.ref (u + 1)), some (.int (p1))] [] (rb h0 u S) Q := by
  unfold sX8_hasRoomFor at hs
  refine AW.aload_n (z := 0) (am_r 0 rfl) rfl rfl ?_
  refine AW.getO (am_r 1 rfl) rfl klX8 (k := 1) (by omega) q325 rb_1 rfl ?_
  refine AW.iload_n (z := 1) (am_r 2 rfl) rfl rfl ?_
  refine AW.iadd (am_r 3 rfl) rfl ?_
  refine AW.sipush (am_r 4 rfl) rfl cs_1000 ?_
  refine AW.icmp_gt (tg := 16) (am_r 5 rfl) rfl rfl (fun hc1 => ?_) (fun hc1 => ?_)
  · replace hs := (if_pos hc1).symm.trans hs
    refine AW.iconst (am_r 8 rfl) rfl ci_0 ?_
    have hr := hs.symm
    subst hr
    exact AW.zret (am_r 9 rfl) rfl (Or.inl rfl) (hQ (Or.inl rfl))
  · replace hs := (if_neg hc1).symm.trans hs
    refine AW.iconst (am_r 6 rfl) rfl ci_1 ?_
    refine AW.goto (tg := 17) (am_r 7 rfl) rfl ?_
    have hr := hs.symm
    subst hr
    exact AW.zret (am_r 9 rfl) rfl (Or.inr rfl) (hQ (Or.inr rfl))
def sX8_addByte (S : Mem) (p1 : Int32) : Mem :=
  if (gi S 1 1 0) < 0 then
    S
  else
    if (1000 : Int32) ≤ (gi S 1 1 0) then
      S
    else
      olet (si S 2 (gi S 1 1 0).toNatClampNeg 0 (p1.toInt8.toInt32.toInt8.toInt32)) fun S3 =>
      olet (si S3 1 1 0 ((gi S3 1 1 0) + (1 : Int32))) fun S4 =>
      S4
set_option maxRecDepth 100000 in
theorem dX8_addByte {g : AG} {h0 : AH} {u : Nat} {S : Mem} {Q : AO → AH → Prop} {p1 : Int32} (hR : gB g ≤ u) (hst : Sta g h0)  {r : Mem} (hs : sX8_addByte S p1 = r) (hQ : Q (.ok none) (rb h0 u r)) : AW g MX8_addByte 0 [some (.ref (u + 1)), some (.int (p1))] [] (rb h0 u S) Q := by
  unfold sX8_addByte at hs
  refine AW.aload_n (z := 0) (am_r 0 rfl) rfl rfl ?_
  refine AW.getO (am_r 1 rfl) rfl klX8 (k := 1) (by omega) q325 rb_1 rfl ?_
  refine AW.if_lt (tg := 40) (am_r 2 rfl) rfl rfl (fun hc1 => ?_) (fun hc1 => ?_)
  · replace hs := (if_pos hc1).symm.trans hs
    have hr := hs.symm
    subst hr
    exact AW.vret (am_r 22 rfl) rfl hQ
  · replace hs := (if_neg hc1).symm.trans hs
    refine AW.aload_n (z := 0) (am_r 3 rfl) rfl rfl ?_
    refine AW.getO (am_r 4 rfl) rfl klX8 (k := 1) (by omega) q325 rb_1 rfl ?_
    refine AW.aload_n (z := 0) (am_r 5 rfl) rfl rfl ?_
    refine AW.getO (am_r 6 rfl) rfl klX8 (k := 0) (by omega) q324 rb_1 rfl ?_
    refine AW.alen (am_r 7 rfl) rfl rfl rb_2 cn_1000 ?_
    refine AW.icmp_ge (tg := 40) (am_r 8 rfl) rfl rfl (fun hc2 => ?_) (fun hc2 => ?_)
    · replace hs := (if_pos hc2).symm.trans hs
      have hr := hs.symm
      subst hr
      exact AW.vret (am_r 22 rfl) rfl hQ
    · replace hs := (if_neg hc2).symm.trans hs
      refine AW.aload_n (z := 0) (am_r 9 rfl) rfl rfl ?_
      refine AW.getO (am_r 10 rfl) rfl klX8 (k := 0) (by omega) q324 rb_1 rfl ?_
      refine AW.aload_n (z := 0) (am_r 11 rfl) rfl rfl ?_
      refine AW.getO (am_r 12 rfl) rfl klX8 (k := 1) (by omega) q325 rb_1 rfl ?_
      refine AW.iload_n (z := 1) (am_r 13 rfl) rfl rfl ?_
      refine AW.i2b (am_r 14 rfl) rfl ?_
      refine AW.bast (am_r 15 rfl) rfl rb_2 (Nat.le_trans hR (by omega)) (vp_mk hc1 (by decide) (vp_hi hc2)) rfl ?_
      rw [show _ = _ from rbp_2]
      refine olet_e (P := fun y => AW g MX8_addByte 30 [some (.ref (u + 1)), some (.int (p1))] [] (rb h0 u y) Q) hs (fun S3 hs => ?_)
      refine AW.aload_n (z := 0) (am_r 16 rfl) rfl rfl ?_
      refine AW.dup (am_r 17 rfl) rfl rfl ?_
      refine AW.getO (am_r 18 rfl) rfl klX8 (k := 1) (by omega) q325 rb_1 rfl ?_
      refine AW.iconst (am_r 19 rfl) rfl ci_1 ?_
      refine AW.iadd (am_r 20 rfl) rfl ?_
      refine AW.putO (am_r 21 rfl) rfl klX8 (k := 1) (by omega) q325 (Or.inl rfl) rb_1 (Nat.le_trans hR (by omega)) rfl rfl (rbp_1 (by decide)) ?_
      refine olet_e (P := fun y => AW g MX8_addByte 40 [some (.ref (u + 1)), some (.int (p1))] [] (rb h0 u y) Q) hs (fun S4 hs => ?_)
      have hr := hs.symm
      subst hr
      exact AW.vret (am_r 22 rfl) rfl hQ
def sX8_addWord (S : Mem) (p1 : Int32) : Mem :=
  olet (sX8_addByte S (p1 >>> ((24 : Int32) &&& 31))) fun S3 =>
  olet (sX8_addByte S3 (p1 >>> ((16 : Int32) &&& 31))) fun S6 =>
  olet (sX8_addByte S6 (p1 >>> ((8 : Int32) &&& 31))) fun S9 =>
  olet (sX8_addByte S9 p1) fun S12 =>
  S12
set_option maxRecDepth 100000 in
theorem dX8_addWord {g : AG} {h0 : AH} {u : Nat} {S : Mem} {Q : AO → AH → Prop} {p1 : Int32} (hR : gB g ≤ u) (hst : Sta g h0)  {r : Mem} (hs : sX8_addWord S p1 = r) (hQ : Q (.ok none) (rb h0 u r)) : AW g MX8_addWord 0 [some (.ref (u + 1)), some (.int (p1))] [] (rb h0 u S) Q := by
  unfold sX8_addWord at hs
  refine AW.aload_n (z := 0) (am_r 0 rfl) rfl rfl ?_
  refine AW.iload_n (z := 1) (am_r 1 rfl) rfl rfl ?_
  refine AW.bipush (am_r 2 rfl) rfl cb_24 ?_
  refine AW.ishr (am_r 3 rfl) rfl ?_
  refine AW.callV (N := MX8_addByte) (As := [.int (p1 >>> ((24 : Int32) &&& 31))]) (S := []) (L0 := [some (.ref (u + 1)), some (.int (p1 >>> ((24 : Int32) &&& 31)))]) (b := u + 1) (am_r 4 rfl) rfl ovX8_addByte q432 rfl rfl rb_1 rfl rfl rfl rfl (dX8_addByte hR hst  rfl (cQ_v ?_))
  refine olet_e (P := fun (y : Mem) => AW g MX8_addWord 8 [some (.ref (u + 1)), some (.int (p1))] [] (rb h0 u y) Q) hs (fun S3 hs => ?_)
  refine AW.aload_n (z := 0) (am_r 5 rfl) rfl rfl ?_
  refine AW.iload_n (z := 1) (am_r 6 rfl) rfl rfl ?_
  refine AW.bipush (am_r 7 rfl) rfl cb_16 ?_
  refine AW.ishr (am_r 8 rfl) rfl ?_
  refine AW.callV (N := MX8_addByte) (As := [.int (p1 >>> ((16 : Int32) &&& 31))]) (S := []) (L0 := [some (.ref (u + 1)), some (.int (p1 >>> ((16 : Int32) &&& 31)))]) (b := u + 1) (am_r 9 rfl) rfl ovX8_addByte q432 rfl rfl rb_1 rfl rfl rfl rfl (dX8_addByte hR hst  rfl (cQ_v ?_))
  refine olet_e (P := fun (y : Mem) => AW g MX8_addWord 16 [some (.ref (u + 1)), some (.int (p1))] [] (rb h0 u y) Q) hs (fun S6 hs => ?_)
  refine AW.aload_n (z := 0) (am_r 10 rfl) rfl rfl ?_
  refine AW.iload_n (z := 1) (am_r 11 rfl) rfl rfl ?_
  refine AW.bipush (am_r 12 rfl) rfl cb_8 ?_
  refine AW.ishr (am_r 13 rfl) rfl ?_
  refine AW.callV (N := MX8_addByte) (As := [.int (p1 >>> ((8 : Int32) &&& 31))]) (S := []) (L0 := [some (.ref (u + 1)), some (.int (p1 >>> ((8 : Int32) &&& 31)))]) (b := u + 1) (am_r 14 rfl) rfl ovX8_addByte q432 rfl rfl rb_1 rfl rfl rfl rfl (dX8_addByte hR hst  rfl (cQ_v ?_))
  refine olet_e (P := fun (y : Mem) => AW g MX8_addWord 24 [some (.ref (u + 1)), some (.int (p1))] [] (rb h0 u y) Q) hs (fun S9 hs => ?_)
  refine AW.aload_n (z := 0) (am_r 15 rfl) rfl rfl ?_
  refine AW.iload_n (z := 1) (am_r 16 rfl) rfl rfl ?_
  refine AW.callV (N := MX8_addByte) (As := [.int (p1)]) (S := []) (L0 := [some (.ref (u + 1)), some (.int (p1))]) (b := u + 1) (am_r 17 rfl) rfl ovX8_addByte q432 rfl rfl rb_1 rfl rfl rfl rfl (dX8_addByte hR hst  rfl (cQ_v ?_))
  refine olet_e (P := fun (y : Mem) => AW g MX8_addWord 29 [some (.ref (u + 1)), some (.int (p1))] [] (rb h0 u y) Q) hs (fun S12 hs => ?_)
  have hr := hs.symm
  subst hr
  exact AW.vret (am_r 18 rfl) rfl hQ
