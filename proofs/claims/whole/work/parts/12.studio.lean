/-! ===== THE STUDIO'S METHODS, DECOMPILED (laid by a program) ===== -/
def sX7_clear (S : Mem)  : Mem :=
  olet (si S 0 7 0 ((0 : Int32))) fun S1 =>
  olet (si S1 0 8 0 ((0 : Int32))) fun S2 =>
  olet (si S2 0 9 0 ((0 : Int32))) fun S3 =>
  olet (si S3 0 10 0 ((1 : Int32))) fun S4 =>
  olet (si S4 0 11 0 ((72 : Int32))) fun S5 =>
  olet (si S5 0 12 0 ((0 : Int32))) fun S6 =>
  olet (si S6 0 13 0 ((0 : Int32))) fun S7 =>
  olet (si S7 0 14 0 ((0 : Int32))) fun S8 =>
  olet (si S8 0 15 0 ((0 : Int32))) fun S9 =>
  olet (sX0_clear S9 ) fun S12 =>
  S12
set_option maxRecDepth 100000 in
theorem dX7_clear {g : AG} {h0 : AH} {b : Nat} {S : Mem} {Q : AO → AH → Prop}  (hA : gB g ≤ b)  {r : Mem} (hs : sX7_clear S  = r) (hQ : Q (.ok none) (sb h0 b r)) : AW g MX7_clear 0 [some (.ref (b))] [] (sb h0 b S) Q := by
  unfold sX7_clear at hs
  refine AW.aload_n (z := 0) (am_r 0 rfl) rfl rfl ?_
  refine AW.iconst (am_r 1 rfl) rfl ci_0 ?_
  refine AW.putO (am_r 2 rfl) rfl klX7 (k := 7) (by omega) q236 (Or.inl rfl) sb_st hA rfl rfl (sbp_st (by omega)) ?_
  refine olet_e (P := fun y => AW g MX7_clear 5 [some (.ref (b))] [] (sb h0 b y) Q) hs (fun S1 hs => ?_)
  refine AW.aload_n (z := 0) (am_r 3 rfl) rfl rfl ?_
  refine AW.iconst (am_r 4 rfl) rfl ci_0 ?_
  refine AW.putO (am_r 5 rfl) rfl klX7 (k := 8) (by omega) q239 (Or.inl rfl) sb_st hA rfl rfl (sbp_st (by omega)) ?_
  refine olet_e (P := fun y => AW g MX7_clear 10 [some (.ref (b))] [] (sb h0 b y) Q) hs (fun S2 hs => ?_)
  refine AW.aload_n (z := 0) (am_r 6 rfl) rfl rfl ?_
  refine AW.iconst (am_r 7 rfl) rfl ci_0 ?_
  refine AW.putO (am_r 8 rfl) rfl klX7 (k := 9) (by omega) q243 (Or.inl rfl) sb_st hA rfl rfl (sbp_st (by omega)) ?_
  refine olet_e (P := fun y => AW g MX7_clear 15 [some (.ref (b))] [] (sb h0 b y) Q) hs (fun S3 hs => ?_)
  refine AW.aload_n (z := 0) (am_r 9 rfl) rfl rfl ?_
  refine AW.iconst (am_r 10 rfl) rfl ci_1 ?_
  refine AW.putO (am_r 11 rfl) rfl klX7 (k := 10) (by omega) q246 (Or.inl rfl) sb_st hA rfl rfl (sbp_st (by omega)) ?_
  refine olet_e (P := fun y => AW g MX7_clear 20 [some (.ref (b))] [] (sb h0 b y) Q) hs (fun S4 hs => ?_)
  refine AW.aload_n (z := 0) (am_r 12 rfl) rfl rfl ?_
  refine AW.bipush (am_r 13 rfl) rfl cb_72 ?_
  refine AW.putO (am_r 14 rfl) rfl klX7 (k := 11) (by omega) q249 (Or.inl rfl) sb_st hA rfl rfl (sbp_st (by omega)) ?_
  refine olet_e (P := fun y => AW g MX7_clear 26 [some (.ref (b))] [] (sb h0 b y) Q) hs (fun S5 hs => ?_)
  refine AW.aload_n (z := 0) (am_r 15 rfl) rfl rfl ?_
  refine AW.iconst (am_r 16 rfl) rfl ci_0 ?_
  refine AW.putO (am_r 17 rfl) rfl klX7 (k := 12) (by omega) q252 (Or.inl rfl) sb_st hA rfl rfl (sbp_st (by omega)) ?_
  refine olet_e (P := fun y => AW g MX7_clear 31 [some (.ref (b))] [] (sb h0 b y) Q) hs (fun S6 hs => ?_)
  refine AW.aload_n (z := 0) (am_r 18 rfl) rfl rfl ?_
  refine AW.iconst (am_r 19 rfl) rfl ci_0 ?_
  refine AW.putO (am_r 20 rfl) rfl klX7 (k := 13) (by omega) q254 (Or.inl rfl) sb_st hA rfl rfl (sbp_st (by omega)) ?_
  refine olet_e (P := fun y => AW g MX7_clear 36 [some (.ref (b))] [] (sb h0 b y) Q) hs (fun S7 hs => ?_)
  refine AW.aload_n (z := 0) (am_r 21 rfl) rfl rfl ?_
  refine AW.iconst (am_r 22 rfl) rfl ci_0 ?_
  refine AW.putO (am_r 23 rfl) rfl klX7 (k := 14) (by omega) q256 (Or.inl rfl) sb_st hA rfl rfl (sbp_st (by omega)) ?_
  refine olet_e (P := fun y => AW g MX7_clear 41 [some (.ref (b))] [] (sb h0 b y) Q) hs (fun S8 hs => ?_)
  refine AW.aload_n (z := 0) (am_r 24 rfl) rfl rfl ?_
  refine AW.iconst (am_r 25 rfl) rfl ci_0 ?_
  refine AW.putO (am_r 26 rfl) rfl klX7 (k := 15) (by omega) q258 (Or.inl rfl) sb_st hA rfl rfl (sbp_st (by omega)) ?_
  refine olet_e (P := fun y => AW g MX7_clear 46 [some (.ref (b))] [] (sb h0 b y) Q) hs (fun S9 hs => ?_)
  refine AW.aload_n (z := 0) (am_r 27 rfl) rfl rfl ?_
  refine AW.getO (am_r 28 rfl) rfl klX7 (k := 6) (by omega) q234 sb_st rfl ?_
  refine AW.callV (N := MX0_clear) (As := []) (S := []) (L0 := [some (.ref (b + 56))]) (b := b + 56) (am_r 29 rfl) rfl ovX0_clear q460 rfl rfl sb_bo rfl rfl rfl rfl (dX0_clear hA  rfl (cQ_v ?_))
  refine olet_e (P := fun (y : Mem) => AW g MX7_clear 53 [some (.ref (b))] [] (sb h0 b y) Q) hs (fun S12 hs => ?_)
  have hr := hs.symm
  subst hr
  exact AW.vret (am_r 30 rfl) rfl hQ
def sX7_pressAt (S : Mem) (p1 : Int32) : Nat :=
  if p1 < 0 then
    50
  else
    if (6 : Int32) ≤ p1 then
      50
    else
      p1.toNatClampNeg
set_option maxRecDepth 100000 in
theorem dX7_pressAt {g : AG} {h0 : AH} {b : Nat} {S : Mem} {Q : AO → AH → Prop} {p1 : Int32} (hA : gB g ≤ b)  {r : Nat} (hs : sX7_pressAt S p1 = r) (hQ : pok r → Q (.ok (some (.ref (b + 2 + r)))) (sb h0 b S)) : AW g MX7_pressAt 0 [some (.ref (b)), some (.int (p1))] [] (sb h0 b S) Q := by
  unfold sX7_pressAt at hs
  refine AW.iload_n (z := 1) (am_r 0 rfl) rfl rfl ?_
  refine AW.if_lt (tg := 22) (am_r 1 rfl) rfl rfl (fun hc1 => ?_) (fun hc1 => ?_)
  · replace hs := (if_pos hc1).symm.trans hs
    refine AW.aload_n (z := 0) (am_r 12 rfl) rfl rfl ?_
    refine AW.getO (am_r 13 rfl) rfl klX7 (k := 3) (by omega) q231 sb_st rfl ?_
    have hr := hs.symm
    subst hr
    exact AW.aret (am_r 14 rfl) rfl (Or.inl ⟨_, rfl⟩) (Or.inr ⟨_, rfl⟩) (hQ (Or.inr rfl))
  · replace hs := (if_neg hc1).symm.trans hs
    refine AW.iload_n (z := 1) (am_r 2 rfl) rfl rfl ?_
    refine AW.aload_n (z := 0) (am_r 3 rfl) rfl rfl ?_
    refine AW.getO (am_r 4 rfl) rfl klX7 (k := 0) (by omega) q228 sb_st rfl ?_
    refine AW.alen (am_r 5 rfl) rfl rfl sb_pa cn_6 ?_
    refine AW.icmp_ge (tg := 22) (am_r 6 rfl) rfl rfl (fun hc2 => ?_) (fun hc2 => ?_)
    · replace hs := (if_pos hc2).symm.trans hs
      refine AW.aload_n (z := 0) (am_r 12 rfl) rfl rfl ?_
      refine AW.getO (am_r 13 rfl) rfl klX7 (k := 3) (by omega) q231 sb_st rfl ?_
      have hr := hs.symm
      subst hr
      exact AW.aret (am_r 14 rfl) rfl (Or.inl ⟨_, rfl⟩) (Or.inr ⟨_, rfl⟩) (hQ (Or.inr rfl))
    · replace hs := (if_neg hc2).symm.trans hs
      refine AW.aload_n (z := 0) (am_r 7 rfl) rfl rfl ?_
      refine AW.getO (am_r 8 rfl) rfl klX7 (k := 0) (by omega) q228 sb_st rfl ?_
      refine AW.iload_n (z := 1) (am_r 9 rfl) rfl rfl ?_
      refine AW.aald (am_r 10 rfl) rfl rfl sb_pa (vp_mk hc1 (by decide) (vp_hi hc2)) rfl ?_
      refine AW.goto (tg := 26) (am_r 11 rfl) rfl ?_
      have hr := hs.symm
      subst hr
      exact AW.aret (am_r 14 rfl) rfl (Or.inl ⟨_, rfl⟩) (Or.inr ⟨_, rfl⟩) (hQ (Or.inl (vp_lt (vp_mk hc1 (by decide) (vp_hi hc2)))))
def sX7_recipeAt (S : Mem) (p1 : Int32) : Nat :=
  if p1 < 0 then
    44
  else
    if (10 : Int32) ≤ p1 then
      44
    else
      p1.toNatClampNeg
set_option maxRecDepth 100000 in
theorem dX7_recipeAt {g : AG} {h0 : AH} {b : Nat} {S : Mem} {Q : AO → AH → Prop} {p1 : Int32} (hA : gB g ≤ b)  {r : Nat} (hs : sX7_recipeAt S p1 = r) (hQ : rok r → Q (.ok (some (.ref (b + 9 + r)))) (sb h0 b S)) : AW g MX7_recipeAt 0 [some (.ref (b)), some (.int (p1))] [] (sb h0 b S) Q := by
  unfold sX7_recipeAt at hs
  refine AW.iload_n (z := 1) (am_r 0 rfl) rfl rfl ?_
  refine AW.if_lt (tg := 22) (am_r 1 rfl) rfl rfl (fun hc1 => ?_) (fun hc1 => ?_)
  · replace hs := (if_pos hc1).symm.trans hs
    refine AW.aload_n (z := 0) (am_r 12 rfl) rfl rfl ?_
    refine AW.getO (am_r 13 rfl) rfl klX7 (k := 4) (by omega) q232 sb_st rfl ?_
    have hr := hs.symm
    subst hr
    exact AW.aret (am_r 14 rfl) rfl (Or.inl ⟨_, rfl⟩) (Or.inr ⟨_, rfl⟩) (hQ (Or.inr rfl))
  · replace hs := (if_neg hc1).symm.trans hs
    refine AW.iload_n (z := 1) (am_r 2 rfl) rfl rfl ?_
    refine AW.aload_n (z := 0) (am_r 3 rfl) rfl rfl ?_
    refine AW.getO (am_r 4 rfl) rfl klX7 (k := 1) (by omega) q229 sb_st rfl ?_
    refine AW.alen (am_r 5 rfl) rfl rfl sb_ra cn_10 ?_
    refine AW.icmp_ge (tg := 22) (am_r 6 rfl) rfl rfl (fun hc2 => ?_) (fun hc2 => ?_)
    · replace hs := (if_pos hc2).symm.trans hs
      refine AW.aload_n (z := 0) (am_r 12 rfl) rfl rfl ?_
      refine AW.getO (am_r 13 rfl) rfl klX7 (k := 4) (by omega) q232 sb_st rfl ?_
      have hr := hs.symm
      subst hr
      exact AW.aret (am_r 14 rfl) rfl (Or.inl ⟨_, rfl⟩) (Or.inr ⟨_, rfl⟩) (hQ (Or.inr rfl))
    · replace hs := (if_neg hc2).symm.trans hs
      refine AW.aload_n (z := 0) (am_r 7 rfl) rfl rfl ?_
      refine AW.getO (am_r 8 rfl) rfl klX7 (k := 1) (by omega) q229 sb_st rfl ?_
      refine AW.iload_n (z := 1) (am_r 9 rfl) rfl rfl ?_
      refine AW.aald (am_r 10 rfl) rfl rfl sb_ra (vp_mk hc1 (by decide) (vp_hi hc2)) rfl ?_
      refine AW.goto (tg := 26) (am_r 11 rfl) rfl ?_
      have hr := hs.symm
      subst hr
      exact AW.aret (am_r 14 rfl) rfl (Or.inl ⟨_, rfl⟩) (Or.inr ⟨_, rfl⟩) (hQ (Or.inl (vp_lt (vp_mk hc1 (by decide) (vp_hi hc2)))))
def sX7_itemAt (S : Mem) (p1 : Int32) : Nat :=
  if p1 < 0 then
    17
  else
    if (16 : Int32) ≤ p1 then
      17
    else
      p1.toNatClampNeg
set_option maxRecDepth 100000 in
theorem dX7_itemAt {g : AG} {h0 : AH} {b : Nat} {S : Mem} {Q : AO → AH → Prop} {p1 : Int32} (hA : gB g ≤ b)  {r : Nat} (hs : sX7_itemAt S p1 = r) (hQ : iok r → Q (.ok (some (.ref (b + 20 + 2 * r)))) (sb h0 b S)) : AW g MX7_itemAt 0 [some (.ref (b)), some (.int (p1))] [] (sb h0 b S) Q := by
  unfold sX7_itemAt at hs
  refine AW.iload_n (z := 1) (am_r 0 rfl) rfl rfl ?_
  refine AW.if_lt (tg := 22) (am_r 1 rfl) rfl rfl (fun hc1 => ?_) (fun hc1 => ?_)
  · replace hs := (if_pos hc1).symm.trans hs
    refine AW.aload_n (z := 0) (am_r 12 rfl) rfl rfl ?_
    refine AW.getO (am_r 13 rfl) rfl klX7 (k := 5) (by omega) q233 sb_st rfl ?_
    have hr := hs.symm
    subst hr
    exact AW.aret (am_r 14 rfl) rfl (Or.inl ⟨_, rfl⟩) (Or.inr ⟨_, rfl⟩) (hQ (Or.inr rfl))
  · replace hs := (if_neg hc1).symm.trans hs
    refine AW.iload_n (z := 1) (am_r 2 rfl) rfl rfl ?_
    refine AW.aload_n (z := 0) (am_r 3 rfl) rfl rfl ?_
    refine AW.getO (am_r 4 rfl) rfl klX7 (k := 2) (by omega) q230 sb_st rfl ?_
    refine AW.alen (am_r 5 rfl) rfl rfl sb_ia cn_16 ?_
    refine AW.icmp_ge (tg := 22) (am_r 6 rfl) rfl rfl (fun hc2 => ?_) (fun hc2 => ?_)
    · replace hs := (if_pos hc2).symm.trans hs
      refine AW.aload_n (z := 0) (am_r 12 rfl) rfl rfl ?_
      refine AW.getO (am_r 13 rfl) rfl klX7 (k := 5) (by omega) q233 sb_st rfl ?_
      have hr := hs.symm
      subst hr
      exact AW.aret (am_r 14 rfl) rfl (Or.inl ⟨_, rfl⟩) (Or.inr ⟨_, rfl⟩) (hQ (Or.inr rfl))
    · replace hs := (if_neg hc2).symm.trans hs
      refine AW.aload_n (z := 0) (am_r 7 rfl) rfl rfl ?_
      refine AW.getO (am_r 8 rfl) rfl klX7 (k := 2) (by omega) q230 sb_st rfl ?_
      refine AW.iload_n (z := 1) (am_r 9 rfl) rfl rfl ?_
      refine AW.aald (am_r 10 rfl) rfl rfl sb_ia (vp_mk hc1 (by decide) (vp_hi hc2)) rfl ?_
      refine AW.goto (tg := 26) (am_r 11 rfl) rfl ?_
      have hr := hs.symm
      subst hr
      exact AW.aret (am_r 14 rfl) rfl (Or.inl ⟨_, rfl⟩) (Or.inr ⟨_, rfl⟩) (hQ (Or.inl (vp_lt (vp_mk hc1 (by decide) (vp_hi hc2)))))
def sX7_addPress (S : Mem) (p1 : Int32) : Mem :=
  olet (sX3_clear S (sX7_pressAt S (gi S 0 7 0)) p1) fun S5 =>
  olet (si S5 0 7 0 ((gi S5 0 7 0) + (1 : Int32))) fun S6 =>
  S6
set_option maxRecDepth 100000 in
theorem dX7_addPress {g : AG} {h0 : AH} {b : Nat} {S : Mem} {Q : AO → AH → Prop} {p1 : Int32} (hA : gB g ≤ b)  {r : Mem} (hs : sX7_addPress S p1 = r) (hQ : Q (.ok none) (sb h0 b r)) : AW g MX7_addPress 0 [some (.ref (b)), some (.int (p1))] [] (sb h0 b S) Q := by
  unfold sX7_addPress at hs
  refine AW.aload_n (z := 0) (am_r 0 rfl) rfl rfl ?_
  refine AW.aload_n (z := 0) (am_r 1 rfl) rfl rfl ?_
  refine AW.getO (am_r 2 rfl) rfl klX7 (k := 7) (by omega) q236 sb_st rfl ?_
  refine AW.callV (N := MX7_pressAt) (As := [.int (gi S 0 7 0)]) (S := []) (L0 := [some (.ref (b)), some (.int (gi S 0 7 0))]) (b := b) (am_r 3 rfl) rfl ovX7_pressAt q596 rfl rfl sb_st rfl rfl rfl rfl (dX7_pressAt hA  rfl (fun hok2 => (cQ_r ?_)))
  refine AW.iload_n (z := 1) (am_r 4 rfl) rfl rfl ?_
  refine AW.callV (N := MX3_clear) (As := [.int (p1)]) (S := []) (L0 := [some (.ref (b + 2 + (sX7_pressAt S (gi S 0 7 0)))), some (.int (p1))]) (b := b + 2 + (sX7_pressAt S (gi S 0 7 0))) (am_r 5 rfl) rfl ovX3_clear q600 rfl rfl (sb_pr hok2) rfl rfl rfl rfl (dX3_clear hA hok2 rfl (cQ_v ?_))
  refine olet_e (P := fun (y : Mem) => AW g MX7_addPress 12 [some (.ref (b)), some (.int (p1))] [] (sb h0 b y) Q) hs (fun S5 hs => ?_)
  refine AW.aload_n (z := 0) (am_r 6 rfl) rfl rfl ?_
  refine AW.dup (am_r 7 rfl) rfl rfl ?_
  refine AW.getO (am_r 8 rfl) rfl klX7 (k := 7) (by omega) q236 sb_st rfl ?_
  refine AW.iconst (am_r 9 rfl) rfl ci_1 ?_
  refine AW.iadd (am_r 10 rfl) rfl ?_
  refine AW.putO (am_r 11 rfl) rfl klX7 (k := 7) (by omega) q236 (Or.inl rfl) sb_st hA rfl rfl (sbp_st (by omega)) ?_
  refine olet_e (P := fun y => AW g MX7_addPress 22 [some (.ref (b)), some (.int (p1))] [] (sb h0 b y) Q) hs (fun S6 hs => ?_)
  have hr := hs.symm
  subst hr
  exact AW.vret (am_r 12 rfl) rfl hQ
def sX7_addRecipe (S : Mem)  : (Nat × Mem) :=
  olet (si S 2 7 (sX7_recipeAt S (gi S 0 8 0)) ((0 : Int32))) fun S3 =>
  olet (si S3 0 8 0 ((gi S3 0 8 0) + (1 : Int32))) fun S4 =>
  (sX7_recipeAt S (gi S 0 8 0), S4)
set_option maxRecDepth 100000 in
theorem dX7_addRecipe {g : AG} {h0 : AH} {b : Nat} {S : Mem} {Q : AO → AH → Prop}  (hA : gB g ≤ b)  {r : (Nat × Mem)} (hs : sX7_addRecipe S  = r) (hQ : rok r.1 → Q (.ok (some (.ref (b + 9 + r.1)))) (sb h0 b r.2)) : AW g MX7_addRecipe 0 [some (.ref (b)), none] [] (sb h0 b S) Q := by
  unfold sX7_addRecipe at hs
  refine AW.aload_n (z := 0) (am_r 0 rfl) rfl rfl ?_
  refine AW.aload_n (z := 0) (am_r 1 rfl) rfl rfl ?_
  refine AW.getO (am_r 2 rfl) rfl klX7 (k := 8) (by omega) q239 sb_st rfl ?_
  refine AW.callV (N := MX7_recipeAt) (As := [.int (gi S 0 8 0)]) (S := []) (L0 := [some (.ref (b)), some (.int (gi S 0 8 0))]) (b := b) (am_r 3 rfl) rfl ovX7_recipeAt q608 rfl rfl sb_st rfl rfl rfl rfl (dX7_recipeAt hA  rfl (fun hok2 => (cQ_r ?_)))
  refine AW.astore_n (L' := [some (.ref (b)), some (.ref (b + 9 + (sX7_recipeAt S (gi S 0 8 0))))]) (z := 1) (am_r 4 rfl) rfl (Nat.le_of_ble_eq_true rfl) rfl ?_
  refine AW.aload_n (z := 1) (am_r 5 rfl) rfl rfl ?_
  refine AW.iconst (am_r 6 rfl) rfl ci_0 ?_
  refine AW.putO (am_r 7 rfl) rfl klX5 (k := 7) (by omega) q95 (Or.inl rfl) (sb_re hok2) (Nat.le_trans hA (by omega)) rfl rfl (sbp_re hok2) ?_
  refine olet_e (P := fun y => AW g MX7_addRecipe 14 [some (.ref (b)), some (.ref (b + 9 + (sX7_recipeAt S (gi S 0 8 0))))] [] (sb h0 b y) Q) hs (fun S3 hs => ?_)
  refine AW.aload_n (z := 0) (am_r 8 rfl) rfl rfl ?_
  refine AW.dup (am_r 9 rfl) rfl rfl ?_
  refine AW.getO (am_r 10 rfl) rfl klX7 (k := 8) (by omega) q239 sb_st rfl ?_
  refine AW.iconst (am_r 11 rfl) rfl ci_1 ?_
  refine AW.iadd (am_r 12 rfl) rfl ?_
  refine AW.putO (am_r 13 rfl) rfl klX7 (k := 8) (by omega) q239 (Or.inl rfl) sb_st hA rfl rfl (sbp_st (by omega)) ?_
  refine olet_e (P := fun y => AW g MX7_addRecipe 24 [some (.ref (b)), some (.ref (b + 9 + (sX7_recipeAt S (gi S 0 8 0))))] [] (sb h0 b y) Q) hs (fun S4 hs => ?_)
  refine AW.aload_n (z := 1) (am_r 14 rfl) rfl rfl ?_
  have hr := hs.symm
  subst hr
  exact AW.aret (am_r 15 rfl) rfl (Or.inl ⟨_, rfl⟩) (Or.inr ⟨_, rfl⟩) (hQ hok2)
def sX7_addItem (S : Mem) (p1 : Int32) (p2 : Int32) (p3 : Int32) : Mem :=
  olet (sX2_clear S (sX7_itemAt S (gi S 0 9 0)) p1 p2 p3) fun S5 =>
  olet (si S5 0 9 0 ((gi S5 0 9 0) + (1 : Int32))) fun S6 =>
  S6
set_option maxRecDepth 100000 in
theorem dX7_addItem {g : AG} {h0 : AH} {b : Nat} {S : Mem} {Q : AO → AH → Prop} {p1 : Int32} {p2 : Int32} {p3 : Int32} (hA : gB g ≤ b)  {r : Mem} (hs : sX7_addItem S p1 p2 p3 = r) (hQ : Q (.ok none) (sb h0 b r)) : AW g MX7_addItem 0 [some (.ref (b)), some (.int (p1)), some (.int (p2)), some (.int (p3))] [] (sb h0 b S) Q := by
  unfold sX7_addItem at hs
  refine AW.aload_n (z := 0) (am_r 0 rfl) rfl rfl ?_
  refine AW.aload_n (z := 0) (am_r 1 rfl) rfl rfl ?_
  refine AW.getO (am_r 2 rfl) rfl klX7 (k := 9) (by omega) q243 sb_st rfl ?_
  refine AW.callV (N := MX7_itemAt) (As := [.int (gi S 0 9 0)]) (S := []) (L0 := [some (.ref (b)), some (.int (gi S 0 9 0))]) (b := b) (am_r 3 rfl) rfl ovX7_itemAt q620 rfl rfl sb_st rfl rfl rfl rfl (dX7_itemAt hA  rfl (fun hok2 => (cQ_r ?_)))
  refine AW.iload_n (z := 1) (am_r 4 rfl) rfl rfl ?_
  refine AW.iload_n (z := 2) (am_r 5 rfl) rfl rfl ?_
  refine AW.iload_n (z := 3) (am_r 6 rfl) rfl rfl ?_
  refine AW.callV (N := MX2_clear) (As := [.int (p1), .int (p2), .int (p3)]) (S := []) (L0 := [some (.ref (b + 20 + 2 * (sX7_itemAt S (gi S 0 9 0)))), some (.int (p1)), some (.int (p2)), some (.int (p3))]) (b := b + 20 + 2 * (sX7_itemAt S (gi S 0 9 0))) (am_r 7 rfl) rfl ovX2_clear q624 rfl rfl (sb_it hok2) rfl rfl rfl rfl (dX2_clear hA hok2 rfl (cQ_v ?_))
  refine olet_e (P := fun (y : Mem) => AW g MX7_addItem 14 [some (.ref (b)), some (.int (p1)), some (.int (p2)), some (.int (p3))] [] (sb h0 b y) Q) hs (fun S5 hs => ?_)
  refine AW.aload_n (z := 0) (am_r 8 rfl) rfl rfl ?_
  refine AW.dup (am_r 9 rfl) rfl rfl ?_
  refine AW.getO (am_r 10 rfl) rfl klX7 (k := 9) (by omega) q243 sb_st rfl ?_
  refine AW.iconst (am_r 11 rfl) rfl ci_1 ?_
  refine AW.iadd (am_r 12 rfl) rfl ?_
  refine AW.putO (am_r 13 rfl) rfl klX7 (k := 9) (by omega) q243 (Or.inl rfl) sb_st hA rfl rfl (sbp_st (by omega)) ?_
  refine olet_e (P := fun y => AW g MX7_addItem 24 [some (.ref (b)), some (.int (p1)), some (.int (p2)), some (.int (p3))] [] (sb h0 b y) Q) hs (fun S6 hs => ?_)
  have hr := hs.symm
  subst hr
  exact AW.vret (am_r 14 rfl) rfl hQ
noncomputable def sX7_finishStep (S : Mem) (i1 : Nat) : Option Mem :=
  olet (si S 3 3 i1 (sX5_scoreBehind S (sX7_recipeAt S (gi S 3 9 i1)) (gi S 3 3 i1))) fun S5 =>
  obind (sX0_add S5 (gi S5 3 0 i1) (0 : Int32) (gi S5 3 9 i1) (gi S5 0 12 0) (gi S 3 3 i1) (gi S5 3 3 i1)) fun r6 =>
  olet (sq r6 3 i1 ((gq r6 3 i1) + (sX5_price r6 (sX7_recipeAt S (gi S 3 9 i1))))) fun S11 =>
  olet (si S11 3 13 i1 ((gi S11 3 13 i1) + (1 : Int32))) fun S12 =>
  olet (si S12 2 7 (sX7_recipeAt S (gi S 3 9 i1)) ((gi S12 2 7 (sX7_recipeAt S (gi S 3 9 i1))) + (1 : Int32))) fun S13 =>
  olet (si S13 0 13 0 ((gi S13 0 13 0) + (1 : Int32))) fun S14 =>
  if (gi S14 2 1 (sX7_recipeAt S (gi S 3 9 i1))) = 0 then
    olet (sX2_layOnShelf S14 i1) fun S25 =>
    some (S25)
  else
    if (gi S14 2 2 (sX7_recipeAt S (gi S 3 9 i1))) = (1 : Int32) then
      olet (sX2_waitForPress S14 i1 (gi S14 0 12 0)) fun S22 =>
      some (S22)
    else
      olet (sX2_startCuring S14 i1 (gi S14 2 1 (sX7_recipeAt S (gi S 3 9 i1)))) fun S19 =>
      some (S19)
set_option maxRecDepth 100000 in
theorem dX7_finishStep {g : AG} {h0 : AH} {b : Nat} {S : Mem} {Q : AO → AH → Prop} {i1 : Nat} (hA : gB g ≤ b) (hi1 : iok i1) {r : Mem} (hs : sX7_finishStep S i1 = some r) (hQ : Q (.ok none) (sb h0 b r)) : AW g MX7_finishStep 0 [some (.ref (b)), some (.ref (b + 20 + 2 * i1)), none, none] [] (sb h0 b S) Q := by
  unfold sX7_finishStep at hs
  refine AW.aload_n (z := 0) (am_r 0 rfl) rfl rfl ?_
  refine AW.aload_n (z := 1) (am_r 1 rfl) rfl rfl ?_
  refine AW.getO (am_r 2 rfl) rfl klX2 (k := 9) (by omega) q147 (sb_it hi1) rfl ?_
  refine AW.callV (N := MX7_recipeAt) (As := [.int (gi S 3 9 i1)]) (S := []) (L0 := [some (.ref (b)), some (.int (gi S 3 9 i1))]) (b := b) (am_r 3 rfl) rfl ovX7_recipeAt q608 rfl rfl sb_st rfl rfl rfl rfl (dX7_recipeAt hA  rfl (fun hok2 => (cQ_r ?_)))
  refine AW.astore_n (L' := [some (.ref (b)), some (.ref (b + 20 + 2 * i1)), some (.ref (b + 9 + (sX7_recipeAt S (gi S 3 9 i1)))), none]) (z := 2) (am_r 4 rfl) rfl (Nat.le_of_ble_eq_true rfl) rfl ?_
  refine AW.aload_n (z := 1) (am_r 5 rfl) rfl rfl ?_
  refine AW.getO (am_r 6 rfl) rfl klX2 (k := 3) (by omega) q129 (sb_it hi1) rfl ?_
  refine AW.istore_n (L' := [some (.ref (b)), some (.ref (b + 20 + 2 * i1)), some (.ref (b + 9 + (sX7_recipeAt S (gi S 3 9 i1)))), some (.int (gi S 3 3 i1))]) (z := 3) (am_r 7 rfl) rfl (Nat.le_of_ble_eq_true rfl) rfl ?_
  refine AW.aload_n (z := 1) (am_r 8 rfl) rfl rfl ?_
  refine AW.aload_n (z := 2) (am_r 9 rfl) rfl rfl ?_
  refine AW.iload_n (z := 3) (am_r 10 rfl) rfl rfl ?_
  refine AW.callV (N := MX5_scoreBehind) (As := [.int (gi S 3 3 i1)]) (S := [(.ref (b + 20 + 2 * i1))]) (L0 := [some (.ref (b + 9 + (sX7_recipeAt S (gi S 3 9 i1)))), some (.int (gi S 3 3 i1))]) (b := b + 9 + (sX7_recipeAt S (gi S 3 9 i1))) (am_r 11 rfl) rfl ovX5_scoreBehind q869 rfl rfl (sb_re hok2) rfl rfl rfl rfl (dX5_scoreBehind hA hok2 rfl (cQ_r ?_))
  refine AW.putO (am_r 12 rfl) rfl klX2 (k := 3) (by omega) q129 (Or.inl rfl) (sb_it hi1) (Nat.le_trans hA (by omega)) rfl rfl (sbp_it hi1 (by decide) (fun z => by omega)) ?_
  refine olet_e (P := fun y => AW g MX7_finishStep 23 [some (.ref (b)), some (.ref (b + 20 + 2 * i1)), some (.ref (b + 9 + (sX7_recipeAt S (gi S 3 9 i1)))), some (.int (gi S 3 3 i1))] [] (sb h0 b y) Q) hs (fun S5 hs => ?_)
  refine AW.aload_n (z := 0) (am_r 13 rfl) rfl rfl ?_
  refine AW.getO (am_r 14 rfl) rfl klX7 (k := 6) (by omega) q234 sb_st rfl ?_
  refine AW.aload_n (z := 1) (am_r 15 rfl) rfl rfl ?_
  refine AW.getO (am_r 16 rfl) rfl klX2 (k := 0) (by omega) q122 (sb_it hi1) rfl ?_
  refine AW.iconst (am_r 17 rfl) rfl ci_0 ?_
  refine AW.aload_n (z := 1) (am_r 18 rfl) rfl rfl ?_
  refine AW.getO (am_r 19 rfl) rfl klX2 (k := 9) (by omega) q147 (sb_it hi1) rfl ?_
  refine AW.aload_n (z := 0) (am_r 20 rfl) rfl rfl ?_
  refine AW.getO (am_r 21 rfl) rfl klX7 (k := 12) (by omega) q252 sb_st rfl ?_
  refine AW.iload_n (z := 3) (am_r 22 rfl) rfl rfl ?_
  refine AW.aload_n (z := 1) (am_r 23 rfl) rfl rfl ?_
  refine AW.getO (am_r 24 rfl) rfl klX2 (k := 3) (by omega) q129 (sb_it hi1) rfl ?_
  refine obind_e hs (fun r6 hg8 hs => ?_)
  refine AW.callV (N := MX0_add) (As := [.int (gi S5 3 0 i1), .int ((0 : Int32)), .int (gi S5 3 9 i1), .int (gi S5 0 12 0), .int (gi S 3 3 i1), .int (gi S5 3 3 i1)]) (S := []) (L0 := [some (.ref (b + 56)), some (.int (gi S5 3 0 i1)), some (.int ((0 : Int32))), some (.int (gi S5 3 9 i1)), some (.int (gi S5 0 12 0)), some (.int (gi S 3 3 i1)), some (.int (gi S5 3 3 i1)), none]) (b := b + 56) (am_r 25 rfl) rfl ovX0_add q874 rfl rfl sb_bo rfl rfl rfl rfl (dX0_add hA  hg8 (cQ_v ?_))
  refine AW.aload_n (z := 1) (am_r 26 rfl) rfl rfl ?_
  refine AW.dup (am_r 27 rfl) rfl rfl ?_
  refine AW.getO (am_r 28 rfl) rfl klX2 (k := 14) (by omega) q158 (sb_it hi1) rfl ?_
  refine AW.aload_n (z := 2) (am_r 29 rfl) rfl rfl ?_
  refine AW.callV (N := MX5_price) (As := []) (S := [(.long (gq r6 3 i1)), (.ref (b + 20 + 2 * i1))]) (L0 := [some (.ref (b + 9 + (sX7_recipeAt S (gi S 3 9 i1))))]) (b := b + 9 + (sX7_recipeAt S (gi S 3 9 i1))) (am_r 30 rfl) rfl ovX5_price q878 rfl rfl (sb_re hok2) rfl rfl rfl rfl (dX5_price hA hok2 rfl (cQ_r ?_))
  refine AW.ladd (am_r 31 rfl) rfl ?_
  refine AW.putO (am_r 32 rfl) rfl klX2 (k := 14) (by omega) q158 (Or.inl rfl) (sb_it hi1) (Nat.le_trans hA (by omega)) rfl rfl (sbp_ow hi1) ?_
  refine olet_e (P := fun y => AW g MX7_finishStep 61 [some (.ref (b)), some (.ref (b + 20 + 2 * i1)), some (.ref (b + 9 + (sX7_recipeAt S (gi S 3 9 i1)))), some (.int (gi S 3 3 i1))] [] (sb h0 b y) Q) hs (fun S11 hs => ?_)
  refine AW.aload_n (z := 1) (am_r 33 rfl) rfl rfl ?_
  refine AW.dup (am_r 34 rfl) rfl rfl ?_
  refine AW.getO (am_r 35 rfl) rfl klX2 (k := 13) (by omega) q156 (sb_it hi1) rfl ?_
  refine AW.iconst (am_r 36 rfl) rfl ci_1 ?_
  refine AW.iadd (am_r 37 rfl) rfl ?_
  refine AW.putO (am_r 38 rfl) rfl klX2 (k := 13) (by omega) q156 (Or.inl rfl) (sb_it hi1) (Nat.le_trans hA (by omega)) rfl rfl (sbp_it hi1 (by decide) (fun z => by omega)) ?_
  refine olet_e (P := fun y => AW g MX7_finishStep 71 [some (.ref (b)), some (.ref (b + 20 + 2 * i1)), some (.ref (b + 9 + (sX7_recipeAt S (gi S 3 9 i1)))), some (.int (gi S 3 3 i1))] [] (sb h0 b y) Q) hs (fun S12 hs => ?_)
  refine AW.aload_n (z := 2) (am_r 39 rfl) rfl rfl ?_
  refine AW.dup (am_r 40 rfl) rfl rfl ?_
  refine AW.getO (am_r 41 rfl) rfl klX5 (k := 7) (by omega) q95 (sb_re hok2) rfl ?_
  refine AW.iconst (am_r 42 rfl) rfl ci_1 ?_
  refine AW.iadd (am_r 43 rfl) rfl ?_
  refine AW.putO (am_r 44 rfl) rfl klX5 (k := 7) (by omega) q95 (Or.inl rfl) (sb_re hok2) (Nat.le_trans hA (by omega)) rfl rfl (sbp_re hok2) ?_
  refine olet_e (P := fun y => AW g MX7_finishStep 81 [some (.ref (b)), some (.ref (b + 20 + 2 * i1)), some (.ref (b + 9 + (sX7_recipeAt S (gi S 3 9 i1)))), some (.int (gi S 3 3 i1))] [] (sb h0 b y) Q) hs (fun S13 hs => ?_)
  refine AW.aload_n (z := 0) (am_r 45 rfl) rfl rfl ?_
  refine AW.dup (am_r 46 rfl) rfl rfl ?_
  refine AW.getO (am_r 47 rfl) rfl klX7 (k := 13) (by omega) q254 sb_st rfl ?_
  refine AW.iconst (am_r 48 rfl) rfl ci_1 ?_
  refine AW.iadd (am_r 49 rfl) rfl ?_
  refine AW.putO (am_r 50 rfl) rfl klX7 (k := 13) (by omega) q254 (Or.inl rfl) sb_st hA rfl rfl (sbp_st (by omega)) ?_
  refine olet_e (P := fun y => AW g MX7_finishStep 91 [some (.ref (b)), some (.ref (b + 20 + 2 * i1)), some (.ref (b + 9 + (sX7_recipeAt S (gi S 3 9 i1)))), some (.int (gi S 3 3 i1))] [] (sb h0 b y) Q) hs (fun S14 hs => ?_)
  refine AW.aload_n (z := 2) (am_r 51 rfl) rfl rfl ?_
  refine AW.getO (am_r 52 rfl) rfl klX5 (k := 1) (by omega) q77 (sb_re hok2) rfl ?_
  refine AW.if_ne (tg := 105) (am_r 53 rfl) rfl rfl (fun hc15 => ?_) (fun hc15 => ?_)
  · replace hs := (if_neg hc15).symm.trans hs
    refine AW.aload_n (z := 2) (am_r 57 rfl) rfl rfl ?_
    refine AW.getO (am_r 58 rfl) rfl klX5 (k := 2) (by omega) q81 (sb_re hok2) rfl ?_
    refine AW.iconst (am_r 59 rfl) rfl ci_1 ?_
    refine AW.icmp_ne (tg := 124) (am_r 60 rfl) rfl rfl (fun hc16 => ?_) (fun hc16 => ?_)
    · replace hs := (if_neg hc16).symm.trans hs
      refine AW.aload_n (z := 1) (am_r 66 rfl) rfl rfl ?_
      refine AW.aload_n (z := 2) (am_r 67 rfl) rfl rfl ?_
      refine AW.getO (am_r 68 rfl) rfl klX5 (k := 1) (by omega) q77 (sb_re hok2) rfl ?_
      refine AW.callV (N := MX2_startCuring) (As := [.int (gi S14 2 1 (sX7_recipeAt S (gi S 3 9 i1)))]) (S := []) (L0 := [some (.ref (b + 20 + 2 * i1)), some (.int (gi S14 2 1 (sX7_recipeAt S (gi S 3 9 i1))))]) (b := b + 20 + 2 * i1) (am_r 69 rfl) rfl ovX2_startCuring q887 rfl rfl (sb_it hi1) rfl rfl rfl rfl (dX2_startCuring hA hi1 rfl (cQ_v ?_))
      refine olet_e (P := fun (y : Mem) => AW g MX7_finishStep 132 [some (.ref (b)), some (.ref (b + 20 + 2 * i1)), some (.ref (b + 9 + (sX7_recipeAt S (gi S 3 9 i1)))), some (.int (gi S 3 3 i1))] [] (sb h0 b y) Q) hs (fun S19 hs => ?_)
      have hr := (Option.some.inj hs).symm
      subst hr
      exact AW.vret (am_r 70 rfl) rfl hQ
    · replace hs := (if_pos hc16).symm.trans hs
      refine AW.aload_n (z := 1) (am_r 61 rfl) rfl rfl ?_
      refine AW.aload_n (z := 0) (am_r 62 rfl) rfl rfl ?_
      refine AW.getO (am_r 63 rfl) rfl klX7 (k := 12) (by omega) q252 sb_st rfl ?_
      refine AW.callV (N := MX2_waitForPress) (As := [.int (gi S14 0 12 0)]) (S := []) (L0 := [some (.ref (b + 20 + 2 * i1)), some (.int (gi S14 0 12 0))]) (b := b + 20 + 2 * i1) (am_r 64 rfl) rfl ovX2_waitForPress q883 rfl rfl (sb_it hi1) rfl rfl rfl rfl (dX2_waitForPress hA hi1 rfl (cQ_v ?_))
      refine olet_e (P := fun (y : Mem) => AW g MX7_finishStep 121 [some (.ref (b)), some (.ref (b + 20 + 2 * i1)), some (.ref (b + 9 + (sX7_recipeAt S (gi S 3 9 i1)))), some (.int (gi S 3 3 i1))] [] (sb h0 b y) Q) hs (fun S22 hs => ?_)
      refine AW.goto (tg := 132) (am_r 65 rfl) rfl ?_
      have hr := (Option.some.inj hs).symm
      subst hr
      exact AW.vret (am_r 70 rfl) rfl hQ
  · replace hs := (if_pos hc15).symm.trans hs
    refine AW.aload_n (z := 1) (am_r 54 rfl) rfl rfl ?_
    refine AW.callV (N := MX2_layOnShelf) (As := []) (S := []) (L0 := [some (.ref (b + 20 + 2 * i1))]) (b := b + 20 + 2 * i1) (am_r 55 rfl) rfl ovX2_layOnShelf q882 rfl rfl (sb_it hi1) rfl rfl rfl rfl (dX2_layOnShelf hA hi1 rfl (cQ_v ?_))
    refine olet_e (P := fun (y : Mem) => AW g MX7_finishStep 102 [some (.ref (b)), some (.ref (b + 20 + 2 * i1)), some (.ref (b + 9 + (sX7_recipeAt S (gi S 3 9 i1)))), some (.int (gi S 3 3 i1))] [] (sb h0 b y) Q) hs (fun S25 hs => ?_)
    refine AW.goto (tg := 132) (am_r 56 rfl) rfl ?_
    have hr := (Option.some.inj hs).symm
    subst hr
    exact AW.vret (am_r 70 rfl) rfl hQ
def sX7_finishCuring (S : Mem) (i1 : Nat) : Mem :=
  if (gi S 3 10 i1) = (-1 : Int32) then
    olet (sX2_layOnShelf S i1) fun S4 =>
    S4
  else
    olet (si S 1 1 (sX7_pressAt S (gi S 3 10 i1)) ((-1 : Int32))) fun S7 =>
    olet (sX2_layOnShelf S7 i1) fun S10 =>
    S10
set_option maxRecDepth 100000 in
theorem dX7_finishCuring {g : AG} {h0 : AH} {b : Nat} {S : Mem} {Q : AO → AH → Prop} {i1 : Nat} (hA : gB g ≤ b) (hi1 : iok i1) {r : Mem} (hs : sX7_finishCuring S i1 = r) (hQ : Q (.ok none) (sb h0 b r)) : AW g MX7_finishCuring 0 [some (.ref (b)), some (.ref (b + 20 + 2 * i1))] [] (sb h0 b S) Q := by
  unfold sX7_finishCuring at hs
  refine AW.aload_n (z := 1) (am_r 0 rfl) rfl rfl ?_
  refine AW.getO (am_r 1 rfl) rfl klX2 (k := 10) (by omega) q150 (sb_it hi1) rfl ?_
  refine AW.iconst (am_r 2 rfl) rfl ci_m1 ?_
  refine AW.icmp_eq (tg := 20) (am_r 3 rfl) rfl rfl (fun hc1 => ?_) (fun hc1 => ?_)
  · replace hs := (if_pos hc1).symm.trans hs
    refine AW.aload_n (z := 1) (am_r 10 rfl) rfl rfl ?_
    refine AW.callV (N := MX2_layOnShelf) (As := []) (S := []) (L0 := [some (.ref (b + 20 + 2 * i1))]) (b := b + 20 + 2 * i1) (am_r 11 rfl) rfl ovX2_layOnShelf q882 rfl rfl (sb_it hi1) rfl rfl rfl rfl (dX2_layOnShelf hA hi1 rfl (cQ_v ?_))
    refine olet_e (P := fun (y : Mem) => AW g MX7_finishCuring 24 [some (.ref (b)), some (.ref (b + 20 + 2 * i1))] [] (sb h0 b y) Q) hs (fun S4 hs => ?_)
    have hr := hs.symm
    subst hr
    exact AW.vret (am_r 12 rfl) rfl hQ
  · replace hs := (if_neg hc1).symm.trans hs
    refine AW.aload_n (z := 0) (am_r 4 rfl) rfl rfl ?_
    refine AW.aload_n (z := 1) (am_r 5 rfl) rfl rfl ?_
    refine AW.getO (am_r 6 rfl) rfl klX2 (k := 10) (by omega) q150 (sb_it hi1) rfl ?_
    refine AW.callV (N := MX7_pressAt) (As := [.int (gi S 3 10 i1)]) (S := []) (L0 := [some (.ref (b)), some (.int (gi S 3 10 i1))]) (b := b) (am_r 7 rfl) rfl ovX7_pressAt q596 rfl rfl sb_st rfl rfl rfl rfl (dX7_pressAt hA  rfl (fun hok6 => (cQ_r ?_)))
    refine AW.iconst (am_r 8 rfl) rfl ci_m1 ?_
    refine AW.putO (am_r 9 rfl) rfl klX3 (k := 1) (by omega) q52 (Or.inl rfl) (sb_pr hok6) (Nat.le_trans hA (by omega)) rfl rfl (sbp_pr hok6) ?_
    refine olet_e (P := fun y => AW g MX7_finishCuring 20 [some (.ref (b)), some (.ref (b + 20 + 2 * i1))] [] (sb h0 b y) Q) hs (fun S7 hs => ?_)
    refine AW.aload_n (z := 1) (am_r 10 rfl) rfl rfl ?_
    refine AW.callV (N := MX2_layOnShelf) (As := []) (S := []) (L0 := [some (.ref (b + 20 + 2 * i1))]) (b := b + 20 + 2 * i1) (am_r 11 rfl) rfl ovX2_layOnShelf q882 rfl rfl (sb_it hi1) rfl rfl rfl rfl (dX2_layOnShelf hA hi1 rfl (cQ_v ?_))
    refine olet_e (P := fun (y : Mem) => AW g MX7_finishCuring 24 [some (.ref (b)), some (.ref (b + 20 + 2 * i1))] [] (sb h0 b y) Q) hs (fun S10 hs => ?_)
    have hr := hs.symm
    subst hr
    exact AW.vret (am_r 12 rfl) rfl hQ
noncomputable def sX7_finishLoan (S : Mem) (i1 : Nat) : Option Mem :=
  olet (si S 3 3 i1 (jmax (0 : Int32) ((gi S 3 3 i1) - (20 : Int32)))) fun S1 =>
  obind (sX0_add S1 (gi S1 3 0 i1) (2 : Int32) (-1 : Int32) (gi S1 0 12 0) (gi S 3 3 i1) (gi S1 3 3 i1)) fun r2 =>
  olet (sX2_layOnShelf r2 i1) fun S7 =>
  some (S7)
set_option maxRecDepth 100000 in
theorem dX7_finishLoan {g : AG} {h0 : AH} {b : Nat} {S : Mem} {Q : AO → AH → Prop} {i1 : Nat} (hA : gB g ≤ b) (hi1 : iok i1) {r : Mem} (hs : sX7_finishLoan S i1 = some r) (hQ : Q (.ok none) (sb h0 b r)) : AW g MX7_finishLoan 0 [some (.ref (b)), some (.ref (b + 20 + 2 * i1)), none] [] (sb h0 b S) Q := by
  unfold sX7_finishLoan at hs
  refine AW.aload_n (z := 1) (am_r 0 rfl) rfl rfl ?_
  refine AW.getO (am_r 1 rfl) rfl klX2 (k := 3) (by omega) q129 (sb_it hi1) rfl ?_
  refine AW.istore_n (L' := [some (.ref (b)), some (.ref (b + 20 + 2 * i1)), some (.int (gi S 3 3 i1))]) (z := 2) (am_r 2 rfl) rfl (Nat.le_of_ble_eq_true rfl) rfl ?_
  refine AW.aload_n (z := 1) (am_r 3 rfl) rfl rfl ?_
  refine AW.iconst (am_r 4 rfl) rfl ci_0 ?_
  refine AW.iload_n (z := 2) (am_r 5 rfl) rfl rfl ?_
  refine AW.bipush (am_r 6 rfl) rfl cb_20 ?_
  refine AW.isub (am_r 7 rfl) rfl ?_
  refine AW.jmax (am_r 8 rfl) rfl q891 rfl ?_
  refine AW.putO (am_r 9 rfl) rfl klX2 (k := 3) (by omega) q129 (Or.inl rfl) (sb_it hi1) (Nat.le_trans hA (by omega)) rfl rfl (sbp_it hi1 (by decide) (fun z => by omega)) ?_
  refine olet_e (P := fun y => AW g MX7_finishLoan 17 [some (.ref (b)), some (.ref (b + 20 + 2 * i1)), some (.int (gi S 3 3 i1))] [] (sb h0 b y) Q) hs (fun S1 hs => ?_)
  refine AW.aload_n (z := 0) (am_r 10 rfl) rfl rfl ?_
  refine AW.getO (am_r 11 rfl) rfl klX7 (k := 6) (by omega) q234 sb_st rfl ?_
  refine AW.aload_n (z := 1) (am_r 12 rfl) rfl rfl ?_
  refine AW.getO (am_r 13 rfl) rfl klX2 (k := 0) (by omega) q122 (sb_it hi1) rfl ?_
  refine AW.iconst (am_r 14 rfl) rfl ci_2 ?_
  refine AW.iconst (am_r 15 rfl) rfl ci_m1 ?_
  refine AW.aload_n (z := 0) (am_r 16 rfl) rfl rfl ?_
  refine AW.getO (am_r 17 rfl) rfl klX7 (k := 12) (by omega) q252 sb_st rfl ?_
  refine AW.iload_n (z := 2) (am_r 18 rfl) rfl rfl ?_
  refine AW.aload_n (z := 1) (am_r 19 rfl) rfl rfl ?_
  refine AW.getO (am_r 20 rfl) rfl klX2 (k := 3) (by omega) q129 (sb_it hi1) rfl ?_
  refine obind_e hs (fun r2 hg4 hs => ?_)
  refine AW.callV (N := MX0_add) (As := [.int (gi S1 3 0 i1), .int ((2 : Int32)), .int ((-1 : Int32)), .int (gi S1 0 12 0), .int (gi S 3 3 i1), .int (gi S1 3 3 i1)]) (S := []) (L0 := [some (.ref (b + 56)), some (.int (gi S1 3 0 i1)), some (.int ((2 : Int32))), some (.int ((-1 : Int32))), some (.int (gi S1 0 12 0)), some (.int (gi S 3 3 i1)), some (.int (gi S1 3 3 i1)), none]) (b := b + 56) (am_r 21 rfl) rfl ovX0_add q874 rfl rfl sb_bo rfl rfl rfl rfl (dX0_add hA  hg4 (cQ_v ?_))
  refine AW.aload_n (z := 1) (am_r 22 rfl) rfl rfl ?_
  refine AW.callV (N := MX2_layOnShelf) (As := []) (S := []) (L0 := [some (.ref (b + 20 + 2 * i1))]) (b := b + 20 + 2 * i1) (am_r 23 rfl) rfl ovX2_layOnShelf q882 rfl rfl (sb_it hi1) rfl rfl rfl rfl (dX2_layOnShelf hA hi1 rfl (cQ_v ?_))
  refine olet_e (P := fun (y : Mem) => AW g MX7_finishLoan 43 [some (.ref (b)), some (.ref (b + 20 + 2 * i1)), some (.int (gi S 3 3 i1))] [] (sb h0 b y) Q) hs (fun S7 hs => ?_)
  have hr := (Option.some.inj hs).symm
  subst hr
  exact AW.vret (am_r 24 rfl) rfl hQ
noncomputable def sX7_goOn (S : Mem) (i1 : Nat) : Option Mem :=
  if (gi S 3 5 i1) = (1 : Int32) then
    olet (si S 3 6 i1 ((gi S 3 6 i1) - (1 : Int32))) fun S2 =>
    if (gi S2 3 6 i1) = 0 then
      obind (sX7_finishStep S2 i1) fun r4 =>
      some (r4)
    else
      some (S2)
  else
  if (gi S 3 5 i1) = (2 : Int32) then
    olet (si S 3 3 i1 (jmax (0 : Int32) ((gi S 3 3 i1) - (1 : Int32)))) fun S8 =>
    some (S8)
  else
  if (gi S 3 5 i1) = (3 : Int32) then
    olet (si S 3 6 i1 ((gi S 3 6 i1) - (1 : Int32))) fun S10 =>
    if (gi S10 3 6 i1) = 0 then
      olet (sX7_finishCuring S10 i1) fun S14 =>
      some (S14)
    else
      some (S10)
  else
  if (gi S 3 5 i1) = (4 : Int32) then
    olet (si S 3 6 i1 ((gi S 3 6 i1) - (1 : Int32))) fun S16 =>
    if (gi S16 3 6 i1) = 0 then
      obind (sX7_finishLoan S16 i1) fun r18 =>
      some (r18)
    else
      some (S16)
  else
  some (S)
set_option maxRecDepth 100000 in
theorem dX7_goOn {g : AG} {h0 : AH} {b : Nat} {S : Mem} {Q : AO → AH → Prop} {i1 : Nat} (hA : gB g ≤ b) (hi1 : iok i1) {r : Mem} (hs : sX7_goOn S i1 = some r) (hQ : Q (.ok none) (sb h0 b r)) : AW g MX7_goOn 0 [some (.ref (b)), some (.ref (b + 20 + 2 * i1))] [] (sb h0 b S) Q := by
  unfold sX7_goOn at hs
  refine AW.aload_n (z := 1) (am_r 0 rfl) rfl rfl ?_
  refine AW.getO (am_r 1 rfl) rfl klX2 (k := 5) (by omega) q135 (sb_it hi1) rfl ?_
  by_cases hw1 : (gi S 3 5 i1) = (1 : Int32)
  · replace hs := (if_pos hw1).symm.trans hs
    refine AW.tabsw_at (tg := 36) (i := 0) (am_r 2 rfl) hw1 rfl rfl rfl (by decide) ?_
    refine AW.aload_n (z := 1) (am_r 3 rfl) rfl rfl ?_
    refine AW.dup (am_r 4 rfl) rfl rfl ?_
    refine AW.getO (am_r 5 rfl) rfl klX2 (k := 6) (by omega) q138 (sb_it hi1) rfl ?_
    refine AW.iconst (am_r 6 rfl) rfl ci_1 ?_
    refine AW.isub (am_r 7 rfl) rfl ?_
    refine AW.putO (am_r 8 rfl) rfl klX2 (k := 6) (by omega) q138 (Or.inl rfl) (sb_it hi1) (Nat.le_trans hA (by omega)) rfl rfl (sbp_it hi1 (by decide) (fun z => by omega)) ?_
    refine olet_e (P := fun y => AW g MX7_goOn 46 [some (.ref (b)), some (.ref (b + 20 + 2 * i1))] [] (sb h0 b y) Q) hs (fun S2 hs => ?_)
    refine AW.aload_n (z := 1) (am_r 9 rfl) rfl rfl ?_
    refine AW.getO (am_r 10 rfl) rfl klX2 (k := 6) (by omega) q138 (sb_it hi1) rfl ?_
    refine AW.if_ne (tg := 128) (am_r 11 rfl) rfl rfl (fun hc3 => ?_) (fun hc3 => ?_)
    · replace hs := (if_neg hc3).symm.trans hs
      have hr := (Option.some.inj hs).symm
      subst hr
      exact AW.vret (am_r 51 rfl) rfl hQ
    · replace hs := (if_pos hc3).symm.trans hs
      refine AW.aload_n (z := 0) (am_r 12 rfl) rfl rfl ?_
      refine AW.aload_n (z := 1) (am_r 13 rfl) rfl rfl ?_
      refine obind_e hs (fun r4 hg6 hs => ?_)
      refine AW.callV (N := MX7_finishStep) (As := [.ref (b + 20 + 2 * i1)]) (S := []) (L0 := [some (.ref (b)), some (.ref (b + 20 + 2 * i1)), none, none]) (b := b) (am_r 14 rfl) rfl ovX7_finishStep q865 rfl rfl sb_st rfl rfl rfl rfl (dX7_finishStep hA hi1 hg6 (cQ_v ?_))
      refine AW.goto (tg := 128) (am_r 15 rfl) rfl ?_
      have hr := (Option.some.inj hs).symm
      subst hr
      exact AW.vret (am_r 51 rfl) rfl hQ
  replace hs := (if_neg hw1).symm.trans hs
  by_cases hw7 : (gi S 3 5 i1) = (2 : Int32)
  · replace hs := (if_pos hw7).symm.trans hs
    refine AW.tabsw_at (tg := 61) (i := 1) (am_r 2 rfl) hw7 rfl rfl rfl (by decide) ?_
    refine AW.aload_n (z := 1) (am_r 16 rfl) rfl rfl ?_
    refine AW.iconst (am_r 17 rfl) rfl ci_0 ?_
    refine AW.aload_n (z := 1) (am_r 18 rfl) rfl rfl ?_
    refine AW.getO (am_r 19 rfl) rfl klX2 (k := 3) (by omega) q129 (sb_it hi1) rfl ?_
    refine AW.iconst (am_r 20 rfl) rfl ci_1 ?_
    refine AW.isub (am_r 21 rfl) rfl ?_
    refine AW.jmax (am_r 22 rfl) rfl q891 rfl ?_
    refine AW.putO (am_r 23 rfl) rfl klX2 (k := 3) (by omega) q129 (Or.inl rfl) (sb_it hi1) (Nat.le_trans hA (by omega)) rfl rfl (sbp_it hi1 (by decide) (fun z => by omega)) ?_
    refine olet_e (P := fun y => AW g MX7_goOn 75 [some (.ref (b)), some (.ref (b + 20 + 2 * i1))] [] (sb h0 b y) Q) hs (fun S8 hs => ?_)
    refine AW.goto (tg := 128) (am_r 24 rfl) rfl ?_
    have hr := (Option.some.inj hs).symm
    subst hr
    exact AW.vret (am_r 51 rfl) rfl hQ
  replace hs := (if_neg hw7).symm.trans hs
  by_cases hw9 : (gi S 3 5 i1) = (3 : Int32)
  · replace hs := (if_pos hw9).symm.trans hs
    refine AW.tabsw_at (tg := 78) (i := 2) (am_r 2 rfl) hw9 rfl rfl rfl (by decide) ?_
    refine AW.aload_n (z := 1) (am_r 25 rfl) rfl rfl ?_
    refine AW.dup (am_r 26 rfl) rfl rfl ?_
    refine AW.getO (am_r 27 rfl) rfl klX2 (k := 6) (by omega) q138 (sb_it hi1) rfl ?_
    refine AW.iconst (am_r 28 rfl) rfl ci_1 ?_
    refine AW.isub (am_r 29 rfl) rfl ?_
    refine AW.putO (am_r 30 rfl) rfl klX2 (k := 6) (by omega) q138 (Or.inl rfl) (sb_it hi1) (Nat.le_trans hA (by omega)) rfl rfl (sbp_it hi1 (by decide) (fun z => by omega)) ?_
    refine olet_e (P := fun y => AW g MX7_goOn 88 [some (.ref (b)), some (.ref (b + 20 + 2 * i1))] [] (sb h0 b y) Q) hs (fun S10 hs => ?_)
    refine AW.aload_n (z := 1) (am_r 31 rfl) rfl rfl ?_
    refine AW.getO (am_r 32 rfl) rfl klX2 (k := 6) (by omega) q138 (sb_it hi1) rfl ?_
    refine AW.if_ne (tg := 128) (am_r 33 rfl) rfl rfl (fun hc11 => ?_) (fun hc11 => ?_)
    · replace hs := (if_neg hc11).symm.trans hs
      have hr := (Option.some.inj hs).symm
      subst hr
      exact AW.vret (am_r 51 rfl) rfl hQ
    · replace hs := (if_pos hc11).symm.trans hs
      refine AW.aload_n (z := 0) (am_r 34 rfl) rfl rfl ?_
      refine AW.aload_n (z := 1) (am_r 35 rfl) rfl rfl ?_
      refine AW.callV (N := MX7_finishCuring) (As := [.ref (b + 20 + 2 * i1)]) (S := []) (L0 := [some (.ref (b)), some (.ref (b + 20 + 2 * i1))]) (b := b) (am_r 36 rfl) rfl ovX7_finishCuring q894 rfl rfl sb_st rfl rfl rfl rfl (dX7_finishCuring hA hi1 rfl (cQ_v ?_))
      refine olet_e (P := fun (y : Mem) => AW g MX7_goOn 100 [some (.ref (b)), some (.ref (b + 20 + 2 * i1))] [] (sb h0 b y) Q) hs (fun S14 hs => ?_)
      refine AW.goto (tg := 128) (am_r 37 rfl) rfl ?_
      have hr := (Option.some.inj hs).symm
      subst hr
      exact AW.vret (am_r 51 rfl) rfl hQ
  replace hs := (if_neg hw9).symm.trans hs
  by_cases hw15 : (gi S 3 5 i1) = (4 : Int32)
  · replace hs := (if_pos hw15).symm.trans hs
    refine AW.tabsw_at (tg := 103) (i := 3) (am_r 2 rfl) hw15 rfl rfl rfl (by decide) ?_
    refine AW.aload_n (z := 1) (am_r 38 rfl) rfl rfl ?_
    refine AW.dup (am_r 39 rfl) rfl rfl ?_
    refine AW.getO (am_r 40 rfl) rfl klX2 (k := 6) (by omega) q138 (sb_it hi1) rfl ?_
    refine AW.iconst (am_r 41 rfl) rfl ci_1 ?_
    refine AW.isub (am_r 42 rfl) rfl ?_
    refine AW.putO (am_r 43 rfl) rfl klX2 (k := 6) (by omega) q138 (Or.inl rfl) (sb_it hi1) (Nat.le_trans hA (by omega)) rfl rfl (sbp_it hi1 (by decide) (fun z => by omega)) ?_
    refine olet_e (P := fun y => AW g MX7_goOn 113 [some (.ref (b)), some (.ref (b + 20 + 2 * i1))] [] (sb h0 b y) Q) hs (fun S16 hs => ?_)
    refine AW.aload_n (z := 1) (am_r 44 rfl) rfl rfl ?_
    refine AW.getO (am_r 45 rfl) rfl klX2 (k := 6) (by omega) q138 (sb_it hi1) rfl ?_
    refine AW.if_ne (tg := 128) (am_r 46 rfl) rfl rfl (fun hc17 => ?_) (fun hc17 => ?_)
    · replace hs := (if_neg hc17).symm.trans hs
      have hr := (Option.some.inj hs).symm
      subst hr
      exact AW.vret (am_r 51 rfl) rfl hQ
    · replace hs := (if_pos hc17).symm.trans hs
      refine AW.aload_n (z := 0) (am_r 47 rfl) rfl rfl ?_
      refine AW.aload_n (z := 1) (am_r 48 rfl) rfl rfl ?_
      refine obind_e hs (fun r18 hg20 hs => ?_)
      refine AW.callV (N := MX7_finishLoan) (As := [.ref (b + 20 + 2 * i1)]) (S := []) (L0 := [some (.ref (b)), some (.ref (b + 20 + 2 * i1)), none]) (b := b) (am_r 49 rfl) rfl ovX7_finishLoan q898 rfl rfl sb_st rfl rfl rfl rfl (dX7_finishLoan hA hi1 hg20 (cQ_v ?_))
      refine AW.goto (tg := 128) (am_r 50 rfl) rfl ?_
      have hr := (Option.some.inj hs).symm
      subst hr
      exact AW.vret (am_r 51 rfl) rfl hQ
  replace hs := (if_neg hw15).symm.trans hs
  refine AW.tabsw_d (tg := 128) [1, 2, 3, 4] (am_r 2 rfl) rfl (by decide) (by decide) (List.forall_mem_cons.mpr ⟨hw1, List.forall_mem_cons.mpr ⟨hw7, List.forall_mem_cons.mpr ⟨hw9, List.forall_mem_cons.mpr ⟨hw15, fun _ h => nomatch h⟩⟩⟩⟩) ?_
  have hr := (Option.some.inj hs).symm
  subst hr
  exact AW.vret (am_r 51 rfl) rfl hQ
noncomputable def sX7_nextWaiting_l4_step (S : Mem) (p1 : Int32) (a : ((Option Nat) × Int32)) : Option (((Option Nat) × Int32) ⊕ (Option Nat)) :=
  if (gi S 0 9 0) ≤ a.2 then
    oinr (
    some (a.1))
  else
    if (gi S 3 5 (sX7_itemAt S a.2)) = (2 : Int32) then
      if (sX2_waitingKey S (sX7_itemAt S a.2)) ≤ p1 then
        some (.inl (a.1, a.2 + (1 : Int32)))
      else
        oopt a.1 (
        some (.inl (some (sX7_itemAt S a.2), a.2 + (1 : Int32)))) fun i10 =>
        if (sX2_waitingKey S i10) ≤ (sX2_waitingKey S (sX7_itemAt S a.2)) then
          some (.inl (some i10, a.2 + (1 : Int32)))
        else
          some (.inl (some (sX7_itemAt S a.2), a.2 + (1 : Int32)))
    else
      some (.inl (a.1, a.2 + (1 : Int32)))
noncomputable def sX7_nextWaiting_l4 (S : Mem) (p1 : Int32) (a : ((Option Nat) × Int32)) : Option (Option Nat) := itw (sX7_nextWaiting_l4_step S p1) a
set_option maxRecDepth 100000 in
theorem dX7_nextWaiting_l4 {g : AG} {h0 : AH} {b : Nat} {S : Mem} {Q : AO → AH → Prop} {p1 : Int32} (hA : gB g ≤ b)  {a : ((Option Nat) × Int32)} (hk0 : oall iok a.1) {r : (Option Nat)} (hs : sX7_nextWaiting_l4 S p1 a = some r) (hQ : oall iok r → Q (.ok (some (va_rf (Option.map (fun i => b + 20 + 2 * i) r)))) (sb h0 b S)) : AW g MX7_nextWaiting 4 [some (.ref (b)), some (.int (p1)), some (va_rf (Option.map (fun i => b + 20 + 2 * i) a.1)), some (.int (a.2)), none] [] (sb h0 b S) Q := by
  refine itw_e (P := fun a => oall iok a.1 → AW g MX7_nextWaiting 4 [some (.ref (b)), some (.int (p1)), some (va_rf (Option.map (fun i => b + 20 + 2 * i) a.1)), some (.int (a.2)), none] [] (sb h0 b S) Q) (Post := fun r => oall iok r → Q (.ok (some (va_rf (Option.map (fun i => b + 20 + 2 * i) r)))) (sb h0 b S)) (fun a r hs hc he hk0 => ?_) hs hQ hk0
  unfold sX7_nextWaiting_l4_step at hs
  refine AW.iload_n (z := 3) (am_r 4 rfl) rfl rfl ?_
  refine AW.aload_n (z := 0) (am_r 5 rfl) rfl rfl ?_
  refine AW.getO (am_r 6 rfl) rfl klX7 (k := 9) (by omega) q243 sb_st rfl ?_
  refine AW.icmp_ge (tg := 62) (am_r 7 rfl) rfl rfl (fun hc1 => ?_) (fun hc1 => ?_)
  · replace hs := (if_pos hc1).symm.trans hs
    refine oinr_e hs (fun z2 hz3 hs => ?_)
    have hQ := he _ hz3
    refine AW.aload_nO (z := 2) (am_r 31 rfl) rfl rfl ?_
    have hr := (Option.some.inj hs).symm
    subst hr
    exact AW.aret (am_r 32 rfl) rfl (Or.inl ⟨_, rfl⟩) (va_rf_or _) (hQ hk0)
  · replace hs := (if_neg hc1).symm.trans hs
    refine AW.aload_n (z := 0) (am_r 8 rfl) rfl rfl ?_
    refine AW.iload_n (z := 3) (am_r 9 rfl) rfl rfl ?_
    refine AW.callV (N := MX7_itemAt) (As := [.int (a.2)]) (S := []) (L0 := [some (.ref (b)), some (.int (a.2))]) (b := b) (am_r 10 rfl) rfl ovX7_itemAt q620 rfl rfl sb_st rfl rfl rfl rfl (dX7_itemAt hA  rfl (fun hok5 => (cQ_r ?_)))
    refine AW.astore (L' := [some (.ref (b)), some (.int (p1)), some (va_rf (Option.map (fun i => b + 20 + 2 * i) a.1)), some (.int (a.2)), some (.ref (b + 20 + 2 * (sX7_itemAt S a.2)))]) (am_r 11 rfl) rfl (Nat.le_of_ble_eq_true rfl) rfl ?_
    refine AW.aload (am_r 12 rfl) rfl rfl ?_
    refine AW.getO (am_r 13 rfl) rfl klX2 (k := 5) (by omega) q135 (sb_it hok5) rfl ?_
    refine AW.iconst (am_r 14 rfl) rfl ci_2 ?_
    refine AW.icmp_ne (tg := 56) (am_r 15 rfl) rfl rfl (fun hc6 => ?_) (fun hc6 => ?_)
    · replace hs := (if_neg hc6).symm.trans hs
      refine AW.iinc (v := a.2 + (1 : Int32)) (L' := [some (.ref (b)), some (.int (p1)), some (va_rf (Option.map (fun i => b + 20 + 2 * i) a.1)), some (.int (a.2 + (1 : Int32))), some (.ref (b + 20 + 2 * (sX7_itemAt S a.2)))]) (am_r 29 rfl) rfl (Nat.le_of_ble_eq_true rfl) rfl (congrArg (fun z => a.2 + z) ci_1) (stL_o rfl rfl) ?_
      refine AW.goto (tg := 4) (am_r 30 rfl) rfl ?_
      refine AW.lessL (L' := [some (.ref (b)), some (.int (p1)), some (va_rf (Option.map (fun i => b + 20 + 2 * i) a.1)), some (.int (a.2 + (1 : Int32))), none]) ⟨rfl, rfl, rfl, rfl, trivial⟩ ?_
      have hr := (Option.some.inj hs).symm
      exact hc (a.1, a.2 + (1 : Int32)) hr hk0
    · replace hs := (if_pos hc6).symm.trans hs
      refine AW.aload (am_r 16 rfl) rfl rfl ?_
      refine AW.callV (N := MX2_waitingKey) (As := []) (S := []) (L0 := [some (.ref (b + 20 + 2 * (sX7_itemAt S a.2)))]) (b := b + 20 + 2 * (sX7_itemAt S a.2)) (am_r 17 rfl) rfl ovX2_waitingKey q910 rfl rfl (sb_it hok5) rfl rfl rfl rfl (dX2_waitingKey hA hok5 rfl (cQ_r ?_))
      refine AW.iload_n (z := 1) (am_r 18 rfl) rfl rfl ?_
      refine AW.icmp_le (tg := 56) (am_r 19 rfl) rfl rfl (fun hc9 => ?_) (fun hc9 => ?_)
      · replace hs := (if_pos hc9).symm.trans hs
        refine AW.iinc (v := a.2 + (1 : Int32)) (L' := [some (.ref (b)), some (.int (p1)), some (va_rf (Option.map (fun i => b + 20 + 2 * i) a.1)), some (.int (a.2 + (1 : Int32))), some (.ref (b + 20 + 2 * (sX7_itemAt S a.2)))]) (am_r 29 rfl) rfl (Nat.le_of_ble_eq_true rfl) rfl (congrArg (fun z => a.2 + z) ci_1) (stL_o rfl rfl) ?_
        refine AW.goto (tg := 4) (am_r 30 rfl) rfl ?_
        refine AW.lessL (L' := [some (.ref (b)), some (.int (p1)), some (va_rf (Option.map (fun i => b + 20 + 2 * i) a.1)), some (.int (a.2 + (1 : Int32))), none]) ⟨rfl, rfl, rfl, rfl, trivial⟩ ?_
        have hr := (Option.some.inj hs).symm
        exact hc (a.1, a.2 + (1 : Int32)) hr hk0
      · replace hs := (if_neg hc9).symm.trans hs
        refine oopt_e (P := fun y => AW g MX7_nextWaiting 37 [some (.ref (b)), some (.int (p1)), some (va_rf (Option.map (fun i => b + 20 + 2 * i) y)), some (.int (a.2)), some (.ref (b + 20 + 2 * (sX7_itemAt S a.2)))] [] (sb h0 b S) Q) hs (fun hs => ?_) (fun i10 ho11 hs => ?_)
        · show AW g MX7_nextWaiting 37 [some (.ref (b)), some (.int (p1)), some (.null), some (.int (a.2)), some (.ref (b + 20 + 2 * (sX7_itemAt S a.2)))] [] (sb h0 b S) Q
          refine AW.aload_nN (z := 2) (am_r 20 rfl) rfl rfl ?_
          refine AW.ifnullN (tg := 53) (am_r 21 rfl) rfl ?_
          refine AW.aload (am_r 27 rfl) rfl rfl ?_
          refine AW.astore_n (L' := [some (.ref (b)), some (.int (p1)), some (.ref (b + 20 + 2 * (sX7_itemAt S a.2))), some (.int (a.2)), some (.ref (b + 20 + 2 * (sX7_itemAt S a.2)))]) (z := 2) (am_r 28 rfl) rfl (Nat.le_of_ble_eq_true rfl) rfl ?_
          refine AW.iinc (v := a.2 + (1 : Int32)) (L' := [some (.ref (b)), some (.int (p1)), some (.ref (b + 20 + 2 * (sX7_itemAt S a.2))), some (.int (a.2 + (1 : Int32))), some (.ref (b + 20 + 2 * (sX7_itemAt S a.2)))]) (am_r 29 rfl) rfl (Nat.le_of_ble_eq_true rfl) rfl (congrArg (fun z => a.2 + z) ci_1) rfl ?_
          refine AW.goto (tg := 4) (am_r 30 rfl) rfl ?_
          refine AW.lessL (L' := [some (.ref (b)), some (.int (p1)), some (va_rf (Option.map (fun i => b + 20 + 2 * i) (some (sX7_itemAt S a.2)))), some (.int (a.2 + (1 : Int32))), none]) ⟨rfl, rfl, rfl, rfl, trivial⟩ ?_
          have hr := (Option.some.inj hs).symm
          exact hc (some (sX7_itemAt S a.2), a.2 + (1 : Int32)) hr (oall_s hok5)
        · show AW g MX7_nextWaiting 37 [some (.ref (b)), some (.int (p1)), some (.ref (b + 20 + 2 * i10)), some (.int (a.2)), some (.ref (b + 20 + 2 * (sX7_itemAt S a.2)))] [] (sb h0 b S) Q
          refine AW.aload_n (z := 2) (am_r 20 rfl) rfl rfl ?_
          refine AW.ifnull (am_r 21 rfl) rfl ?_
          refine AW.aload (am_r 22 rfl) rfl rfl ?_
          refine AW.callV (N := MX2_waitingKey) (As := []) (S := []) (L0 := [some (.ref (b + 20 + 2 * (sX7_itemAt S a.2)))]) (b := b + 20 + 2 * (sX7_itemAt S a.2)) (am_r 23 rfl) rfl ovX2_waitingKey q910 rfl rfl (sb_it hok5) rfl rfl rfl rfl (dX2_waitingKey hA hok5 rfl (cQ_r ?_))
          refine AW.aload_n (z := 2) (am_r 24 rfl) rfl rfl ?_
          refine AW.callV (N := MX2_waitingKey) (As := []) (S := [(.int (sX2_waitingKey S (sX7_itemAt S a.2)))]) (L0 := [some (.ref (b + 20 + 2 * i10))]) (b := b + 20 + 2 * i10) (am_r 25 rfl) rfl ovX2_waitingKey q910 rfl rfl (sb_it (hk0 _ ho11)) rfl rfl rfl rfl (dX2_waitingKey hA (hk0 _ ho11) rfl (cQ_r ?_))
          refine AW.icmp_ge (tg := 56) (am_r 26 rfl) rfl rfl (fun hc16 => ?_) (fun hc16 => ?_)
          · replace hs := (if_pos hc16).symm.trans hs
            refine AW.iinc (v := a.2 + (1 : Int32)) (L' := [some (.ref (b)), some (.int (p1)), some (.ref (b + 20 + 2 * i10)), some (.int (a.2 + (1 : Int32))), some (.ref (b + 20 + 2 * (sX7_itemAt S a.2)))]) (am_r 29 rfl) rfl (Nat.le_of_ble_eq_true rfl) rfl (congrArg (fun z => a.2 + z) ci_1) rfl ?_
            refine AW.goto (tg := 4) (am_r 30 rfl) rfl ?_
            refine AW.lessL (L' := [some (.ref (b)), some (.int (p1)), some (va_rf (Option.map (fun i => b + 20 + 2 * i) (some i10))), some (.int (a.2 + (1 : Int32))), none]) ⟨rfl, rfl, rfl, rfl, trivial⟩ ?_
            have hr := (Option.some.inj hs).symm
            exact hc (some i10, a.2 + (1 : Int32)) hr (oall_s (hk0 _ ho11))
          · replace hs := (if_neg hc16).symm.trans hs
            refine AW.aload (am_r 27 rfl) rfl rfl ?_
            refine AW.astore_n (L' := [some (.ref (b)), some (.int (p1)), some (.ref (b + 20 + 2 * (sX7_itemAt S a.2))), some (.int (a.2)), some (.ref (b + 20 + 2 * (sX7_itemAt S a.2)))]) (z := 2) (am_r 28 rfl) rfl (Nat.le_of_ble_eq_true rfl) rfl ?_
            refine AW.iinc (v := a.2 + (1 : Int32)) (L' := [some (.ref (b)), some (.int (p1)), some (.ref (b + 20 + 2 * (sX7_itemAt S a.2))), some (.int (a.2 + (1 : Int32))), some (.ref (b + 20 + 2 * (sX7_itemAt S a.2)))]) (am_r 29 rfl) rfl (Nat.le_of_ble_eq_true rfl) rfl (congrArg (fun z => a.2 + z) ci_1) rfl ?_
            refine AW.goto (tg := 4) (am_r 30 rfl) rfl ?_
            refine AW.lessL (L' := [some (.ref (b)), some (.int (p1)), some (va_rf (Option.map (fun i => b + 20 + 2 * i) (some (sX7_itemAt S a.2)))), some (.int (a.2 + (1 : Int32))), none]) ⟨rfl, rfl, rfl, rfl, trivial⟩ ?_
            have hr := (Option.some.inj hs).symm
            exact hc (some (sX7_itemAt S a.2), a.2 + (1 : Int32)) hr (oall_s hok5)
noncomputable def sX7_nextWaiting (S : Mem) (p1 : Int32) : Option (Option Nat) :=
  sX7_nextWaiting_l4 S p1 (none, (0 : Int32))
set_option maxRecDepth 100000 in
theorem dX7_nextWaiting {g : AG} {h0 : AH} {b : Nat} {S : Mem} {Q : AO → AH → Prop} {p1 : Int32} (hA : gB g ≤ b)  {r : (Option Nat)} (hs : sX7_nextWaiting S p1 = some r) (hQ : oall iok r → Q (.ok (some (va_rf (Option.map (fun i => b + 20 + 2 * i) r)))) (sb h0 b S)) : AW g MX7_nextWaiting 0 [some (.ref (b)), some (.int (p1)), none, none, none] [] (sb h0 b S) Q := by
  unfold sX7_nextWaiting at hs
  refine AW.aconst_null (am_r 0 rfl) rfl ?_
  refine AW.astore_nN (L' := [some (.ref (b)), some (.int (p1)), some (.null), none, none]) (z := 2) (am_r 1 rfl) rfl (Nat.le_of_ble_eq_true rfl) rfl ?_
  refine AW.iconst (am_r 2 rfl) rfl ci_0 ?_
  refine AW.istore_n (L' := [some (.ref (b)), some (.int (p1)), some (.null), some (.int ((0 : Int32))), none]) (z := 3) (am_r 3 rfl) rfl (Nat.le_of_ble_eq_true rfl) rfl ?_
  exact dX7_nextWaiting_l4 hA  oall_n hs hQ
noncomputable def sX7_fittingPress_j62 (S : Mem) (p1 : Int32) (p2 : Int32) (y0 : Int32) (k1 : Nat) : Option ((Int32 × Int32 × Int32) ⊕ Int32) :=
  some (.inl (y0, gi S 1 0 k1, y0 + (1 : Int32)))
set_option maxRecDepth 100000 in
theorem dX7_fittingPress_j62 {g : AG} {h0 : AH} {b : Nat} {S : Mem} {Q : AO → AH → Prop} {p1 : Int32} {p2 : Int32} {y0 : Int32} {k1 : Nat} (hA : gB g ≤ b)  (hk1 : pok k1) {r : ((Int32 × Int32 × Int32) ⊕ Int32)} (hs : sX7_fittingPress_j62 S p1 p2 y0 k1 = some r) (hc : ∀ a : (Int32 × Int32 × Int32), r = .inl a → AW g MX7_fittingPress 8 [some (.ref (b)), some (.int (p1)), some (.int (p2)), some (.int (a.1)), some (.int (a.2.1)), some (.int (a.2.2)), none] [] (sb h0 b S) Q) (he : ∀ z : Int32, r = .inr z → Q (.ok (some (.int z))) (sb h0 b S)) : AW g MX7_fittingPress 62 [some (.ref (b)), some (.int (p1)), some (.int (p2)), none, none, some (.int (y0)), some (.ref (b + 2 + k1))] [] (sb h0 b S) Q := by
  unfold sX7_fittingPress_j62 at hs
  refine AW.iload (am_r 31 rfl) rfl rfl ?_
  refine AW.istore_n (L' := [some (.ref (b)), some (.int (p1)), some (.int (p2)), some (.int (y0)), none, some (.int (y0)), some (.ref (b + 2 + k1))]) (z := 3) (am_r 32 rfl) rfl (Nat.le_of_ble_eq_true rfl) rfl ?_
  refine AW.aload (am_r 33 rfl) rfl rfl ?_
  refine AW.getO (am_r 34 rfl) rfl klX3 (k := 0) (by omega) q49 (sb_pr hk1) rfl ?_
  refine AW.istore (L' := [some (.ref (b)), some (.int (p1)), some (.int (p2)), some (.int (y0)), some (.int (gi S 1 0 k1)), some (.int (y0)), some (.ref (b + 2 + k1))]) (am_r 35 rfl) rfl (Nat.le_of_ble_eq_true rfl) rfl ?_
  refine AW.iinc (v := y0 + (1 : Int32)) (L' := [some (.ref (b)), some (.int (p1)), some (.int (p2)), some (.int (y0)), some (.int (gi S 1 0 k1)), some (.int (y0 + (1 : Int32))), some (.ref (b + 2 + k1))]) (am_r 36 rfl) rfl (Nat.le_of_ble_eq_true rfl) rfl (congrArg (fun z => y0 + z) ci_1) rfl ?_
  refine AW.goto (tg := 8) (am_r 37 rfl) rfl ?_
  refine AW.lessL (L' := [some (.ref (b)), some (.int (p1)), some (.int (p2)), some (.int (y0)), some (.int (gi S 1 0 k1)), some (.int (y0 + (1 : Int32))), none]) ⟨rfl, rfl, rfl, rfl, rfl, rfl, trivial⟩ ?_
  have hr := (Option.some.inj hs).symm
  exact hc (y0, gi S 1 0 k1, y0 + (1 : Int32)) hr 
noncomputable def sX7_fittingPress_j47 (S : Mem) (p1 : Int32) (p2 : Int32) (y0 : Int32) (y1 : Int32) (y2 : Int32) (k3 : Nat) : Option ((Int32 × Int32 × Int32) ⊕ Int32) :=
  if y0 = (-1 : Int32) then
    sX7_fittingPress_j62 S p1 p2 y2 k3
  else
    if y1 ≤ (gi S 1 0 k3) then
      some (.inl (y0, y1, y2 + (1 : Int32)))
    else
      sX7_fittingPress_j62 S p1 p2 y2 k3
set_option maxRecDepth 100000 in
theorem dX7_fittingPress_j47 {g : AG} {h0 : AH} {b : Nat} {S : Mem} {Q : AO → AH → Prop} {p1 : Int32} {p2 : Int32} {y0 : Int32} {y1 : Int32} {y2 : Int32} {k3 : Nat} (hA : gB g ≤ b)  (hk3 : pok k3) {r : ((Int32 × Int32 × Int32) ⊕ Int32)} (hs : sX7_fittingPress_j47 S p1 p2 y0 y1 y2 k3 = some r) (hc : ∀ a : (Int32 × Int32 × Int32), r = .inl a → AW g MX7_fittingPress 8 [some (.ref (b)), some (.int (p1)), some (.int (p2)), some (.int (a.1)), some (.int (a.2.1)), some (.int (a.2.2)), none] [] (sb h0 b S) Q) (he : ∀ z : Int32, r = .inr z → Q (.ok (some (.int z))) (sb h0 b S)) : AW g MX7_fittingPress 47 [some (.ref (b)), some (.int (p1)), some (.int (p2)), some (.int (y0)), some (.int (y1)), some (.int (y2)), some (.ref (b + 2 + k3))] [] (sb h0 b S) Q := by
  unfold sX7_fittingPress_j47 at hs
  refine AW.iload_n (z := 3) (am_r 24 rfl) rfl rfl ?_
  refine AW.iconst (am_r 25 rfl) rfl ci_m1 ?_
  refine AW.icmp_eq (tg := 62) (am_r 26 rfl) rfl rfl (fun hc8 => ?_) (fun hc8 => ?_)
  · replace hs := (if_pos hc8).symm.trans hs
    refine AW.lessL (L' := [some (.ref (b)), some (.int (p1)), some (.int (p2)), none, none, some (.int (y2)), some (.ref (b + 2 + k3))]) ⟨rfl, rfl, rfl, rfl, rfl, trivial⟩ ?_
    exact dX7_fittingPress_j62 hA  hk3 hs hc he
  · replace hs := (if_neg hc8).symm.trans hs
    refine AW.aload (am_r 27 rfl) rfl rfl ?_
    refine AW.getO (am_r 28 rfl) rfl klX3 (k := 0) (by omega) q49 (sb_pr hk3) rfl ?_
    refine AW.iload (am_r 29 rfl) rfl rfl ?_
    refine AW.icmp_ge (tg := 72) (am_r 30 rfl) rfl rfl (fun hc9 => ?_) (fun hc9 => ?_)
    · replace hs := (if_pos hc9).symm.trans hs
      refine AW.iinc (v := y2 + (1 : Int32)) (L' := [some (.ref (b)), some (.int (p1)), some (.int (p2)), some (.int (y0)), some (.int (y1)), some (.int (y2 + (1 : Int32))), some (.ref (b + 2 + k3))]) (am_r 36 rfl) rfl (Nat.le_of_ble_eq_true rfl) rfl (congrArg (fun z => y2 + z) ci_1) rfl ?_
      refine AW.goto (tg := 8) (am_r 37 rfl) rfl ?_
      refine AW.lessL (L' := [some (.ref (b)), some (.int (p1)), some (.int (p2)), some (.int (y0)), some (.int (y1)), some (.int (y2 + (1 : Int32))), none]) ⟨rfl, rfl, rfl, rfl, rfl, rfl, trivial⟩ ?_
      have hr := (Option.some.inj hs).symm
      exact hc (y0, y1, y2 + (1 : Int32)) hr 
    · replace hs := (if_neg hc9).symm.trans hs
      refine AW.lessL (L' := [some (.ref (b)), some (.int (p1)), some (.int (p2)), none, none, some (.int (y2)), some (.ref (b + 2 + k3))]) ⟨rfl, rfl, rfl, rfl, rfl, trivial⟩ ?_
      exact dX7_fittingPress_j62 hA  hk3 hs hc he
noncomputable def sX7_fittingPress_l8_step (S : Mem) (p1 : Int32) (p2 : Int32) (a : (Int32 × Int32 × Int32)) : Option ((Int32 × Int32 × Int32) ⊕ Int32) :=
  if (gi S 0 7 0) ≤ a.2.2 then
    oinr (
    some (a.1))
  else
    if (gi S 1 0 (sX7_pressAt S a.2.2)) < p1 then
      some (.inl (a.1, a.2.1, a.2.2 + (1 : Int32)))
    else
      if (gi S 1 1 (sX7_pressAt S a.2.2)) = (-1 : Int32) then
        sX7_fittingPress_j47 S p1 p2 a.1 a.2.1 a.2.2 (sX7_pressAt S a.2.2)
      else
        if p2 = 0 then
          sX7_fittingPress_j47 S p1 p2 a.1 a.2.1 a.2.2 (sX7_pressAt S a.2.2)
        else
          some (.inl (a.1, a.2.1, a.2.2 + (1 : Int32)))
noncomputable def sX7_fittingPress_l8 (S : Mem) (p1 : Int32) (p2 : Int32) (a : (Int32 × Int32 × Int32)) : Option Int32 := itw (sX7_fittingPress_l8_step S p1 p2) a
set_option maxRecDepth 100000 in
theorem dX7_fittingPress_l8 {g : AG} {h0 : AH} {b : Nat} {S : Mem} {Q : AO → AH → Prop} {p1 : Int32} {p2 : Int32} (hA : gB g ≤ b)  {a : (Int32 × Int32 × Int32)}  {r : Int32} (hs : sX7_fittingPress_l8 S p1 p2 a = some r) (hQ : Q (.ok (some (.int r))) (sb h0 b S)) : AW g MX7_fittingPress 8 [some (.ref (b)), some (.int (p1)), some (.int (p2)), some (.int (a.1)), some (.int (a.2.1)), some (.int (a.2.2)), none] [] (sb h0 b S) Q := by
  refine itw_e (P := fun a => AW g MX7_fittingPress 8 [some (.ref (b)), some (.int (p1)), some (.int (p2)), some (.int (a.1)), some (.int (a.2.1)), some (.int (a.2.2)), none] [] (sb h0 b S) Q) (Post := fun r => Q (.ok (some (.int r))) (sb h0 b S)) (fun a r hs hc he  => ?_) hs hQ 
  unfold sX7_fittingPress_l8_step at hs
  refine AW.iload (am_r 6 rfl) rfl rfl ?_
  refine AW.aload_n (z := 0) (am_r 7 rfl) rfl rfl ?_
  refine AW.getO (am_r 8 rfl) rfl klX7 (k := 7) (by omega) q236 sb_st rfl ?_
  refine AW.icmp_ge (tg := 78) (am_r 9 rfl) rfl rfl (fun hc1 => ?_) (fun hc1 => ?_)
  · replace hs := (if_pos hc1).symm.trans hs
    refine oinr_e hs (fun z2 hz3 hs => ?_)
    have hQ := he _ hz3
    refine AW.iload_n (z := 3) (am_r 38 rfl) rfl rfl ?_
    have hr := (Option.some.inj hs).symm
    subst hr
    exact AW.iret (am_r 39 rfl) rfl hQ
  · replace hs := (if_neg hc1).symm.trans hs
    refine AW.aload_n (z := 0) (am_r 10 rfl) rfl rfl ?_
    refine AW.iload (am_r 11 rfl) rfl rfl ?_
    refine AW.callV (N := MX7_pressAt) (As := [.int (a.2.2)]) (S := []) (L0 := [some (.ref (b)), some (.int (a.2.2))]) (b := b) (am_r 12 rfl) rfl ovX7_pressAt q596 rfl rfl sb_st rfl rfl rfl rfl (dX7_pressAt hA  rfl (fun hok5 => (cQ_r ?_)))
    refine AW.astore (L' := [some (.ref (b)), some (.int (p1)), some (.int (p2)), some (.int (a.1)), some (.int (a.2.1)), some (.int (a.2.2)), some (.ref (b + 2 + (sX7_pressAt S a.2.2)))]) (am_r 13 rfl) rfl (Nat.le_of_ble_eq_true rfl) rfl ?_
    refine AW.aload (am_r 14 rfl) rfl rfl ?_
    refine AW.getO (am_r 15 rfl) rfl klX3 (k := 0) (by omega) q49 (sb_pr hok5) rfl ?_
    refine AW.iload_n (z := 1) (am_r 16 rfl) rfl rfl ?_
    refine AW.icmp_lt (tg := 72) (am_r 17 rfl) rfl rfl (fun hc6 => ?_) (fun hc6 => ?_)
    · replace hs := (if_pos hc6).symm.trans hs
      refine AW.iinc (v := a.2.2 + (1 : Int32)) (L' := [some (.ref (b)), some (.int (p1)), some (.int (p2)), some (.int (a.1)), some (.int (a.2.1)), some (.int (a.2.2 + (1 : Int32))), some (.ref (b + 2 + (sX7_pressAt S a.2.2)))]) (am_r 36 rfl) rfl (Nat.le_of_ble_eq_true rfl) rfl (congrArg (fun z => a.2.2 + z) ci_1) rfl ?_
      refine AW.goto (tg := 8) (am_r 37 rfl) rfl ?_
      refine AW.lessL (L' := [some (.ref (b)), some (.int (p1)), some (.int (p2)), some (.int (a.1)), some (.int (a.2.1)), some (.int (a.2.2 + (1 : Int32))), none]) ⟨rfl, rfl, rfl, rfl, rfl, rfl, trivial⟩ ?_
      have hr := (Option.some.inj hs).symm
      exact hc (a.1, a.2.1, a.2.2 + (1 : Int32)) hr 
    · replace hs := (if_neg hc6).symm.trans hs
      refine AW.aload (am_r 18 rfl) rfl rfl ?_
      refine AW.getO (am_r 19 rfl) rfl klX3 (k := 1) (by omega) q52 (sb_pr hok5) rfl ?_
      refine AW.iconst (am_r 20 rfl) rfl ci_m1 ?_
      refine AW.icmp_eq (tg := 47) (am_r 21 rfl) rfl rfl (fun hc7 => ?_) (fun hc7 => ?_)
      · replace hs := (if_pos hc7).symm.trans hs
        exact dX7_fittingPress_j47 hA  hok5 hs hc he
      · replace hs := (if_neg hc7).symm.trans hs
        refine AW.iload_n (z := 2) (am_r 22 rfl) rfl rfl ?_
        refine AW.if_ne (tg := 72) (am_r 23 rfl) rfl rfl (fun hc10 => ?_) (fun hc10 => ?_)
        · replace hs := (if_neg hc10).symm.trans hs
          refine AW.iinc (v := a.2.2 + (1 : Int32)) (L' := [some (.ref (b)), some (.int (p1)), some (.int (p2)), some (.int (a.1)), some (.int (a.2.1)), some (.int (a.2.2 + (1 : Int32))), some (.ref (b + 2 + (sX7_pressAt S a.2.2)))]) (am_r 36 rfl) rfl (Nat.le_of_ble_eq_true rfl) rfl (congrArg (fun z => a.2.2 + z) ci_1) rfl ?_
          refine AW.goto (tg := 8) (am_r 37 rfl) rfl ?_
          refine AW.lessL (L' := [some (.ref (b)), some (.int (p1)), some (.int (p2)), some (.int (a.1)), some (.int (a.2.1)), some (.int (a.2.2 + (1 : Int32))), none]) ⟨rfl, rfl, rfl, rfl, rfl, rfl, trivial⟩ ?_
          have hr := (Option.some.inj hs).symm
          exact hc (a.1, a.2.1, a.2.2 + (1 : Int32)) hr 
        · replace hs := (if_pos hc10).symm.trans hs
          exact dX7_fittingPress_j47 hA  hok5 hs hc he
noncomputable def sX7_fittingPress (S : Mem) (p1 : Int32) (p2 : Int32) : Option Int32 :=
  sX7_fittingPress_l8 S p1 p2 ((-1 : Int32), (0 : Int32), (0 : Int32))
set_option maxRecDepth 100000 in
theorem dX7_fittingPress {g : AG} {h0 : AH} {b : Nat} {S : Mem} {Q : AO → AH → Prop} {p1 : Int32} {p2 : Int32} (hA : gB g ≤ b)  {r : Int32} (hs : sX7_fittingPress S p1 p2 = some r) (hQ : Q (.ok (some (.int r))) (sb h0 b S)) : AW g MX7_fittingPress 0 [some (.ref (b)), some (.int (p1)), some (.int (p2)), none, none, none, none] [] (sb h0 b S) Q := by
  unfold sX7_fittingPress at hs
  refine AW.iconst (am_r 0 rfl) rfl ci_m1 ?_
  refine AW.istore_n (L' := [some (.ref (b)), some (.int (p1)), some (.int (p2)), some (.int ((-1 : Int32))), none, none, none]) (z := 3) (am_r 1 rfl) rfl (Nat.le_of_ble_eq_true rfl) rfl ?_
  refine AW.iconst (am_r 2 rfl) rfl ci_0 ?_
  refine AW.istore (L' := [some (.ref (b)), some (.int (p1)), some (.int (p2)), some (.int ((-1 : Int32))), some (.int ((0 : Int32))), none, none]) (am_r 3 rfl) rfl (Nat.le_of_ble_eq_true rfl) rfl ?_
  refine AW.iconst (am_r 4 rfl) rfl ci_0 ?_
  refine AW.istore (L' := [some (.ref (b)), some (.int (p1)), some (.int (p2)), some (.int ((-1 : Int32))), some (.int ((0 : Int32))), some (.int ((0 : Int32))), none]) (am_r 5 rfl) rfl (Nat.le_of_ble_eq_true rfl) rfl ?_
  exact dX7_fittingPress_l8 hA   hs hQ
noncomputable def sX7_enterPress (S : Mem) (i1 : Nat) (p2 : Int32) : Option Mem :=
  olet (si S 1 1 (sX7_pressAt S p2) (gi S 3 0 i1)) fun S3 =>
  olet (si S3 1 2 (sX7_pressAt S p2) ((gi S3 1 2 (sX7_pressAt S p2)) + (1 : Int32))) fun S4 =>
  olet (si S4 3 10 i1 (p2)) fun S5 =>
  olet (sX2_startCuring S5 i1 (gi S5 2 1 (sX7_recipeAt S5 (gi S5 3 9 i1)))) fun S10 =>
  obind (sX0_add S10 (gi S10 3 0 i1) (1 : Int32) (gi S10 3 9 i1) (gi S10 0 12 0) (gi S10 3 12 i1) (gi S10 3 3 i1)) fun r11 =>
  some (r11)
set_option maxRecDepth 100000 in
theorem dX7_enterPress {g : AG} {h0 : AH} {b : Nat} {S : Mem} {Q : AO → AH → Prop} {i1 : Nat} {p2 : Int32} (hA : gB g ≤ b) (hi1 : iok i1) {r : Mem} (hs : sX7_enterPress S i1 p2 = some r) (hQ : Q (.ok none) (sb h0 b r)) : AW g MX7_enterPress 0 [some (.ref (b)), some (.ref (b + 20 + 2 * i1)), some (.int (p2)), none] [] (sb h0 b S) Q := by
  unfold sX7_enterPress at hs
  refine AW.aload_n (z := 0) (am_r 0 rfl) rfl rfl ?_
  refine AW.iload_n (z := 2) (am_r 1 rfl) rfl rfl ?_
  refine AW.callV (N := MX7_pressAt) (As := [.int (p2)]) (S := []) (L0 := [some (.ref (b)), some (.int (p2))]) (b := b) (am_r 2 rfl) rfl ovX7_pressAt q596 rfl rfl sb_st rfl rfl rfl rfl (dX7_pressAt hA  rfl (fun hok2 => (cQ_r ?_)))
  refine AW.astore_n (L' := [some (.ref (b)), some (.ref (b + 20 + 2 * i1)), some (.int (p2)), some (.ref (b + 2 + (sX7_pressAt S p2)))]) (z := 3) (am_r 3 rfl) rfl (Nat.le_of_ble_eq_true rfl) rfl ?_
  refine AW.aload_n (z := 3) (am_r 4 rfl) rfl rfl ?_
  refine AW.aload_n (z := 1) (am_r 5 rfl) rfl rfl ?_
  refine AW.getO (am_r 6 rfl) rfl klX2 (k := 0) (by omega) q122 (sb_it hi1) rfl ?_
  refine AW.putO (am_r 7 rfl) rfl klX3 (k := 1) (by omega) q52 (Or.inl rfl) (sb_pr hok2) (Nat.le_trans hA (by omega)) rfl rfl (sbp_pr hok2) ?_
  refine olet_e (P := fun y => AW g MX7_enterPress 14 [some (.ref (b)), some (.ref (b + 20 + 2 * i1)), some (.int (p2)), some (.ref (b + 2 + (sX7_pressAt S p2)))] [] (sb h0 b y) Q) hs (fun S3 hs => ?_)
  refine AW.aload_n (z := 3) (am_r 8 rfl) rfl rfl ?_
  refine AW.dup (am_r 9 rfl) rfl rfl ?_
  refine AW.getO (am_r 10 rfl) rfl klX3 (k := 2) (by omega) q54 (sb_pr hok2) rfl ?_
  refine AW.iconst (am_r 11 rfl) rfl ci_1 ?_
  refine AW.iadd (am_r 12 rfl) rfl ?_
  refine AW.putO (am_r 13 rfl) rfl klX3 (k := 2) (by omega) q54 (Or.inl rfl) (sb_pr hok2) (Nat.le_trans hA (by omega)) rfl rfl (sbp_pr hok2) ?_
  refine olet_e (P := fun y => AW g MX7_enterPress 24 [some (.ref (b)), some (.ref (b + 20 + 2 * i1)), some (.int (p2)), some (.ref (b + 2 + (sX7_pressAt S p2)))] [] (sb h0 b y) Q) hs (fun S4 hs => ?_)
  refine AW.aload_n (z := 1) (am_r 14 rfl) rfl rfl ?_
  refine AW.iload_n (z := 2) (am_r 15 rfl) rfl rfl ?_
  refine AW.putO (am_r 16 rfl) rfl klX2 (k := 10) (by omega) q150 (Or.inl rfl) (sb_it hi1) (Nat.le_trans hA (by omega)) rfl rfl (sbp_it hi1 (by decide) (fun z => by omega)) ?_
  refine olet_e (P := fun y => AW g MX7_enterPress 29 [some (.ref (b)), some (.ref (b + 20 + 2 * i1)), some (.int (p2)), some (.ref (b + 2 + (sX7_pressAt S p2)))] [] (sb h0 b y) Q) hs (fun S5 hs => ?_)
  refine AW.aload_n (z := 1) (am_r 17 rfl) rfl rfl ?_
  refine AW.aload_n (z := 0) (am_r 18 rfl) rfl rfl ?_
  refine AW.aload_n (z := 1) (am_r 19 rfl) rfl rfl ?_
  refine AW.getO (am_r 20 rfl) rfl klX2 (k := 9) (by omega) q147 (sb_it hi1) rfl ?_
  refine AW.callV (N := MX7_recipeAt) (As := [.int (gi S5 3 9 i1)]) (S := [(.ref (b + 20 + 2 * i1))]) (L0 := [some (.ref (b)), some (.int (gi S5 3 9 i1))]) (b := b) (am_r 21 rfl) rfl ovX7_recipeAt q608 rfl rfl sb_st rfl rfl rfl rfl (dX7_recipeAt hA  rfl (fun hok7 => (cQ_r ?_)))
  refine AW.getO (am_r 22 rfl) rfl klX5 (k := 1) (by omega) q77 (sb_re hok7) rfl ?_
  refine AW.callV (N := MX2_startCuring) (As := [.int (gi S5 2 1 (sX7_recipeAt S5 (gi S5 3 9 i1)))]) (S := []) (L0 := [some (.ref (b + 20 + 2 * i1)), some (.int (gi S5 2 1 (sX7_recipeAt S5 (gi S5 3 9 i1))))]) (b := b + 20 + 2 * i1) (am_r 23 rfl) rfl ovX2_startCuring q887 rfl rfl (sb_it hi1) rfl rfl rfl rfl (dX2_startCuring hA hi1 rfl (cQ_v ?_))
  refine olet_e (P := fun (y : Mem) => AW g MX7_enterPress 44 [some (.ref (b)), some (.ref (b + 20 + 2 * i1)), some (.int (p2)), some (.ref (b + 2 + (sX7_pressAt S p2)))] [] (sb h0 b y) Q) hs (fun S10 hs => ?_)
  refine AW.aload_n (z := 0) (am_r 24 rfl) rfl rfl ?_
  refine AW.getO (am_r 25 rfl) rfl klX7 (k := 6) (by omega) q234 sb_st rfl ?_
  refine AW.aload_n (z := 1) (am_r 26 rfl) rfl rfl ?_
  refine AW.getO (am_r 27 rfl) rfl klX2 (k := 0) (by omega) q122 (sb_it hi1) rfl ?_
  refine AW.iconst (am_r 28 rfl) rfl ci_1 ?_
  refine AW.aload_n (z := 1) (am_r 29 rfl) rfl rfl ?_
  refine AW.getO (am_r 30 rfl) rfl klX2 (k := 9) (by omega) q147 (sb_it hi1) rfl ?_
  refine AW.aload_n (z := 0) (am_r 31 rfl) rfl rfl ?_
  refine AW.getO (am_r 32 rfl) rfl klX7 (k := 12) (by omega) q252 sb_st rfl ?_
  refine AW.aload_n (z := 1) (am_r 33 rfl) rfl rfl ?_
  refine AW.getO (am_r 34 rfl) rfl klX2 (k := 12) (by omega) q153 (sb_it hi1) rfl ?_
  refine AW.aload_n (z := 1) (am_r 35 rfl) rfl rfl ?_
  refine AW.getO (am_r 36 rfl) rfl klX2 (k := 3) (by omega) q129 (sb_it hi1) rfl ?_
  refine obind_e hs (fun r11 hg13 hs => ?_)
  refine AW.callV (N := MX0_add) (As := [.int (gi S10 3 0 i1), .int ((1 : Int32)), .int (gi S10 3 9 i1), .int (gi S10 0 12 0), .int (gi S10 3 12 i1), .int (gi S10 3 3 i1)]) (S := []) (L0 := [some (.ref (b + 56)), some (.int (gi S10 3 0 i1)), some (.int ((1 : Int32))), some (.int (gi S10 3 9 i1)), some (.int (gi S10 0 12 0)), some (.int (gi S10 3 12 i1)), some (.int (gi S10 3 3 i1)), none]) (b := b + 56) (am_r 37 rfl) rfl ovX0_add q874 rfl rfl sb_bo rfl rfl rfl rfl (dX0_add hA  hg13 (cQ_v ?_))
  have hr := (Option.some.inj hs).symm
  subst hr
  exact AW.vret (am_r 38 rfl) rfl hQ
noncomputable def sX7_fillPresses_l4_step   (a : (Int32 × Int32 × Mem)) : Option ((Int32 × Int32 × Mem) ⊕ Mem) :=
  if (gi a.2.2 0 9 0) ≤ a.2.1 then
    oinr (
    some (a.2.2))
  else
    obind (sX7_nextWaiting a.2.2 a.1) fun r4 =>
    oopt r4 (
    oinr (
    some (a.2.2))) fun i7 =>
    olet (sX2_waitingKey a.2.2 i7) fun v13 =>
    obind (sX7_fittingPress a.2.2 (gi a.2.2 3 2 i7) (1 : Int32)) fun r14 =>
    if r14 = (-1 : Int32) then
      some (.inl (v13, a.2.1 + (1 : Int32), a.2.2))
    else
      obind (sX7_enterPress a.2.2 i7 r14) fun r18 =>
      some (.inl (v13, a.2.1 + (1 : Int32), r18))
noncomputable def sX7_fillPresses_l4   (a : (Int32 × Int32 × Mem)) : Option Mem := itw (sX7_fillPresses_l4_step  ) a
set_option maxRecDepth 100000 in
theorem dX7_fillPresses_l4 {g : AG} {h0 : AH} {b : Nat} {Q : AO → AH → Prop}  (hA : gB g ≤ b)  {a : (Int32 × Int32 × Mem)}  {r : Mem} (hs : sX7_fillPresses_l4   a = some r) (hQ : Q (.ok none) (sb h0 b r)) : AW g MX7_fillPresses 4 [some (.ref (b)), some (.int (a.1)), some (.int (a.2.1)), none, none] [] (sb h0 b a.2.2) Q := by
  refine itw_e (P := fun a => AW g MX7_fillPresses 4 [some (.ref (b)), some (.int (a.1)), some (.int (a.2.1)), none, none] [] (sb h0 b a.2.2) Q) (Post := fun r => Q (.ok none) (sb h0 b r)) (fun a r hs hc he  => ?_) hs hQ 
  unfold sX7_fillPresses_l4_step at hs
  refine AW.iload_n (z := 2) (am_r 4 rfl) rfl rfl ?_
  refine AW.aload_n (z := 0) (am_r 5 rfl) rfl rfl ?_
  refine AW.getO (am_r 6 rfl) rfl klX7 (k := 9) (by omega) q243 sb_st rfl ?_
  refine AW.icmp_ge (tg := 58) (am_r 7 rfl) rfl rfl (fun hc1 => ?_) (fun hc1 => ?_)
  · replace hs := (if_pos hc1).symm.trans hs
    refine oinr_e hs (fun z2 hz3 hs => ?_)
    have hQ := he _ hz3
    have hr := (Option.some.inj hs).symm
    subst hr
    exact AW.vret (am_r 33 rfl) rfl hQ
  · replace hs := (if_neg hc1).symm.trans hs
    refine AW.aload_n (z := 0) (am_r 8 rfl) rfl rfl ?_
    refine AW.iload_n (z := 1) (am_r 9 rfl) rfl rfl ?_
    refine obind_e hs (fun r4 hg6 hs => ?_)
    refine AW.callV (N := MX7_nextWaiting) (As := [.int (a.1)]) (S := []) (L0 := [some (.ref (b)), some (.int (a.1)), none, none, none]) (b := b) (am_r 10 rfl) rfl ovX7_nextWaiting q906 rfl rfl sb_st rfl rfl rfl rfl (dX7_nextWaiting hA  hg6 (fun hok5 => (cQ_r ?_)))
    refine AW.astore_nO (L' := [some (.ref (b)), some (.int (a.1)), some (.int (a.2.1)), some (va_rf (Option.map (fun i => b + 20 + 2 * i) r4)), none]) (z := 3) (am_r 11 rfl) rfl (Nat.le_of_ble_eq_true rfl) rfl ?_
    refine oopt_e (P := fun y => AW g MX7_fillPresses 18 [some (.ref (b)), some (.int (a.1)), some (.int (a.2.1)), some (va_rf (Option.map (fun i => b + 20 + 2 * i) y)), none] [] (sb h0 b a.2.2) Q) hs (fun hs => ?_) (fun i7 ho8 hs => ?_)
    · show AW g MX7_fillPresses 18 [some (.ref (b)), some (.int (a.1)), some (.int (a.2.1)), some (.null), none] [] (sb h0 b a.2.2) Q
      refine AW.aload_nN (z := 3) (am_r 12 rfl) rfl rfl ?_
      refine AW.ifnonnullN (am_r 13 rfl) rfl ?_
      refine oinr_e hs (fun z9 hz10 hs => ?_)
      have hQ := he _ hz10
      have hr := (Option.some.inj hs).symm
      subst hr
      exact AW.vret (am_r 14 rfl) rfl hQ
    · show AW g MX7_fillPresses 18 [some (.ref (b)), some (.int (a.1)), some (.int (a.2.1)), some (.ref (b + 20 + 2 * i7)), none] [] (sb h0 b a.2.2) Q
      refine AW.aload_n (z := 3) (am_r 12 rfl) rfl rfl ?_
      refine AW.ifnonnull (tg := 23) (am_r 13 rfl) rfl ?_
      refine AW.aload_n (z := 3) (am_r 15 rfl) rfl rfl ?_
      refine AW.callV (N := MX2_waitingKey) (As := []) (S := []) (L0 := [some (.ref (b + 20 + 2 * i7))]) (b := b + 20 + 2 * i7) (am_r 16 rfl) rfl ovX2_waitingKey q910 rfl rfl (sb_it (hok5 _ ho8)) rfl rfl rfl rfl (dX2_waitingKey hA (hok5 _ ho8) rfl (cQ_r ?_))
      refine olet_e (P := fun y => AW g MX7_fillPresses 27 [some (.ref (b)), some (.int (a.1)), some (.int (a.2.1)), some (.ref (b + 20 + 2 * i7)), none] [(.int (y))] (sb h0 b a.2.2) Q) hs (fun v13 hs => ?_)
      refine AW.istore_n (L' := [some (.ref (b)), some (.int (v13)), some (.int (a.2.1)), some (.ref (b + 20 + 2 * i7)), none]) (z := 1) (am_r 17 rfl) rfl (Nat.le_of_ble_eq_true rfl) rfl ?_
      refine AW.aload_n (z := 0) (am_r 18 rfl) rfl rfl ?_
      refine AW.aload_n (z := 3) (am_r 19 rfl) rfl rfl ?_
      refine AW.getO (am_r 20 rfl) rfl klX2 (k := 2) (by omega) q126 (sb_it (hok5 _ ho8)) rfl ?_
      refine AW.iconst (am_r 21 rfl) rfl ci_1 ?_
      refine obind_e hs (fun r14 hg16 hs => ?_)
      refine AW.callV (N := MX7_fittingPress) (As := [.int (gi a.2.2 3 2 i7), .int ((1 : Int32))]) (S := []) (L0 := [some (.ref (b)), some (.int (gi a.2.2 3 2 i7)), some (.int ((1 : Int32))), none, none, none, none]) (b := b) (am_r 22 rfl) rfl ovX7_fittingPress q914 rfl rfl sb_st rfl rfl rfl rfl (dX7_fittingPress hA  hg16 (cQ_r ?_))
      refine AW.istore (L' := [some (.ref (b)), some (.int (v13)), some (.int (a.2.1)), some (.ref (b + 20 + 2 * i7)), some (.int (r14))]) (am_r 23 rfl) rfl (Nat.le_of_ble_eq_true rfl) rfl ?_
      refine AW.iload (am_r 24 rfl) rfl rfl ?_
      refine AW.iconst (am_r 25 rfl) rfl ci_m1 ?_
      refine AW.icmp_eq (tg := 52) (am_r 26 rfl) rfl rfl (fun hc17 => ?_) (fun hc17 => ?_)
      · replace hs := (if_pos hc17).symm.trans hs
        refine AW.iinc (v := a.2.1 + (1 : Int32)) (L' := [some (.ref (b)), some (.int (v13)), some (.int (a.2.1 + (1 : Int32))), some (.ref (b + 20 + 2 * i7)), some (.int (r14))]) (am_r 31 rfl) rfl (Nat.le_of_ble_eq_true rfl) rfl (congrArg (fun z => a.2.1 + z) ci_1) rfl ?_
        refine AW.goto (tg := 4) (am_r 32 rfl) rfl ?_
        refine AW.lessL (L' := [some (.ref (b)), some (.int (v13)), some (.int (a.2.1 + (1 : Int32))), none, none]) ⟨rfl, rfl, rfl, trivial⟩ ?_
        have hr := (Option.some.inj hs).symm
        exact hc (v13, a.2.1 + (1 : Int32), a.2.2) hr 
      · replace hs := (if_neg hc17).symm.trans hs
        refine AW.aload_n (z := 0) (am_r 27 rfl) rfl rfl ?_
        refine AW.aload_n (z := 3) (am_r 28 rfl) rfl rfl ?_
        refine AW.iload (am_r 29 rfl) rfl rfl ?_
        refine obind_e hs (fun r18 hg20 hs => ?_)
        refine AW.callV (N := MX7_enterPress) (As := [.ref (b + 20 + 2 * i7), .int (r14)]) (S := []) (L0 := [some (.ref (b)), some (.ref (b + 20 + 2 * i7)), some (.int (r14)), none]) (b := b) (am_r 30 rfl) rfl ovX7_enterPress q918 rfl rfl sb_st rfl rfl rfl rfl (dX7_enterPress hA (hok5 _ ho8) hg20 (cQ_v ?_))
        refine AW.iinc (v := a.2.1 + (1 : Int32)) (L' := [some (.ref (b)), some (.int (v13)), some (.int (a.2.1 + (1 : Int32))), some (.ref (b + 20 + 2 * i7)), some (.int (r14))]) (am_r 31 rfl) rfl (Nat.le_of_ble_eq_true rfl) rfl (congrArg (fun z => a.2.1 + z) ci_1) rfl ?_
        refine AW.goto (tg := 4) (am_r 32 rfl) rfl ?_
        refine AW.lessL (L' := [some (.ref (b)), some (.int (v13)), some (.int (a.2.1 + (1 : Int32))), none, none]) ⟨rfl, rfl, rfl, trivial⟩ ?_
        have hr := (Option.some.inj hs).symm
        exact hc (v13, a.2.1 + (1 : Int32), r18) hr 
noncomputable def sX7_fillPresses (S : Mem)  : Option Mem :=
  sX7_fillPresses_l4   ((-1 : Int32), (0 : Int32), S)
set_option maxRecDepth 100000 in
theorem dX7_fillPresses {g : AG} {h0 : AH} {b : Nat} {S : Mem} {Q : AO → AH → Prop}  (hA : gB g ≤ b)  {r : Mem} (hs : sX7_fillPresses S  = some r) (hQ : Q (.ok none) (sb h0 b r)) : AW g MX7_fillPresses 0 [some (.ref (b)), none, none, none, none] [] (sb h0 b S) Q := by
  unfold sX7_fillPresses at hs
  refine AW.iconst (am_r 0 rfl) rfl ci_m1 ?_
  refine AW.istore_n (L' := [some (.ref (b)), some (.int ((-1 : Int32))), none, none, none]) (z := 1) (am_r 1 rfl) rfl (Nat.le_of_ble_eq_true rfl) rfl ?_
  refine AW.iconst (am_r 2 rfl) rfl ci_0 ?_
  refine AW.istore_n (L' := [some (.ref (b)), some (.int ((-1 : Int32))), some (.int ((0 : Int32))), none, none]) (z := 2) (am_r 3 rfl) rfl (Nat.le_of_ble_eq_true rfl) rfl ?_
  exact dX7_fillPresses_l4 hA   hs hQ
noncomputable def sX7_startLoans_l2_step   (a : (Int32 × Mem)) : Option ((Int32 × Mem) ⊕ Mem) :=
  if (gi a.2 0 9 0) ≤ a.1 then
    oinr (
    some (a.2))
  else
    if (sX2_canBeLent a.2 (sX7_itemAt a.2 a.1) (gi a.2 0 12 0)) = 0 then
      some (.inl (a.1 + (1 : Int32), a.2))
    else
      olet (si a.2 3 5 (sX7_itemAt a.2 a.1) ((4 : Int32))) fun S9 =>
      olet (si S9 3 6 (sX7_itemAt a.2 a.1) (gi S9 3 18 (sX7_itemAt a.2 a.1))) fun S10 =>
      olet (si S10 3 15 (sX7_itemAt a.2 a.1) ((0 : Int32))) fun S11 =>
      olet (si S11 0 14 0 ((gi S11 0 14 0) + (1 : Int32))) fun S12 =>
      olet (si S12 0 15 0 ((gi S12 0 15 0) + ((gi S12 0 12 0) - (gi S12 3 16 (sX7_itemAt a.2 a.1))))) fun S13 =>
      some (.inl (a.1 + (1 : Int32), S13))
noncomputable def sX7_startLoans_l2   (a : (Int32 × Mem)) : Option Mem := itw (sX7_startLoans_l2_step  ) a
set_option maxRecDepth 100000 in
theorem dX7_startLoans_l2 {g : AG} {h0 : AH} {b : Nat} {Q : AO → AH → Prop}  (hA : gB g ≤ b)  {a : (Int32 × Mem)}  {r : Mem} (hs : sX7_startLoans_l2   a = some r) (hQ : Q (.ok none) (sb h0 b r)) : AW g MX7_startLoans 2 [some (.ref (b)), some (.int (a.1)), none] [] (sb h0 b a.2) Q := by
  refine itw_e (P := fun a => AW g MX7_startLoans 2 [some (.ref (b)), some (.int (a.1)), none] [] (sb h0 b a.2) Q) (Post := fun r => Q (.ok none) (sb h0 b r)) (fun a r hs hc he  => ?_) hs hQ 
  unfold sX7_startLoans_l2_step at hs
  refine AW.iload_n (z := 1) (am_r 2 rfl) rfl rfl ?_
  refine AW.aload_n (z := 0) (am_r 3 rfl) rfl rfl ?_
  refine AW.getO (am_r 4 rfl) rfl klX7 (k := 9) (by omega) q243 sb_st rfl ?_
  refine AW.icmp_ge (tg := 79) (am_r 5 rfl) rfl rfl (fun hc1 => ?_) (fun hc1 => ?_)
  · replace hs := (if_pos hc1).symm.trans hs
    refine oinr_e hs (fun z2 hz3 hs => ?_)
    have hQ := he _ hz3
    have hr := (Option.some.inj hs).symm
    subst hr
    exact AW.vret (am_r 43 rfl) rfl hQ
  · replace hs := (if_neg hc1).symm.trans hs
    refine AW.aload_n (z := 0) (am_r 6 rfl) rfl rfl ?_
    refine AW.iload_n (z := 1) (am_r 7 rfl) rfl rfl ?_
    refine AW.callV (N := MX7_itemAt) (As := [.int (a.1)]) (S := []) (L0 := [some (.ref (b)), some (.int (a.1))]) (b := b) (am_r 8 rfl) rfl ovX7_itemAt q620 rfl rfl sb_st rfl rfl rfl rfl (dX7_itemAt hA  rfl (fun hok5 => (cQ_r ?_)))
    refine AW.astore_n (L' := [some (.ref (b)), some (.int (a.1)), some (.ref (b + 20 + 2 * (sX7_itemAt a.2 a.1)))]) (z := 2) (am_r 9 rfl) rfl (Nat.le_of_ble_eq_true rfl) rfl ?_
    refine AW.aload_n (z := 2) (am_r 10 rfl) rfl rfl ?_
    refine AW.aload_n (z := 0) (am_r 11 rfl) rfl rfl ?_
    refine AW.getO (am_r 12 rfl) rfl klX7 (k := 12) (by omega) q252 sb_st rfl ?_
    refine AW.callV (N := MX2_canBeLent) (As := [.int (gi a.2 0 12 0)]) (S := []) (L0 := [some (.ref (b + 20 + 2 * (sX7_itemAt a.2 a.1))), some (.int (gi a.2 0 12 0))]) (b := b + 20 + 2 * (sX7_itemAt a.2 a.1)) (am_r 13 rfl) rfl ovX2_canBeLent q926 rfl rfl (sb_it hok5) rfl rfl rfl rfl (dX2_canBeLent hA hok5 rfl (fun hok7 => (cQ_r ?_)))
    refine AW.if_eq (tg := 73) (am_r 14 rfl) rfl rfl (fun hc8 => ?_) (fun hc8 => ?_)
    · replace hs := (if_pos hc8).symm.trans hs
      refine AW.iinc (v := a.1 + (1 : Int32)) (L' := [some (.ref (b)), some (.int (a.1 + (1 : Int32))), some (.ref (b + 20 + 2 * (sX7_itemAt a.2 a.1)))]) (am_r 41 rfl) rfl (Nat.le_of_ble_eq_true rfl) rfl (congrArg (fun z => a.1 + z) ci_1) rfl ?_
      refine AW.goto (tg := 2) (am_r 42 rfl) rfl ?_
      refine AW.lessL (L' := [some (.ref (b)), some (.int (a.1 + (1 : Int32))), none]) ⟨rfl, rfl, trivial⟩ ?_
      have hr := (Option.some.inj hs).symm
      exact hc (a.1 + (1 : Int32), a.2) hr 
    · replace hs := (if_neg hc8).symm.trans hs
      refine AW.aload_n (z := 2) (am_r 15 rfl) rfl rfl ?_
      refine AW.iconst (am_r 16 rfl) rfl ci_4 ?_
      refine AW.putO (am_r 17 rfl) rfl klX2 (k := 5) (by omega) q135 (Or.inl rfl) (sb_it hok5) (Nat.le_trans hA (by omega)) rfl rfl (sbp_it hok5 (by decide) (fun z => by omega)) ?_
      refine olet_e (P := fun y => AW g MX7_startLoans 32 [some (.ref (b)), some (.int (a.1)), some (.ref (b + 20 + 2 * (sX7_itemAt a.2 a.1)))] [] (sb h0 b y) Q) hs (fun S9 hs => ?_)
      refine AW.aload_n (z := 2) (am_r 18 rfl) rfl rfl ?_
      refine AW.aload_n (z := 2) (am_r 19 rfl) rfl rfl ?_
      refine AW.getO (am_r 20 rfl) rfl klX2 (k := 18) (by omega) q170 (sb_it hok5) rfl ?_
      refine AW.putO (am_r 21 rfl) rfl klX2 (k := 6) (by omega) q138 (Or.inl rfl) (sb_it hok5) (Nat.le_trans hA (by omega)) rfl rfl (sbp_it hok5 (by decide) (fun z => by omega)) ?_
      refine olet_e (P := fun y => AW g MX7_startLoans 40 [some (.ref (b)), some (.int (a.1)), some (.ref (b + 20 + 2 * (sX7_itemAt a.2 a.1)))] [] (sb h0 b y) Q) hs (fun S10 hs => ?_)
      refine AW.aload_n (z := 2) (am_r 22 rfl) rfl rfl ?_
      refine AW.iconst (am_r 23 rfl) rfl ci_0 ?_
      refine AW.putO (am_r 24 rfl) rfl klX2 (k := 15) (by omega) q162 (Or.inl rfl) (sb_it hok5) (Nat.le_trans hA (by omega)) (nar_b (Or.inl rfl)) rfl (sbp_it hok5 (by decide) (fun _ => Or.inl rfl)) ?_
      refine olet_e (P := fun y => AW g MX7_startLoans 45 [some (.ref (b)), some (.int (a.1)), some (.ref (b + 20 + 2 * (sX7_itemAt a.2 a.1)))] [] (sb h0 b y) Q) hs (fun S11 hs => ?_)
      refine AW.aload_n (z := 0) (am_r 25 rfl) rfl rfl ?_
      refine AW.dup (am_r 26 rfl) rfl rfl ?_
      refine AW.getO (am_r 27 rfl) rfl klX7 (k := 14) (by omega) q256 sb_st rfl ?_
      refine AW.iconst (am_r 28 rfl) rfl ci_1 ?_
      refine AW.iadd (am_r 29 rfl) rfl ?_
      refine AW.putO (am_r 30 rfl) rfl klX7 (k := 14) (by omega) q256 (Or.inl rfl) sb_st hA rfl rfl (sbp_st (by omega)) ?_
      refine olet_e (P := fun y => AW g MX7_startLoans 55 [some (.ref (b)), some (.int (a.1)), some (.ref (b + 20 + 2 * (sX7_itemAt a.2 a.1)))] [] (sb h0 b y) Q) hs (fun S12 hs => ?_)
      refine AW.aload_n (z := 0) (am_r 31 rfl) rfl rfl ?_
      refine AW.dup (am_r 32 rfl) rfl rfl ?_
      refine AW.getO (am_r 33 rfl) rfl klX7 (k := 15) (by omega) q258 sb_st rfl ?_
      refine AW.aload_n (z := 0) (am_r 34 rfl) rfl rfl ?_
      refine AW.getO (am_r 35 rfl) rfl klX7 (k := 12) (by omega) q252 sb_st rfl ?_
      refine AW.aload_n (z := 2) (am_r 36 rfl) rfl rfl ?_
      refine AW.getO (am_r 37 rfl) rfl klX2 (k := 16) (by omega) q165 (sb_it hok5) rfl ?_
      refine AW.isub (am_r 38 rfl) rfl ?_
      refine AW.iadd (am_r 39 rfl) rfl ?_
      refine AW.putO (am_r 40 rfl) rfl klX7 (k := 15) (by omega) q258 (Or.inl rfl) sb_st hA rfl rfl (sbp_st (by omega)) ?_
      refine olet_e (P := fun y => AW g MX7_startLoans 73 [some (.ref (b)), some (.int (a.1)), some (.ref (b + 20 + 2 * (sX7_itemAt a.2 a.1)))] [] (sb h0 b y) Q) hs (fun S13 hs => ?_)
      refine AW.iinc (v := a.1 + (1 : Int32)) (L' := [some (.ref (b)), some (.int (a.1 + (1 : Int32))), some (.ref (b + 20 + 2 * (sX7_itemAt a.2 a.1)))]) (am_r 41 rfl) rfl (Nat.le_of_ble_eq_true rfl) rfl (congrArg (fun z => a.1 + z) ci_1) rfl ?_
      refine AW.goto (tg := 2) (am_r 42 rfl) rfl ?_
      refine AW.lessL (L' := [some (.ref (b)), some (.int (a.1 + (1 : Int32))), none]) ⟨rfl, rfl, trivial⟩ ?_
      have hr := (Option.some.inj hs).symm
      exact hc (a.1 + (1 : Int32), S13) hr 
noncomputable def sX7_startLoans (S : Mem)  : Option Mem :=
  sX7_startLoans_l2   ((0 : Int32), S)
set_option maxRecDepth 100000 in
theorem dX7_startLoans {g : AG} {h0 : AH} {b : Nat} {S : Mem} {Q : AO → AH → Prop}  (hA : gB g ≤ b)  {r : Mem} (hs : sX7_startLoans S  = some r) (hQ : Q (.ok none) (sb h0 b r)) : AW g MX7_startLoans 0 [some (.ref (b)), none, none] [] (sb h0 b S) Q := by
  unfold sX7_startLoans at hs
  refine AW.iconst (am_r 0 rfl) rfl ci_0 ?_
  refine AW.istore_n (L' := [some (.ref (b)), some (.int ((0 : Int32))), none]) (z := 1) (am_r 1 rfl) rfl (Nat.le_of_ble_eq_true rfl) rfl ?_
  exact dX7_startLoans_l2 hA   hs hQ
noncomputable def sX7_freeBenches_l7_step (S : Mem)  (a : (Int32 × Int32)) : Option ((Int32 × Int32) ⊕ Int32) :=
  if (gi S 0 9 0) ≤ a.2 then
    oinr (
    some (a.1))
  else
    if (16 : Int32) ≤ a.2 then
      oinr (
      some (a.1))
    else
      oif (inb a.2 16) (
      if (gi S 3 5 a.2.toNatClampNeg) = (1 : Int32) then
        some (.inl (a.1 + (-1 : Int32), a.2 + (1 : Int32)))
      else
        some (.inl (a.1, a.2 + (1 : Int32))))
noncomputable def sX7_freeBenches_l7 (S : Mem)  (a : (Int32 × Int32)) : Option Int32 := itw (sX7_freeBenches_l7_step S ) a
set_option maxRecDepth 100000 in
theorem dX7_freeBenches_l7 {g : AG} {h0 : AH} {b : Nat} {S : Mem} {Q : AO → AH → Prop}  (hA : gB g ≤ b)  {a : (Int32 × Int32)}  {r : Int32} (hs : sX7_freeBenches_l7 S  a = some r) (hQ : Q (.ok (some (.int r))) (sb h0 b S)) : AW g MX7_freeBenches 7 [some (.ref (b)), some (.int (a.1)), some (.int (a.2))] [] (sb h0 b S) Q := by
  refine itw_e (P := fun a => AW g MX7_freeBenches 7 [some (.ref (b)), some (.int (a.1)), some (.int (a.2))] [] (sb h0 b S) Q) (Post := fun r => Q (.ok (some (.int r))) (sb h0 b S)) (fun a r hs hc he  => ?_) hs hQ 
  unfold sX7_freeBenches_l7_step at hs
  refine AW.iload_n (z := 2) (am_r 5 rfl) rfl rfl ?_
  refine AW.aload_n (z := 0) (am_r 6 rfl) rfl rfl ?_
  refine AW.getO (am_r 7 rfl) rfl klX7 (k := 9) (by omega) q243 sb_st rfl ?_
  refine AW.icmp_ge (tg := 46) (am_r 8 rfl) rfl rfl (fun hc1 => ?_) (fun hc1 => ?_)
  · replace hs := (if_pos hc1).symm.trans hs
    refine oinr_e hs (fun z2 hz3 hs => ?_)
    have hQ := he _ hz3
    refine AW.iload_n (z := 1) (am_r 24 rfl) rfl rfl ?_
    have hr := (Option.some.inj hs).symm
    subst hr
    exact AW.iret (am_r 25 rfl) rfl hQ
  · replace hs := (if_neg hc1).symm.trans hs
    refine AW.iload_n (z := 2) (am_r 9 rfl) rfl rfl ?_
    refine AW.aload_n (z := 0) (am_r 10 rfl) rfl rfl ?_
    refine AW.getO (am_r 11 rfl) rfl klX7 (k := 2) (by omega) q230 sb_st rfl ?_
    refine AW.alen (am_r 12 rfl) rfl rfl sb_ia cn_16 ?_
    refine AW.icmp_ge (tg := 46) (am_r 13 rfl) rfl rfl (fun hc4 => ?_) (fun hc4 => ?_)
    · replace hs := (if_pos hc4).symm.trans hs
      refine oinr_e hs (fun z5 hz6 hs => ?_)
      have hQ := he _ hz6
      refine AW.iload_n (z := 1) (am_r 24 rfl) rfl rfl ?_
      have hr := (Option.some.inj hs).symm
      subst hr
      exact AW.iret (am_r 25 rfl) rfl hQ
    · replace hs := (if_neg hc4).symm.trans hs
      refine AW.aload_n (z := 0) (am_r 14 rfl) rfl rfl ?_
      refine AW.getO (am_r 15 rfl) rfl klX7 (k := 2) (by omega) q230 sb_st rfl ?_
      refine AW.iload_n (z := 2) (am_r 16 rfl) rfl rfl ?_
      refine oif_g hs (fun hg7 hs => ?_)
      refine AW.aald (am_r 17 rfl) rfl rfl sb_ia (vp_of_inb hg7) rfl ?_
      refine AW.getO (am_r 18 rfl) rfl klX2 (k := 5) (by omega) q135 (sb_it (Or.inl (vp_lt (vp_of_inb hg7)))) rfl ?_
      refine AW.iconst (am_r 19 rfl) rfl ci_1 ?_
      refine AW.icmp_ne (tg := 40) (am_r 20 rfl) rfl rfl (fun hc8 => ?_) (fun hc8 => ?_)
      · replace hs := (if_neg hc8).symm.trans hs
        refine AW.iinc (v := a.2 + (1 : Int32)) (L' := [some (.ref (b)), some (.int (a.1)), some (.int (a.2 + (1 : Int32)))]) (am_r 22 rfl) rfl (Nat.le_of_ble_eq_true rfl) rfl (congrArg (fun z => a.2 + z) ci_1) rfl ?_
        refine AW.goto (tg := 7) (am_r 23 rfl) rfl ?_
        have hr := (Option.some.inj hs).symm
        exact hc (a.1, a.2 + (1 : Int32)) hr 
      · replace hs := (if_pos hc8).symm.trans hs
        refine AW.iinc (v := a.1 + (-1 : Int32)) (L' := [some (.ref (b)), some (.int (a.1 + (-1 : Int32))), some (.int (a.2))]) (am_r 21 rfl) rfl (Nat.le_of_ble_eq_true rfl) rfl (congrArg (fun z => a.1 + z) ci_m1) rfl ?_
        refine AW.iinc (v := a.2 + (1 : Int32)) (L' := [some (.ref (b)), some (.int (a.1 + (-1 : Int32))), some (.int (a.2 + (1 : Int32)))]) (am_r 22 rfl) rfl (Nat.le_of_ble_eq_true rfl) rfl (congrArg (fun z => a.2 + z) ci_1) rfl ?_
        refine AW.goto (tg := 7) (am_r 23 rfl) rfl ?_
        have hr := (Option.some.inj hs).symm
        exact hc (a.1 + (-1 : Int32), a.2 + (1 : Int32)) hr 
noncomputable def sX7_freeBenches (S : Mem)  : Option Int32 :=
  sX7_freeBenches_l7 S  (gi S 0 10 0, (0 : Int32))
set_option maxRecDepth 100000 in
theorem dX7_freeBenches {g : AG} {h0 : AH} {b : Nat} {S : Mem} {Q : AO → AH → Prop}  (hA : gB g ≤ b)  {r : Int32} (hs : sX7_freeBenches S  = some r) (hQ : Q (.ok (some (.int r))) (sb h0 b S)) : AW g MX7_freeBenches 0 [some (.ref (b)), none, none] [] (sb h0 b S) Q := by
  unfold sX7_freeBenches at hs
  refine AW.aload_n (z := 0) (am_r 0 rfl) rfl rfl ?_
  refine AW.getO (am_r 1 rfl) rfl klX7 (k := 10) (by omega) q246 sb_st rfl ?_
  refine AW.istore_n (L' := [some (.ref (b)), some (.int (gi S 0 10 0)), none]) (z := 1) (am_r 2 rfl) rfl (Nat.le_of_ble_eq_true rfl) rfl ?_
  refine AW.iconst (am_r 3 rfl) rfl ci_0 ?_
  refine AW.istore_n (L' := [some (.ref (b)), some (.int (gi S 0 10 0)), some (.int ((0 : Int32)))]) (z := 2) (am_r 4 rfl) rfl (Nat.le_of_ble_eq_true rfl) rfl ?_
  exact dX7_freeBenches_l7 hA   hs hQ
noncomputable def sX7_greatestPress_l4_step (S : Mem)  (a : (Int32 × Int32)) : Option ((Int32 × Int32) ⊕ Int32) :=
  if (gi S 0 7 0) ≤ a.2 then
    oinr (
    some (a.1))
  else
    if (6 : Int32) ≤ a.2 then
      oinr (
      some (a.1))
    else
      oif (inb a.2 6) (
      if (gi S 1 0 a.2.toNatClampNeg) ≤ a.1 then
        some (.inl (a.1, a.2 + (1 : Int32)))
      else
        oif (inb a.2 6) (
        olet (gi S 1 0 a.2.toNatClampNeg) fun v10 =>
        some (.inl (v10, a.2 + (1 : Int32)))))
noncomputable def sX7_greatestPress_l4 (S : Mem)  (a : (Int32 × Int32)) : Option Int32 := itw (sX7_greatestPress_l4_step S ) a
set_option maxRecDepth 100000 in
theorem dX7_greatestPress_l4 {g : AG} {h0 : AH} {b : Nat} {S : Mem} {Q : AO → AH → Prop}  (hA : gB g ≤ b)  {a : (Int32 × Int32)}  {r : Int32} (hs : sX7_greatestPress_l4 S  a = some r) (hQ : Q (.ok (some (.int r))) (sb h0 b S)) : AW g MX7_greatestPress 4 [some (.ref (b)), some (.int (a.1)), some (.int (a.2))] [] (sb h0 b S) Q := by
  refine itw_e (P := fun a => AW g MX7_greatestPress 4 [some (.ref (b)), some (.int (a.1)), some (.int (a.2))] [] (sb h0 b S) Q) (Post := fun r => Q (.ok (some (.int r))) (sb h0 b S)) (fun a r hs hc he  => ?_) hs hQ 
  unfold sX7_greatestPress_l4_step at hs
  refine AW.iload_n (z := 2) (am_r 4 rfl) rfl rfl ?_
  refine AW.aload_n (z := 0) (am_r 5 rfl) rfl rfl ?_
  refine AW.getO (am_r 6 rfl) rfl klX7 (k := 7) (by omega) q236 sb_st rfl ?_
  refine AW.icmp_ge (tg := 50) (am_r 7 rfl) rfl rfl (fun hc1 => ?_) (fun hc1 => ?_)
  · replace hs := (if_pos hc1).symm.trans hs
    refine oinr_e hs (fun z2 hz3 hs => ?_)
    have hQ := he _ hz3
    refine AW.iload_n (z := 1) (am_r 28 rfl) rfl rfl ?_
    have hr := (Option.some.inj hs).symm
    subst hr
    exact AW.iret (am_r 29 rfl) rfl hQ
  · replace hs := (if_neg hc1).symm.trans hs
    refine AW.iload_n (z := 2) (am_r 8 rfl) rfl rfl ?_
    refine AW.aload_n (z := 0) (am_r 9 rfl) rfl rfl ?_
    refine AW.getO (am_r 10 rfl) rfl klX7 (k := 0) (by omega) q228 sb_st rfl ?_
    refine AW.alen (am_r 11 rfl) rfl rfl sb_pa cn_6 ?_
    refine AW.icmp_ge (tg := 50) (am_r 12 rfl) rfl rfl (fun hc4 => ?_) (fun hc4 => ?_)
    · replace hs := (if_pos hc4).symm.trans hs
      refine oinr_e hs (fun z5 hz6 hs => ?_)
      have hQ := he _ hz6
      refine AW.iload_n (z := 1) (am_r 28 rfl) rfl rfl ?_
      have hr := (Option.some.inj hs).symm
      subst hr
      exact AW.iret (am_r 29 rfl) rfl hQ
    · replace hs := (if_neg hc4).symm.trans hs
      refine AW.aload_n (z := 0) (am_r 13 rfl) rfl rfl ?_
      refine AW.getO (am_r 14 rfl) rfl klX7 (k := 0) (by omega) q228 sb_st rfl ?_
      refine AW.iload_n (z := 2) (am_r 15 rfl) rfl rfl ?_
      refine oif_g hs (fun hg7 hs => ?_)
      refine AW.aald (am_r 16 rfl) rfl rfl sb_pa (vp_of_inb hg7) rfl ?_
      refine AW.getO (am_r 17 rfl) rfl klX3 (k := 0) (by omega) q49 (sb_pr (Or.inl (vp_lt (vp_of_inb hg7)))) rfl ?_
      refine AW.iload_n (z := 1) (am_r 18 rfl) rfl rfl ?_
      refine AW.icmp_le (tg := 44) (am_r 19 rfl) rfl rfl (fun hc8 => ?_) (fun hc8 => ?_)
      · replace hs := (if_pos hc8).symm.trans hs
        refine AW.iinc (v := a.2 + (1 : Int32)) (L' := [some (.ref (b)), some (.int (a.1)), some (.int (a.2 + (1 : Int32)))]) (am_r 26 rfl) rfl (Nat.le_of_ble_eq_true rfl) rfl (congrArg (fun z => a.2 + z) ci_1) rfl ?_
        refine AW.goto (tg := 4) (am_r 27 rfl) rfl ?_
        have hr := (Option.some.inj hs).symm
        exact hc (a.1, a.2 + (1 : Int32)) hr 
      · replace hs := (if_neg hc8).symm.trans hs
        refine AW.aload_n (z := 0) (am_r 20 rfl) rfl rfl ?_
        refine AW.getO (am_r 21 rfl) rfl klX7 (k := 0) (by omega) q228 sb_st rfl ?_
        refine AW.iload_n (z := 2) (am_r 22 rfl) rfl rfl ?_
        refine oif_g hs (fun hg9 hs => ?_)
        refine AW.aald (am_r 23 rfl) rfl rfl sb_pa (vp_of_inb hg9) rfl ?_
        refine AW.getO (am_r 24 rfl) rfl klX3 (k := 0) (by omega) q49 (sb_pr (Or.inl (vp_lt (vp_of_inb hg9)))) rfl ?_
        refine olet_e (P := fun y => AW g MX7_greatestPress 43 [some (.ref (b)), some (.int (a.1)), some (.int (a.2))] [(.int (y))] (sb h0 b S) Q) hs (fun v10 hs => ?_)
        refine AW.istore_n (L' := [some (.ref (b)), some (.int (v10)), some (.int (a.2))]) (z := 1) (am_r 25 rfl) rfl (Nat.le_of_ble_eq_true rfl) rfl ?_
        refine AW.iinc (v := a.2 + (1 : Int32)) (L' := [some (.ref (b)), some (.int (v10)), some (.int (a.2 + (1 : Int32)))]) (am_r 26 rfl) rfl (Nat.le_of_ble_eq_true rfl) rfl (congrArg (fun z => a.2 + z) ci_1) rfl ?_
        refine AW.goto (tg := 4) (am_r 27 rfl) rfl ?_
        have hr := (Option.some.inj hs).symm
        exact hc (v10, a.2 + (1 : Int32)) hr 
noncomputable def sX7_greatestPress (S : Mem)  : Option Int32 :=
  sX7_greatestPress_l4 S  ((0 : Int32), (0 : Int32))
set_option maxRecDepth 100000 in
theorem dX7_greatestPress {g : AG} {h0 : AH} {b : Nat} {S : Mem} {Q : AO → AH → Prop}  (hA : gB g ≤ b)  {r : Int32} (hs : sX7_greatestPress S  = some r) (hQ : Q (.ok (some (.int r))) (sb h0 b S)) : AW g MX7_greatestPress 0 [some (.ref (b)), none, none] [] (sb h0 b S) Q := by
  unfold sX7_greatestPress at hs
  refine AW.iconst (am_r 0 rfl) rfl ci_0 ?_
  refine AW.istore_n (L' := [some (.ref (b)), some (.int ((0 : Int32))), none]) (z := 1) (am_r 1 rfl) rfl (Nat.le_of_ble_eq_true rfl) rfl ?_
  refine AW.iconst (am_r 2 rfl) rfl ci_0 ?_
  refine AW.istore_n (L' := [some (.ref (b)), some (.int ((0 : Int32))), some (.int ((0 : Int32)))]) (z := 2) (am_r 3 rfl) rfl (Nat.le_of_ble_eq_true rfl) rfl ?_
  exact dX7_greatestPress_l4 hA   hs hQ
noncomputable def sX7_reasonOf_j82 (S : Mem) (i1 : Nat)  : Option Int32 :=
  obind (sX7_freeBenches S ) fun r11 =>
  if r11 ≤ 0 then
    some ((6 : Int32))
  else
    some ((0 : Int32))
set_option maxRecDepth 100000 in
theorem dX7_reasonOf_j82 {g : AG} {h0 : AH} {b : Nat} {S : Mem} {Q : AO → AH → Prop} {i1 : Nat}  (hA : gB g ≤ b) (hi1 : iok i1)  {r : Int32} (hs : sX7_reasonOf_j82 S i1  = some r) (hQ : Q (.ok (some (.int r))) (sb h0 b S)) : AW g MX7_reasonOf 82 [some (.ref (b)), none, none] [] (sb h0 b S) Q := by
  unfold sX7_reasonOf_j82 at hs
  refine AW.aload_n (z := 0) (am_r 44 rfl) rfl rfl ?_
  refine obind_e hs (fun r11 hg13 hs => ?_)
  refine AW.callV (N := MX7_freeBenches) (As := []) (S := []) (L0 := [some (.ref (b)), none, none]) (b := b) (am_r 45 rfl) rfl ovX7_freeBenches q712 rfl rfl sb_st rfl rfl rfl rfl (dX7_freeBenches hA  hg13 (cQ_r ?_))
  refine AW.if_le (tg := 93) (am_r 46 rfl) rfl rfl (fun hc14 => ?_) (fun hc14 => ?_)
  · replace hs := (if_pos hc14).symm.trans hs
    refine AW.bipush (am_r 49 rfl) rfl cb_6 ?_
    have hr := (Option.some.inj hs).symm
    subst hr
    exact AW.iret (am_r 50 rfl) rfl hQ
  · replace hs := (if_neg hc14).symm.trans hs
    refine AW.iconst (am_r 47 rfl) rfl ci_0 ?_
    refine AW.goto (tg := 95) (am_r 48 rfl) rfl ?_
    have hr := (Option.some.inj hs).symm
    subst hr
    exact AW.iret (am_r 50 rfl) rfl hQ
noncomputable def sX7_reasonOf_j48 (S : Mem) (i1 : Nat) (k0 : Nat) : Option Int32 :=
  if (sX5_asksApproval S k0 (gi S 3 4 i1)) = 0 then
    sX7_reasonOf_j82 S i1 
  else
    if (gi S 3 8 i1) = (-1 : Int32) then
      some ((4 : Int32))
    else
      if (gi S 0 12 0) < (gi S 3 8 i1) then
        sX7_reasonOf_j82 S i1 
      else
        some ((5 : Int32))
set_option maxRecDepth 100000 in
theorem dX7_reasonOf_j48 {g : AG} {h0 : AH} {b : Nat} {S : Mem} {Q : AO → AH → Prop} {i1 : Nat} {k0 : Nat} (hA : gB g ≤ b) (hi1 : iok i1) (hk0 : rok k0) {r : Int32} (hs : sX7_reasonOf_j48 S i1 k0 = some r) (hQ : Q (.ok (some (.int r))) (sb h0 b S)) : AW g MX7_reasonOf 48 [some (.ref (b)), some (.ref (b + 20 + 2 * i1)), some (.ref (b + 9 + k0))] [] (sb h0 b S) Q := by
  unfold sX7_reasonOf_j48 at hs
  refine AW.aload_n (z := 2) (am_r 26 rfl) rfl rfl ?_
  refine AW.aload_n (z := 1) (am_r 27 rfl) rfl rfl ?_
  refine AW.getO (am_r 28 rfl) rfl klX2 (k := 4) (by omega) q132 (sb_it hi1) rfl ?_
  refine AW.callV (N := MX5_asksApproval) (As := [.int (gi S 3 4 i1)]) (S := []) (L0 := [some (.ref (b + 9 + k0)), some (.int (gi S 3 4 i1))]) (b := b + 9 + k0) (am_r 29 rfl) rfl ovX5_asksApproval q708 rfl rfl (sb_re hk0) rfl rfl rfl rfl (dX5_asksApproval hA hk0 rfl (fun hok9 => (cQ_r ?_)))
  refine AW.if_eq (tg := 82) (am_r 30 rfl) rfl rfl (fun hc10 => ?_) (fun hc10 => ?_)
  · replace hs := (if_pos hc10).symm.trans hs
    refine AW.lessL (L' := [some (.ref (b)), none, none]) ⟨rfl, trivial⟩ ?_
    exact dX7_reasonOf_j82 hA hi1  hs hQ
  · replace hs := (if_neg hc10).symm.trans hs
    refine AW.aload_n (z := 1) (am_r 31 rfl) rfl rfl ?_
    refine AW.getO (am_r 32 rfl) rfl klX2 (k := 8) (by omega) q144 (sb_it hi1) rfl ?_
    refine AW.iconst (am_r 33 rfl) rfl ci_m1 ?_
    refine AW.icmp_ne (tg := 69) (am_r 34 rfl) rfl rfl (fun hc15 => ?_) (fun hc15 => ?_)
    · replace hs := (if_neg hc15).symm.trans hs
      refine AW.aload_n (z := 1) (am_r 37 rfl) rfl rfl ?_
      refine AW.getO (am_r 38 rfl) rfl klX2 (k := 8) (by omega) q144 (sb_it hi1) rfl ?_
      refine AW.aload_n (z := 0) (am_r 39 rfl) rfl rfl ?_
      refine AW.getO (am_r 40 rfl) rfl klX7 (k := 12) (by omega) q252 sb_st rfl ?_
      refine AW.icmp_gt (tg := 82) (am_r 41 rfl) rfl rfl (fun hc16 => ?_) (fun hc16 => ?_)
      · replace hs := (if_pos hc16).symm.trans hs
        refine AW.lessL (L' := [some (.ref (b)), none, none]) ⟨rfl, trivial⟩ ?_
        exact dX7_reasonOf_j82 hA hi1  hs hQ
      · replace hs := (if_neg hc16).symm.trans hs
        refine AW.iconst (am_r 42 rfl) rfl ci_5 ?_
        have hr := (Option.some.inj hs).symm
        subst hr
        exact AW.iret (am_r 43 rfl) rfl hQ
    · replace hs := (if_pos hc15).symm.trans hs
      refine AW.iconst (am_r 35 rfl) rfl ci_4 ?_
      have hr := (Option.some.inj hs).symm
      subst hr
      exact AW.iret (am_r 36 rfl) rfl hQ
noncomputable def sX7_reasonOf (S : Mem) (i1 : Nat) : Option Int32 :=
  if (gi S 3 5 i1) = 0 then
    if (gi S 3 7 i1) = 0 then
      some ((2 : Int32))
    else
      if (gi S 2 2 (sX7_recipeAt S (sX2_firstQueued S i1))) = (1 : Int32) then
        obind (sX7_greatestPress S ) fun r17 =>
        if (gi S 3 2 i1) ≤ r17 then
          sX7_reasonOf_j48 S i1 (sX7_recipeAt S (sX2_firstQueued S i1))
        else
          some ((3 : Int32))
      else
        sX7_reasonOf_j48 S i1 (sX7_recipeAt S (sX2_firstQueued S i1))
  else
    some ((1 : Int32))
set_option maxRecDepth 100000 in
theorem dX7_reasonOf {g : AG} {h0 : AH} {b : Nat} {S : Mem} {Q : AO → AH → Prop} {i1 : Nat} (hA : gB g ≤ b) (hi1 : iok i1) {r : Int32} (hs : sX7_reasonOf S i1 = some r) (hQ : Q (.ok (some (.int r))) (sb h0 b S)) : AW g MX7_reasonOf 0 [some (.ref (b)), some (.ref (b + 20 + 2 * i1)), none] [] (sb h0 b S) Q := by
  unfold sX7_reasonOf at hs
  refine AW.aload_n (z := 1) (am_r 0 rfl) rfl rfl ?_
  refine AW.getO (am_r 1 rfl) rfl klX2 (k := 5) (by omega) q135 (sb_it hi1) rfl ?_
  refine AW.if_eq (tg := 9) (am_r 2 rfl) rfl rfl (fun hc1 => ?_) (fun hc1 => ?_)
  · replace hs := (if_pos hc1).symm.trans hs
    refine AW.aload_n (z := 1) (am_r 5 rfl) rfl rfl ?_
    refine AW.getO (am_r 6 rfl) rfl klX2 (k := 7) (by omega) q141 (sb_it hi1) rfl ?_
    refine AW.if_ne (tg := 18) (am_r 7 rfl) rfl rfl (fun hc2 => ?_) (fun hc2 => ?_)
    · replace hs := (if_neg hc2).symm.trans hs
      refine AW.aload_n (z := 0) (am_r 10 rfl) rfl rfl ?_
      refine AW.aload_n (z := 1) (am_r 11 rfl) rfl rfl ?_
      refine AW.callV (N := MX2_firstQueued) (As := []) (S := [(.ref (b))]) (L0 := [some (.ref (b + 20 + 2 * i1))]) (b := b + 20 + 2 * i1) (am_r 12 rfl) rfl ovX2_firstQueued q700 rfl rfl (sb_it hi1) rfl rfl rfl rfl (dX2_firstQueued hA hi1 rfl (cQ_r ?_))
      refine AW.callV (N := MX7_recipeAt) (As := [.int (sX2_firstQueued S i1)]) (S := []) (L0 := [some (.ref (b)), some (.int (sX2_firstQueued S i1))]) (b := b) (am_r 13 rfl) rfl ovX7_recipeAt q608 rfl rfl sb_st rfl rfl rfl rfl (dX7_recipeAt hA  rfl (fun hok6 => (cQ_r ?_)))
      refine AW.astore_n (L' := [some (.ref (b)), some (.ref (b + 20 + 2 * i1)), some (.ref (b + 9 + (sX7_recipeAt S (sX2_firstQueued S i1))))]) (z := 2) (am_r 14 rfl) rfl (Nat.le_of_ble_eq_true rfl) rfl ?_
      refine AW.aload_n (z := 2) (am_r 15 rfl) rfl rfl ?_
      refine AW.getO (am_r 16 rfl) rfl klX5 (k := 2) (by omega) q81 (sb_re hok6) rfl ?_
      refine AW.iconst (am_r 17 rfl) rfl ci_1 ?_
      refine AW.icmp_ne (tg := 48) (am_r 18 rfl) rfl rfl (fun hc7 => ?_) (fun hc7 => ?_)
      · replace hs := (if_neg hc7).symm.trans hs
        exact dX7_reasonOf_j48 hA hi1 hok6 hs hQ
      · replace hs := (if_pos hc7).symm.trans hs
        refine AW.aload_n (z := 0) (am_r 19 rfl) rfl rfl ?_
        refine obind_e hs (fun r17 hg19 hs => ?_)
        refine AW.callV (N := MX7_greatestPress) (As := []) (S := []) (L0 := [some (.ref (b)), none, none]) (b := b) (am_r 20 rfl) rfl ovX7_greatestPress q704 rfl rfl sb_st rfl rfl rfl rfl (dX7_greatestPress hA  hg19 (cQ_r ?_))
        refine AW.aload_n (z := 1) (am_r 21 rfl) rfl rfl ?_
        refine AW.getO (am_r 22 rfl) rfl klX2 (k := 2) (by omega) q126 (sb_it hi1) rfl ?_
        refine AW.icmp_ge (tg := 48) (am_r 23 rfl) rfl rfl (fun hc20 => ?_) (fun hc20 => ?_)
        · replace hs := (if_pos hc20).symm.trans hs
          exact dX7_reasonOf_j48 hA hi1 hok6 hs hQ
        · replace hs := (if_neg hc20).symm.trans hs
          refine AW.iconst (am_r 24 rfl) rfl ci_3 ?_
          have hr := (Option.some.inj hs).symm
          subst hr
          exact AW.iret (am_r 25 rfl) rfl hQ
    · replace hs := (if_pos hc2).symm.trans hs
      refine AW.iconst (am_r 8 rfl) rfl ci_2 ?_
      have hr := (Option.some.inj hs).symm
      subst hr
      exact AW.iret (am_r 9 rfl) rfl hQ
  · replace hs := (if_neg hc1).symm.trans hs
    refine AW.iconst (am_r 3 rfl) rfl ci_1 ?_
    have hr := (Option.some.inj hs).symm
    subst hr
    exact AW.iret (am_r 4 rfl) rfl hQ
noncomputable def sX7_firstToBegin_l8_step (S : Mem)  (a : (Int32 × Int32 × Int32)) : Option ((Int32 × Int32 × Int32) ⊕ Int32) :=
  if (gi S 0 9 0) ≤ a.2.2 then
    oinr (
    some (a.1))
  else
    if a.2.1 ≤ (sX2_urgency S (sX7_itemAt S a.2.2)) then
      some (.inl (a.1, a.2.1, a.2.2 + (1 : Int32)))
    else
      obind (sX7_reasonOf S (sX7_itemAt S a.2.2)) fun r10 =>
      if r10 = 0 then
        olet (sX2_urgency S (sX7_itemAt S a.2.2)) fun v16 =>
        some (.inl (a.2.2, v16, a.2.2 + (1 : Int32)))
      else
        some (.inl (a.1, a.2.1, a.2.2 + (1 : Int32)))
noncomputable def sX7_firstToBegin_l8 (S : Mem)  (a : (Int32 × Int32 × Int32)) : Option Int32 := itw (sX7_firstToBegin_l8_step S ) a
set_option maxRecDepth 100000 in
theorem dX7_firstToBegin_l8 {g : AG} {h0 : AH} {b : Nat} {S : Mem} {Q : AO → AH → Prop}  (hA : gB g ≤ b)  {a : (Int32 × Int32 × Int32)}  {r : Int32} (hs : sX7_firstToBegin_l8 S  a = some r) (hQ : Q (.ok (some (.int r))) (sb h0 b S)) : AW g MX7_firstToBegin 8 [some (.ref (b)), some (.int (a.1)), some (.int (a.2.1)), some (.int (a.2.2)), none] [] (sb h0 b S) Q := by
  refine itw_e (P := fun a => AW g MX7_firstToBegin 8 [some (.ref (b)), some (.int (a.1)), some (.int (a.2.1)), some (.int (a.2.2)), none] [] (sb h0 b S) Q) (Post := fun r => Q (.ok (some (.int r))) (sb h0 b S)) (fun a r hs hc he  => ?_) hs hQ 
  unfold sX7_firstToBegin_l8_step at hs
  refine AW.iload_n (z := 3) (am_r 6 rfl) rfl rfl ?_
  refine AW.aload_n (z := 0) (am_r 7 rfl) rfl rfl ?_
  refine AW.getO (am_r 8 rfl) rfl klX7 (k := 9) (by omega) q243 sb_st rfl ?_
  refine AW.icmp_ge (tg := 55) (am_r 9 rfl) rfl rfl (fun hc2 => ?_) (fun hc2 => ?_)
  · replace hs := (if_pos hc2).symm.trans hs
    refine oinr_e hs (fun z3 hz4 hs => ?_)
    have hQ := he _ hz4
    refine AW.iload_n (z := 1) (am_r 29 rfl) rfl rfl ?_
    have hr := (Option.some.inj hs).symm
    subst hr
    exact AW.iret (am_r 30 rfl) rfl hQ
  · replace hs := (if_neg hc2).symm.trans hs
    refine AW.aload_n (z := 0) (am_r 10 rfl) rfl rfl ?_
    refine AW.iload_n (z := 3) (am_r 11 rfl) rfl rfl ?_
    refine AW.callV (N := MX7_itemAt) (As := [.int (a.2.2)]) (S := []) (L0 := [some (.ref (b)), some (.int (a.2.2))]) (b := b) (am_r 12 rfl) rfl ovX7_itemAt q620 rfl rfl sb_st rfl rfl rfl rfl (dX7_itemAt hA  rfl (fun hok6 => (cQ_r ?_)))
    refine AW.astore (L' := [some (.ref (b)), some (.int (a.1)), some (.int (a.2.1)), some (.int (a.2.2)), some (.ref (b + 20 + 2 * (sX7_itemAt S a.2.2)))]) (am_r 13 rfl) rfl (Nat.le_of_ble_eq_true rfl) rfl ?_
    refine AW.aload (am_r 14 rfl) rfl rfl ?_
    refine AW.callV (N := MX2_urgency) (As := []) (S := []) (L0 := [some (.ref (b + 20 + 2 * (sX7_itemAt S a.2.2)))]) (b := b + 20 + 2 * (sX7_itemAt S a.2.2)) (am_r 15 rfl) rfl ovX2_urgency q692 rfl rfl (sb_it hok6) rfl rfl rfl rfl (dX2_urgency hA hok6 rfl (cQ_r ?_))
    refine AW.iload_n (z := 2) (am_r 16 rfl) rfl rfl ?_
    refine AW.icmp_ge (tg := 49) (am_r 17 rfl) rfl rfl (fun hc9 => ?_) (fun hc9 => ?_)
    · replace hs := (if_pos hc9).symm.trans hs
      refine AW.iinc (v := a.2.2 + (1 : Int32)) (L' := [some (.ref (b)), some (.int (a.1)), some (.int (a.2.1)), some (.int (a.2.2 + (1 : Int32))), some (.ref (b + 20 + 2 * (sX7_itemAt S a.2.2)))]) (am_r 27 rfl) rfl (Nat.le_of_ble_eq_true rfl) rfl (congrArg (fun z => a.2.2 + z) ci_1) rfl ?_
      refine AW.goto (tg := 8) (am_r 28 rfl) rfl ?_
      refine AW.lessL (L' := [some (.ref (b)), some (.int (a.1)), some (.int (a.2.1)), some (.int (a.2.2 + (1 : Int32))), none]) ⟨rfl, rfl, rfl, rfl, trivial⟩ ?_
      have hr := (Option.some.inj hs).symm
      exact hc (a.1, a.2.1, a.2.2 + (1 : Int32)) hr 
    · replace hs := (if_neg hc9).symm.trans hs
      refine AW.aload_n (z := 0) (am_r 18 rfl) rfl rfl ?_
      refine AW.aload (am_r 19 rfl) rfl rfl ?_
      refine obind_e hs (fun r10 hg12 hs => ?_)
      refine AW.callV (N := MX7_reasonOf) (As := [.ref (b + 20 + 2 * (sX7_itemAt S a.2.2))]) (S := []) (L0 := [some (.ref (b)), some (.ref (b + 20 + 2 * (sX7_itemAt S a.2.2))), none]) (b := b) (am_r 20 rfl) rfl ovX7_reasonOf q696 rfl rfl sb_st rfl rfl rfl rfl (dX7_reasonOf hA hok6 hg12 (cQ_r ?_))
      refine AW.if_ne (tg := 49) (am_r 21 rfl) rfl rfl (fun hc13 => ?_) (fun hc13 => ?_)
      · replace hs := (if_neg hc13).symm.trans hs
        refine AW.iinc (v := a.2.2 + (1 : Int32)) (L' := [some (.ref (b)), some (.int (a.1)), some (.int (a.2.1)), some (.int (a.2.2 + (1 : Int32))), some (.ref (b + 20 + 2 * (sX7_itemAt S a.2.2)))]) (am_r 27 rfl) rfl (Nat.le_of_ble_eq_true rfl) rfl (congrArg (fun z => a.2.2 + z) ci_1) rfl ?_
        refine AW.goto (tg := 8) (am_r 28 rfl) rfl ?_
        refine AW.lessL (L' := [some (.ref (b)), some (.int (a.1)), some (.int (a.2.1)), some (.int (a.2.2 + (1 : Int32))), none]) ⟨rfl, rfl, rfl, rfl, trivial⟩ ?_
        have hr := (Option.some.inj hs).symm
        exact hc (a.1, a.2.1, a.2.2 + (1 : Int32)) hr 
      · replace hs := (if_pos hc13).symm.trans hs
        refine AW.iload_n (z := 3) (am_r 22 rfl) rfl rfl ?_
        refine AW.istore_n (L' := [some (.ref (b)), some (.int (a.2.2)), some (.int (a.2.1)), some (.int (a.2.2)), some (.ref (b + 20 + 2 * (sX7_itemAt S a.2.2)))]) (z := 1) (am_r 23 rfl) rfl (Nat.le_of_ble_eq_true rfl) rfl ?_
        refine AW.aload (am_r 24 rfl) rfl rfl ?_
        refine AW.callV (N := MX2_urgency) (As := []) (S := []) (L0 := [some (.ref (b + 20 + 2 * (sX7_itemAt S a.2.2)))]) (b := b + 20 + 2 * (sX7_itemAt S a.2.2)) (am_r 25 rfl) rfl ovX2_urgency q692 rfl rfl (sb_it hok6) rfl rfl rfl rfl (dX2_urgency hA hok6 rfl (cQ_r ?_))
        refine olet_e (P := fun y => AW g MX7_firstToBegin 48 [some (.ref (b)), some (.int (a.2.2)), some (.int (a.2.1)), some (.int (a.2.2)), some (.ref (b + 20 + 2 * (sX7_itemAt S a.2.2)))] [(.int (y))] (sb h0 b S) Q) hs (fun v16 hs => ?_)
        refine AW.istore_n (L' := [some (.ref (b)), some (.int (a.2.2)), some (.int (v16)), some (.int (a.2.2)), some (.ref (b + 20 + 2 * (sX7_itemAt S a.2.2)))]) (z := 2) (am_r 26 rfl) rfl (Nat.le_of_ble_eq_true rfl) rfl ?_
        refine AW.iinc (v := a.2.2 + (1 : Int32)) (L' := [some (.ref (b)), some (.int (a.2.2)), some (.int (v16)), some (.int (a.2.2 + (1 : Int32))), some (.ref (b + 20 + 2 * (sX7_itemAt S a.2.2)))]) (am_r 27 rfl) rfl (Nat.le_of_ble_eq_true rfl) rfl (congrArg (fun z => a.2.2 + z) ci_1) rfl ?_
        refine AW.goto (tg := 8) (am_r 28 rfl) rfl ?_
        refine AW.lessL (L' := [some (.ref (b)), some (.int (a.2.2)), some (.int (v16)), some (.int (a.2.2 + (1 : Int32))), none]) ⟨rfl, rfl, rfl, rfl, trivial⟩ ?_
        have hr := (Option.some.inj hs).symm
        exact hc (a.2.2, v16, a.2.2 + (1 : Int32)) hr 
noncomputable def sX7_firstToBegin (S : Mem)  : Option Int32 :=
  olet ((30001 : Int32)) fun v1 =>
  sX7_firstToBegin_l8 S  ((-1 : Int32), v1, (0 : Int32))
set_option maxRecDepth 100000 in
theorem dX7_firstToBegin {g : AG} {h0 : AH} {b : Nat} {S : Mem} {Q : AO → AH → Prop}  (hA : gB g ≤ b)  {r : Int32} (hs : sX7_firstToBegin S  = some r) (hQ : Q (.ok (some (.int r))) (sb h0 b S)) : AW g MX7_firstToBegin 0 [some (.ref (b)), none, none, none, none] [] (sb h0 b S) Q := by
  unfold sX7_firstToBegin at hs
  refine AW.iconst (am_r 0 rfl) rfl ci_m1 ?_
  refine AW.istore_n (L' := [some (.ref (b)), some (.int ((-1 : Int32))), none, none, none]) (z := 1) (am_r 1 rfl) rfl (Nat.le_of_ble_eq_true rfl) rfl ?_
  refine AW.sipush (am_r 2 rfl) rfl cs_30001 ?_
  refine olet_e (P := fun y => AW g MX7_firstToBegin 5 [some (.ref (b)), some (.int ((-1 : Int32))), none, none, none] [(.int (y))] (sb h0 b S) Q) hs (fun v1 hs => ?_)
  refine AW.istore_n (L' := [some (.ref (b)), some (.int ((-1 : Int32))), some (.int (v1)), none, none]) (z := 2) (am_r 3 rfl) rfl (Nat.le_of_ble_eq_true rfl) rfl ?_
  refine AW.iconst (am_r 4 rfl) rfl ci_0 ?_
  refine AW.istore_n (L' := [some (.ref (b)), some (.int ((-1 : Int32))), some (.int (v1)), some (.int ((0 : Int32))), none]) (z := 3) (am_r 5 rfl) rfl (Nat.le_of_ble_eq_true rfl) rfl ?_
  exact dX7_firstToBegin_l8 hA   hs hQ
noncomputable def sX7_startStep (S : Mem) (i1 : Nat) : Option Mem :=
  obind (sX2_dropFirst S i1) fun r1 =>
  olet (si r1.2 3 9 i1 (r1.1)) fun S4 =>
  olet (si S4 3 5 i1 ((1 : Int32))) fun S5 =>
  olet (si S5 3 6 i1 (gi S5 2 0 (sX7_recipeAt S5 (gi S5 3 9 i1)))) fun S8 =>
  some (S8)
set_option maxRecDepth 100000 in
theorem dX7_startStep {g : AG} {h0 : AH} {b : Nat} {S : Mem} {Q : AO → AH → Prop} {i1 : Nat} (hA : gB g ≤ b) (hi1 : iok i1) {r : Mem} (hs : sX7_startStep S i1 = some r) (hQ : Q (.ok none) (sb h0 b r)) : AW g MX7_startStep 0 [some (.ref (b)), some (.ref (b + 20 + 2 * i1))] [] (sb h0 b S) Q := by
  unfold sX7_startStep at hs
  refine AW.aload_n (z := 1) (am_r 0 rfl) rfl rfl ?_
  refine AW.aload_n (z := 1) (am_r 1 rfl) rfl rfl ?_
  refine obind_e hs (fun r1 hg3 hs => ?_)
  refine AW.callV (N := MX2_dropFirst) (As := []) (S := [(.ref (b + 20 + 2 * i1))]) (L0 := [some (.ref (b + 20 + 2 * i1)), none, none]) (b := b + 20 + 2 * i1) (am_r 2 rfl) rfl ovX2_dropFirst q939 rfl rfl (sb_it hi1) rfl rfl rfl rfl (dX2_dropFirst hA hi1 hg3 (cQ_r ?_))
  refine AW.putO (am_r 3 rfl) rfl klX2 (k := 9) (by omega) q147 (Or.inl rfl) (sb_it hi1) (Nat.le_trans hA (by omega)) rfl rfl (sbp_it hi1 (by decide) (fun z => by omega)) ?_
  refine olet_e (P := fun y => AW g MX7_startStep 8 [some (.ref (b)), some (.ref (b + 20 + 2 * i1))] [] (sb h0 b y) Q) hs (fun S4 hs => ?_)
  refine AW.aload_n (z := 1) (am_r 4 rfl) rfl rfl ?_
  refine AW.iconst (am_r 5 rfl) rfl ci_1 ?_
  refine AW.putO (am_r 6 rfl) rfl klX2 (k := 5) (by omega) q135 (Or.inl rfl) (sb_it hi1) (Nat.le_trans hA (by omega)) rfl rfl (sbp_it hi1 (by decide) (fun z => by omega)) ?_
  refine olet_e (P := fun y => AW g MX7_startStep 13 [some (.ref (b)), some (.ref (b + 20 + 2 * i1))] [] (sb h0 b y) Q) hs (fun S5 hs => ?_)
  refine AW.aload_n (z := 1) (am_r 7 rfl) rfl rfl ?_
  refine AW.aload_n (z := 0) (am_r 8 rfl) rfl rfl ?_
  refine AW.aload_n (z := 1) (am_r 9 rfl) rfl rfl ?_
  refine AW.getO (am_r 10 rfl) rfl klX2 (k := 9) (by omega) q147 (sb_it hi1) rfl ?_
  refine AW.callV (N := MX7_recipeAt) (As := [.int (gi S5 3 9 i1)]) (S := [(.ref (b + 20 + 2 * i1))]) (L0 := [some (.ref (b)), some (.int (gi S5 3 9 i1))]) (b := b) (am_r 11 rfl) rfl ovX7_recipeAt q608 rfl rfl sb_st rfl rfl rfl rfl (dX7_recipeAt hA  rfl (fun hok7 => (cQ_r ?_)))
  refine AW.getO (am_r 12 rfl) rfl klX5 (k := 0) (by omega) q73 (sb_re hok7) rfl ?_
  refine AW.putO (am_r 13 rfl) rfl klX2 (k := 6) (by omega) q138 (Or.inl rfl) (sb_it hi1) (Nat.le_trans hA (by omega)) rfl rfl (sbp_it hi1 (by decide) (fun z => by omega)) ?_
  refine olet_e (P := fun y => AW g MX7_startStep 28 [some (.ref (b)), some (.ref (b + 20 + 2 * i1))] [] (sb h0 b y) Q) hs (fun S8 hs => ?_)
  have hr := (Option.some.inj hs).symm
  subst hr
  exact AW.vret (am_r 14 rfl) rfl hQ
noncomputable def sX7_startSteps_l7_step   (a : (Int32 × Int32 × Mem)) : Option ((Int32 × Int32 × Mem) ⊕ Mem) :=
  if a.1 ≤ a.2.1 then
    oinr (
    some (a.2.2))
  else
    obind (sX7_firstToBegin a.2.2 ) fun r7 =>
    if r7 = (-1 : Int32) then
      oinr (
      some (a.2.2))
    else
      obind (sX7_startStep a.2.2 (sX7_itemAt a.2.2 r7)) fun r13 =>
      some (.inl (a.1, a.2.1 + (1 : Int32), r13))
noncomputable def sX7_startSteps_l7   (a : (Int32 × Int32 × Mem)) : Option Mem := itw (sX7_startSteps_l7_step  ) a
set_option maxRecDepth 100000 in
theorem dX7_startSteps_l7 {g : AG} {h0 : AH} {b : Nat} {Q : AO → AH → Prop}  (hA : gB g ≤ b)  {a : (Int32 × Int32 × Mem)}  {r : Mem} (hs : sX7_startSteps_l7   a = some r) (hQ : Q (.ok none) (sb h0 b r)) : AW g MX7_startSteps 7 [some (.ref (b)), some (.int (a.1)), some (.int (a.2.1)), none] [] (sb h0 b a.2.2) Q := by
  refine itw_e (P := fun a => AW g MX7_startSteps 7 [some (.ref (b)), some (.int (a.1)), some (.int (a.2.1)), none] [] (sb h0 b a.2.2) Q) (Post := fun r => Q (.ok none) (sb h0 b r)) (fun a r hs hc he  => ?_) hs hQ 
  unfold sX7_startSteps_l7_step at hs
  refine AW.iload_n (z := 2) (am_r 5 rfl) rfl rfl ?_
  refine AW.iload_n (z := 1) (am_r 6 rfl) rfl rfl ?_
  refine AW.icmp_ge (tg := 38) (am_r 7 rfl) rfl rfl (fun hc4 => ?_) (fun hc4 => ?_)
  · replace hs := (if_pos hc4).symm.trans hs
    refine oinr_e hs (fun z5 hz6 hs => ?_)
    have hQ := he _ hz6
    have hr := (Option.some.inj hs).symm
    subst hr
    exact AW.vret (am_r 22 rfl) rfl hQ
  · replace hs := (if_neg hc4).symm.trans hs
    refine AW.aload_n (z := 0) (am_r 8 rfl) rfl rfl ?_
    refine obind_e hs (fun r7 hg9 hs => ?_)
    refine AW.callV (N := MX7_firstToBegin) (As := []) (S := []) (L0 := [some (.ref (b)), none, none, none, none]) (b := b) (am_r 9 rfl) rfl ovX7_firstToBegin q934 rfl rfl sb_st rfl rfl rfl rfl (dX7_firstToBegin hA  hg9 (cQ_r ?_))
    refine AW.istore_n (L' := [some (.ref (b)), some (.int (a.1)), some (.int (a.2.1)), some (.int (r7))]) (z := 3) (am_r 10 rfl) rfl (Nat.le_of_ble_eq_true rfl) rfl ?_
    refine AW.iload_n (z := 3) (am_r 11 rfl) rfl rfl ?_
    refine AW.iconst (am_r 12 rfl) rfl ci_m1 ?_
    refine AW.icmp_ne (tg := 23) (am_r 13 rfl) rfl rfl (fun hc10 => ?_) (fun hc10 => ?_)
    · replace hs := (if_neg hc10).symm.trans hs
      refine AW.aload_n (z := 0) (am_r 15 rfl) rfl rfl ?_
      refine AW.aload_n (z := 0) (am_r 16 rfl) rfl rfl ?_
      refine AW.iload_n (z := 3) (am_r 17 rfl) rfl rfl ?_
      refine AW.callV (N := MX7_itemAt) (As := [.int (r7)]) (S := [(.ref (b))]) (L0 := [some (.ref (b)), some (.int (r7))]) (b := b) (am_r 18 rfl) rfl ovX7_itemAt q620 rfl rfl sb_st rfl rfl rfl rfl (dX7_itemAt hA  rfl (fun hok12 => (cQ_r ?_)))
      refine obind_e hs (fun r13 hg15 hs => ?_)
      refine AW.callV (N := MX7_startStep) (As := [.ref (b + 20 + 2 * (sX7_itemAt a.2.2 r7))]) (S := []) (L0 := [some (.ref (b)), some (.ref (b + 20 + 2 * (sX7_itemAt a.2.2 r7)))]) (b := b) (am_r 19 rfl) rfl ovX7_startStep q935 rfl rfl sb_st rfl rfl rfl rfl (dX7_startStep hA hok12 hg15 (cQ_v ?_))
      refine AW.iinc (v := a.2.1 + (1 : Int32)) (L' := [some (.ref (b)), some (.int (a.1)), some (.int (a.2.1 + (1 : Int32))), some (.int (r7))]) (am_r 20 rfl) rfl (Nat.le_of_ble_eq_true rfl) rfl (congrArg (fun z => a.2.1 + z) ci_1) rfl ?_
      refine AW.goto (tg := 7) (am_r 21 rfl) rfl ?_
      refine AW.lessL (L' := [some (.ref (b)), some (.int (a.1)), some (.int (a.2.1 + (1 : Int32))), none]) ⟨rfl, rfl, rfl, trivial⟩ ?_
      have hr := (Option.some.inj hs).symm
      exact hc (a.1, a.2.1 + (1 : Int32), r13) hr 
    · replace hs := (if_pos hc10).symm.trans hs
      refine oinr_e hs (fun z16 hz17 hs => ?_)
      have hQ := he _ hz17
      have hr := (Option.some.inj hs).symm
      subst hr
      exact AW.vret (am_r 14 rfl) rfl hQ
noncomputable def sX7_startSteps (S : Mem)  : Option Mem :=
  obind (sX7_freeBenches S ) fun r1 =>
  sX7_startSteps_l7   (r1, (0 : Int32), S)
set_option maxRecDepth 100000 in
theorem dX7_startSteps {g : AG} {h0 : AH} {b : Nat} {S : Mem} {Q : AO → AH → Prop}  (hA : gB g ≤ b)  {r : Mem} (hs : sX7_startSteps S  = some r) (hQ : Q (.ok none) (sb h0 b r)) : AW g MX7_startSteps 0 [some (.ref (b)), none, none, none] [] (sb h0 b S) Q := by
  unfold sX7_startSteps at hs
  refine AW.aload_n (z := 0) (am_r 0 rfl) rfl rfl ?_
  refine obind_e hs (fun r1 hg3 hs => ?_)
  refine AW.callV (N := MX7_freeBenches) (As := []) (S := []) (L0 := [some (.ref (b)), none, none]) (b := b) (am_r 1 rfl) rfl ovX7_freeBenches q712 rfl rfl sb_st rfl rfl rfl rfl (dX7_freeBenches hA  hg3 (cQ_r ?_))
  refine AW.istore_n (L' := [some (.ref (b)), some (.int (r1)), none, none]) (z := 1) (am_r 2 rfl) rfl (Nat.le_of_ble_eq_true rfl) rfl ?_
  refine AW.iconst (am_r 3 rfl) rfl ci_0 ?_
  refine AW.istore_n (L' := [some (.ref (b)), some (.int (r1)), some (.int ((0 : Int32))), none]) (z := 2) (am_r 4 rfl) rfl (Nat.le_of_ble_eq_true rfl) rfl ?_
  exact dX7_startSteps_l7 hA   hs hQ
noncomputable def sX7_passHours_l19_step  (p1 : Int32) (a : (Int32 × Int32 × Mem)) : Option ((Int32 × Int32 × Mem) ⊕ ((Int32 × Mem) ⊕ Mem)) :=
  if (gi a.2.2 0 9 0) ≤ a.2.1 then
    oinr (
    obind (sX7_fillPresses a.2.2 ) fun r10 =>
    obind (sX7_startLoans r10 ) fun r13 =>
    obind (sX7_startSteps r13 ) fun r16 =>
    olet (si r16 0 12 0 ((gi r16 0 12 0) + (1 : Int32))) fun S19 =>
    some (.inl (a.1 + (1 : Int32), S19)))
  else
    obind (sX7_goOn a.2.2 (sX7_itemAt a.2.2 a.2.1)) fun r22 =>
    some (.inl (a.1, a.2.1 + (1 : Int32), r22))
noncomputable def sX7_passHours_l19  (p1 : Int32) (a : (Int32 × Int32 × Mem)) : Option ((Int32 × Mem) ⊕ Mem) := itw (sX7_passHours_l19_step  p1) a
set_option maxRecDepth 100000 in
theorem dX7_passHours_l19 {g : AG} {h0 : AH} {b : Nat} {Q : AO → AH → Prop} {p1 : Int32} (hA : gB g ≤ b)  {a : (Int32 × Int32 × Mem)}  {r : ((Int32 × Mem) ⊕ Mem)} (hs : sX7_passHours_l19  p1 a = some r) (hc : ∀ a : (Int32 × Mem), r = .inl a → AW g MX7_passHours 2 [some (.ref (b)), some (.int (p1)), some (.int (a.1)), none] [] (sb h0 b a.2) Q) (he : ∀ z : Mem, r = .inr z → Q (.ok none) (sb h0 b z)) : AW g MX7_passHours 19 [some (.ref (b)), some (.int (p1)), some (.int (a.1)), some (.int (a.2.1))] [] (sb h0 b a.2.2) Q := by
  refine itw_e (P := fun a => AW g MX7_passHours 19 [some (.ref (b)), some (.int (p1)), some (.int (a.1)), some (.int (a.2.1))] [] (sb h0 b a.2.2) Q) (Post := fun r => (∀ a : (Int32 × Mem), r = .inl a → AW g MX7_passHours 2 [some (.ref (b)), some (.int (p1)), some (.int (a.1)), none] [] (sb h0 b a.2) Q) ∧ (∀ z : Mem, r = .inr z → Q (.ok none) (sb h0 b z))) (fun a r hs hc he  => ?_) hs ⟨hc, he⟩ 
  unfold sX7_passHours_l19_step at hs
  refine AW.iload_n (z := 3) (am_r 11 rfl) rfl rfl ?_
  refine AW.aload_n (z := 0) (am_r 12 rfl) rfl rfl ?_
  refine AW.getO (am_r 13 rfl) rfl klX7 (k := 9) (by omega) q243 sb_st rfl ?_
  refine AW.icmp_ge (tg := 42) (am_r 14 rfl) rfl rfl (fun hc7 => ?_) (fun hc7 => ?_)
  · replace hs := (if_pos hc7).symm.trans hs
    refine oinr_e hs (fun z8 hz9 hs => ?_)
    obtain ⟨hc, he⟩ := he _ hz9
    refine AW.aload_n (z := 0) (am_r 22 rfl) rfl rfl ?_
    refine obind_e hs (fun r10 hg12 hs => ?_)
    refine AW.callV (N := MX7_fillPresses) (As := []) (S := []) (L0 := [some (.ref (b)), none, none, none, none]) (b := b) (am_r 23 rfl) rfl ovX7_fillPresses q902 rfl rfl sb_st rfl rfl rfl rfl (dX7_fillPresses hA  hg12 (cQ_v ?_))
    refine AW.aload_n (z := 0) (am_r 24 rfl) rfl rfl ?_
    refine obind_e hs (fun r13 hg15 hs => ?_)
    refine AW.callV (N := MX7_startLoans) (As := []) (S := []) (L0 := [some (.ref (b)), none, none]) (b := b) (am_r 25 rfl) rfl ovX7_startLoans q922 rfl rfl sb_st rfl rfl rfl rfl (dX7_startLoans hA  hg15 (cQ_v ?_))
    refine AW.aload_n (z := 0) (am_r 26 rfl) rfl rfl ?_
    refine obind_e hs (fun r16 hg18 hs => ?_)
    refine AW.callV (N := MX7_startSteps) (As := []) (S := []) (L0 := [some (.ref (b)), none, none, none]) (b := b) (am_r 27 rfl) rfl ovX7_startSteps q930 rfl rfl sb_st rfl rfl rfl rfl (dX7_startSteps hA  hg18 (cQ_v ?_))
    refine AW.aload_n (z := 0) (am_r 28 rfl) rfl rfl ?_
    refine AW.dup (am_r 29 rfl) rfl rfl ?_
    refine AW.getO (am_r 30 rfl) rfl klX7 (k := 12) (by omega) q252 sb_st rfl ?_
    refine AW.iconst (am_r 31 rfl) rfl ci_1 ?_
    refine AW.iadd (am_r 32 rfl) rfl ?_
    refine AW.putO (am_r 33 rfl) rfl klX7 (k := 12) (by omega) q252 (Or.inl rfl) sb_st hA rfl rfl (sbp_st (by omega)) ?_
    refine olet_e (P := fun y => AW g MX7_passHours 64 [some (.ref (b)), some (.int (p1)), some (.int (a.1)), some (.int (a.2.1))] [] (sb h0 b y) Q) hs (fun S19 hs => ?_)
    refine AW.iinc (v := a.1 + (1 : Int32)) (L' := [some (.ref (b)), some (.int (p1)), some (.int (a.1 + (1 : Int32))), some (.int (a.2.1))]) (am_r 34 rfl) rfl (Nat.le_of_ble_eq_true rfl) rfl (congrArg (fun z => a.1 + z) ci_1) rfl ?_
    refine AW.goto (tg := 2) (am_r 35 rfl) rfl ?_
    refine AW.lessL (L' := [some (.ref (b)), some (.int (p1)), some (.int (a.1 + (1 : Int32))), none]) ⟨rfl, rfl, rfl, trivial⟩ ?_
    have hr := (Option.some.inj hs).symm
    exact hc (a.1 + (1 : Int32), S19) hr 
  · replace hs := (if_neg hc7).symm.trans hs
    refine AW.aload_n (z := 0) (am_r 15 rfl) rfl rfl ?_
    refine AW.aload_n (z := 0) (am_r 16 rfl) rfl rfl ?_
    refine AW.iload_n (z := 3) (am_r 17 rfl) rfl rfl ?_
    refine AW.callV (N := MX7_itemAt) (As := [.int (a.2.1)]) (S := [(.ref (b))]) (L0 := [some (.ref (b)), some (.int (a.2.1))]) (b := b) (am_r 18 rfl) rfl ovX7_itemAt q620 rfl rfl sb_st rfl rfl rfl rfl (dX7_itemAt hA  rfl (fun hok21 => (cQ_r ?_)))
    refine obind_e hs (fun r22 hg24 hs => ?_)
    refine AW.callV (N := MX7_goOn) (As := [.ref (b + 20 + 2 * (sX7_itemAt a.2.2 a.2.1))]) (S := []) (L0 := [some (.ref (b)), some (.ref (b + 20 + 2 * (sX7_itemAt a.2.2 a.2.1)))]) (b := b) (am_r 19 rfl) rfl ovX7_goOn q861 rfl rfl sb_st rfl rfl rfl rfl (dX7_goOn hA hok21 hg24 (cQ_v ?_))
    refine AW.iinc (v := a.2.1 + (1 : Int32)) (L' := [some (.ref (b)), some (.int (p1)), some (.int (a.1)), some (.int (a.2.1 + (1 : Int32)))]) (am_r 20 rfl) rfl (Nat.le_of_ble_eq_true rfl) rfl (congrArg (fun z => a.2.1 + z) ci_1) rfl ?_
    refine AW.goto (tg := 19) (am_r 21 rfl) rfl ?_
    have hr := (Option.some.inj hs).symm
    exact hc (a.1, a.2.1 + (1 : Int32), r22) hr 
noncomputable def sX7_passHours_l2_step  (p1 : Int32) (a : (Int32 × Mem)) : Option ((Int32 × Mem) ⊕ Mem) :=
  if p1 ≤ a.1 then
    oinr (
    some (a.2))
  else
    if (20000 : Int32) ≤ (gi a.2 0 12 0) then
      oinr (
      some (a.2))
    else
      sX7_passHours_l19  p1 (a.1, (0 : Int32), a.2)
noncomputable def sX7_passHours_l2  (p1 : Int32) (a : (Int32 × Mem)) : Option Mem := itw (sX7_passHours_l2_step  p1) a
set_option maxRecDepth 100000 in
theorem dX7_passHours_l2 {g : AG} {h0 : AH} {b : Nat} {Q : AO → AH → Prop} {p1 : Int32} (hA : gB g ≤ b)  {a : (Int32 × Mem)}  {r : Mem} (hs : sX7_passHours_l2  p1 a = some r) (hQ : Q (.ok none) (sb h0 b r)) : AW g MX7_passHours 2 [some (.ref (b)), some (.int (p1)), some (.int (a.1)), none] [] (sb h0 b a.2) Q := by
  refine itw_e (P := fun a => AW g MX7_passHours 2 [some (.ref (b)), some (.int (p1)), some (.int (a.1)), none] [] (sb h0 b a.2) Q) (Post := fun r => Q (.ok none) (sb h0 b r)) (fun a r hs hc he  => ?_) hs hQ 
  unfold sX7_passHours_l2_step at hs
  refine AW.iload_n (z := 2) (am_r 2 rfl) rfl rfl ?_
  refine AW.iload_n (z := 1) (am_r 3 rfl) rfl rfl ?_
  refine AW.icmp_ge (tg := 70) (am_r 4 rfl) rfl rfl (fun hc1 => ?_) (fun hc1 => ?_)
  · replace hs := (if_pos hc1).symm.trans hs
    refine oinr_e hs (fun z2 hz3 hs => ?_)
    have hQ := he _ hz3
    have hr := (Option.some.inj hs).symm
    subst hr
    exact AW.vret (am_r 36 rfl) rfl hQ
  · replace hs := (if_neg hc1).symm.trans hs
    refine AW.aload_n (z := 0) (am_r 5 rfl) rfl rfl ?_
    refine AW.getO (am_r 6 rfl) rfl klX7 (k := 12) (by omega) q252 sb_st rfl ?_
    refine AW.sipush (am_r 7 rfl) rfl cs_20000 ?_
    refine AW.icmp_ge (tg := 70) (am_r 8 rfl) rfl rfl (fun hc4 => ?_) (fun hc4 => ?_)
    · replace hs := (if_pos hc4).symm.trans hs
      refine oinr_e hs (fun z5 hz6 hs => ?_)
      have hQ := he _ hz6
      have hr := (Option.some.inj hs).symm
      subst hr
      exact AW.vret (am_r 36 rfl) rfl hQ
    · replace hs := (if_neg hc4).symm.trans hs
      refine AW.iconst (am_r 9 rfl) rfl ci_0 ?_
      refine AW.istore_n (L' := [some (.ref (b)), some (.int (p1)), some (.int (a.1)), some (.int ((0 : Int32)))]) (z := 3) (am_r 10 rfl) rfl (Nat.le_of_ble_eq_true rfl) rfl ?_
      exact dX7_passHours_l19 hA   hs hc he
noncomputable def sX7_passHours (S : Mem) (p1 : Int32) : Option Mem :=
  sX7_passHours_l2  p1 ((0 : Int32), S)
set_option maxRecDepth 100000 in
theorem dX7_passHours {g : AG} {h0 : AH} {b : Nat} {S : Mem} {Q : AO → AH → Prop} {p1 : Int32} (hA : gB g ≤ b)  {r : Mem} (hs : sX7_passHours S p1 = some r) (hQ : Q (.ok none) (sb h0 b r)) : AW g MX7_passHours 0 [some (.ref (b)), some (.int (p1)), none, none] [] (sb h0 b S) Q := by
  unfold sX7_passHours at hs
  refine AW.iconst (am_r 0 rfl) rfl ci_0 ?_
  refine AW.istore_n (L' := [some (.ref (b)), some (.int (p1)), some (.int ((0 : Int32))), none]) (z := 2) (am_r 1 rfl) rfl (Nat.le_of_ble_eq_true rfl) rfl ?_
  exact dX7_passHours_l2 hA   hs hQ
noncomputable def sX7_freePresses_l4_step (S : Mem)  (a : (Int32 × Int32)) : Option ((Int32 × Int32) ⊕ Int32) :=
  if (gi S 0 7 0) ≤ a.2 then
    oinr (
    some (a.1))
  else
    if (gi S 1 1 (sX7_pressAt S a.2)) = (-1 : Int32) then
      some (.inl (a.1 + (1 : Int32), a.2 + (1 : Int32)))
    else
      some (.inl (a.1, a.2 + (1 : Int32)))
noncomputable def sX7_freePresses_l4 (S : Mem)  (a : (Int32 × Int32)) : Option Int32 := itw (sX7_freePresses_l4_step S ) a
set_option maxRecDepth 100000 in
theorem dX7_freePresses_l4 {g : AG} {h0 : AH} {b : Nat} {S : Mem} {Q : AO → AH → Prop}  (hA : gB g ≤ b)  {a : (Int32 × Int32)}  {r : Int32} (hs : sX7_freePresses_l4 S  a = some r) (hQ : Q (.ok (some (.int r))) (sb h0 b S)) : AW g MX7_freePresses 4 [some (.ref (b)), some (.int (a.1)), some (.int (a.2))] [] (sb h0 b S) Q := by
  refine itw_e (P := fun a => AW g MX7_freePresses 4 [some (.ref (b)), some (.int (a.1)), some (.int (a.2))] [] (sb h0 b S) Q) (Post := fun r => Q (.ok (some (.int r))) (sb h0 b S)) (fun a r hs hc he  => ?_) hs hQ 
  unfold sX7_freePresses_l4_step at hs
  refine AW.iload_n (z := 2) (am_r 4 rfl) rfl rfl ?_
  refine AW.aload_n (z := 0) (am_r 5 rfl) rfl rfl ?_
  refine AW.getO (am_r 6 rfl) rfl klX7 (k := 7) (by omega) q236 sb_st rfl ?_
  refine AW.icmp_ge (tg := 33) (am_r 7 rfl) rfl rfl (fun hc1 => ?_) (fun hc1 => ?_)
  · replace hs := (if_pos hc1).symm.trans hs
    refine oinr_e hs (fun z2 hz3 hs => ?_)
    have hQ := he _ hz3
    refine AW.iload_n (z := 1) (am_r 17 rfl) rfl rfl ?_
    have hr := (Option.some.inj hs).symm
    subst hr
    exact AW.iret (am_r 18 rfl) rfl hQ
  · replace hs := (if_neg hc1).symm.trans hs
    refine AW.aload_n (z := 0) (am_r 8 rfl) rfl rfl ?_
    refine AW.iload_n (z := 2) (am_r 9 rfl) rfl rfl ?_
    refine AW.callV (N := MX7_pressAt) (As := [.int (a.2)]) (S := []) (L0 := [some (.ref (b)), some (.int (a.2))]) (b := b) (am_r 10 rfl) rfl ovX7_pressAt q596 rfl rfl sb_st rfl rfl rfl rfl (dX7_pressAt hA  rfl (fun hok5 => (cQ_r ?_)))
    refine AW.getO (am_r 11 rfl) rfl klX3 (k := 1) (by omega) q52 (sb_pr hok5) rfl ?_
    refine AW.iconst (am_r 12 rfl) rfl ci_m1 ?_
    refine AW.icmp_ne (tg := 27) (am_r 13 rfl) rfl rfl (fun hc6 => ?_) (fun hc6 => ?_)
    · replace hs := (if_neg hc6).symm.trans hs
      refine AW.iinc (v := a.2 + (1 : Int32)) (L' := [some (.ref (b)), some (.int (a.1)), some (.int (a.2 + (1 : Int32)))]) (am_r 15 rfl) rfl (Nat.le_of_ble_eq_true rfl) rfl (congrArg (fun z => a.2 + z) ci_1) rfl ?_
      refine AW.goto (tg := 4) (am_r 16 rfl) rfl ?_
      have hr := (Option.some.inj hs).symm
      exact hc (a.1, a.2 + (1 : Int32)) hr 
    · replace hs := (if_pos hc6).symm.trans hs
      refine AW.iinc (v := a.1 + (1 : Int32)) (L' := [some (.ref (b)), some (.int (a.1 + (1 : Int32))), some (.int (a.2))]) (am_r 14 rfl) rfl (Nat.le_of_ble_eq_true rfl) rfl (congrArg (fun z => a.1 + z) ci_1) rfl ?_
      refine AW.iinc (v := a.2 + (1 : Int32)) (L' := [some (.ref (b)), some (.int (a.1 + (1 : Int32))), some (.int (a.2 + (1 : Int32)))]) (am_r 15 rfl) rfl (Nat.le_of_ble_eq_true rfl) rfl (congrArg (fun z => a.2 + z) ci_1) rfl ?_
      refine AW.goto (tg := 4) (am_r 16 rfl) rfl ?_
      have hr := (Option.some.inj hs).symm
      exact hc (a.1 + (1 : Int32), a.2 + (1 : Int32)) hr 
noncomputable def sX7_freePresses (S : Mem)  : Option Int32 :=
  sX7_freePresses_l4 S  ((0 : Int32), (0 : Int32))
set_option maxRecDepth 100000 in
theorem dX7_freePresses {g : AG} {h0 : AH} {b : Nat} {S : Mem} {Q : AO → AH → Prop}  (hA : gB g ≤ b)  {r : Int32} (hs : sX7_freePresses S  = some r) (hQ : Q (.ok (some (.int r))) (sb h0 b S)) : AW g MX7_freePresses 0 [some (.ref (b)), none, none] [] (sb h0 b S) Q := by
  unfold sX7_freePresses at hs
  refine AW.iconst (am_r 0 rfl) rfl ci_0 ?_
  refine AW.istore_n (L' := [some (.ref (b)), some (.int ((0 : Int32))), none]) (z := 1) (am_r 1 rfl) rfl (Nat.le_of_ble_eq_true rfl) rfl ?_
  refine AW.iconst (am_r 2 rfl) rfl ci_0 ?_
  refine AW.istore_n (L' := [some (.ref (b)), some (.int ((0 : Int32))), some (.int ((0 : Int32)))]) (z := 2) (am_r 3 rfl) rfl (Nat.le_of_ble_eq_true rfl) rfl ?_
  exact dX7_freePresses_l4 hA   hs hQ
noncomputable def sX7_itemsIn_l4_step (S : Mem) (p1 : Int32) (a : (Int32 × Int32)) : Option ((Int32 × Int32) ⊕ Int32) :=
  if (gi S 0 9 0) ≤ a.2 then
    oinr (
    some (a.1))
  else
    if (gi S 3 5 (sX7_itemAt S a.2)) = p1 then
      olet (a.1 ||| ((1 : Int32) <<< (a.2 &&& 31))) fun v7 =>
      some (.inl (v7, a.2 + (1 : Int32)))
    else
      some (.inl (a.1, a.2 + (1 : Int32)))
noncomputable def sX7_itemsIn_l4 (S : Mem) (p1 : Int32) (a : (Int32 × Int32)) : Option Int32 := itw (sX7_itemsIn_l4_step S p1) a
set_option maxRecDepth 100000 in
theorem dX7_itemsIn_l4 {g : AG} {h0 : AH} {b : Nat} {S : Mem} {Q : AO → AH → Prop} {p1 : Int32} (hA : gB g ≤ b)  {a : (Int32 × Int32)}  {r : Int32} (hs : sX7_itemsIn_l4 S p1 a = some r) (hQ : Q (.ok (some (.int r))) (sb h0 b S)) : AW g MX7_itemsIn 4 [some (.ref (b)), some (.int (p1)), some (.int (a.1)), some (.int (a.2))] [] (sb h0 b S) Q := by
  refine itw_e (P := fun a => AW g MX7_itemsIn 4 [some (.ref (b)), some (.int (p1)), some (.int (a.1)), some (.int (a.2))] [] (sb h0 b S) Q) (Post := fun r => Q (.ok (some (.int r))) (sb h0 b S)) (fun a r hs hc he  => ?_) hs hQ 
  unfold sX7_itemsIn_l4_step at hs
  refine AW.iload_n (z := 3) (am_r 4 rfl) rfl rfl ?_
  refine AW.aload_n (z := 0) (am_r 5 rfl) rfl rfl ?_
  refine AW.getO (am_r 6 rfl) rfl klX7 (k := 9) (by omega) q243 sb_st rfl ?_
  refine AW.icmp_ge (tg := 36) (am_r 7 rfl) rfl rfl (fun hc1 => ?_) (fun hc1 => ?_)
  · replace hs := (if_pos hc1).symm.trans hs
    refine oinr_e hs (fun z2 hz3 hs => ?_)
    have hQ := he _ hz3
    refine AW.iload_n (z := 2) (am_r 22 rfl) rfl rfl ?_
    have hr := (Option.some.inj hs).symm
    subst hr
    exact AW.iret (am_r 23 rfl) rfl hQ
  · replace hs := (if_neg hc1).symm.trans hs
    refine AW.aload_n (z := 0) (am_r 8 rfl) rfl rfl ?_
    refine AW.iload_n (z := 3) (am_r 9 rfl) rfl rfl ?_
    refine AW.callV (N := MX7_itemAt) (As := [.int (a.2)]) (S := []) (L0 := [some (.ref (b)), some (.int (a.2))]) (b := b) (am_r 10 rfl) rfl ovX7_itemAt q620 rfl rfl sb_st rfl rfl rfl rfl (dX7_itemAt hA  rfl (fun hok5 => (cQ_r ?_)))
    refine AW.getO (am_r 11 rfl) rfl klX2 (k := 5) (by omega) q135 (sb_it hok5) rfl ?_
    refine AW.iload_n (z := 1) (am_r 12 rfl) rfl rfl ?_
    refine AW.icmp_ne (tg := 30) (am_r 13 rfl) rfl rfl (fun hc6 => ?_) (fun hc6 => ?_)
    · replace hs := (if_neg hc6).symm.trans hs
      refine AW.iinc (v := a.2 + (1 : Int32)) (L' := [some (.ref (b)), some (.int (p1)), some (.int (a.1)), some (.int (a.2 + (1 : Int32)))]) (am_r 20 rfl) rfl (Nat.le_of_ble_eq_true rfl) rfl (congrArg (fun z => a.2 + z) ci_1) rfl ?_
      refine AW.goto (tg := 4) (am_r 21 rfl) rfl ?_
      have hr := (Option.some.inj hs).symm
      exact hc (a.1, a.2 + (1 : Int32)) hr 
    · replace hs := (if_pos hc6).symm.trans hs
      refine AW.iload_n (z := 2) (am_r 14 rfl) rfl rfl ?_
      refine AW.iconst (am_r 15 rfl) rfl ci_1 ?_
      refine AW.iload_n (z := 3) (am_r 16 rfl) rfl rfl ?_
      refine AW.ishl (am_r 17 rfl) rfl ?_
      refine AW.ior (am_r 18 rfl) rfl ?_
      refine olet_e (P := fun y => AW g MX7_itemsIn 29 [some (.ref (b)), some (.int (p1)), some (.int (a.1)), some (.int (a.2))] [(.int (y))] (sb h0 b S) Q) hs (fun v7 hs => ?_)
      refine AW.istore_n (L' := [some (.ref (b)), some (.int (p1)), some (.int (v7)), some (.int (a.2))]) (z := 2) (am_r 19 rfl) rfl (Nat.le_of_ble_eq_true rfl) rfl ?_
      refine AW.iinc (v := a.2 + (1 : Int32)) (L' := [some (.ref (b)), some (.int (p1)), some (.int (v7)), some (.int (a.2 + (1 : Int32)))]) (am_r 20 rfl) rfl (Nat.le_of_ble_eq_true rfl) rfl (congrArg (fun z => a.2 + z) ci_1) rfl ?_
      refine AW.goto (tg := 4) (am_r 21 rfl) rfl ?_
      have hr := (Option.some.inj hs).symm
      exact hc (v7, a.2 + (1 : Int32)) hr 
noncomputable def sX7_itemsIn (S : Mem) (p1 : Int32) : Option Int32 :=
  sX7_itemsIn_l4 S p1 ((0 : Int32), (0 : Int32))
set_option maxRecDepth 100000 in
theorem dX7_itemsIn {g : AG} {h0 : AH} {b : Nat} {S : Mem} {Q : AO → AH → Prop} {p1 : Int32} (hA : gB g ≤ b)  {r : Int32} (hs : sX7_itemsIn S p1 = some r) (hQ : Q (.ok (some (.int r))) (sb h0 b S)) : AW g MX7_itemsIn 0 [some (.ref (b)), some (.int (p1)), none, none] [] (sb h0 b S) Q := by
  unfold sX7_itemsIn at hs
  refine AW.iconst (am_r 0 rfl) rfl ci_0 ?_
  refine AW.istore_n (L' := [some (.ref (b)), some (.int (p1)), some (.int ((0 : Int32))), none]) (z := 2) (am_r 1 rfl) rfl (Nat.le_of_ble_eq_true rfl) rfl ?_
  refine AW.iconst (am_r 2 rfl) rfl ci_0 ?_
  refine AW.istore_n (L' := [some (.ref (b)), some (.int (p1)), some (.int ((0 : Int32))), some (.int ((0 : Int32)))]) (z := 3) (am_r 3 rfl) rfl (Nat.le_of_ble_eq_true rfl) rfl ?_
  exact dX7_itemsIn_l4 hA   hs hQ
noncomputable def sX7_itemsBelow_l4_step (S : Mem) (p1 : Int32) (a : (Int32 × Int32)) : Option ((Int32 × Int32) ⊕ Int32) :=
  if (gi S 0 9 0) ≤ a.2 then
    oinr (
    some (a.1))
  else
    if p1 ≤ (gi S 3 3 (sX7_itemAt S a.2)) then
      some (.inl (a.1, a.2 + (1 : Int32)))
    else
      olet (a.1 ||| ((1 : Int32) <<< (a.2 &&& 31))) fun v7 =>
      some (.inl (v7, a.2 + (1 : Int32)))
noncomputable def sX7_itemsBelow_l4 (S : Mem) (p1 : Int32) (a : (Int32 × Int32)) : Option Int32 := itw (sX7_itemsBelow_l4_step S p1) a
set_option maxRecDepth 100000 in
theorem dX7_itemsBelow_l4 {g : AG} {h0 : AH} {b : Nat} {S : Mem} {Q : AO → AH → Prop} {p1 : Int32} (hA : gB g ≤ b)  {a : (Int32 × Int32)}  {r : Int32} (hs : sX7_itemsBelow_l4 S p1 a = some r) (hQ : Q (.ok (some (.int r))) (sb h0 b S)) : AW g MX7_itemsBelow 4 [some (.ref (b)), some (.int (p1)), some (.int (a.1)), some (.int (a.2))] [] (sb h0 b S) Q := by
  refine itw_e (P := fun a => AW g MX7_itemsBelow 4 [some (.ref (b)), some (.int (p1)), some (.int (a.1)), some (.int (a.2))] [] (sb h0 b S) Q) (Post := fun r => Q (.ok (some (.int r))) (sb h0 b S)) (fun a r hs hc he  => ?_) hs hQ 
  unfold sX7_itemsBelow_l4_step at hs
  refine AW.iload_n (z := 3) (am_r 4 rfl) rfl rfl ?_
  refine AW.aload_n (z := 0) (am_r 5 rfl) rfl rfl ?_
  refine AW.getO (am_r 6 rfl) rfl klX7 (k := 9) (by omega) q243 sb_st rfl ?_
  refine AW.icmp_ge (tg := 36) (am_r 7 rfl) rfl rfl (fun hc1 => ?_) (fun hc1 => ?_)
  · replace hs := (if_pos hc1).symm.trans hs
    refine oinr_e hs (fun z2 hz3 hs => ?_)
    have hQ := he _ hz3
    refine AW.iload_n (z := 2) (am_r 22 rfl) rfl rfl ?_
    have hr := (Option.some.inj hs).symm
    subst hr
    exact AW.iret (am_r 23 rfl) rfl hQ
  · replace hs := (if_neg hc1).symm.trans hs
    refine AW.aload_n (z := 0) (am_r 8 rfl) rfl rfl ?_
    refine AW.iload_n (z := 3) (am_r 9 rfl) rfl rfl ?_
    refine AW.callV (N := MX7_itemAt) (As := [.int (a.2)]) (S := []) (L0 := [some (.ref (b)), some (.int (a.2))]) (b := b) (am_r 10 rfl) rfl ovX7_itemAt q620 rfl rfl sb_st rfl rfl rfl rfl (dX7_itemAt hA  rfl (fun hok5 => (cQ_r ?_)))
    refine AW.getO (am_r 11 rfl) rfl klX2 (k := 3) (by omega) q129 (sb_it hok5) rfl ?_
    refine AW.iload_n (z := 1) (am_r 12 rfl) rfl rfl ?_
    refine AW.icmp_ge (tg := 30) (am_r 13 rfl) rfl rfl (fun hc6 => ?_) (fun hc6 => ?_)
    · replace hs := (if_pos hc6).symm.trans hs
      refine AW.iinc (v := a.2 + (1 : Int32)) (L' := [some (.ref (b)), some (.int (p1)), some (.int (a.1)), some (.int (a.2 + (1 : Int32)))]) (am_r 20 rfl) rfl (Nat.le_of_ble_eq_true rfl) rfl (congrArg (fun z => a.2 + z) ci_1) rfl ?_
      refine AW.goto (tg := 4) (am_r 21 rfl) rfl ?_
      have hr := (Option.some.inj hs).symm
      exact hc (a.1, a.2 + (1 : Int32)) hr 
    · replace hs := (if_neg hc6).symm.trans hs
      refine AW.iload_n (z := 2) (am_r 14 rfl) rfl rfl ?_
      refine AW.iconst (am_r 15 rfl) rfl ci_1 ?_
      refine AW.iload_n (z := 3) (am_r 16 rfl) rfl rfl ?_
      refine AW.ishl (am_r 17 rfl) rfl ?_
      refine AW.ior (am_r 18 rfl) rfl ?_
      refine olet_e (P := fun y => AW g MX7_itemsBelow 29 [some (.ref (b)), some (.int (p1)), some (.int (a.1)), some (.int (a.2))] [(.int (y))] (sb h0 b S) Q) hs (fun v7 hs => ?_)
      refine AW.istore_n (L' := [some (.ref (b)), some (.int (p1)), some (.int (v7)), some (.int (a.2))]) (z := 2) (am_r 19 rfl) rfl (Nat.le_of_ble_eq_true rfl) rfl ?_
      refine AW.iinc (v := a.2 + (1 : Int32)) (L' := [some (.ref (b)), some (.int (p1)), some (.int (v7)), some (.int (a.2 + (1 : Int32)))]) (am_r 20 rfl) rfl (Nat.le_of_ble_eq_true rfl) rfl (congrArg (fun z => a.2 + z) ci_1) rfl ?_
      refine AW.goto (tg := 4) (am_r 21 rfl) rfl ?_
      have hr := (Option.some.inj hs).symm
      exact hc (v7, a.2 + (1 : Int32)) hr 
noncomputable def sX7_itemsBelow (S : Mem) (p1 : Int32) : Option Int32 :=
  sX7_itemsBelow_l4 S p1 ((0 : Int32), (0 : Int32))
set_option maxRecDepth 100000 in
theorem dX7_itemsBelow {g : AG} {h0 : AH} {b : Nat} {S : Mem} {Q : AO → AH → Prop} {p1 : Int32} (hA : gB g ≤ b)  {r : Int32} (hs : sX7_itemsBelow S p1 = some r) (hQ : Q (.ok (some (.int r))) (sb h0 b S)) : AW g MX7_itemsBelow 0 [some (.ref (b)), some (.int (p1)), none, none] [] (sb h0 b S) Q := by
  unfold sX7_itemsBelow at hs
  refine AW.iconst (am_r 0 rfl) rfl ci_0 ?_
  refine AW.istore_n (L' := [some (.ref (b)), some (.int (p1)), some (.int ((0 : Int32))), none]) (z := 2) (am_r 1 rfl) rfl (Nat.le_of_ble_eq_true rfl) rfl ?_
  refine AW.iconst (am_r 2 rfl) rfl ci_0 ?_
  refine AW.istore_n (L' := [some (.ref (b)), some (.int (p1)), some (.int ((0 : Int32))), some (.int ((0 : Int32)))]) (z := 3) (am_r 3 rfl) rfl (Nat.le_of_ble_eq_true rfl) rfl ?_
  exact dX7_itemsBelow_l4 hA   hs hQ
noncomputable def sX7_isQuiet (S : Mem)  : Option Int32 :=
  obind (sX7_itemsIn S (1 : Int32)) fun r1 =>
  if r1 = 0 then
    obind (sX7_itemsIn S (2 : Int32)) fun r5 =>
    if r5 = 0 then
      obind (sX7_itemsIn S (3 : Int32)) fun r9 =>
      if r9 = 0 then
        obind (sX7_firstToBegin S ) fun r13 =>
        if r13 = (-1 : Int32) then
          some ((1 : Int32))
        else
          some ((0 : Int32))
      else
        some ((0 : Int32))
    else
      some ((0 : Int32))
  else
    some ((0 : Int32))
set_option maxRecDepth 100000 in
theorem dX7_isQuiet {g : AG} {h0 : AH} {b : Nat} {S : Mem} {Q : AO → AH → Prop}  (hA : gB g ≤ b)  {r : Int32} (hs : sX7_isQuiet S  = some r) (hQ : (r = 0 ∨ r = 1) → Q (.ok (some (.int r))) (sb h0 b S)) : AW g MX7_isQuiet 0 [some (.ref (b))] [] (sb h0 b S) Q := by
  unfold sX7_isQuiet at hs
  refine AW.aload_n (z := 0) (am_r 0 rfl) rfl rfl ?_
  refine AW.iconst (am_r 1 rfl) rfl ci_1 ?_
  refine obind_e hs (fun r1 hg3 hs => ?_)
  refine AW.callV (N := MX7_itemsIn) (As := [.int ((1 : Int32))]) (S := []) (L0 := [some (.ref (b)), some (.int ((1 : Int32))), none, none]) (b := b) (am_r 2 rfl) rfl ovX7_itemsIn q1409 rfl rfl sb_st rfl rfl rfl rfl (dX7_itemsIn hA  hg3 (cQ_r ?_))
  refine AW.if_ne (tg := 36) (am_r 3 rfl) rfl rfl (fun hc4 => ?_) (fun hc4 => ?_)
  · replace hs := (if_neg hc4).symm.trans hs
    refine AW.iconst (am_r 18 rfl) rfl ci_0 ?_
    have hr := (Option.some.inj hs).symm
    subst hr
    exact AW.zret (am_r 19 rfl) rfl (Or.inl rfl) (hQ (Or.inl rfl))
  · replace hs := (if_pos hc4).symm.trans hs
    refine AW.aload_n (z := 0) (am_r 4 rfl) rfl rfl ?_
    refine AW.iconst (am_r 5 rfl) rfl ci_2 ?_
    refine obind_e hs (fun r5 hg7 hs => ?_)
    refine AW.callV (N := MX7_itemsIn) (As := [.int ((2 : Int32))]) (S := []) (L0 := [some (.ref (b)), some (.int ((2 : Int32))), none, none]) (b := b) (am_r 6 rfl) rfl ovX7_itemsIn q1409 rfl rfl sb_st rfl rfl rfl rfl (dX7_itemsIn hA  hg7 (cQ_r ?_))
    refine AW.if_ne (tg := 36) (am_r 7 rfl) rfl rfl (fun hc8 => ?_) (fun hc8 => ?_)
    · replace hs := (if_neg hc8).symm.trans hs
      refine AW.iconst (am_r 18 rfl) rfl ci_0 ?_
      have hr := (Option.some.inj hs).symm
      subst hr
      exact AW.zret (am_r 19 rfl) rfl (Or.inl rfl) (hQ (Or.inl rfl))
    · replace hs := (if_pos hc8).symm.trans hs
      refine AW.aload_n (z := 0) (am_r 8 rfl) rfl rfl ?_
      refine AW.iconst (am_r 9 rfl) rfl ci_3 ?_
      refine obind_e hs (fun r9 hg11 hs => ?_)
      refine AW.callV (N := MX7_itemsIn) (As := [.int ((3 : Int32))]) (S := []) (L0 := [some (.ref (b)), some (.int ((3 : Int32))), none, none]) (b := b) (am_r 10 rfl) rfl ovX7_itemsIn q1409 rfl rfl sb_st rfl rfl rfl rfl (dX7_itemsIn hA  hg11 (cQ_r ?_))
      refine AW.if_ne (tg := 36) (am_r 11 rfl) rfl rfl (fun hc12 => ?_) (fun hc12 => ?_)
      · replace hs := (if_neg hc12).symm.trans hs
        refine AW.iconst (am_r 18 rfl) rfl ci_0 ?_
        have hr := (Option.some.inj hs).symm
        subst hr
        exact AW.zret (am_r 19 rfl) rfl (Or.inl rfl) (hQ (Or.inl rfl))
      · replace hs := (if_pos hc12).symm.trans hs
        refine AW.aload_n (z := 0) (am_r 12 rfl) rfl rfl ?_
        refine obind_e hs (fun r13 hg15 hs => ?_)
        refine AW.callV (N := MX7_firstToBegin) (As := []) (S := []) (L0 := [some (.ref (b)), none, none, none, none]) (b := b) (am_r 13 rfl) rfl ovX7_firstToBegin q934 rfl rfl sb_st rfl rfl rfl rfl (dX7_firstToBegin hA  hg15 (cQ_r ?_))
        refine AW.iconst (am_r 14 rfl) rfl ci_m1 ?_
        refine AW.icmp_ne (tg := 36) (am_r 15 rfl) rfl rfl (fun hc16 => ?_) (fun hc16 => ?_)
        · replace hs := (if_neg hc16).symm.trans hs
          refine AW.iconst (am_r 18 rfl) rfl ci_0 ?_
          have hr := (Option.some.inj hs).symm
          subst hr
          exact AW.zret (am_r 19 rfl) rfl (Or.inl rfl) (hQ (Or.inl rfl))
        · replace hs := (if_pos hc16).symm.trans hs
          refine AW.iconst (am_r 16 rfl) rfl ci_1 ?_
          refine AW.goto (tg := 37) (am_r 17 rfl) rfl ?_
          have hr := (Option.some.inj hs).symm
          subst hr
          exact AW.zret (am_r 19 rfl) rfl (Or.inr rfl) (hQ (Or.inr rfl))
noncomputable def sX7_loansAheadOf_l14_step (S : Mem) (p1 : Int32) (a : (Int32 × Int32 × Int32)) : Option ((Int32 × Int32 × Int32) ⊕ Int32) :=
  if (gi S 0 9 0) ≤ a.2.2 then
    oinr (
    some (a.2.1))
  else
    if (bz (gi S 3 15 (sX7_itemAt S a.2.2))) = 0 then
      some (.inl (a.1, a.2.1, a.2.2 + (1 : Int32)))
    else
      if (gi S 3 16 (sX7_itemAt S a.2.2)) < a.1 then
        some (.inl (a.1, a.2.1 + (1 : Int32), a.2.2 + (1 : Int32)))
      else
        if (gi S 3 16 (sX7_itemAt S a.2.2)) = a.1 then
          if p1 ≤ a.2.2 then
            some (.inl (a.1, a.2.1, a.2.2 + (1 : Int32)))
          else
            some (.inl (a.1, a.2.1 + (1 : Int32), a.2.2 + (1 : Int32)))
        else
          some (.inl (a.1, a.2.1, a.2.2 + (1 : Int32)))
noncomputable def sX7_loansAheadOf_l14 (S : Mem) (p1 : Int32) (a : (Int32 × Int32 × Int32)) : Option Int32 := itw (sX7_loansAheadOf_l14_step S p1) a
set_option maxRecDepth 100000 in
theorem dX7_loansAheadOf_l14 {g : AG} {h0 : AH} {b : Nat} {S : Mem} {Q : AO → AH → Prop} {p1 : Int32} (hA : gB g ≤ b)  {a : (Int32 × Int32 × Int32)}  {r : Int32} (hs : sX7_loansAheadOf_l14 S p1 a = some r) (hQ : Q (.ok (some (.int r))) (sb h0 b S)) : AW g MX7_loansAheadOf 14 [some (.ref (b)), some (.int (p1)), some (.int (a.1)), some (.int (a.2.1)), some (.int (a.2.2)), none] [] (sb h0 b S) Q := by
  refine itw_e (P := fun a => AW g MX7_loansAheadOf 14 [some (.ref (b)), some (.int (p1)), some (.int (a.1)), some (.int (a.2.1)), some (.int (a.2.2)), none] [] (sb h0 b S) Q) (Post := fun r => Q (.ok (some (.int r))) (sb h0 b S)) (fun a r hs hc he  => ?_) hs hQ 
  unfold sX7_loansAheadOf_l14_step at hs
  refine AW.iload (am_r 9 rfl) rfl rfl ?_
  refine AW.aload_n (z := 0) (am_r 10 rfl) rfl rfl ?_
  refine AW.getO (am_r 11 rfl) rfl klX7 (k := 9) (by omega) q243 sb_st rfl ?_
  refine AW.icmp_ge (tg := 72) (am_r 12 rfl) rfl rfl (fun hc4 => ?_) (fun hc4 => ?_)
  · replace hs := (if_pos hc4).symm.trans hs
    refine oinr_e hs (fun z5 hz6 hs => ?_)
    have hQ := he _ hz6
    refine AW.iload_n (z := 3) (am_r 34 rfl) rfl rfl ?_
    have hr := (Option.some.inj hs).symm
    subst hr
    exact AW.iret (am_r 35 rfl) rfl hQ
  · replace hs := (if_neg hc4).symm.trans hs
    refine AW.aload_n (z := 0) (am_r 13 rfl) rfl rfl ?_
    refine AW.iload (am_r 14 rfl) rfl rfl ?_
    refine AW.callV (N := MX7_itemAt) (As := [.int (a.2.2)]) (S := []) (L0 := [some (.ref (b)), some (.int (a.2.2))]) (b := b) (am_r 15 rfl) rfl ovX7_itemAt q620 rfl rfl sb_st rfl rfl rfl rfl (dX7_itemAt hA  rfl (fun hok8 => (cQ_r ?_)))
    refine AW.astore (L' := [some (.ref (b)), some (.int (p1)), some (.int (a.1)), some (.int (a.2.1)), some (.int (a.2.2)), some (.ref (b + 20 + 2 * (sX7_itemAt S a.2.2)))]) (am_r 16 rfl) rfl (Nat.le_of_ble_eq_true rfl) rfl ?_
    refine AW.aload (am_r 17 rfl) rfl rfl ?_
    refine AW.getO (am_r 18 rfl) rfl klX2 (k := 15) (by omega) q162 (sb_it hok8) rfl ?_
    refine AW.if_eq (tg := 66) (am_r 19 rfl) rfl rfl (fun hc9 => ?_) (fun hc9 => ?_)
    · replace hs := (if_pos hc9).symm.trans hs
      refine AW.iinc (v := a.2.2 + (1 : Int32)) (L' := [some (.ref (b)), some (.int (p1)), some (.int (a.1)), some (.int (a.2.1)), some (.int (a.2.2 + (1 : Int32))), some (.ref (b + 20 + 2 * (sX7_itemAt S a.2.2)))]) (am_r 32 rfl) rfl (Nat.le_of_ble_eq_true rfl) rfl (congrArg (fun z => a.2.2 + z) ci_1) rfl ?_
      refine AW.goto (tg := 14) (am_r 33 rfl) rfl ?_
      refine AW.lessL (L' := [some (.ref (b)), some (.int (p1)), some (.int (a.1)), some (.int (a.2.1)), some (.int (a.2.2 + (1 : Int32))), none]) ⟨rfl, rfl, rfl, rfl, rfl, trivial⟩ ?_
      have hr := (Option.some.inj hs).symm
      exact hc (a.1, a.2.1, a.2.2 + (1 : Int32)) hr 
    · replace hs := (if_neg hc9).symm.trans hs
      refine AW.aload (am_r 20 rfl) rfl rfl ?_
      refine AW.getO (am_r 21 rfl) rfl klX2 (k := 16) (by omega) q165 (sb_it hok8) rfl ?_
      refine AW.iload_n (z := 2) (am_r 22 rfl) rfl rfl ?_
      refine AW.icmp_lt (tg := 63) (am_r 23 rfl) rfl rfl (fun hc10 => ?_) (fun hc10 => ?_)
      · replace hs := (if_pos hc10).symm.trans hs
        refine AW.iinc (v := a.2.1 + (1 : Int32)) (L' := [some (.ref (b)), some (.int (p1)), some (.int (a.1)), some (.int (a.2.1 + (1 : Int32))), some (.int (a.2.2)), some (.ref (b + 20 + 2 * (sX7_itemAt S a.2.2)))]) (am_r 31 rfl) rfl (Nat.le_of_ble_eq_true rfl) rfl (congrArg (fun z => a.2.1 + z) ci_1) rfl ?_
        refine AW.iinc (v := a.2.2 + (1 : Int32)) (L' := [some (.ref (b)), some (.int (p1)), some (.int (a.1)), some (.int (a.2.1 + (1 : Int32))), some (.int (a.2.2 + (1 : Int32))), some (.ref (b + 20 + 2 * (sX7_itemAt S a.2.2)))]) (am_r 32 rfl) rfl (Nat.le_of_ble_eq_true rfl) rfl (congrArg (fun z => a.2.2 + z) ci_1) rfl ?_
        refine AW.goto (tg := 14) (am_r 33 rfl) rfl ?_
        refine AW.lessL (L' := [some (.ref (b)), some (.int (p1)), some (.int (a.1)), some (.int (a.2.1 + (1 : Int32))), some (.int (a.2.2 + (1 : Int32))), none]) ⟨rfl, rfl, rfl, rfl, rfl, trivial⟩ ?_
        have hr := (Option.some.inj hs).symm
        exact hc (a.1, a.2.1 + (1 : Int32), a.2.2 + (1 : Int32)) hr 
      · replace hs := (if_neg hc10).symm.trans hs
        refine AW.aload (am_r 24 rfl) rfl rfl ?_
        refine AW.getO (am_r 25 rfl) rfl klX2 (k := 16) (by omega) q165 (sb_it hok8) rfl ?_
        refine AW.iload_n (z := 2) (am_r 26 rfl) rfl rfl ?_
        refine AW.icmp_ne (tg := 66) (am_r 27 rfl) rfl rfl (fun hc11 => ?_) (fun hc11 => ?_)
        · replace hs := (if_neg hc11).symm.trans hs
          refine AW.iinc (v := a.2.2 + (1 : Int32)) (L' := [some (.ref (b)), some (.int (p1)), some (.int (a.1)), some (.int (a.2.1)), some (.int (a.2.2 + (1 : Int32))), some (.ref (b + 20 + 2 * (sX7_itemAt S a.2.2)))]) (am_r 32 rfl) rfl (Nat.le_of_ble_eq_true rfl) rfl (congrArg (fun z => a.2.2 + z) ci_1) rfl ?_
          refine AW.goto (tg := 14) (am_r 33 rfl) rfl ?_
          refine AW.lessL (L' := [some (.ref (b)), some (.int (p1)), some (.int (a.1)), some (.int (a.2.1)), some (.int (a.2.2 + (1 : Int32))), none]) ⟨rfl, rfl, rfl, rfl, rfl, trivial⟩ ?_
          have hr := (Option.some.inj hs).symm
          exact hc (a.1, a.2.1, a.2.2 + (1 : Int32)) hr 
        · replace hs := (if_pos hc11).symm.trans hs
          refine AW.iload (am_r 28 rfl) rfl rfl ?_
          refine AW.iload_n (z := 1) (am_r 29 rfl) rfl rfl ?_
          refine AW.icmp_ge (tg := 66) (am_r 30 rfl) rfl rfl (fun hc12 => ?_) (fun hc12 => ?_)
          · replace hs := (if_pos hc12).symm.trans hs
            refine AW.iinc (v := a.2.2 + (1 : Int32)) (L' := [some (.ref (b)), some (.int (p1)), some (.int (a.1)), some (.int (a.2.1)), some (.int (a.2.2 + (1 : Int32))), some (.ref (b + 20 + 2 * (sX7_itemAt S a.2.2)))]) (am_r 32 rfl) rfl (Nat.le_of_ble_eq_true rfl) rfl (congrArg (fun z => a.2.2 + z) ci_1) rfl ?_
            refine AW.goto (tg := 14) (am_r 33 rfl) rfl ?_
            refine AW.lessL (L' := [some (.ref (b)), some (.int (p1)), some (.int (a.1)), some (.int (a.2.1)), some (.int (a.2.2 + (1 : Int32))), none]) ⟨rfl, rfl, rfl, rfl, rfl, trivial⟩ ?_
            have hr := (Option.some.inj hs).symm
            exact hc (a.1, a.2.1, a.2.2 + (1 : Int32)) hr 
          · replace hs := (if_neg hc12).symm.trans hs
            refine AW.iinc (v := a.2.1 + (1 : Int32)) (L' := [some (.ref (b)), some (.int (p1)), some (.int (a.1)), some (.int (a.2.1 + (1 : Int32))), some (.int (a.2.2)), some (.ref (b + 20 + 2 * (sX7_itemAt S a.2.2)))]) (am_r 31 rfl) rfl (Nat.le_of_ble_eq_true rfl) rfl (congrArg (fun z => a.2.1 + z) ci_1) rfl ?_
            refine AW.iinc (v := a.2.2 + (1 : Int32)) (L' := [some (.ref (b)), some (.int (p1)), some (.int (a.1)), some (.int (a.2.1 + (1 : Int32))), some (.int (a.2.2 + (1 : Int32))), some (.ref (b + 20 + 2 * (sX7_itemAt S a.2.2)))]) (am_r 32 rfl) rfl (Nat.le_of_ble_eq_true rfl) rfl (congrArg (fun z => a.2.2 + z) ci_1) rfl ?_
            refine AW.goto (tg := 14) (am_r 33 rfl) rfl ?_
            refine AW.lessL (L' := [some (.ref (b)), some (.int (p1)), some (.int (a.1)), some (.int (a.2.1 + (1 : Int32))), some (.int (a.2.2 + (1 : Int32))), none]) ⟨rfl, rfl, rfl, rfl, rfl, trivial⟩ ?_
            have hr := (Option.some.inj hs).symm
            exact hc (a.1, a.2.1 + (1 : Int32), a.2.2 + (1 : Int32)) hr 
noncomputable def sX7_loansAheadOf (S : Mem) (p1 : Int32) : Option Int32 :=
  olet (gi S 3 16 (sX7_itemAt S p1)) fun v3 =>
  sX7_loansAheadOf_l14 S p1 (v3, (0 : Int32), (0 : Int32))
set_option maxRecDepth 100000 in
theorem dX7_loansAheadOf {g : AG} {h0 : AH} {b : Nat} {S : Mem} {Q : AO → AH → Prop} {p1 : Int32} (hA : gB g ≤ b)  {r : Int32} (hs : sX7_loansAheadOf S p1 = some r) (hQ : Q (.ok (some (.int r))) (sb h0 b S)) : AW g MX7_loansAheadOf 0 [some (.ref (b)), some (.int (p1)), none, none, none, none] [] (sb h0 b S) Q := by
  unfold sX7_loansAheadOf at hs
  refine AW.aload_n (z := 0) (am_r 0 rfl) rfl rfl ?_
  refine AW.iload_n (z := 1) (am_r 1 rfl) rfl rfl ?_
  refine AW.callV (N := MX7_itemAt) (As := [.int (p1)]) (S := []) (L0 := [some (.ref (b)), some (.int (p1))]) (b := b) (am_r 2 rfl) rfl ovX7_itemAt q620 rfl rfl sb_st rfl rfl rfl rfl (dX7_itemAt hA  rfl (fun hok2 => (cQ_r ?_)))
  refine AW.getO (am_r 3 rfl) rfl klX2 (k := 16) (by omega) q165 (sb_it hok2) rfl ?_
  refine olet_e (P := fun y => AW g MX7_loansAheadOf 8 [some (.ref (b)), some (.int (p1)), none, none, none, none] [(.int (y))] (sb h0 b S) Q) hs (fun v3 hs => ?_)
  refine AW.istore_n (L' := [some (.ref (b)), some (.int (p1)), some (.int (v3)), none, none, none]) (z := 2) (am_r 4 rfl) rfl (Nat.le_of_ble_eq_true rfl) rfl ?_
  refine AW.iconst (am_r 5 rfl) rfl ci_0 ?_
  refine AW.istore_n (L' := [some (.ref (b)), some (.int (p1)), some (.int (v3)), some (.int ((0 : Int32))), none, none]) (z := 3) (am_r 6 rfl) rfl (Nat.le_of_ble_eq_true rfl) rfl ?_
  refine AW.iconst (am_r 7 rfl) rfl ci_0 ?_
  refine AW.istore (L' := [some (.ref (b)), some (.int (p1)), some (.int (v3)), some (.int ((0 : Int32))), some (.int ((0 : Int32))), none]) (am_r 8 rfl) rfl (Nat.le_of_ble_eq_true rfl) rfl ?_
  exact dX7_loansAheadOf_l14 hA   hs hQ
