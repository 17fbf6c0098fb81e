/-! ===== snapshots ===== -/
noncomputable def sX9_saveSnapshot (S : XT) (B : Nat) (p1 : Int32) : Option (Int32 × XT) :=
  if p1 < 0 then some ((0 : Int32), S) else if (2 : Int32) ≤ p1 then some ((0 : Int32), S) else
  obind (sRow S B (10 + p1.toNatClampNeg)) fun r =>
  obind (sX7_copyFrom (r.2.2.2.2.2.2.2 (10 + p1.toNatClampNeg)) r.2.2.2.2.2.2.1) fun m =>
  some ((1 : Int32), r.2.1, si r.2.2.1 2 p1.toNatClampNeg 0 (1 : Int32), r.2.2.2.1, r.2.2.2.2.1, r.2.2.2.2.2.1, r.2.2.2.2.2.2.1, upW r.2.2.2.2.2.2.2 (10 + p1.toNatClampNeg) m)
set_option maxRecDepth 100000 in
theorem dX9_saveSnapshot {g : AG} {h0 : AH} {S : XT} {Q : AO → AH → Prop} {B : Nat} {p1 : Int32} (hB : gB g ≤ B) (hst : Sta g h0) {r : Int32 × XT} (hs : sX9_saveSnapshot S B p1 = some r) (hQ : (r.1 = 0 ∨ r.1 = 1) → Q (.ok (some (.int r.1))) (xh (bw h0 B r.2.1 r.2.2.2.1 r.2.2.2.2.2.2.2) B r.2.2.1 r.2.2.2.1 r.2.2.2.2.1 r.2.2.2.2.2.1 r.2.2.2.2.2.2.1)) : AW g MX9_saveSnapshot 0 [some (.ref B), some (.int p1)] [] (xh (bw h0 B S.1 S.2.2.1 S.2.2.2.2.2.2) B S.2.1 S.2.2.1 S.2.2.2.1 S.2.2.2.2.1 S.2.2.2.2.2.1) Q := by
  obtain ⟨z, X, P, R, C, L, W⟩ := S
  unfold sX9_saveSnapshot at hs
  dsimp only at hs ⊢
  refine AW.iload_n (z := 1) (am_r 0 rfl) rfl rfl ?_
  refine AW.if_lt (tg := 13) (am_r 1 rfl) rfl rfl (fun hc => ?_) (fun hc => ?_)
  · replace hs := (if_pos hc).symm.trans hs
    cases hs
    refine AW.iconst (am_r 7 rfl) rfl ci_0 ?_
    exact AW.zret (am_r 8 rfl) rfl (Or.inl rfl) (hQ (Or.inl rfl))
  replace hs := (if_neg hc).symm.trans hs
  refine AW.iload_n (z := 1) (am_r 2 rfl) rfl rfl ?_
  refine AW.aload_n (z := 0) (am_r 3 rfl) rfl rfl ?_
  refine AW.getO (am_r 4 rfl) rfl klX9 (k := 4) (by omega) q396 xh_0 rfl ?_
  refine AW.alen (am_r 5 rfl) rfl rfl xh_120 cn_2 ?_
  refine AW.icmp_lt (tg := 15) (am_r 6 rfl) rfl rfl (fun hc2 => ?_) (fun hc2 => ?_)
  · replace hs := (if_neg (Int32.not_le.mpr hc2)).symm.trans hs
    have hv : vp_in p1 2 := vp_mk hc (by decide) hc2
    have hlt := vp_lt hv
    refine obind_e hs fun r1 hr1 hs => ?_
    refine obind_e hs fun m hm hs => ?_
    refine AW.aload_n (z := 0) (am_r 9 rfl) rfl rfl ?_
    refine AW.getO (am_r 10 rfl) rfl klX9 (k := 3) (by omega) q395 xh_0 rfl ?_
    refine AW.iload_n (z := 1) (am_r 11 rfl) rfl rfl ?_
    refine AW.callS (N := MX9_rowAt) (As := [.ref (B + 119), .int p1]) (S := []) (am_r 12 rfl) rfl osX9_rowAt q1035 rfl rfl rfl rfl rfl ?_
    refine dX9_rowAtS hB hv hr1 (cQ_r ?_)
    obtain ⟨ha, hw⟩ := sRow_ok (by omega) hr1
    obtain ⟨a, z', X', P', R', C', L', W'⟩ := r1
    dsimp only at ha hw hm hs ⊢
    have hk : 10 + p1.toNatClampNeg < 12 := by omega
    have h4 := (hw _ hk a ha).1.1
    have hcc : (xh (bw h0 B z' P' W') B X' P' R' C' L').1 a = some (ob 7 16 (stF a (W' (10 + p1.toNatClampNeg)))) := by
      rw [xh_row_at hw hk ha (Nat.le_refl _) (by omega), Nat.sub_self]; rfl
    refine AW.aload_n (z := 0) (am_r 13 rfl) rfl rfl ?_
    refine AW.getO (am_r 14 rfl) rfl klX9 (k := 0) (by omega) q392 xh_0 rfl ?_
    refine AW.callV (N := MX7_copyFrom) (As := [.ref (B + 1)]) (S := []) (b := a) (am_r 15 rfl) rfl ovX7_copyFrom q632 rfl rfl hcc rfl rfl rfl rfl ?_
    refine AW.heq (xh_row_id hw hk ha) ?_
    refine dX7_copyFrom (by omega) (Nat.le_trans hB (by omega)) (by omega) hm (cQ_v ?_)
    refine AW.heq (xh_row_put hw hk ha) ?_
    refine AW.aload_n (z := 0) (am_r 16 rfl) rfl rfl ?_
    refine AW.getO (am_r 17 rfl) rfl klX9 (k := 4) (by omega) q396 xh_0 rfl ?_
    refine AW.iload_n (z := 1) (am_r 18 rfl) rfl rfl ?_
    refine AW.iconst (am_r 19 rfl) rfl ci_1 ?_
    refine AW.zast (am_r 20 rfl) rfl xh_120 (Nat.le_trans hB (by omega)) hv (nar_b (Or.inr rfl)) ?_
    refine AW.heq xhp_120 ?_
    refine AW.iconst (am_r 21 rfl) rfl ci_1 ?_
    cases hs
    exact AW.zret (am_r 22 rfl) rfl (Or.inr rfl) (hQ (Or.inr rfl))
  · replace hs := (if_pos (Int32.not_lt.mp hc2)).symm.trans hs
    cases hs
    refine AW.iconst (am_r 7 rfl) rfl ci_0 ?_
    exact AW.zret (am_r 8 rfl) rfl (Or.inl rfl) (hQ (Or.inl rfl))
noncomputable def sX9_restoreSnapshot (S : XT) (B : Nat) (p1 : Int32) : Option (Int32 × XT) :=
  if p1 < 0 then some ((0 : Int32), S) else if (2 : Int32) ≤ p1 then some ((0 : Int32), S) else
  if gi S.2.1 2 p1.toNatClampNeg 0 = 0 then some ((0 : Int32), S) else
  obind (sRow S B (10 + p1.toNatClampNeg)) fun r =>
  obind (sX7_copyFrom r.2.2.2.2.2.2.1 (r.2.2.2.2.2.2.2 (10 + p1.toNatClampNeg))) fun m =>
  some ((1 : Int32), r.2.1, si r.2.2.1 1 2 0 (0 : Int32), r.2.2.2.1, r.2.2.2.2.1, r.2.2.2.2.2.1, m, r.2.2.2.2.2.2.2)
set_option maxRecDepth 100000 in
theorem dX9_restoreSnapshot {g : AG} {h0 : AH} {S : XT} {Q : AO → AH → Prop} {B : Nat} {p1 : Int32} (hB : gB g ≤ B) (hst : Sta g h0) {r : Int32 × XT} (hs : sX9_restoreSnapshot S B p1 = some r) (hQ : (r.1 = 0 ∨ r.1 = 1) → Q (.ok (some (.int r.1))) (xh (bw h0 B r.2.1 r.2.2.2.1 r.2.2.2.2.2.2.2) B r.2.2.1 r.2.2.2.1 r.2.2.2.2.1 r.2.2.2.2.2.1 r.2.2.2.2.2.2.1)) : AW g MX9_restoreSnapshot 0 [some (.ref B), some (.int p1)] [] (xh (bw h0 B S.1 S.2.2.1 S.2.2.2.2.2.2) B S.2.1 S.2.2.1 S.2.2.2.1 S.2.2.2.2.1 S.2.2.2.2.2.1) Q := by
  obtain ⟨z, X, P, R, C, L, W⟩ := S
  unfold sX9_restoreSnapshot at hs
  dsimp only at hs ⊢
  refine AW.iload_n (z := 1) (am_r 0 rfl) rfl rfl ?_
  refine AW.if_lt (tg := 22) (am_r 1 rfl) rfl rfl (fun hc => ?_) (fun hc => ?_)
  · replace hs := (if_pos hc).symm.trans hs
    cases hs
    refine AW.iconst (am_r 12 rfl) rfl ci_0 ?_
    exact AW.zret (am_r 13 rfl) rfl (Or.inl rfl) (hQ (Or.inl rfl))
  replace hs := (if_neg hc).symm.trans hs
  refine AW.iload_n (z := 1) (am_r 2 rfl) rfl rfl ?_
  refine AW.aload_n (z := 0) (am_r 3 rfl) rfl rfl ?_
  refine AW.getO (am_r 4 rfl) rfl klX9 (k := 4) (by omega) q396 xh_0 rfl ?_
  refine AW.alen (am_r 5 rfl) rfl rfl xh_120 cn_2 ?_
  refine AW.icmp_ge (tg := 22) (am_r 6 rfl) rfl rfl (fun hc2 => ?_) (fun hc2 => ?_)
  · replace hs := (if_pos hc2).symm.trans hs
    cases hs
    refine AW.iconst (am_r 12 rfl) rfl ci_0 ?_
    exact AW.zret (am_r 13 rfl) rfl (Or.inl rfl) (hQ (Or.inl rfl))
  replace hs := (if_neg hc2).symm.trans hs
  have hv : vp_in p1 2 := vp_mk hc (by decide) (vp_hi hc2)
  have hlt := vp_lt hv
  refine AW.aload_n (z := 0) (am_r 7 rfl) rfl rfl ?_
  refine AW.getO (am_r 8 rfl) rfl klX9 (k := 4) (by omega) q396 xh_0 rfl ?_
  refine AW.iload_n (z := 1) (am_r 9 rfl) rfl rfl ?_
  refine AW.zald (am_r 10 rfl) rfl xh_120 hv rfl ?_
  refine AW.if_ne (tg := 24) (am_r 11 rfl) rfl rfl (fun hc3 => ?_) (fun hc3 => ?_)
  · replace hs := (if_neg hc3).symm.trans hs
    refine obind_e hs fun r1 hr1 hs => ?_
    refine obind_e hs fun m hm hs => ?_
    refine AW.aload_n (z := 0) (am_r 14 rfl) rfl rfl ?_
    refine AW.getO (am_r 15 rfl) rfl klX9 (k := 0) (by omega) q392 xh_0 rfl ?_
    refine AW.aload_n (z := 0) (am_r 16 rfl) rfl rfl ?_
    refine AW.getO (am_r 17 rfl) rfl klX9 (k := 3) (by omega) q395 xh_0 rfl ?_
    refine AW.iload_n (z := 1) (am_r 18 rfl) rfl rfl ?_
    refine AW.callS (N := MX9_rowAt) (As := [.ref (B + 119), .int p1]) (S := [.ref (B + 1)]) (am_r 19 rfl) rfl osX9_rowAt q1035 rfl rfl rfl rfl rfl ?_
    refine dX9_rowAtS hB hv hr1 (cQ_r ?_)
    obtain ⟨ha, hw⟩ := sRow_ok (by omega) hr1
    obtain ⟨a, z', X', P', R', C', L', W'⟩ := r1
    dsimp only at ha hw hm hs ⊢
    have hk : 10 + p1.toNatClampNeg < 12 := by omega
    have h4 := (hw _ hk a ha).1.1
    refine AW.callV (N := MX7_copyFrom) (As := [.ref a]) (S := []) (b := B + 1) (am_r 20 rfl) rfl ovX7_copyFrom q632 rfl rfl (xl_get (fun _ => sb_st)) rfl rfl rfl rfl ?_
    refine AW.heq (xh_live_id hw hk ha) ?_
    refine dX7_copyFrom (Nat.le_trans hB (by omega)) (by omega) (by omega) hm (cQ_v ?_)
    refine AW.heq (xh_live_put hw hk ha) ?_
    refine AW.aload_n (z := 0) (am_r 21 rfl) rfl rfl ?_
    refine AW.getO (am_r 22 rfl) rfl klX9 (k := 2) (by omega) q394 xh_0 rfl ?_
    refine AW.callV (N := MX1_forget) (As := []) (S := []) (b := B + 117) (am_r 23 rfl) rfl ovX1_forget q660 rfl rfl xh_117 rfl rfl rfl rfl ?_
    refine xt_c (S := (z', X', P', R', C', m, W')) rfl (dX1_forget hB hst (r := (z', si X' 1 2 0 (0 : Int32), P', R', C', m, W')) rfl (cQ_v ?_))
    have hr := Option.some.inj hs
    subst hr
    refine AW.iconst (am_r 24 rfl) rfl ci_1 ?_
    exact AW.zret (am_r 25 rfl) rfl (Or.inr rfl) (hQ (Or.inr rfl))
  · replace hs := (if_pos hc3).symm.trans hs
    cases hs
    refine AW.iconst (am_r 12 rfl) rfl ci_0 ?_
    exact AW.zret (am_r 13 rfl) rfl (Or.inl rfl) (hQ (Or.inl rfl))
