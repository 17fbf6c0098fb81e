/-! ===== THE LAW'S CASES (laid by a program), 2 ===== -/
set_option maxRecDepth 100000 in
theorem cL_16 {g : AG} {h0 : AH} {B bs n i : Nat} {S : XT} {T : Mem} {o : Int64} {d : UInt64} {Q : AO → AH → Prop} {xs : Nat → Int32} {I : XT → Mem → Prop} (hB : gB g ≤ B) (hst : Sta g h0) (hbs : bs < B) (hsc : h0.1 bs = some (.inl (0, n, .inl xs))) (hn : n ≤ 3072) (hi : i + 5 < n) (hI : ∀ S T, I S T → lrw B S.2.2.1) (hl : lrw B S.2.2.1) (hpf : PFX (uW (sX9_lend S B (xs (i + 1)) (xs (i + 2)) (xs (i + 3)) (xs (i + 4)))) (mI (sX10_lend T (xs (i + 1)) (xs (i + 2)) (xs (i + 3)) (xs (i + 4)))) co12 I) (k : ∀ S' T' o' d', I S' T' → AW g ML_law 3611 (LL bs B i) [] (LH h0 B S' T' o' d') Q) : AW g ML_law 1134 (LL bs B i) [] (LH h0 B S T o d) Q := by
  obtain ⟨r, b, T1, h1, h2, h3, h4⟩ := hpf
  have hlr := PFX.lr hI (fun v h => (h3 v h).2.2) (fun e h => (h4 e h).2.2)
  obtain ⟨b1, h5, h6⟩ : ∃ b1, sX10_lend T (xs (i + 1)) (xs (i + 2)) (xs (i + 3)) (xs (i + 4)) = some (b1, T1) ∧ b1.toInt64 = b := by
    unfold mI at h2
    cases e2 : sX10_lend T (xs (i + 1)) (xs (i + 2)) (xs (i + 3)) (xs (i + 4)) with
    | none => rw [e2] at h2; cases h2
    | some r2 =>
      rw [e2] at h2
      cases h2
      exact ⟨r2.1, rfl, rfl⟩
  refine AW.aload_n (z := 1) (lr_16 0 rfl) rfl rfl ?_
  refine AW.sarg (k := 1) (lr_16 1 rfl) (lr_16 2 rfl) (lr_16 3 rfl) (lr_16 4 rfl) (lr_16 5 rfl) rfl rfl rfl rfl ((LH_low hl hbs).trans hsc) (by omega) hn ?_
  refine AW.sarg (k := 2) (lr_16 6 rfl) (lr_16 7 rfl) (lr_16 8 rfl) (lr_16 9 rfl) (lr_16 10 rfl) rfl rfl rfl rfl ((LH_low hl hbs).trans hsc) (by omega) hn ?_
  refine AW.sarg (k := 3) (lr_16 11 rfl) (lr_16 12 rfl) (lr_16 13 rfl) (lr_16 14 rfl) (lr_16 15 rfl) rfl rfl rfl rfl ((LH_low hl hbs).trans hsc) (by omega) hn ?_
  refine AW.sarg (k := 4) (lr_16 16 rfl) (lr_16 17 rfl) (lr_16 18 rfl) (lr_16 19 rfl) (lr_16 20 rfl) rfl rfl rfl rfl ((LH_low hl hbs).trans hsc) (by omega) hn ?_
  refine AW.aload_n (z := 3) (lr_16 21 rfl) rfl rfl ?_
  have key : ∀ (S2 : XT) (o2 : Int64) (d2 : UInt64) (kc : Int32), lrw B S2.2.2.1 → gi T1 100 6 0 = kc → (kc = 0 → o2 = b) → I S2 T1 → AW g ML_law 1163 (LL bs B i) [.int kc] (LH h0 B S2 T o2 d2) Q := by
    intro S2 o2 d2 kc hl2 hk hv hI2
    refine AW.istore (L' := (LL bs B i).set 6 (some (.int kc))) (lr_16 23 rfl) rfl (Nat.le_of_ble_eq_true rfl) rfl ?_
    refine AW.aload_n (z := 2) (lr_16 24 rfl) rfl rfl ?_
    refine AW.sarg (k := 1) (lr_16 25 rfl) (lr_16 26 rfl) (lr_16 27 rfl) (lr_16 28 rfl) (lr_16 29 rfl) rfl rfl rfl rfl ((LH_low hl2 hbs).trans hsc) (by omega) hn ?_
    refine AW.sarg (k := 2) (lr_16 30 rfl) (lr_16 31 rfl) (lr_16 32 rfl) (lr_16 33 rfl) (lr_16 34 rfl) rfl rfl rfl rfl ((LH_low hl2 hbs).trans hsc) (by omega) hn ?_
    refine AW.sarg (k := 3) (lr_16 35 rfl) (lr_16 36 rfl) (lr_16 37 rfl) (lr_16 38 rfl) (lr_16 39 rfl) rfl rfl rfl rfl ((LH_low hl2 hbs).trans hsc) (by omega) hn ?_
    refine AW.sarg (k := 4) (lr_16 40 rfl) (lr_16 41 rfl) (lr_16 42 rfl) (lr_16 43 rfl) (lr_16 44 rfl) rfl rfl rfl rfl ((LH_low hl2 hbs).trans hsc) (by omega) hn ?_
    refine AW.callV (N := MX10_lend) (As := [.int (xs (i + 1)), .int (xs (i + 2)), .int (xs (i + 3)), .int (xs (i + 4))]) (S := []) (b := B + 129) (lr_16 45 rfl) rfl ovX10_lend q1679 rfl rfl (LH_m hl2) rfl rfl rfl rfl ?_
    refine AW.heq (LH_mb (T := T) (T' := T) hl2).symm ?_
    refine dX10_lend (Nat.le_trans hB (by omega)) h5 (cQ_r ?_)
    refine AW.heq (LH_mb hl2) ?_
    refine AW.istore (L' := (((LL bs B i).set 6 (some (.int kc))).set 7 (some (.int b1)))) (lr_16 46 rfl) rfl (Nat.le_of_ble_eq_true rfl) rfl ?_
    refine AW.aload_n (z := 2) (lr_16 47 rfl) rfl rfl ?_
    refine AW.callV (N := MX10_thrown) (As := []) (S := []) (b := B + 129) (lr_16 48 rfl) rfl ovX10_thrown q1576 rfl rfl (LH_m hl2) rfl rfl rfl rfl ?_
    refine AW.heq (LH_mb (T := T1) (T' := T1) hl2).symm ?_
    refine dX10_thrown (Nat.le_trans hB (by omega)) hk (cQ_r ?_)
    refine AW.heq (LH_mb hl2) ?_
    refine AW.iload (lr_16 49 rfl) rfl rfl ?_
    refine AW.icmp_eq (tg := 1206) (lr_16 50 rfl) rfl rfl (fun _ => ?_) (fun hc => absurd rfl hc)
    refine AW.iload (lr_16 53 rfl) rfl rfl ?_
    refine AW.if_ne (tg := 1223) (lr_16 54 rfl) rfl rfl (fun _ => ?_) (fun hc => ?_)
    · refine AW.goto (tg := 3611) (lr_16 64 rfl) rfl ?_
      refine AW.lessL (L' := LL bs B i) ⟨rfl, rfl, rfl, rfl, rfl, rfl, trivial⟩ ?_
      exact k _ _ _ _ hI2
    have hv2 := hv hc
    refine AW.aload_n (z := 3) (lr_16 55 rfl) rfl rfl ?_
    refine AW.iconst (lr_16 56 rfl) rfl ci_0 ?_
    refine AW.lald (v := .long o2) (lr_16 57 rfl) rfl (LH_o hl2) (vp_of_inb rfl) rfl ?_
    refine AW.iload (lr_16 58 rfl) rfl rfl ?_
    refine AW.i2l (lr_16 59 rfl) rfl ?_
    rw [hv2, h6]
    refine AW.lcmp (lr_16 60 rfl) rfl ?_
    refine AW.if_eq (tg := 1223) (lr_16 61 rfl) rfl rfl (fun _ => ?_) (fun hc => absurd (lg_cmp_s _) hc)
    refine AW.goto (tg := 3611) (lr_16 64 rfl) rfl ?_
    refine AW.lessL (L' := LL bs B i) ⟨rfl, rfl, rfl, rfl, rfl, rfl, trivial⟩ ?_
    exact k _ _ _ _ hI2
  refine AW.callSH (N := ML_lend) (As := [.ref B, .int (xs (i + 1)), .int (xs (i + 2)), .int (xs (i + 3)), .int (xs (i + 4)), .ref (B + 139)]) (S := []) (lr_16 22 rfl) rfl ohL_lend q1133 rfl rfl rfl rfl rfl ?_
  refine hL_lend hB hst h1 hlr (fun v hv => ?_) (fun e he => ?_)
  · obtain ⟨q1, q2, q3⟩ := h3 v hv
    refine cQ_r ?_
    exact key _ _ _ _ hlr q1 (fun _ => q2) q3
  · obtain ⟨q1, q2, q3⟩ := h4 e he
    refine ⟨_, q1, fun z z1 z2 => cQ_r ?_⟩
    exact key _ _ _ _ hlr rfl (fun h => absurd h q2) (q3 z z1 z2)
set_option maxRecDepth 100000 in
theorem cL_17 {g : AG} {h0 : AH} {B bs n i : Nat} {S : XT} {T : Mem} {o : Int64} {d : UInt64} {Q : AO → AH → Prop} {xs : Nat → Int32} {I : XT → Mem → Prop} (hB : gB g ≤ B) (hst : Sta g h0) (hbs : bs < B) (hsc : h0.1 bs = some (.inl (0, n, .inl xs))) (hn : n ≤ 3072) (hi : i + 5 < n) (hI : ∀ S T, I S T → lrw B S.2.2.1) (hl : lrw B S.2.2.1) (hpf : PFX (uW (sX9_recall S B (xs (i + 1)))) (mI (sX10_recall T (xs (i + 1)))) co1 I) (k : ∀ S' T' o' d', I S' T' → AW g ML_law 3611 (LL bs B i) [] (LH h0 B S' T' o' d') Q) : AW g ML_law 1226 (LL bs B i) [] (LH h0 B S T o d) Q := by
  obtain ⟨r, b, T1, h1, h2, h3, h4⟩ := hpf
  have hlr := PFX.lr hI (fun v h => (h3 v h).2.2) (fun e h => (h4 e h).2.2)
  obtain ⟨b1, h5, h6⟩ : ∃ b1, sX10_recall T (xs (i + 1)) = some (b1, T1) ∧ b1.toInt64 = b := by
    unfold mI at h2
    cases e2 : sX10_recall T (xs (i + 1)) with
    | none => rw [e2] at h2; cases h2
    | some r2 =>
      rw [e2] at h2
      cases h2
      exact ⟨r2.1, rfl, rfl⟩
  refine AW.aload_n (z := 1) (lr_17 0 rfl) rfl rfl ?_
  refine AW.sarg (k := 1) (lr_17 1 rfl) (lr_17 2 rfl) (lr_17 3 rfl) (lr_17 4 rfl) (lr_17 5 rfl) rfl rfl rfl rfl ((LH_low hl hbs).trans hsc) (by omega) hn ?_
  refine AW.aload_n (z := 3) (lr_17 6 rfl) rfl rfl ?_
  have key : ∀ (S2 : XT) (o2 : Int64) (d2 : UInt64) (kc : Int32), lrw B S2.2.2.1 → gi T1 100 6 0 = kc → (kc = 0 → o2 = b) → I S2 T1 → AW g ML_law 1237 (LL bs B i) [.int kc] (LH h0 B S2 T o2 d2) Q := by
    intro S2 o2 d2 kc hl2 hk hv hI2
    refine AW.istore (L' := (LL bs B i).set 6 (some (.int kc))) (lr_17 8 rfl) rfl (Nat.le_of_ble_eq_true rfl) rfl ?_
    refine AW.aload_n (z := 2) (lr_17 9 rfl) rfl rfl ?_
    refine AW.sarg (k := 1) (lr_17 10 rfl) (lr_17 11 rfl) (lr_17 12 rfl) (lr_17 13 rfl) (lr_17 14 rfl) rfl rfl rfl rfl ((LH_low hl2 hbs).trans hsc) (by omega) hn ?_
    refine AW.callV (N := MX10_recall) (As := [.int (xs (i + 1))]) (S := []) (b := B + 129) (lr_17 15 rfl) rfl ovX10_recall q1690 rfl rfl (LH_m hl2) rfl rfl rfl rfl ?_
    refine AW.heq (LH_mb (T := T) (T' := T) hl2).symm ?_
    refine dX10_recall (Nat.le_trans hB (by omega)) h5 (cQ_r ?_)
    refine AW.heq (LH_mb hl2) ?_
    refine AW.istore (L' := (((LL bs B i).set 6 (some (.int kc))).set 7 (some (.int b1)))) (lr_17 16 rfl) rfl (Nat.le_of_ble_eq_true rfl) rfl ?_
    refine AW.aload_n (z := 2) (lr_17 17 rfl) rfl rfl ?_
    refine AW.callV (N := MX10_thrown) (As := []) (S := []) (b := B + 129) (lr_17 18 rfl) rfl ovX10_thrown q1576 rfl rfl (LH_m hl2) rfl rfl rfl rfl ?_
    refine AW.heq (LH_mb (T := T1) (T' := T1) hl2).symm ?_
    refine dX10_thrown (Nat.le_trans hB (by omega)) hk (cQ_r ?_)
    refine AW.heq (LH_mb hl2) ?_
    refine AW.iload (lr_17 19 rfl) rfl rfl ?_
    refine AW.icmp_eq (tg := 1262) (lr_17 20 rfl) rfl rfl (fun _ => ?_) (fun hc => absurd rfl hc)
    refine AW.iload (lr_17 23 rfl) rfl rfl ?_
    refine AW.if_ne (tg := 1279) (lr_17 24 rfl) rfl rfl (fun _ => ?_) (fun hc => ?_)
    · refine AW.goto (tg := 3611) (lr_17 34 rfl) rfl ?_
      refine AW.lessL (L' := LL bs B i) ⟨rfl, rfl, rfl, rfl, rfl, rfl, trivial⟩ ?_
      exact k _ _ _ _ hI2
    have hv2 := hv hc
    refine AW.aload_n (z := 3) (lr_17 25 rfl) rfl rfl ?_
    refine AW.iconst (lr_17 26 rfl) rfl ci_0 ?_
    refine AW.lald (v := .long o2) (lr_17 27 rfl) rfl (LH_o hl2) (vp_of_inb rfl) rfl ?_
    refine AW.iload (lr_17 28 rfl) rfl rfl ?_
    refine AW.i2l (lr_17 29 rfl) rfl ?_
    rw [hv2, h6]
    refine AW.lcmp (lr_17 30 rfl) rfl ?_
    refine AW.if_eq (tg := 1279) (lr_17 31 rfl) rfl rfl (fun _ => ?_) (fun hc => absurd (lg_cmp_s _) hc)
    refine AW.goto (tg := 3611) (lr_17 34 rfl) rfl ?_
    refine AW.lessL (L' := LL bs B i) ⟨rfl, rfl, rfl, rfl, rfl, rfl, trivial⟩ ?_
    exact k _ _ _ _ hI2
  refine AW.callSH (N := ML_recall) (As := [.ref B, .int (xs (i + 1)), .ref (B + 139)]) (S := []) (lr_17 7 rfl) rfl ohL_recall q1138 rfl rfl rfl rfl rfl ?_
  refine hL_recall hB hst h1 hlr (fun v hv => ?_) (fun e he => ?_)
  · obtain ⟨q1, q2, q3⟩ := h3 v hv
    refine cQ_r ?_
    exact key _ _ _ _ hlr q1 (fun _ => q2) q3
  · obtain ⟨q1, q2, q3⟩ := h4 e he
    refine ⟨_, q1, fun z z1 z2 => cQ_r ?_⟩
    exact key _ _ _ _ hlr rfl (fun h => absurd h q2) (q3 z z1 z2)
set_option maxRecDepth 100000 in
theorem cL_18 {g : AG} {h0 : AH} {B bs n i : Nat} {S : XT} {T : Mem} {o : Int64} {d : UInt64} {Q : AO → AH → Prop} {xs : Nat → Int32} {I : XT → Mem → Prop} (hB : gB g ≤ B) (hst : Sta g h0) (hbs : bs < B) (hsc : h0.1 bs = some (.inl (0, n, .inl xs))) (hn : n ≤ 3072) (hi : i + 5 < n) (hI : ∀ S T, I S T → lrw B S.2.2.1) (hl : lrw B S.2.2.1) (hpf : PFX (uW (sX9_tick S B (xs (i + 1)))) (mI (sX10_tick T (xs (i + 1)))) co2 I) (k : ∀ S' T' o' d', I S' T' → AW g ML_law 3611 (LL bs B i) [] (LH h0 B S' T' o' d') Q) : AW g ML_law 1282 (LL bs B i) [] (LH h0 B S T o d) Q := by
  obtain ⟨r, b, T1, h1, h2, h3, h4⟩ := hpf
  have hlr := PFX.lr hI (fun v h => (h3 v h).2.2) (fun e h => (h4 e h).2.2)
  obtain ⟨b1, h5, h6⟩ : ∃ b1, sX10_tick T (xs (i + 1)) = some (b1, T1) ∧ b1.toInt64 = b := by
    unfold mI at h2
    cases e2 : sX10_tick T (xs (i + 1)) with
    | none => rw [e2] at h2; cases h2
    | some r2 =>
      rw [e2] at h2
      cases h2
      exact ⟨r2.1, rfl, rfl⟩
  refine AW.aload_n (z := 1) (lr_18 0 rfl) rfl rfl ?_
  refine AW.sarg (k := 1) (lr_18 1 rfl) (lr_18 2 rfl) (lr_18 3 rfl) (lr_18 4 rfl) (lr_18 5 rfl) rfl rfl rfl rfl ((LH_low hl hbs).trans hsc) (by omega) hn ?_
  refine AW.aload_n (z := 3) (lr_18 6 rfl) rfl rfl ?_
  have key : ∀ (S2 : XT) (o2 : Int64) (d2 : UInt64) (kc : Int32), lrw B S2.2.2.1 → gi T1 100 6 0 = kc → (kc = 0 → o2 = b) → I S2 T1 → AW g ML_law 1293 (LL bs B i) [.int kc] (LH h0 B S2 T o2 d2) Q := by
    intro S2 o2 d2 kc hl2 hk hv hI2
    refine AW.istore (L' := (LL bs B i).set 6 (some (.int kc))) (lr_18 8 rfl) rfl (Nat.le_of_ble_eq_true rfl) rfl ?_
    refine AW.aload_n (z := 2) (lr_18 9 rfl) rfl rfl ?_
    refine AW.sarg (k := 1) (lr_18 10 rfl) (lr_18 11 rfl) (lr_18 12 rfl) (lr_18 13 rfl) (lr_18 14 rfl) rfl rfl rfl rfl ((LH_low hl2 hbs).trans hsc) (by omega) hn ?_
    refine AW.callV (N := MX10_tick) (As := [.int (xs (i + 1))]) (S := []) (b := B + 129) (lr_18 15 rfl) rfl ovX10_tick q1698 rfl rfl (LH_m hl2) rfl rfl rfl rfl ?_
    refine AW.heq (LH_mb (T := T) (T' := T) hl2).symm ?_
    refine dX10_tick (Nat.le_trans hB (by omega)) h5 (cQ_r ?_)
    refine AW.heq (LH_mb hl2) ?_
    refine AW.istore (L' := (((LL bs B i).set 6 (some (.int kc))).set 7 (some (.int b1)))) (lr_18 16 rfl) rfl (Nat.le_of_ble_eq_true rfl) rfl ?_
    refine AW.aload_n (z := 2) (lr_18 17 rfl) rfl rfl ?_
    refine AW.callV (N := MX10_thrown) (As := []) (S := []) (b := B + 129) (lr_18 18 rfl) rfl ovX10_thrown q1576 rfl rfl (LH_m hl2) rfl rfl rfl rfl ?_
    refine AW.heq (LH_mb (T := T1) (T' := T1) hl2).symm ?_
    refine dX10_thrown (Nat.le_trans hB (by omega)) hk (cQ_r ?_)
    refine AW.heq (LH_mb hl2) ?_
    refine AW.iload (lr_18 19 rfl) rfl rfl ?_
    refine AW.icmp_eq (tg := 1318) (lr_18 20 rfl) rfl rfl (fun _ => ?_) (fun hc => absurd rfl hc)
    refine AW.iload (lr_18 23 rfl) rfl rfl ?_
    refine AW.if_ne (tg := 1335) (lr_18 24 rfl) rfl rfl (fun _ => ?_) (fun hc => ?_)
    · refine AW.goto (tg := 3611) (lr_18 34 rfl) rfl ?_
      refine AW.lessL (L' := LL bs B i) ⟨rfl, rfl, rfl, rfl, rfl, rfl, trivial⟩ ?_
      exact k _ _ _ _ hI2
    have hv2 := hv hc
    refine AW.aload_n (z := 3) (lr_18 25 rfl) rfl rfl ?_
    refine AW.iconst (lr_18 26 rfl) rfl ci_0 ?_
    refine AW.lald (v := .long o2) (lr_18 27 rfl) rfl (LH_o hl2) (vp_of_inb rfl) rfl ?_
    refine AW.iload (lr_18 28 rfl) rfl rfl ?_
    refine AW.i2l (lr_18 29 rfl) rfl ?_
    rw [hv2, h6]
    refine AW.lcmp (lr_18 30 rfl) rfl ?_
    refine AW.if_eq (tg := 1335) (lr_18 31 rfl) rfl rfl (fun _ => ?_) (fun hc => absurd (lg_cmp_s _) hc)
    refine AW.goto (tg := 3611) (lr_18 34 rfl) rfl ?_
    refine AW.lessL (L' := LL bs B i) ⟨rfl, rfl, rfl, rfl, rfl, rfl, trivial⟩ ?_
    exact k _ _ _ _ hI2
  refine AW.callSH (N := ML_tick) (As := [.ref B, .int (xs (i + 1)), .ref (B + 139)]) (S := []) (lr_18 7 rfl) rfl ohL_tick q1142 rfl rfl rfl rfl rfl ?_
  refine hL_tick hB hst h1 hlr (fun v hv => ?_) (fun e he => ?_)
  · obtain ⟨q1, q2, q3⟩ := h3 v hv
    refine cQ_r ?_
    exact key _ _ _ _ hlr q1 (fun _ => q2) q3
  · obtain ⟨q1, q2, q3⟩ := h4 e he
    refine ⟨_, q1, fun z z1 z2 => cQ_r ?_⟩
    exact key _ _ _ _ hlr rfl (fun h => absurd h q2) (q3 z z1 z2)
set_option maxRecDepth 100000 in
theorem cL_19 {g : AG} {h0 : AH} {B bs n i : Nat} {S : XT} {T : Mem} {o : Int64} {d : UInt64} {Q : AO → AH → Prop} {xs : Nat → Int32} {I : XT → Mem → Prop} (hB : gB g ≤ B) (hst : Sta g h0) (hbs : bs < B) (hsc : h0.1 bs = some (.inl (0, n, .inl xs))) (hn : n ≤ 3072) (hi : i + 5 < n) (hI : ∀ S T, I S T → lrw B S.2.2.1) (hl : lrw B S.2.2.1) (hpf : PFX (uP (sX9_reason S B (xs (i + 1))) S) (mI (sX10_reason T (xs (i + 1)))) co1 I) (k : ∀ S' T' o' d', I S' T' → AW g ML_law 3611 (LL bs B i) [] (LH h0 B S' T' o' d') Q) : AW g ML_law 1338 (LL bs B i) [] (LH h0 B S T o d) Q := by
  obtain ⟨r, b, T1, h1, h2, h3, h4⟩ := hpf
  have hlr := PFX.lr hI (fun v h => (h3 v h).2.2) (fun e h => (h4 e h).2.2)
  obtain ⟨b1, h5, h6⟩ : ∃ b1, sX10_reason T (xs (i + 1)) = some (b1, T1) ∧ b1.toInt64 = b := by
    unfold mI at h2
    cases e2 : sX10_reason T (xs (i + 1)) with
    | none => rw [e2] at h2; cases h2
    | some r2 =>
      rw [e2] at h2
      cases h2
      exact ⟨r2.1, rfl, rfl⟩
  refine AW.aload_n (z := 1) (lr_19 0 rfl) rfl rfl ?_
  refine AW.sarg (k := 1) (lr_19 1 rfl) (lr_19 2 rfl) (lr_19 3 rfl) (lr_19 4 rfl) (lr_19 5 rfl) rfl rfl rfl rfl ((LH_low hl hbs).trans hsc) (by omega) hn ?_
  refine AW.aload_n (z := 3) (lr_19 6 rfl) rfl rfl ?_
  have key : ∀ (S2 : XT) (o2 : Int64) (d2 : UInt64) (kc : Int32), lrw B S2.2.2.1 → gi T1 100 6 0 = kc → (kc = 0 → o2 = b) → I S2 T1 → AW g ML_law 1349 (LL bs B i) [.int kc] (LH h0 B S2 T o2 d2) Q := by
    intro S2 o2 d2 kc hl2 hk hv hI2
    refine AW.istore (L' := (LL bs B i).set 6 (some (.int kc))) (lr_19 8 rfl) rfl (Nat.le_of_ble_eq_true rfl) rfl ?_
    refine AW.aload_n (z := 2) (lr_19 9 rfl) rfl rfl ?_
    refine AW.sarg (k := 1) (lr_19 10 rfl) (lr_19 11 rfl) (lr_19 12 rfl) (lr_19 13 rfl) (lr_19 14 rfl) rfl rfl rfl rfl ((LH_low hl2 hbs).trans hsc) (by omega) hn ?_
    refine AW.callV (N := MX10_reason) (As := [.int (xs (i + 1))]) (S := []) (b := B + 129) (lr_19 15 rfl) rfl ovX10_reason q1833 rfl rfl (LH_m hl2) rfl rfl rfl rfl ?_
    refine AW.heq (LH_mb (T := T) (T' := T) hl2).symm ?_
    refine dX10_reason (Nat.le_trans hB (by omega)) h5 (cQ_r ?_)
    refine AW.heq (LH_mb hl2) ?_
    refine AW.istore (L' := (((LL bs B i).set 6 (some (.int kc))).set 7 (some (.int b1)))) (lr_19 16 rfl) rfl (Nat.le_of_ble_eq_true rfl) rfl ?_
    refine AW.aload_n (z := 2) (lr_19 17 rfl) rfl rfl ?_
    refine AW.callV (N := MX10_thrown) (As := []) (S := []) (b := B + 129) (lr_19 18 rfl) rfl ovX10_thrown q1576 rfl rfl (LH_m hl2) rfl rfl rfl rfl ?_
    refine AW.heq (LH_mb (T := T1) (T' := T1) hl2).symm ?_
    refine dX10_thrown (Nat.le_trans hB (by omega)) hk (cQ_r ?_)
    refine AW.heq (LH_mb hl2) ?_
    refine AW.iload (lr_19 19 rfl) rfl rfl ?_
    refine AW.icmp_eq (tg := 1374) (lr_19 20 rfl) rfl rfl (fun _ => ?_) (fun hc => absurd rfl hc)
    refine AW.iload (lr_19 23 rfl) rfl rfl ?_
    refine AW.if_ne (tg := 1391) (lr_19 24 rfl) rfl rfl (fun _ => ?_) (fun hc => ?_)
    · refine AW.goto (tg := 3611) (lr_19 34 rfl) rfl ?_
      refine AW.lessL (L' := LL bs B i) ⟨rfl, rfl, rfl, rfl, rfl, rfl, trivial⟩ ?_
      exact k _ _ _ _ hI2
    have hv2 := hv hc
    refine AW.aload_n (z := 3) (lr_19 25 rfl) rfl rfl ?_
    refine AW.iconst (lr_19 26 rfl) rfl ci_0 ?_
    refine AW.lald (v := .long o2) (lr_19 27 rfl) rfl (LH_o hl2) (vp_of_inb rfl) rfl ?_
    refine AW.iload (lr_19 28 rfl) rfl rfl ?_
    refine AW.i2l (lr_19 29 rfl) rfl ?_
    rw [hv2, h6]
    refine AW.lcmp (lr_19 30 rfl) rfl ?_
    refine AW.if_eq (tg := 1391) (lr_19 31 rfl) rfl rfl (fun _ => ?_) (fun hc => absurd (lg_cmp_s _) hc)
    refine AW.goto (tg := 3611) (lr_19 34 rfl) rfl ?_
    refine AW.lessL (L' := LL bs B i) ⟨rfl, rfl, rfl, rfl, rfl, rfl, trivial⟩ ?_
    exact k _ _ _ _ hI2
  refine AW.callSH (N := ML_reason) (As := [.ref B, .int (xs (i + 1)), .ref (B + 139)]) (S := []) (lr_19 7 rfl) rfl ohL_reason q1146 rfl rfl rfl rfl rfl ?_
  refine hL_reason hB hst h1 hlr (fun v hv => ?_) (fun e he => ?_)
  · obtain ⟨q1, q2, q3⟩ := h3 v hv
    refine cQ_r ?_
    exact key _ _ _ _ hlr q1 (fun _ => q2) q3
  · obtain ⟨q1, q2, q3⟩ := h4 e he
    refine ⟨_, q1, fun z z1 z2 => cQ_r ?_⟩
    exact key _ _ _ _ hlr rfl (fun h => absurd h q2) (q3 z z1 z2)
set_option maxRecDepth 100000 in
theorem cL_20 {g : AG} {h0 : AH} {B bs n i : Nat} {S : XT} {T : Mem} {o : Int64} {d : UInt64} {Q : AO → AH → Prop} {xs : Nat → Int32} {I : XT → Mem → Prop} (hB : gB g ≤ B) (hst : Sta g h0) (hbs : bs < B) (hsc : h0.1 bs = some (.inl (0, n, .inl xs))) (hn : n ≤ 3072) (hi : i + 5 < n) (hI : ∀ S T, I S T → lrw B S.2.2.1) (hl : lrw B S.2.2.1) (hpf : PFX (uP (sX9_cause S B (xs (i + 1))) S) (mI (sX10_cause T (xs (i + 1)))) co1 I) (k : ∀ S' T' o' d', I S' T' → AW g ML_law 3611 (LL bs B i) [] (LH h0 B S' T' o' d') Q) : AW g ML_law 1394 (LL bs B i) [] (LH h0 B S T o d) Q := by
  obtain ⟨r, b, T1, h1, h2, h3, h4⟩ := hpf
  have hlr := PFX.lr hI (fun v h => (h3 v h).2.2) (fun e h => (h4 e h).2.2)
  obtain ⟨b1, h5, h6⟩ : ∃ b1, sX10_cause T (xs (i + 1)) = some (b1, T1) ∧ b1.toInt64 = b := by
    unfold mI at h2
    cases e2 : sX10_cause T (xs (i + 1)) with
    | none => rw [e2] at h2; cases h2
    | some r2 =>
      rw [e2] at h2
      cases h2
      exact ⟨r2.1, rfl, rfl⟩
  refine AW.aload_n (z := 1) (lr_20 0 rfl) rfl rfl ?_
  refine AW.sarg (k := 1) (lr_20 1 rfl) (lr_20 2 rfl) (lr_20 3 rfl) (lr_20 4 rfl) (lr_20 5 rfl) rfl rfl rfl rfl ((LH_low hl hbs).trans hsc) (by omega) hn ?_
  refine AW.aload_n (z := 3) (lr_20 6 rfl) rfl rfl ?_
  have key : ∀ (S2 : XT) (o2 : Int64) (d2 : UInt64) (kc : Int32), lrw B S2.2.2.1 → gi T1 100 6 0 = kc → (kc = 0 → o2 = b) → I S2 T1 → AW g ML_law 1405 (LL bs B i) [.int kc] (LH h0 B S2 T o2 d2) Q := by
    intro S2 o2 d2 kc hl2 hk hv hI2
    refine AW.istore (L' := (LL bs B i).set 6 (some (.int kc))) (lr_20 8 rfl) rfl (Nat.le_of_ble_eq_true rfl) rfl ?_
    refine AW.aload_n (z := 2) (lr_20 9 rfl) rfl rfl ?_
    refine AW.sarg (k := 1) (lr_20 10 rfl) (lr_20 11 rfl) (lr_20 12 rfl) (lr_20 13 rfl) (lr_20 14 rfl) rfl rfl rfl rfl ((LH_low hl2 hbs).trans hsc) (by omega) hn ?_
    refine AW.callV (N := MX10_cause) (As := [.int (xs (i + 1))]) (S := []) (b := B + 129) (lr_20 15 rfl) rfl ovX10_cause q1837 rfl rfl (LH_m hl2) rfl rfl rfl rfl ?_
    refine AW.heq (LH_mb (T := T) (T' := T) hl2).symm ?_
    refine dX10_cause (Nat.le_trans hB (by omega)) h5 (cQ_r ?_)
    refine AW.heq (LH_mb hl2) ?_
    refine AW.istore (L' := (((LL bs B i).set 6 (some (.int kc))).set 7 (some (.int b1)))) (lr_20 16 rfl) rfl (Nat.le_of_ble_eq_true rfl) rfl ?_
    refine AW.aload_n (z := 2) (lr_20 17 rfl) rfl rfl ?_
    refine AW.callV (N := MX10_thrown) (As := []) (S := []) (b := B + 129) (lr_20 18 rfl) rfl ovX10_thrown q1576 rfl rfl (LH_m hl2) rfl rfl rfl rfl ?_
    refine AW.heq (LH_mb (T := T1) (T' := T1) hl2).symm ?_
    refine dX10_thrown (Nat.le_trans hB (by omega)) hk (cQ_r ?_)
    refine AW.heq (LH_mb hl2) ?_
    refine AW.iload (lr_20 19 rfl) rfl rfl ?_
    refine AW.icmp_eq (tg := 1430) (lr_20 20 rfl) rfl rfl (fun _ => ?_) (fun hc => absurd rfl hc)
    refine AW.iload (lr_20 23 rfl) rfl rfl ?_
    refine AW.if_ne (tg := 1447) (lr_20 24 rfl) rfl rfl (fun _ => ?_) (fun hc => ?_)
    · refine AW.goto (tg := 3611) (lr_20 34 rfl) rfl ?_
      refine AW.lessL (L' := LL bs B i) ⟨rfl, rfl, rfl, rfl, rfl, rfl, trivial⟩ ?_
      exact k _ _ _ _ hI2
    have hv2 := hv hc
    refine AW.aload_n (z := 3) (lr_20 25 rfl) rfl rfl ?_
    refine AW.iconst (lr_20 26 rfl) rfl ci_0 ?_
    refine AW.lald (v := .long o2) (lr_20 27 rfl) rfl (LH_o hl2) (vp_of_inb rfl) rfl ?_
    refine AW.iload (lr_20 28 rfl) rfl rfl ?_
    refine AW.i2l (lr_20 29 rfl) rfl ?_
    rw [hv2, h6]
    refine AW.lcmp (lr_20 30 rfl) rfl ?_
    refine AW.if_eq (tg := 1447) (lr_20 31 rfl) rfl rfl (fun _ => ?_) (fun hc => absurd (lg_cmp_s _) hc)
    refine AW.goto (tg := 3611) (lr_20 34 rfl) rfl ?_
    refine AW.lessL (L' := LL bs B i) ⟨rfl, rfl, rfl, rfl, rfl, rfl, trivial⟩ ?_
    exact k _ _ _ _ hI2
  refine AW.callSH (N := ML_cause) (As := [.ref B, .int (xs (i + 1)), .ref (B + 139)]) (S := []) (lr_20 7 rfl) rfl ohL_cause q1154 rfl rfl rfl rfl rfl ?_
  refine hL_cause hB hst h1 hlr (fun v hv => ?_) (fun e he => ?_)
  · obtain ⟨q1, q2, q3⟩ := h3 v hv
    refine cQ_r ?_
    exact key _ _ _ _ hlr q1 (fun _ => q2) q3
  · obtain ⟨q1, q2, q3⟩ := h4 e he
    refine ⟨_, q1, fun z z1 z2 => cQ_r ?_⟩
    exact key _ _ _ _ hlr rfl (fun h => absurd h q2) (q3 z z1 z2)
set_option maxRecDepth 100000 in
theorem cL_21 {g : AG} {h0 : AH} {B bs n i : Nat} {S : XT} {T : Mem} {o : Int64} {d : UInt64} {Q : AO → AH → Prop} {xs : Nat → Int32} {I : XT → Mem → Prop} (hB : gB g ≤ B) (hst : Sta g h0) (hbs : bs < B) (hsc : h0.1 bs = some (.inl (0, n, .inl xs))) (hn : n ≤ 3072) (hi : i + 5 < n) (hI : ∀ S T, I S T → lrw B S.2.2.1) (hl : lrw B S.2.2.1) (hpf : PFX (uP (sX9_objectsWith S B (xs (i + 1))) S) (mI (sX10_objectsWith T (xs (i + 1)))) co2 I) (k : ∀ S' T' o' d', I S' T' → AW g ML_law 3611 (LL bs B i) [] (LH h0 B S' T' o' d') Q) : AW g ML_law 1450 (LL bs B i) [] (LH h0 B S T o d) Q := by
  obtain ⟨r, b, T1, h1, h2, h3, h4⟩ := hpf
  have hlr := PFX.lr hI (fun v h => (h3 v h).2.2) (fun e h => (h4 e h).2.2)
  obtain ⟨b1, h5, h6⟩ : ∃ b1, sX10_objectsWith T (xs (i + 1)) = some (b1, T1) ∧ b1.toInt64 = b := by
    unfold mI at h2
    cases e2 : sX10_objectsWith T (xs (i + 1)) with
    | none => rw [e2] at h2; cases h2
    | some r2 =>
      rw [e2] at h2
      cases h2
      exact ⟨r2.1, rfl, rfl⟩
  refine AW.aload_n (z := 1) (lr_21 0 rfl) rfl rfl ?_
  refine AW.sarg (k := 1) (lr_21 1 rfl) (lr_21 2 rfl) (lr_21 3 rfl) (lr_21 4 rfl) (lr_21 5 rfl) rfl rfl rfl rfl ((LH_low hl hbs).trans hsc) (by omega) hn ?_
  refine AW.aload_n (z := 3) (lr_21 6 rfl) rfl rfl ?_
  have key : ∀ (S2 : XT) (o2 : Int64) (d2 : UInt64) (kc : Int32), lrw B S2.2.2.1 → gi T1 100 6 0 = kc → (kc = 0 → o2 = b) → I S2 T1 → AW g ML_law 1461 (LL bs B i) [.int kc] (LH h0 B S2 T o2 d2) Q := by
    intro S2 o2 d2 kc hl2 hk hv hI2
    refine AW.istore (L' := (LL bs B i).set 6 (some (.int kc))) (lr_21 8 rfl) rfl (Nat.le_of_ble_eq_true rfl) rfl ?_
    refine AW.aload_n (z := 2) (lr_21 9 rfl) rfl rfl ?_
    refine AW.sarg (k := 1) (lr_21 10 rfl) (lr_21 11 rfl) (lr_21 12 rfl) (lr_21 13 rfl) (lr_21 14 rfl) rfl rfl rfl rfl ((LH_low hl2 hbs).trans hsc) (by omega) hn ?_
    refine AW.callV (N := MX10_objectsWith) (As := [.int (xs (i + 1))]) (S := []) (b := B + 129) (lr_21 15 rfl) rfl ovX10_objectsWith q1845 rfl rfl (LH_m hl2) rfl rfl rfl rfl ?_
    refine AW.heq (LH_mb (T := T) (T' := T) hl2).symm ?_
    refine dX10_objectsWith (Nat.le_trans hB (by omega)) h5 (cQ_r ?_)
    refine AW.heq (LH_mb hl2) ?_
    refine AW.istore (L' := (((LL bs B i).set 6 (some (.int kc))).set 7 (some (.int b1)))) (lr_21 16 rfl) rfl (Nat.le_of_ble_eq_true rfl) rfl ?_
    refine AW.aload_n (z := 2) (lr_21 17 rfl) rfl rfl ?_
    refine AW.callV (N := MX10_thrown) (As := []) (S := []) (b := B + 129) (lr_21 18 rfl) rfl ovX10_thrown q1576 rfl rfl (LH_m hl2) rfl rfl rfl rfl ?_
    refine AW.heq (LH_mb (T := T1) (T' := T1) hl2).symm ?_
    refine dX10_thrown (Nat.le_trans hB (by omega)) hk (cQ_r ?_)
    refine AW.heq (LH_mb hl2) ?_
    refine AW.iload (lr_21 19 rfl) rfl rfl ?_
    refine AW.icmp_eq (tg := 1486) (lr_21 20 rfl) rfl rfl (fun _ => ?_) (fun hc => absurd rfl hc)
    refine AW.iload (lr_21 23 rfl) rfl rfl ?_
    refine AW.if_ne (tg := 1503) (lr_21 24 rfl) rfl rfl (fun _ => ?_) (fun hc => ?_)
    · refine AW.goto (tg := 3611) (lr_21 34 rfl) rfl ?_
      refine AW.lessL (L' := LL bs B i) ⟨rfl, rfl, rfl, rfl, rfl, rfl, trivial⟩ ?_
      exact k _ _ _ _ hI2
    have hv2 := hv hc
    refine AW.aload_n (z := 3) (lr_21 25 rfl) rfl rfl ?_
    refine AW.iconst (lr_21 26 rfl) rfl ci_0 ?_
    refine AW.lald (v := .long o2) (lr_21 27 rfl) rfl (LH_o hl2) (vp_of_inb rfl) rfl ?_
    refine AW.iload (lr_21 28 rfl) rfl rfl ?_
    refine AW.i2l (lr_21 29 rfl) rfl ?_
    rw [hv2, h6]
    refine AW.lcmp (lr_21 30 rfl) rfl ?_
    refine AW.if_eq (tg := 1503) (lr_21 31 rfl) rfl rfl (fun _ => ?_) (fun hc => absurd (lg_cmp_s _) hc)
    refine AW.goto (tg := 3611) (lr_21 34 rfl) rfl ?_
    refine AW.lessL (L' := LL bs B i) ⟨rfl, rfl, rfl, rfl, rfl, rfl, trivial⟩ ?_
    exact k _ _ _ _ hI2
  refine AW.callSH (N := ML_objectsWith) (As := [.ref B, .int (xs (i + 1)), .ref (B + 139)]) (S := []) (lr_21 7 rfl) rfl ohL_objectsWith q1162 rfl rfl rfl rfl rfl ?_
  refine hL_objectsWith hB hst h1 hlr (fun v hv => ?_) (fun e he => ?_)
  · obtain ⟨q1, q2, q3⟩ := h3 v hv
    refine cQ_r ?_
    exact key _ _ _ _ hlr q1 (fun _ => q2) q3
  · obtain ⟨q1, q2, q3⟩ := h4 e he
    refine ⟨_, q1, fun z z1 z2 => cQ_r ?_⟩
    exact key _ _ _ _ hlr rfl (fun h => absurd h q2) (q3 z z1 z2)
set_option maxRecDepth 100000 in
theorem cL_22 {g : AG} {h0 : AH} {B bs n i : Nat} {S : XT} {T : Mem} {o : Int64} {d : UInt64} {Q : AO → AH → Prop} {xs : Nat → Int32} {I : XT → Mem → Prop} (hB : gB g ≤ B) (hst : Sta g h0) (hbs : bs < B) (hsc : h0.1 bs = some (.inl (0, n, .inl xs))) (hn : n ≤ 3072) (hi : i + 5 < n) (hI : ∀ S T, I S T → lrw B S.2.2.1) (hl : lrw B S.2.2.1) (hpf : PFA (uA (sX9_next S B ) S) (sX10_next T) I) (k : ∀ S' T' o' d', I S' T' → AW g ML_law 3611 (LL bs B i) [] (LH h0 B S' T' o' d') Q) : AW g ML_law 1506 (LL bs B i) [] (LH h0 B S T o d) Q := by
  obtain ⟨v, S1, T1, h1, h2, h3⟩ := hpf
  have hl1 := hI _ _ h3
  cases e1 : sX9_next S B  with
  | none => rw [e1] at h1; cases h1
  | some v1 =>
    rw [e1] at h1
    cases h1
    refine AW.aload_n (z := 1) (lr_22 0 rfl) rfl rfl ?_
    refine AW.callV (N := MX9_next) (As := []) (S := []) (b := B) (lr_22 1 rfl) rfl ovX9_next q684 rfl rfl LH_x rfl rfl rfl rfl ?_
    refine dX9_next hB (sta_lb hst hB) e1 (cQ_r ?_)
    show AW g ML_law 1510 _ _ (LH h0 B S T o d) Q
    refine AW.aload_n (z := 2) (lr_22 2 rfl) rfl rfl ?_
    refine AW.callV (N := MX10_next) (As := []) (S := [.int v]) (b := B + 129) (lr_22 3 rfl) rfl ovX10_next q1849 rfl rfl (LH_m hl1) rfl rfl rfl rfl ?_
    refine AW.heq (LH_mb (T := T) (T' := T) hl1).symm ?_
    refine dX10_next (Nat.le_trans hB (by omega)) h2 (cQ_r ?_)
    refine AW.heq (LH_mb hl1) ?_
    refine AW.icmp_eq (tg := 3611) (lr_22 4 rfl) rfl rfl (fun _ => k _ _ _ _ h3) (fun hc => absurd rfl hc)
set_option maxRecDepth 100000 in
theorem cL_23 {g : AG} {h0 : AH} {B bs n i : Nat} {S : XT} {T : Mem} {o : Int64} {d : UInt64} {Q : AO → AH → Prop} {xs : Nat → Int32} {I : XT → Mem → Prop} (hB : gB g ≤ B) (hst : Sta g h0) (hbs : bs < B) (hsc : h0.1 bs = some (.inl (0, n, .inl xs))) (hn : n ≤ 3072) (hi : i + 5 < n) (hI : ∀ S T, I S T → lrw B S.2.2.1) (hl : lrw B S.2.2.1) (hpf : PFX (uB (sX9_needsApproval S B (xs (i + 1)) (xs (i + 2))) S) (mZ (sX10_needsApproval T (xs (i + 1)) (xs (i + 2)))) co1 I) (k : ∀ S' T' o' d', I S' T' → AW g ML_law 3611 (LL bs B i) [] (LH h0 B S' T' o' d') Q) : AW g ML_law 1519 (LL bs B i) [] (LH h0 B S T o d) Q := by
  obtain ⟨r, b, T1, h1, h2, h3, h4⟩ := hpf
  have hlr := PFX.lr hI (fun v h => (h3 v h).2.2) (fun e h => (h4 e h).2.2)
  obtain ⟨b1, h5, h6⟩ : ∃ b1, sX10_needsApproval T (xs (i + 1)) (xs (i + 2)) = some (b1, T1) ∧ (if b1 = 0 then (0 : Int64) else 1) = b := by
    unfold mZ at h2
    cases e2 : sX10_needsApproval T (xs (i + 1)) (xs (i + 2)) with
    | none => rw [e2] at h2; cases h2
    | some r2 =>
      rw [e2] at h2
      cases h2
      exact ⟨r2.1, rfl, rfl⟩
  refine AW.aload_n (z := 1) (lr_23 0 rfl) rfl rfl ?_
  refine AW.sarg (k := 1) (lr_23 1 rfl) (lr_23 2 rfl) (lr_23 3 rfl) (lr_23 4 rfl) (lr_23 5 rfl) rfl rfl rfl rfl ((LH_low hl hbs).trans hsc) (by omega) hn ?_
  refine AW.sarg (k := 2) (lr_23 6 rfl) (lr_23 7 rfl) (lr_23 8 rfl) (lr_23 9 rfl) (lr_23 10 rfl) rfl rfl rfl rfl ((LH_low hl hbs).trans hsc) (by omega) hn ?_
  refine AW.aload_n (z := 3) (lr_23 11 rfl) rfl rfl ?_
  have key : ∀ (S2 : XT) (o2 : Int64) (d2 : UInt64) (kc : Int32), lrw B S2.2.2.1 → gi T1 100 6 0 = kc → (kc = 0 → o2 = b) → I S2 T1 → AW g ML_law 1536 (LL bs B i) [.int kc] (LH h0 B S2 T o2 d2) Q := by
    intro S2 o2 d2 kc hl2 hk hv hI2
    refine AW.istore (L' := (LL bs B i).set 6 (some (.int kc))) (lr_23 13 rfl) rfl (Nat.le_of_ble_eq_true rfl) rfl ?_
    refine AW.aload_n (z := 2) (lr_23 14 rfl) rfl rfl ?_
    refine AW.sarg (k := 1) (lr_23 15 rfl) (lr_23 16 rfl) (lr_23 17 rfl) (lr_23 18 rfl) (lr_23 19 rfl) rfl rfl rfl rfl ((LH_low hl2 hbs).trans hsc) (by omega) hn ?_
    refine AW.sarg (k := 2) (lr_23 20 rfl) (lr_23 21 rfl) (lr_23 22 rfl) (lr_23 23 rfl) (lr_23 24 rfl) rfl rfl rfl rfl ((LH_low hl2 hbs).trans hsc) (by omega) hn ?_
    refine AW.callV (N := MX10_needsApproval) (As := [.int (xs (i + 1)), .int (xs (i + 2))]) (S := []) (b := B + 129) (lr_23 25 rfl) rfl ovX10_needsApproval q1853 rfl rfl (LH_m hl2) rfl rfl rfl rfl ?_
    refine AW.heq (LH_mb (T := T) (T' := T) hl2).symm ?_
    refine dX10_needsApproval (Nat.le_trans hB (by omega)) h5 (fun _ => cQ_r ?_)
    refine AW.heq (LH_mb hl2) ?_
    refine AW.istore (L' := (((LL bs B i).set 6 (some (.int kc))).set 7 (some (.int b1)))) (lr_23 26 rfl) rfl (Nat.le_of_ble_eq_true rfl) rfl ?_
    refine AW.aload_n (z := 2) (lr_23 27 rfl) rfl rfl ?_
    refine AW.callV (N := MX10_thrown) (As := []) (S := []) (b := B + 129) (lr_23 28 rfl) rfl ovX10_thrown q1576 rfl rfl (LH_m hl2) rfl rfl rfl rfl ?_
    refine AW.heq (LH_mb (T := T1) (T' := T1) hl2).symm ?_
    refine dX10_thrown (Nat.le_trans hB (by omega)) hk (cQ_r ?_)
    refine AW.heq (LH_mb hl2) ?_
    refine AW.iload (lr_23 29 rfl) rfl rfl ?_
    refine AW.icmp_eq (tg := 1567) (lr_23 30 rfl) rfl rfl (fun _ => ?_) (fun hc => absurd rfl hc)
    refine AW.iload (lr_23 33 rfl) rfl rfl ?_
    refine AW.if_ne (tg := 1591) (lr_23 34 rfl) rfl rfl (fun _ => ?_) (fun hc => ?_)
    · refine AW.goto (tg := 3611) (lr_23 47 rfl) rfl ?_
      refine AW.lessL (L' := LL bs B i) ⟨rfl, rfl, rfl, rfl, rfl, rfl, trivial⟩ ?_
      exact k _ _ _ _ hI2
    have hv2 := hv hc
    refine AW.aload_n (z := 3) (lr_23 35 rfl) rfl rfl ?_
    refine AW.iconst (lr_23 36 rfl) rfl ci_0 ?_
    refine AW.lald (v := .long o2) (lr_23 37 rfl) rfl (LH_o hl2) (vp_of_inb rfl) rfl ?_
    refine AW.iload (lr_23 38 rfl) rfl rfl ?_
    refine AW.if_eq (tg := 1584) (lr_23 39 rfl) rfl rfl (fun hb => ?_) (fun hb => ?_)
    · rw [if_pos hb] at h6
      refine AW.lconst (v := (0 : Int64)) (z := 0) (lr_23 42 rfl) rfl (by decide) ?_
      rw [hv2, ← h6]
      refine AW.lcmp (lr_23 43 rfl) rfl ?_
      refine AW.if_eq (tg := 1591) (lr_23 44 rfl) rfl rfl (fun _ => ?_) (fun hc => absurd (lg_cmp_s _) hc)
      refine AW.goto (tg := 3611) (lr_23 47 rfl) rfl ?_
      refine AW.lessL (L' := LL bs B i) ⟨rfl, rfl, rfl, rfl, rfl, rfl, trivial⟩ ?_
      exact k _ _ _ _ hI2
    · rw [if_neg hb] at h6
      refine AW.lconst (v := (1 : Int64)) (z := 1) (lr_23 40 rfl) rfl (by decide) ?_
      refine AW.goto (tg := 1585) (lr_23 41 rfl) rfl ?_
      rw [hv2, ← h6]
      refine AW.lcmp (lr_23 43 rfl) rfl ?_
      refine AW.if_eq (tg := 1591) (lr_23 44 rfl) rfl rfl (fun _ => ?_) (fun hc => absurd (lg_cmp_s _) hc)
      refine AW.goto (tg := 3611) (lr_23 47 rfl) rfl ?_
      refine AW.lessL (L' := LL bs B i) ⟨rfl, rfl, rfl, rfl, rfl, rfl, trivial⟩ ?_
      exact k _ _ _ _ hI2
  refine AW.callSH (N := ML_needsApproval) (As := [.ref B, .int (xs (i + 1)), .int (xs (i + 2)), .ref (B + 139)]) (S := []) (lr_23 12 rfl) rfl ohL_needsApproval q1169 rfl rfl rfl rfl rfl ?_
  refine hL_needsApproval hB hst h1 hlr (fun v hv => ?_) (fun e he => ?_)
  · obtain ⟨q1, q2, q3⟩ := h3 v hv
    refine cQ_r ?_
    exact key _ _ _ _ hlr q1 (fun _ => q2) q3
  · obtain ⟨q1, q2, q3⟩ := h4 e he
    refine ⟨_, q1, fun z z1 z2 => cQ_r ?_⟩
    exact key _ _ _ _ hlr rfl (fun h => absurd h q2) (q3 z z1 z2)
set_option maxRecDepth 100000 in
theorem cL_24 {g : AG} {h0 : AH} {B bs n i : Nat} {S : XT} {T : Mem} {o : Int64} {d : UInt64} {Q : AO → AH → Prop} {xs : Nat → Int32} {I : XT → Mem → Prop} (hB : gB g ≤ B) (hst : Sta g h0) (hbs : bs < B) (hsc : h0.1 bs = some (.inl (0, n, .inl xs))) (hn : n ≤ 3072) (hi : i + 5 < n) (hI : ∀ S T, I S T → lrw B S.2.2.1) (hl : lrw B S.2.2.1) (hpf : PFX (uP (sX9_approvalsAhead S B (xs (i + 1))) S) (mI (sX10_approvalsAhead T (xs (i + 1)))) co1 I) (k : ∀ S' T' o' d', I S' T' → AW g ML_law 3611 (LL bs B i) [] (LH h0 B S' T' o' d') Q) : AW g ML_law 1594 (LL bs B i) [] (LH h0 B S T o d) Q := by
  obtain ⟨r, b, T1, h1, h2, h3, h4⟩ := hpf
  have hlr := PFX.lr hI (fun v h => (h3 v h).2.2) (fun e h => (h4 e h).2.2)
  obtain ⟨b1, h5, h6⟩ : ∃ b1, sX10_approvalsAhead T (xs (i + 1)) = some (b1, T1) ∧ b1.toInt64 = b := by
    unfold mI at h2
    cases e2 : sX10_approvalsAhead T (xs (i + 1)) with
    | none => rw [e2] at h2; cases h2
    | some r2 =>
      rw [e2] at h2
      cases h2
      exact ⟨r2.1, rfl, rfl⟩
  refine AW.aload_n (z := 1) (lr_24 0 rfl) rfl rfl ?_
  refine AW.sarg (k := 1) (lr_24 1 rfl) (lr_24 2 rfl) (lr_24 3 rfl) (lr_24 4 rfl) (lr_24 5 rfl) rfl rfl rfl rfl ((LH_low hl hbs).trans hsc) (by omega) hn ?_
  refine AW.aload_n (z := 3) (lr_24 6 rfl) rfl rfl ?_
  have key : ∀ (S2 : XT) (o2 : Int64) (d2 : UInt64) (kc : Int32), lrw B S2.2.2.1 → gi T1 100 6 0 = kc → (kc = 0 → o2 = b) → I S2 T1 → AW g ML_law 1605 (LL bs B i) [.int kc] (LH h0 B S2 T o2 d2) Q := by
    intro S2 o2 d2 kc hl2 hk hv hI2
    refine AW.istore (L' := (LL bs B i).set 6 (some (.int kc))) (lr_24 8 rfl) rfl (Nat.le_of_ble_eq_true rfl) rfl ?_
    refine AW.aload_n (z := 2) (lr_24 9 rfl) rfl rfl ?_
    refine AW.sarg (k := 1) (lr_24 10 rfl) (lr_24 11 rfl) (lr_24 12 rfl) (lr_24 13 rfl) (lr_24 14 rfl) rfl rfl rfl rfl ((LH_low hl2 hbs).trans hsc) (by omega) hn ?_
    refine AW.callV (N := MX10_approvalsAhead) (As := [.int (xs (i + 1))]) (S := []) (b := B + 129) (lr_24 15 rfl) rfl ovX10_approvalsAhead q1857 rfl rfl (LH_m hl2) rfl rfl rfl rfl ?_
    refine AW.heq (LH_mb (T := T) (T' := T) hl2).symm ?_
    refine dX10_approvalsAhead (Nat.le_trans hB (by omega)) h5 (cQ_r ?_)
    refine AW.heq (LH_mb hl2) ?_
    refine AW.istore (L' := (((LL bs B i).set 6 (some (.int kc))).set 7 (some (.int b1)))) (lr_24 16 rfl) rfl (Nat.le_of_ble_eq_true rfl) rfl ?_
    refine AW.aload_n (z := 2) (lr_24 17 rfl) rfl rfl ?_
    refine AW.callV (N := MX10_thrown) (As := []) (S := []) (b := B + 129) (lr_24 18 rfl) rfl ovX10_thrown q1576 rfl rfl (LH_m hl2) rfl rfl rfl rfl ?_
    refine AW.heq (LH_mb (T := T1) (T' := T1) hl2).symm ?_
    refine dX10_thrown (Nat.le_trans hB (by omega)) hk (cQ_r ?_)
    refine AW.heq (LH_mb hl2) ?_
    refine AW.iload (lr_24 19 rfl) rfl rfl ?_
    refine AW.icmp_eq (tg := 1630) (lr_24 20 rfl) rfl rfl (fun _ => ?_) (fun hc => absurd rfl hc)
    refine AW.iload (lr_24 23 rfl) rfl rfl ?_
    refine AW.if_ne (tg := 1647) (lr_24 24 rfl) rfl rfl (fun _ => ?_) (fun hc => ?_)
    · refine AW.goto (tg := 3611) (lr_24 34 rfl) rfl ?_
      refine AW.lessL (L' := LL bs B i) ⟨rfl, rfl, rfl, rfl, rfl, rfl, trivial⟩ ?_
      exact k _ _ _ _ hI2
    have hv2 := hv hc
    refine AW.aload_n (z := 3) (lr_24 25 rfl) rfl rfl ?_
    refine AW.iconst (lr_24 26 rfl) rfl ci_0 ?_
    refine AW.lald (v := .long o2) (lr_24 27 rfl) rfl (LH_o hl2) (vp_of_inb rfl) rfl ?_
    refine AW.iload (lr_24 28 rfl) rfl rfl ?_
    refine AW.i2l (lr_24 29 rfl) rfl ?_
    rw [hv2, h6]
    refine AW.lcmp (lr_24 30 rfl) rfl ?_
    refine AW.if_eq (tg := 1647) (lr_24 31 rfl) rfl rfl (fun _ => ?_) (fun hc => absurd (lg_cmp_s _) hc)
    refine AW.goto (tg := 3611) (lr_24 34 rfl) rfl ?_
    refine AW.lessL (L' := LL bs B i) ⟨rfl, rfl, rfl, rfl, rfl, rfl, trivial⟩ ?_
    exact k _ _ _ _ hI2
  refine AW.callSH (N := ML_approvalsAhead) (As := [.ref B, .int (xs (i + 1)), .ref (B + 139)]) (S := []) (lr_24 7 rfl) rfl ohL_approvalsAhead q1176 rfl rfl rfl rfl rfl ?_
  refine hL_approvalsAhead hB hst h1 hlr (fun v hv => ?_) (fun e he => ?_)
  · obtain ⟨q1, q2, q3⟩ := h3 v hv
    refine cQ_r ?_
    exact key _ _ _ _ hlr q1 (fun _ => q2) q3
  · obtain ⟨q1, q2, q3⟩ := h4 e he
    refine ⟨_, q1, fun z z1 z2 => cQ_r ?_⟩
    exact key _ _ _ _ hlr rfl (fun h => absurd h q2) (q3 z z1 z2)
set_option maxRecDepth 100000 in
theorem cL_25 {g : AG} {h0 : AH} {B bs n i : Nat} {S : XT} {T : Mem} {o : Int64} {d : UInt64} {Q : AO → AH → Prop} {xs : Nat → Int32} {I : XT → Mem → Prop} (hB : gB g ≤ B) (hst : Sta g h0) (hbs : bs < B) (hsc : h0.1 bs = some (.inl (0, n, .inl xs))) (hn : n ≤ 3072) (hi : i + 5 < n) (hI : ∀ S T, I S T → lrw B S.2.2.1) (hl : lrw B S.2.2.1) (hpf : PFX (uP (sX9_pressFor S B (xs (i + 1))) S) (mI (sX10_pressFor T (xs (i + 1)))) co1 I) (k : ∀ S' T' o' d', I S' T' → AW g ML_law 3611 (LL bs B i) [] (LH h0 B S' T' o' d') Q) : AW g ML_law 1650 (LL bs B i) [] (LH h0 B S T o d) Q := by
  obtain ⟨r, b, T1, h1, h2, h3, h4⟩ := hpf
  have hlr := PFX.lr hI (fun v h => (h3 v h).2.2) (fun e h => (h4 e h).2.2)
  obtain ⟨b1, h5, h6⟩ : ∃ b1, sX10_pressFor T (xs (i + 1)) = some (b1, T1) ∧ b1.toInt64 = b := by
    unfold mI at h2
    cases e2 : sX10_pressFor T (xs (i + 1)) with
    | none => rw [e2] at h2; cases h2
    | some r2 =>
      rw [e2] at h2
      cases h2
      exact ⟨r2.1, rfl, rfl⟩
  refine AW.aload_n (z := 1) (lr_25 0 rfl) rfl rfl ?_
  refine AW.sarg (k := 1) (lr_25 1 rfl) (lr_25 2 rfl) (lr_25 3 rfl) (lr_25 4 rfl) (lr_25 5 rfl) rfl rfl rfl rfl ((LH_low hl hbs).trans hsc) (by omega) hn ?_
  refine AW.aload_n (z := 3) (lr_25 6 rfl) rfl rfl ?_
  have key : ∀ (S2 : XT) (o2 : Int64) (d2 : UInt64) (kc : Int32), lrw B S2.2.2.1 → gi T1 100 6 0 = kc → (kc = 0 → o2 = b) → I S2 T1 → AW g ML_law 1661 (LL bs B i) [.int kc] (LH h0 B S2 T o2 d2) Q := by
    intro S2 o2 d2 kc hl2 hk hv hI2
    refine AW.istore (L' := (LL bs B i).set 6 (some (.int kc))) (lr_25 8 rfl) rfl (Nat.le_of_ble_eq_true rfl) rfl ?_
    refine AW.aload_n (z := 2) (lr_25 9 rfl) rfl rfl ?_
    refine AW.sarg (k := 1) (lr_25 10 rfl) (lr_25 11 rfl) (lr_25 12 rfl) (lr_25 13 rfl) (lr_25 14 rfl) rfl rfl rfl rfl ((LH_low hl2 hbs).trans hsc) (by omega) hn ?_
    refine AW.callV (N := MX10_pressFor) (As := [.int (xs (i + 1))]) (S := []) (b := B + 129) (lr_25 15 rfl) rfl ovX10_pressFor q1861 rfl rfl (LH_m hl2) rfl rfl rfl rfl ?_
    refine AW.heq (LH_mb (T := T) (T' := T) hl2).symm ?_
    refine dX10_pressFor (Nat.le_trans hB (by omega)) h5 (cQ_r ?_)
    refine AW.heq (LH_mb hl2) ?_
    refine AW.istore (L' := (((LL bs B i).set 6 (some (.int kc))).set 7 (some (.int b1)))) (lr_25 16 rfl) rfl (Nat.le_of_ble_eq_true rfl) rfl ?_
    refine AW.aload_n (z := 2) (lr_25 17 rfl) rfl rfl ?_
    refine AW.callV (N := MX10_thrown) (As := []) (S := []) (b := B + 129) (lr_25 18 rfl) rfl ovX10_thrown q1576 rfl rfl (LH_m hl2) rfl rfl rfl rfl ?_
    refine AW.heq (LH_mb (T := T1) (T' := T1) hl2).symm ?_
    refine dX10_thrown (Nat.le_trans hB (by omega)) hk (cQ_r ?_)
    refine AW.heq (LH_mb hl2) ?_
    refine AW.iload (lr_25 19 rfl) rfl rfl ?_
    refine AW.icmp_eq (tg := 1686) (lr_25 20 rfl) rfl rfl (fun _ => ?_) (fun hc => absurd rfl hc)
    refine AW.iload (lr_25 23 rfl) rfl rfl ?_
    refine AW.if_ne (tg := 1703) (lr_25 24 rfl) rfl rfl (fun _ => ?_) (fun hc => ?_)
    · refine AW.goto (tg := 3611) (lr_25 34 rfl) rfl ?_
      refine AW.lessL (L' := LL bs B i) ⟨rfl, rfl, rfl, rfl, rfl, rfl, trivial⟩ ?_
      exact k _ _ _ _ hI2
    have hv2 := hv hc
    refine AW.aload_n (z := 3) (lr_25 25 rfl) rfl rfl ?_
    refine AW.iconst (lr_25 26 rfl) rfl ci_0 ?_
    refine AW.lald (v := .long o2) (lr_25 27 rfl) rfl (LH_o hl2) (vp_of_inb rfl) rfl ?_
    refine AW.iload (lr_25 28 rfl) rfl rfl ?_
    refine AW.i2l (lr_25 29 rfl) rfl ?_
    rw [hv2, h6]
    refine AW.lcmp (lr_25 30 rfl) rfl ?_
    refine AW.if_eq (tg := 1703) (lr_25 31 rfl) rfl rfl (fun _ => ?_) (fun hc => absurd (lg_cmp_s _) hc)
    refine AW.goto (tg := 3611) (lr_25 34 rfl) rfl ?_
    refine AW.lessL (L' := LL bs B i) ⟨rfl, rfl, rfl, rfl, rfl, rfl, trivial⟩ ?_
    exact k _ _ _ _ hI2
  refine AW.callSH (N := ML_pressFor) (As := [.ref B, .int (xs (i + 1)), .ref (B + 139)]) (S := []) (lr_25 7 rfl) rfl ohL_pressFor q1183 rfl rfl rfl rfl rfl ?_
  refine hL_pressFor hB hst h1 hlr (fun v hv => ?_) (fun e he => ?_)
  · obtain ⟨q1, q2, q3⟩ := h3 v hv
    refine cQ_r ?_
    exact key _ _ _ _ hlr q1 (fun _ => q2) q3
  · obtain ⟨q1, q2, q3⟩ := h4 e he
    refine ⟨_, q1, fun z z1 z2 => cQ_r ?_⟩
    exact key _ _ _ _ hlr rfl (fun h => absurd h q2) (q3 z z1 z2)
set_option maxRecDepth 100000 in
theorem cL_26 {g : AG} {h0 : AH} {B bs n i : Nat} {S : XT} {T : Mem} {o : Int64} {d : UInt64} {Q : AO → AH → Prop} {xs : Nat → Int32} {I : XT → Mem → Prop} (hB : gB g ≤ B) (hst : Sta g h0) (hbs : bs < B) (hsc : h0.1 bs = some (.inl (0, n, .inl xs))) (hn : n ≤ 3072) (hi : i + 5 < n) (hI : ∀ S T, I S T → lrw B S.2.2.1) (hl : lrw B S.2.2.1) (hpf : PFX (uP (sX9_scoreAfter S B (xs (i + 1)) (xs (i + 2))) S) (mI (sX10_scoreAfter T (xs (i + 1)) (xs (i + 2)))) co1 I) (k : ∀ S' T' o' d', I S' T' → AW g ML_law 3611 (LL bs B i) [] (LH h0 B S' T' o' d') Q) : AW g ML_law 1706 (LL bs B i) [] (LH h0 B S T o d) Q := by
  obtain ⟨r, b, T1, h1, h2, h3, h4⟩ := hpf
  have hlr := PFX.lr hI (fun v h => (h3 v h).2.2) (fun e h => (h4 e h).2.2)
  obtain ⟨b1, h5, h6⟩ : ∃ b1, sX10_scoreAfter T (xs (i + 1)) (xs (i + 2)) = some (b1, T1) ∧ b1.toInt64 = b := by
    unfold mI at h2
    cases e2 : sX10_scoreAfter T (xs (i + 1)) (xs (i + 2)) with
    | none => rw [e2] at h2; cases h2
    | some r2 =>
      rw [e2] at h2
      cases h2
      exact ⟨r2.1, rfl, rfl⟩
  refine AW.aload_n (z := 1) (lr_26 0 rfl) rfl rfl ?_
  refine AW.sarg (k := 1) (lr_26 1 rfl) (lr_26 2 rfl) (lr_26 3 rfl) (lr_26 4 rfl) (lr_26 5 rfl) rfl rfl rfl rfl ((LH_low hl hbs).trans hsc) (by omega) hn ?_
  refine AW.sarg (k := 2) (lr_26 6 rfl) (lr_26 7 rfl) (lr_26 8 rfl) (lr_26 9 rfl) (lr_26 10 rfl) rfl rfl rfl rfl ((LH_low hl hbs).trans hsc) (by omega) hn ?_
  refine AW.aload_n (z := 3) (lr_26 11 rfl) rfl rfl ?_
  have key : ∀ (S2 : XT) (o2 : Int64) (d2 : UInt64) (kc : Int32), lrw B S2.2.2.1 → gi T1 100 6 0 = kc → (kc = 0 → o2 = b) → I S2 T1 → AW g ML_law 1723 (LL bs B i) [.int kc] (LH h0 B S2 T o2 d2) Q := by
    intro S2 o2 d2 kc hl2 hk hv hI2
    refine AW.istore (L' := (LL bs B i).set 6 (some (.int kc))) (lr_26 13 rfl) rfl (Nat.le_of_ble_eq_true rfl) rfl ?_
    refine AW.aload_n (z := 2) (lr_26 14 rfl) rfl rfl ?_
    refine AW.sarg (k := 1) (lr_26 15 rfl) (lr_26 16 rfl) (lr_26 17 rfl) (lr_26 18 rfl) (lr_26 19 rfl) rfl rfl rfl rfl ((LH_low hl2 hbs).trans hsc) (by omega) hn ?_
    refine AW.sarg (k := 2) (lr_26 20 rfl) (lr_26 21 rfl) (lr_26 22 rfl) (lr_26 23 rfl) (lr_26 24 rfl) rfl rfl rfl rfl ((LH_low hl2 hbs).trans hsc) (by omega) hn ?_
    refine AW.callV (N := MX10_scoreAfter) (As := [.int (xs (i + 1)), .int (xs (i + 2))]) (S := []) (b := B + 129) (lr_26 25 rfl) rfl ovX10_scoreAfter q1865 rfl rfl (LH_m hl2) rfl rfl rfl rfl ?_
    refine AW.heq (LH_mb (T := T) (T' := T) hl2).symm ?_
    refine dX10_scoreAfter (Nat.le_trans hB (by omega)) h5 (cQ_r ?_)
    refine AW.heq (LH_mb hl2) ?_
    refine AW.istore (L' := (((LL bs B i).set 6 (some (.int kc))).set 7 (some (.int b1)))) (lr_26 26 rfl) rfl (Nat.le_of_ble_eq_true rfl) rfl ?_
    refine AW.aload_n (z := 2) (lr_26 27 rfl) rfl rfl ?_
    refine AW.callV (N := MX10_thrown) (As := []) (S := []) (b := B + 129) (lr_26 28 rfl) rfl ovX10_thrown q1576 rfl rfl (LH_m hl2) rfl rfl rfl rfl ?_
    refine AW.heq (LH_mb (T := T1) (T' := T1) hl2).symm ?_
    refine dX10_thrown (Nat.le_trans hB (by omega)) hk (cQ_r ?_)
    refine AW.heq (LH_mb hl2) ?_
    refine AW.iload (lr_26 29 rfl) rfl rfl ?_
    refine AW.icmp_eq (tg := 1754) (lr_26 30 rfl) rfl rfl (fun _ => ?_) (fun hc => absurd rfl hc)
    refine AW.iload (lr_26 33 rfl) rfl rfl ?_
    refine AW.if_ne (tg := 1771) (lr_26 34 rfl) rfl rfl (fun _ => ?_) (fun hc => ?_)
    · refine AW.goto (tg := 3611) (lr_26 44 rfl) rfl ?_
      refine AW.lessL (L' := LL bs B i) ⟨rfl, rfl, rfl, rfl, rfl, rfl, trivial⟩ ?_
      exact k _ _ _ _ hI2
    have hv2 := hv hc
    refine AW.aload_n (z := 3) (lr_26 35 rfl) rfl rfl ?_
    refine AW.iconst (lr_26 36 rfl) rfl ci_0 ?_
    refine AW.lald (v := .long o2) (lr_26 37 rfl) rfl (LH_o hl2) (vp_of_inb rfl) rfl ?_
    refine AW.iload (lr_26 38 rfl) rfl rfl ?_
    refine AW.i2l (lr_26 39 rfl) rfl ?_
    rw [hv2, h6]
    refine AW.lcmp (lr_26 40 rfl) rfl ?_
    refine AW.if_eq (tg := 1771) (lr_26 41 rfl) rfl rfl (fun _ => ?_) (fun hc => absurd (lg_cmp_s _) hc)
    refine AW.goto (tg := 3611) (lr_26 44 rfl) rfl ?_
    refine AW.lessL (L' := LL bs B i) ⟨rfl, rfl, rfl, rfl, rfl, rfl, trivial⟩ ?_
    exact k _ _ _ _ hI2
  refine AW.callSH (N := ML_scoreAfter) (As := [.ref B, .int (xs (i + 1)), .int (xs (i + 2)), .ref (B + 139)]) (S := []) (lr_26 12 rfl) rfl ohL_scoreAfter q1191 rfl rfl rfl rfl rfl ?_
  refine hL_scoreAfter hB hst h1 hlr (fun v hv => ?_) (fun e he => ?_)
  · obtain ⟨q1, q2, q3⟩ := h3 v hv
    refine cQ_r ?_
    exact key _ _ _ _ hlr q1 (fun _ => q2) q3
  · obtain ⟨q1, q2, q3⟩ := h4 e he
    refine ⟨_, q1, fun z z1 z2 => cQ_r ?_⟩
    exact key _ _ _ _ hlr rfl (fun h => absurd h q2) (q3 z z1 z2)
set_option maxRecDepth 100000 in
theorem cL_27 {g : AG} {h0 : AH} {B bs n i : Nat} {S : XT} {T : Mem} {o : Int64} {d : UInt64} {Q : AO → AH → Prop} {xs : Nat → Int32} {I : XT → Mem → Prop} (hB : gB g ≤ B) (hst : Sta g h0) (hbs : bs < B) (hsc : h0.1 bs = some (.inl (0, n, .inl xs))) (hn : n ≤ 3072) (hi : i + 5 < n) (hI : ∀ S T, I S T → lrw B S.2.2.1) (hl : lrw B S.2.2.1) (hpf : PFX (uP (sX9_scoreAhead S B (xs (i + 1))) S) (mI (sX10_scoreAhead T (xs (i + 1)))) co1 I) (k : ∀ S' T' o' d', I S' T' → AW g ML_law 3611 (LL bs B i) [] (LH h0 B S' T' o' d') Q) : AW g ML_law 1774 (LL bs B i) [] (LH h0 B S T o d) Q := by
  obtain ⟨r, b, T1, h1, h2, h3, h4⟩ := hpf
  have hlr := PFX.lr hI (fun v h => (h3 v h).2.2) (fun e h => (h4 e h).2.2)
  obtain ⟨b1, h5, h6⟩ : ∃ b1, sX10_scoreAhead T (xs (i + 1)) = some (b1, T1) ∧ b1.toInt64 = b := by
    unfold mI at h2
    cases e2 : sX10_scoreAhead T (xs (i + 1)) with
    | none => rw [e2] at h2; cases h2
    | some r2 =>
      rw [e2] at h2
      cases h2
      exact ⟨r2.1, rfl, rfl⟩
  refine AW.aload_n (z := 1) (lr_27 0 rfl) rfl rfl ?_
  refine AW.sarg (k := 1) (lr_27 1 rfl) (lr_27 2 rfl) (lr_27 3 rfl) (lr_27 4 rfl) (lr_27 5 rfl) rfl rfl rfl rfl ((LH_low hl hbs).trans hsc) (by omega) hn ?_
  refine AW.aload_n (z := 3) (lr_27 6 rfl) rfl rfl ?_
  have key : ∀ (S2 : XT) (o2 : Int64) (d2 : UInt64) (kc : Int32), lrw B S2.2.2.1 → gi T1 100 6 0 = kc → (kc = 0 → o2 = b) → I S2 T1 → AW g ML_law 1785 (LL bs B i) [.int kc] (LH h0 B S2 T o2 d2) Q := by
    intro S2 o2 d2 kc hl2 hk hv hI2
    refine AW.istore (L' := (LL bs B i).set 6 (some (.int kc))) (lr_27 8 rfl) rfl (Nat.le_of_ble_eq_true rfl) rfl ?_
    refine AW.aload_n (z := 2) (lr_27 9 rfl) rfl rfl ?_
    refine AW.sarg (k := 1) (lr_27 10 rfl) (lr_27 11 rfl) (lr_27 12 rfl) (lr_27 13 rfl) (lr_27 14 rfl) rfl rfl rfl rfl ((LH_low hl2 hbs).trans hsc) (by omega) hn ?_
    refine AW.callV (N := MX10_scoreAhead) (As := [.int (xs (i + 1))]) (S := []) (b := B + 129) (lr_27 15 rfl) rfl ovX10_scoreAhead q1869 rfl rfl (LH_m hl2) rfl rfl rfl rfl ?_
    refine AW.heq (LH_mb (T := T) (T' := T) hl2).symm ?_
    refine dX10_scoreAhead (Nat.le_trans hB (by omega)) h5 (cQ_r ?_)
    refine AW.heq (LH_mb hl2) ?_
    refine AW.istore (L' := (((LL bs B i).set 6 (some (.int kc))).set 7 (some (.int b1)))) (lr_27 16 rfl) rfl (Nat.le_of_ble_eq_true rfl) rfl ?_
    refine AW.aload_n (z := 2) (lr_27 17 rfl) rfl rfl ?_
    refine AW.callV (N := MX10_thrown) (As := []) (S := []) (b := B + 129) (lr_27 18 rfl) rfl ovX10_thrown q1576 rfl rfl (LH_m hl2) rfl rfl rfl rfl ?_
    refine AW.heq (LH_mb (T := T1) (T' := T1) hl2).symm ?_
    refine dX10_thrown (Nat.le_trans hB (by omega)) hk (cQ_r ?_)
    refine AW.heq (LH_mb hl2) ?_
    refine AW.iload (lr_27 19 rfl) rfl rfl ?_
    refine AW.icmp_eq (tg := 1810) (lr_27 20 rfl) rfl rfl (fun _ => ?_) (fun hc => absurd rfl hc)
    refine AW.iload (lr_27 23 rfl) rfl rfl ?_
    refine AW.if_ne (tg := 1827) (lr_27 24 rfl) rfl rfl (fun _ => ?_) (fun hc => ?_)
    · refine AW.goto (tg := 3611) (lr_27 34 rfl) rfl ?_
      refine AW.lessL (L' := LL bs B i) ⟨rfl, rfl, rfl, rfl, rfl, rfl, trivial⟩ ?_
      exact k _ _ _ _ hI2
    have hv2 := hv hc
    refine AW.aload_n (z := 3) (lr_27 25 rfl) rfl rfl ?_
    refine AW.iconst (lr_27 26 rfl) rfl ci_0 ?_
    refine AW.lald (v := .long o2) (lr_27 27 rfl) rfl (LH_o hl2) (vp_of_inb rfl) rfl ?_
    refine AW.iload (lr_27 28 rfl) rfl rfl ?_
    refine AW.i2l (lr_27 29 rfl) rfl ?_
    rw [hv2, h6]
    refine AW.lcmp (lr_27 30 rfl) rfl ?_
    refine AW.if_eq (tg := 1827) (lr_27 31 rfl) rfl rfl (fun _ => ?_) (fun hc => absurd (lg_cmp_s _) hc)
    refine AW.goto (tg := 3611) (lr_27 34 rfl) rfl ?_
    refine AW.lessL (L' := LL bs B i) ⟨rfl, rfl, rfl, rfl, rfl, rfl, trivial⟩ ?_
    exact k _ _ _ _ hI2
  refine AW.callSH (N := ML_scoreAhead) (As := [.ref B, .int (xs (i + 1)), .ref (B + 139)]) (S := []) (lr_27 7 rfl) rfl ohL_scoreAhead q1199 rfl rfl rfl rfl rfl ?_
  refine hL_scoreAhead hB hst h1 hlr (fun v hv => ?_) (fun e he => ?_)
  · obtain ⟨q1, q2, q3⟩ := h3 v hv
    refine cQ_r ?_
    exact key _ _ _ _ hlr q1 (fun _ => q2) q3
  · obtain ⟨q1, q2, q3⟩ := h4 e he
    refine ⟨_, q1, fun z z1 z2 => cQ_r ?_⟩
    exact key _ _ _ _ hlr rfl (fun h => absurd h q2) (q3 z z1 z2)
set_option maxRecDepth 100000 in
theorem cL_28 {g : AG} {h0 : AH} {B bs n i : Nat} {S : XT} {T : Mem} {o : Int64} {d : UInt64} {Q : AO → AH → Prop} {xs : Nat → Int32} {I : XT → Mem → Prop} (hB : gB g ≤ B) (hst : Sta g h0) (hbs : bs < B) (hsc : h0.1 bs = some (.inl (0, n, .inl xs))) (hn : n ≤ 3072) (hi : i + 5 < n) (hI : ∀ S T, I S T → lrw B S.2.2.1) (hl : lrw B S.2.2.1) (hpf : PFX (uP (sX9_bestRecipe S B (xs (i + 1))) S) (mI (sX10_bestRecipe T (xs (i + 1)))) co1 I) (k : ∀ S' T' o' d', I S' T' → AW g ML_law 3611 (LL bs B i) [] (LH h0 B S' T' o' d') Q) : AW g ML_law 1830 (LL bs B i) [] (LH h0 B S T o d) Q := by
  obtain ⟨r, b, T1, h1, h2, h3, h4⟩ := hpf
  have hlr := PFX.lr hI (fun v h => (h3 v h).2.2) (fun e h => (h4 e h).2.2)
  obtain ⟨b1, h5, h6⟩ : ∃ b1, sX10_bestRecipe T (xs (i + 1)) = some (b1, T1) ∧ b1.toInt64 = b := by
    unfold mI at h2
    cases e2 : sX10_bestRecipe T (xs (i + 1)) with
    | none => rw [e2] at h2; cases h2
    | some r2 =>
      rw [e2] at h2
      cases h2
      exact ⟨r2.1, rfl, rfl⟩
  refine AW.aload_n (z := 1) (lr_28 0 rfl) rfl rfl ?_
  refine AW.sarg (k := 1) (lr_28 1 rfl) (lr_28 2 rfl) (lr_28 3 rfl) (lr_28 4 rfl) (lr_28 5 rfl) rfl rfl rfl rfl ((LH_low hl hbs).trans hsc) (by omega) hn ?_
  refine AW.aload_n (z := 3) (lr_28 6 rfl) rfl rfl ?_
  have key : ∀ (S2 : XT) (o2 : Int64) (d2 : UInt64) (kc : Int32), lrw B S2.2.2.1 → gi T1 100 6 0 = kc → (kc = 0 → o2 = b) → I S2 T1 → AW g ML_law 1841 (LL bs B i) [.int kc] (LH h0 B S2 T o2 d2) Q := by
    intro S2 o2 d2 kc hl2 hk hv hI2
    refine AW.istore (L' := (LL bs B i).set 6 (some (.int kc))) (lr_28 8 rfl) rfl (Nat.le_of_ble_eq_true rfl) rfl ?_
    refine AW.aload_n (z := 2) (lr_28 9 rfl) rfl rfl ?_
    refine AW.sarg (k := 1) (lr_28 10 rfl) (lr_28 11 rfl) (lr_28 12 rfl) (lr_28 13 rfl) (lr_28 14 rfl) rfl rfl rfl rfl ((LH_low hl2 hbs).trans hsc) (by omega) hn ?_
    refine AW.callV (N := MX10_bestRecipe) (As := [.int (xs (i + 1))]) (S := []) (b := B + 129) (lr_28 15 rfl) rfl ovX10_bestRecipe q1890 rfl rfl (LH_m hl2) rfl rfl rfl rfl ?_
    refine AW.heq (LH_mb (T := T) (T' := T) hl2).symm ?_
    refine dX10_bestRecipe (Nat.le_trans hB (by omega)) h5 (cQ_r ?_)
    refine AW.heq (LH_mb hl2) ?_
    refine AW.istore (L' := (((LL bs B i).set 6 (some (.int kc))).set 7 (some (.int b1)))) (lr_28 16 rfl) rfl (Nat.le_of_ble_eq_true rfl) rfl ?_
    refine AW.aload_n (z := 2) (lr_28 17 rfl) rfl rfl ?_
    refine AW.callV (N := MX10_thrown) (As := []) (S := []) (b := B + 129) (lr_28 18 rfl) rfl ovX10_thrown q1576 rfl rfl (LH_m hl2) rfl rfl rfl rfl ?_
    refine AW.heq (LH_mb (T := T1) (T' := T1) hl2).symm ?_
    refine dX10_thrown (Nat.le_trans hB (by omega)) hk (cQ_r ?_)
    refine AW.heq (LH_mb hl2) ?_
    refine AW.iload (lr_28 19 rfl) rfl rfl ?_
    refine AW.icmp_eq (tg := 1866) (lr_28 20 rfl) rfl rfl (fun _ => ?_) (fun hc => absurd rfl hc)
    refine AW.iload (lr_28 23 rfl) rfl rfl ?_
    refine AW.if_ne (tg := 1883) (lr_28 24 rfl) rfl rfl (fun _ => ?_) (fun hc => ?_)
    · refine AW.goto (tg := 3611) (lr_28 34 rfl) rfl ?_
      refine AW.lessL (L' := LL bs B i) ⟨rfl, rfl, rfl, rfl, rfl, rfl, trivial⟩ ?_
      exact k _ _ _ _ hI2
    have hv2 := hv hc
    refine AW.aload_n (z := 3) (lr_28 25 rfl) rfl rfl ?_
    refine AW.iconst (lr_28 26 rfl) rfl ci_0 ?_
    refine AW.lald (v := .long o2) (lr_28 27 rfl) rfl (LH_o hl2) (vp_of_inb rfl) rfl ?_
    refine AW.iload (lr_28 28 rfl) rfl rfl ?_
    refine AW.i2l (lr_28 29 rfl) rfl ?_
    rw [hv2, h6]
    refine AW.lcmp (lr_28 30 rfl) rfl ?_
    refine AW.if_eq (tg := 1883) (lr_28 31 rfl) rfl rfl (fun _ => ?_) (fun hc => absurd (lg_cmp_s _) hc)
    refine AW.goto (tg := 3611) (lr_28 34 rfl) rfl ?_
    refine AW.lessL (L' := LL bs B i) ⟨rfl, rfl, rfl, rfl, rfl, rfl, trivial⟩ ?_
    exact k _ _ _ _ hI2
  refine AW.callSH (N := ML_bestRecipe) (As := [.ref B, .int (xs (i + 1)), .ref (B + 139)]) (S := []) (lr_28 7 rfl) rfl ohL_bestRecipe q1206 rfl rfl rfl rfl rfl ?_
  refine hL_bestRecipe hB hst h1 hlr (fun v hv => ?_) (fun e he => ?_)
  · obtain ⟨q1, q2, q3⟩ := h3 v hv
    refine cQ_r ?_
    exact key _ _ _ _ hlr q1 (fun _ => q2) q3
  · obtain ⟨q1, q2, q3⟩ := h4 e he
    refine ⟨_, q1, fun z z1 z2 => cQ_r ?_⟩
    exact key _ _ _ _ hlr rfl (fun h => absurd h q2) (q3 z z1 z2)
set_option maxRecDepth 100000 in
theorem cL_29 {g : AG} {h0 : AH} {B bs n i : Nat} {S : XT} {T : Mem} {o : Int64} {d : UInt64} {Q : AO → AH → Prop} {xs : Nat → Int32} {I : XT → Mem → Prop} (hB : gB g ≤ B) (hst : Sta g h0) (hbs : bs < B) (hsc : h0.1 bs = some (.inl (0, n, .inl xs))) (hn : n ≤ 3072) (hi : i + 5 < n) (hI : ∀ S T, I S T → lrw B S.2.2.1) (hl : lrw B S.2.2.1) (hpf : PFX (uP (sX9_stepsTo S B (xs (i + 1)) (xs (i + 2)) (xs (i + 3))) S) (mI (sX10_stepsTo T (xs (i + 1)) (xs (i + 2)) (xs (i + 3)))) co12 I) (k : ∀ S' T' o' d', I S' T' → AW g ML_law 3611 (LL bs B i) [] (LH h0 B S' T' o' d') Q) : AW g ML_law 1886 (LL bs B i) [] (LH h0 B S T o d) Q := by
  obtain ⟨r, b, T1, h1, h2, h3, h4⟩ := hpf
  have hlr := PFX.lr hI (fun v h => (h3 v h).2.2) (fun e h => (h4 e h).2.2)
  obtain ⟨b1, h5, h6⟩ : ∃ b1, sX10_stepsTo T (xs (i + 1)) (xs (i + 2)) (xs (i + 3)) = some (b1, T1) ∧ b1.toInt64 = b := by
    unfold mI at h2
    cases e2 : sX10_stepsTo T (xs (i + 1)) (xs (i + 2)) (xs (i + 3)) with
    | none => rw [e2] at h2; cases h2
    | some r2 =>
      rw [e2] at h2
      cases h2
      exact ⟨r2.1, rfl, rfl⟩
  refine AW.aload_n (z := 1) (lr_29 0 rfl) rfl rfl ?_
  refine AW.sarg (k := 1) (lr_29 1 rfl) (lr_29 2 rfl) (lr_29 3 rfl) (lr_29 4 rfl) (lr_29 5 rfl) rfl rfl rfl rfl ((LH_low hl hbs).trans hsc) (by omega) hn ?_
  refine AW.sarg (k := 2) (lr_29 6 rfl) (lr_29 7 rfl) (lr_29 8 rfl) (lr_29 9 rfl) (lr_29 10 rfl) rfl rfl rfl rfl ((LH_low hl hbs).trans hsc) (by omega) hn ?_
  refine AW.sarg (k := 3) (lr_29 11 rfl) (lr_29 12 rfl) (lr_29 13 rfl) (lr_29 14 rfl) (lr_29 15 rfl) rfl rfl rfl rfl ((LH_low hl hbs).trans hsc) (by omega) hn ?_
  refine AW.aload_n (z := 3) (lr_29 16 rfl) rfl rfl ?_
  have key : ∀ (S2 : XT) (o2 : Int64) (d2 : UInt64) (kc : Int32), lrw B S2.2.2.1 → gi T1 100 6 0 = kc → (kc = 0 → o2 = b) → I S2 T1 → AW g ML_law 1909 (LL bs B i) [.int kc] (LH h0 B S2 T o2 d2) Q := by
    intro S2 o2 d2 kc hl2 hk hv hI2
    refine AW.istore (L' := (LL bs B i).set 6 (some (.int kc))) (lr_29 18 rfl) rfl (Nat.le_of_ble_eq_true rfl) rfl ?_
    refine AW.aload_n (z := 2) (lr_29 19 rfl) rfl rfl ?_
    refine AW.sarg (k := 1) (lr_29 20 rfl) (lr_29 21 rfl) (lr_29 22 rfl) (lr_29 23 rfl) (lr_29 24 rfl) rfl rfl rfl rfl ((LH_low hl2 hbs).trans hsc) (by omega) hn ?_
    refine AW.sarg (k := 2) (lr_29 25 rfl) (lr_29 26 rfl) (lr_29 27 rfl) (lr_29 28 rfl) (lr_29 29 rfl) rfl rfl rfl rfl ((LH_low hl2 hbs).trans hsc) (by omega) hn ?_
    refine AW.sarg (k := 3) (lr_29 30 rfl) (lr_29 31 rfl) (lr_29 32 rfl) (lr_29 33 rfl) (lr_29 34 rfl) rfl rfl rfl rfl ((LH_low hl2 hbs).trans hsc) (by omega) hn ?_
    refine AW.callV (N := MX10_stepsTo) (As := [.int (xs (i + 1)), .int (xs (i + 2)), .int (xs (i + 3))]) (S := []) (b := B + 129) (lr_29 35 rfl) rfl ovX10_stepsTo q1894 rfl rfl (LH_m hl2) rfl rfl rfl rfl ?_
    refine AW.heq (LH_mb (T := T) (T' := T) hl2).symm ?_
    refine dX10_stepsTo (Nat.le_trans hB (by omega)) h5 (cQ_r ?_)
    refine AW.heq (LH_mb hl2) ?_
    refine AW.istore (L' := (((LL bs B i).set 6 (some (.int kc))).set 7 (some (.int b1)))) (lr_29 36 rfl) rfl (Nat.le_of_ble_eq_true rfl) rfl ?_
    refine AW.aload_n (z := 2) (lr_29 37 rfl) rfl rfl ?_
    refine AW.callV (N := MX10_thrown) (As := []) (S := []) (b := B + 129) (lr_29 38 rfl) rfl ovX10_thrown q1576 rfl rfl (LH_m hl2) rfl rfl rfl rfl ?_
    refine AW.heq (LH_mb (T := T1) (T' := T1) hl2).symm ?_
    refine dX10_thrown (Nat.le_trans hB (by omega)) hk (cQ_r ?_)
    refine AW.heq (LH_mb hl2) ?_
    refine AW.iload (lr_29 39 rfl) rfl rfl ?_
    refine AW.icmp_eq (tg := 1946) (lr_29 40 rfl) rfl rfl (fun _ => ?_) (fun hc => absurd rfl hc)
    refine AW.iload (lr_29 43 rfl) rfl rfl ?_
    refine AW.if_ne (tg := 1963) (lr_29 44 rfl) rfl rfl (fun _ => ?_) (fun hc => ?_)
    · refine AW.goto (tg := 3611) (lr_29 54 rfl) rfl ?_
      refine AW.lessL (L' := LL bs B i) ⟨rfl, rfl, rfl, rfl, rfl, rfl, trivial⟩ ?_
      exact k _ _ _ _ hI2
    have hv2 := hv hc
    refine AW.aload_n (z := 3) (lr_29 45 rfl) rfl rfl ?_
    refine AW.iconst (lr_29 46 rfl) rfl ci_0 ?_
    refine AW.lald (v := .long o2) (lr_29 47 rfl) rfl (LH_o hl2) (vp_of_inb rfl) rfl ?_
    refine AW.iload (lr_29 48 rfl) rfl rfl ?_
    refine AW.i2l (lr_29 49 rfl) rfl ?_
    rw [hv2, h6]
    refine AW.lcmp (lr_29 50 rfl) rfl ?_
    refine AW.if_eq (tg := 1963) (lr_29 51 rfl) rfl rfl (fun _ => ?_) (fun hc => absurd (lg_cmp_s _) hc)
    refine AW.goto (tg := 3611) (lr_29 54 rfl) rfl ?_
    refine AW.lessL (L' := LL bs B i) ⟨rfl, rfl, rfl, rfl, rfl, rfl, trivial⟩ ?_
    exact k _ _ _ _ hI2
  refine AW.callSH (N := ML_stepsTo) (As := [.ref B, .int (xs (i + 1)), .int (xs (i + 2)), .int (xs (i + 3)), .ref (B + 139)]) (S := []) (lr_29 17 rfl) rfl ohL_stepsTo q1217 rfl rfl rfl rfl rfl ?_
  refine hL_stepsTo hB hst h1 hlr (fun v hv => ?_) (fun e he => ?_)
  · obtain ⟨q1, q2, q3⟩ := h3 v hv
    refine cQ_r ?_
    exact key _ _ _ _ hlr q1 (fun _ => q2) q3
  · obtain ⟨q1, q2, q3⟩ := h4 e he
    refine ⟨_, q1, fun z z1 z2 => cQ_r ?_⟩
    exact key _ _ _ _ hlr rfl (fun h => absurd h q2) (q3 z z1 z2)
set_option maxRecDepth 100000 in
theorem cL_30 {g : AG} {h0 : AH} {B bs n i : Nat} {S : XT} {T : Mem} {o : Int64} {d : UInt64} {Q : AO → AH → Prop} {xs : Nat → Int32} {I : XT → Mem → Prop} (hB : gB g ≤ B) (hst : Sta g h0) (hbs : bs < B) (hsc : h0.1 bs = some (.inl (0, n, .inl xs))) (hn : n ≤ 3072) (hi : i + 5 < n) (hI : ∀ S T, I S T → lrw B S.2.2.1) (hl : lrw B S.2.2.1) (hpf : PFX (uW (sX9_quickestTo S B (xs (i + 1)) (xs (i + 2)))) (mI (sX10_quickestTo T (xs (i + 1)) (xs (i + 2)))) co12 I) (k : ∀ S' T' o' d', I S' T' → AW g ML_law 3611 (LL bs B i) [] (LH h0 B S' T' o' d') Q) : AW g ML_law 1966 (LL bs B i) [] (LH h0 B S T o d) Q := by
  obtain ⟨r, b, T1, h1, h2, h3, h4⟩ := hpf
  have hlr := PFX.lr hI (fun v h => (h3 v h).2.2) (fun e h => (h4 e h).2.2)
  obtain ⟨b1, h5, h6⟩ : ∃ b1, sX10_quickestTo T (xs (i + 1)) (xs (i + 2)) = some (b1, T1) ∧ b1.toInt64 = b := by
    unfold mI at h2
    cases e2 : sX10_quickestTo T (xs (i + 1)) (xs (i + 2)) with
    | none => rw [e2] at h2; cases h2
    | some r2 =>
      rw [e2] at h2
      cases h2
      exact ⟨r2.1, rfl, rfl⟩
  refine AW.aload_n (z := 1) (lr_30 0 rfl) rfl rfl ?_
  refine AW.sarg (k := 1) (lr_30 1 rfl) (lr_30 2 rfl) (lr_30 3 rfl) (lr_30 4 rfl) (lr_30 5 rfl) rfl rfl rfl rfl ((LH_low hl hbs).trans hsc) (by omega) hn ?_
  refine AW.sarg (k := 2) (lr_30 6 rfl) (lr_30 7 rfl) (lr_30 8 rfl) (lr_30 9 rfl) (lr_30 10 rfl) rfl rfl rfl rfl ((LH_low hl hbs).trans hsc) (by omega) hn ?_
  refine AW.aload_n (z := 3) (lr_30 11 rfl) rfl rfl ?_
  have key : ∀ (S2 : XT) (o2 : Int64) (d2 : UInt64) (kc : Int32), lrw B S2.2.2.1 → gi T1 100 6 0 = kc → (kc = 0 → o2 = b) → I S2 T1 → AW g ML_law 1983 (LL bs B i) [.int kc] (LH h0 B S2 T o2 d2) Q := by
    intro S2 o2 d2 kc hl2 hk hv hI2
    refine AW.istore (L' := (LL bs B i).set 6 (some (.int kc))) (lr_30 13 rfl) rfl (Nat.le_of_ble_eq_true rfl) rfl ?_
    refine AW.aload_n (z := 2) (lr_30 14 rfl) rfl rfl ?_
    refine AW.sarg (k := 1) (lr_30 15 rfl) (lr_30 16 rfl) (lr_30 17 rfl) (lr_30 18 rfl) (lr_30 19 rfl) rfl rfl rfl rfl ((LH_low hl2 hbs).trans hsc) (by omega) hn ?_
    refine AW.sarg (k := 2) (lr_30 20 rfl) (lr_30 21 rfl) (lr_30 22 rfl) (lr_30 23 rfl) (lr_30 24 rfl) rfl rfl rfl rfl ((LH_low hl2 hbs).trans hsc) (by omega) hn ?_
    refine AW.callV (N := MX10_quickestTo) (As := [.int (xs (i + 1)), .int (xs (i + 2))]) (S := []) (b := B + 129) (lr_30 25 rfl) rfl ovX10_quickestTo q1873 rfl rfl (LH_m hl2) rfl rfl rfl rfl ?_
    refine AW.heq (LH_mb (T := T) (T' := T) hl2).symm ?_
    refine dX10_quickestTo (Nat.le_trans hB (by omega)) h5 (cQ_r ?_)
    refine AW.heq (LH_mb hl2) ?_
    refine AW.istore (L' := (((LL bs B i).set 6 (some (.int kc))).set 7 (some (.int b1)))) (lr_30 26 rfl) rfl (Nat.le_of_ble_eq_true rfl) rfl ?_
    refine AW.aload_n (z := 2) (lr_30 27 rfl) rfl rfl ?_
    refine AW.callV (N := MX10_thrown) (As := []) (S := []) (b := B + 129) (lr_30 28 rfl) rfl ovX10_thrown q1576 rfl rfl (LH_m hl2) rfl rfl rfl rfl ?_
    refine AW.heq (LH_mb (T := T1) (T' := T1) hl2).symm ?_
    refine dX10_thrown (Nat.le_trans hB (by omega)) hk (cQ_r ?_)
    refine AW.heq (LH_mb hl2) ?_
    refine AW.iload (lr_30 29 rfl) rfl rfl ?_
    refine AW.icmp_eq (tg := 2014) (lr_30 30 rfl) rfl rfl (fun _ => ?_) (fun hc => absurd rfl hc)
    refine AW.iload (lr_30 33 rfl) rfl rfl ?_
    refine AW.if_ne (tg := 2031) (lr_30 34 rfl) rfl rfl (fun _ => ?_) (fun hc => ?_)
    · refine AW.goto (tg := 3611) (lr_30 44 rfl) rfl ?_
      refine AW.lessL (L' := LL bs B i) ⟨rfl, rfl, rfl, rfl, rfl, rfl, trivial⟩ ?_
      exact k _ _ _ _ hI2
    have hv2 := hv hc
    refine AW.aload_n (z := 3) (lr_30 35 rfl) rfl rfl ?_
    refine AW.iconst (lr_30 36 rfl) rfl ci_0 ?_
    refine AW.lald (v := .long o2) (lr_30 37 rfl) rfl (LH_o hl2) (vp_of_inb rfl) rfl ?_
    refine AW.iload (lr_30 38 rfl) rfl rfl ?_
    refine AW.i2l (lr_30 39 rfl) rfl ?_
    rw [hv2, h6]
    refine AW.lcmp (lr_30 40 rfl) rfl ?_
    refine AW.if_eq (tg := 2031) (lr_30 41 rfl) rfl rfl (fun _ => ?_) (fun hc => absurd (lg_cmp_s _) hc)
    refine AW.goto (tg := 3611) (lr_30 44 rfl) rfl ?_
    refine AW.lessL (L' := LL bs B i) ⟨rfl, rfl, rfl, rfl, rfl, rfl, trivial⟩ ?_
    exact k _ _ _ _ hI2
  refine AW.callSH (N := ML_quickestTo) (As := [.ref B, .int (xs (i + 1)), .int (xs (i + 2)), .ref (B + 139)]) (S := []) (lr_30 12 rfl) rfl ohL_quickestTo q1229 rfl rfl rfl rfl rfl ?_
  refine hL_quickestTo hB hst h1 hlr (fun v hv => ?_) (fun e he => ?_)
  · obtain ⟨q1, q2, q3⟩ := h3 v hv
    refine cQ_r ?_
    exact key _ _ _ _ hlr q1 (fun _ => q2) q3
  · obtain ⟨q1, q2, q3⟩ := h4 e he
    refine ⟨_, q1, fun z z1 z2 => cQ_r ?_⟩
    exact key _ _ _ _ hlr rfl (fun h => absurd h q2) (q3 z z1 z2)
set_option maxRecDepth 100000 in
theorem cL_31 {g : AG} {h0 : AH} {B bs n i : Nat} {S : XT} {T : Mem} {o : Int64} {d : UInt64} {Q : AO → AH → Prop} {xs : Nat → Int32} {I : XT → Mem → Prop} (hB : gB g ≤ B) (hst : Sta g h0) (hbs : bs < B) (hsc : h0.1 bs = some (.inl (0, n, .inl xs))) (hn : n ≤ 3072) (hi : i + 5 < n) (hI : ∀ S T, I S T → lrw B S.2.2.1) (hl : lrw B S.2.2.1) (hpf : PFX (uV (sX9_cheapestTo S B (xs (i + 1)) (xs (i + 2)))) (sX10_cheapestTo T (xs (i + 1)) (xs (i + 2))) co12 I) (k : ∀ S' T' o' d', I S' T' → AW g ML_law 3611 (LL bs B i) [] (LH h0 B S' T' o' d') Q) : AW g ML_law 2034 (LL bs B i) [] (LH h0 B S T o d) Q := by
  obtain ⟨r, b, T1, h1, h2, h3, h4⟩ := hpf
  have hlr := PFX.lr hI (fun v h => (h3 v h).2.2) (fun e h => (h4 e h).2.2)
  have h5 := h2
  refine AW.aload_n (z := 1) (lr_31 0 rfl) rfl rfl ?_
  refine AW.sarg (k := 1) (lr_31 1 rfl) (lr_31 2 rfl) (lr_31 3 rfl) (lr_31 4 rfl) (lr_31 5 rfl) rfl rfl rfl rfl ((LH_low hl hbs).trans hsc) (by omega) hn ?_
  refine AW.sarg (k := 2) (lr_31 6 rfl) (lr_31 7 rfl) (lr_31 8 rfl) (lr_31 9 rfl) (lr_31 10 rfl) rfl rfl rfl rfl ((LH_low hl hbs).trans hsc) (by omega) hn ?_
  refine AW.aload_n (z := 3) (lr_31 11 rfl) rfl rfl ?_
  have key : ∀ (S2 : XT) (o2 : Int64) (d2 : UInt64) (kc : Int32), lrw B S2.2.2.1 → gi T1 100 6 0 = kc → (kc = 0 → o2 = b) → I S2 T1 → AW g ML_law 2051 (LL bs B i) [.int kc] (LH h0 B S2 T o2 d2) Q := by
    intro S2 o2 d2 kc hl2 hk hv hI2
    refine AW.istore (L' := (LL bs B i).set 6 (some (.int kc))) (lr_31 13 rfl) rfl (Nat.le_of_ble_eq_true rfl) rfl ?_
    refine AW.aload_n (z := 2) (lr_31 14 rfl) rfl rfl ?_
    refine AW.sarg (k := 1) (lr_31 15 rfl) (lr_31 16 rfl) (lr_31 17 rfl) (lr_31 18 rfl) (lr_31 19 rfl) rfl rfl rfl rfl ((LH_low hl2 hbs).trans hsc) (by omega) hn ?_
    refine AW.sarg (k := 2) (lr_31 20 rfl) (lr_31 21 rfl) (lr_31 22 rfl) (lr_31 23 rfl) (lr_31 24 rfl) rfl rfl rfl rfl ((LH_low hl2 hbs).trans hsc) (by omega) hn ?_
    refine AW.callV (N := MX10_cheapestTo) (As := [.int (xs (i + 1)), .int (xs (i + 2))]) (S := []) (b := B + 129) (lr_31 25 rfl) rfl ovX10_cheapestTo q1886 rfl rfl (LH_m hl2) rfl rfl rfl rfl ?_
    refine AW.heq (LH_mb (T := T) (T' := T) hl2).symm ?_
    refine dX10_cheapestTo (Nat.le_trans hB (by omega)) h5 (cQ_r ?_)
    refine AW.heq (LH_mb hl2) ?_
    refine AW.lstore (L' := (((LL bs B i).set 6 (some (.int kc))).set 7 (some (.long b)))) (lr_31 26 rfl) rfl (Nat.le_of_ble_eq_true rfl) rfl ?_
    refine AW.aload_n (z := 2) (lr_31 27 rfl) rfl rfl ?_
    refine AW.callV (N := MX10_thrown) (As := []) (S := []) (b := B + 129) (lr_31 28 rfl) rfl ovX10_thrown q1576 rfl rfl (LH_m hl2) rfl rfl rfl rfl ?_
    refine AW.heq (LH_mb (T := T1) (T' := T1) hl2).symm ?_
    refine dX10_thrown (Nat.le_trans hB (by omega)) hk (cQ_r ?_)
    refine AW.heq (LH_mb hl2) ?_
    refine AW.iload (lr_31 29 rfl) rfl rfl ?_
    refine AW.icmp_eq (tg := 2082) (lr_31 30 rfl) rfl rfl (fun _ => ?_) (fun hc => absurd rfl hc)
    refine AW.iload (lr_31 33 rfl) rfl rfl ?_
    refine AW.if_ne (tg := 2098) (lr_31 34 rfl) rfl rfl (fun _ => ?_) (fun hc => ?_)
    · refine AW.goto (tg := 3611) (lr_31 43 rfl) rfl ?_
      refine AW.lessL (L' := LL bs B i) ⟨rfl, rfl, rfl, rfl, rfl, rfl, trivial⟩ ?_
      exact k _ _ _ _ hI2
    have hv2 := hv hc
    refine AW.aload_n (z := 3) (lr_31 35 rfl) rfl rfl ?_
    refine AW.iconst (lr_31 36 rfl) rfl ci_0 ?_
    refine AW.lald (v := .long o2) (lr_31 37 rfl) rfl (LH_o hl2) (vp_of_inb rfl) rfl ?_
    refine AW.lload (lr_31 38 rfl) rfl rfl ?_
    rw [hv2]
    refine AW.lcmp (lr_31 39 rfl) rfl ?_
    refine AW.if_eq (tg := 2098) (lr_31 40 rfl) rfl rfl (fun _ => ?_) (fun hc => absurd (lg_cmp_s _) hc)
    refine AW.goto (tg := 3611) (lr_31 43 rfl) rfl ?_
    refine AW.lessL (L' := LL bs B i) ⟨rfl, rfl, rfl, rfl, rfl, rfl, trivial⟩ ?_
    exact k _ _ _ _ hI2
  refine AW.callSH (N := ML_cheapestTo) (As := [.ref B, .int (xs (i + 1)), .int (xs (i + 2)), .ref (B + 139)]) (S := []) (lr_31 12 rfl) rfl ohL_cheapestTo q1253 rfl rfl rfl rfl rfl ?_
  refine hL_cheapestTo hB hst h1 hlr (fun v hv => ?_) (fun e he => ?_)
  · obtain ⟨q1, q2, q3⟩ := h3 v hv
    refine cQ_r ?_
    exact key _ _ _ _ hlr q1 (fun _ => q2) q3
  · obtain ⟨q1, q2, q3⟩ := h4 e he
    refine ⟨_, q1, fun z z1 z2 => cQ_r ?_⟩
    exact key _ _ _ _ hlr rfl (fun h => absurd h q2) (q3 z z1 z2)
