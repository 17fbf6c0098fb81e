/-! ===== THE LAW'S CASES (laid by a program), 3 ===== -/
set_option maxRecDepth 100000 in
theorem cL_32 {g : AG} {h0 : AH} {B bs n i : Nat} {S : XT} {T : Mem} {o : Int64} {d : UInt64} {Q : AO → AH → Prop} {xs : Nat → Int32} {I : XT → Mem → Prop} (hB : gB g ≤ B) (hst : Sta g h0) (hbs : bs < B) (hsc : h0.1 bs = some (.inl (0, n, .inl xs))) (hn : n ≤ 3072) (hi : i + 5 < n) (hI : ∀ S T, I S T → lrw B S.2.2.1) (hl : lrw B S.2.2.1) (hpf : PFX (uP (sX9_hoursAhead S B (xs (i + 1))) S) (mI (sX10_hoursAhead T (xs (i + 1)))) co1 I) (k : ∀ S' T' o' d', I S' T' → AW g ML_law 3611 (LL bs B i) [] (LH h0 B S' T' o' d') Q) : AW g ML_law 2101 (LL bs B i) [] (LH h0 B S T o d) Q := by
  obtain ⟨r, b, T1, h1, h2, h3, h4⟩ := hpf
  have hlr := PFX.lr hI (fun v h => (h3 v h).2.2) (fun e h => (h4 e h).2.2)
  obtain ⟨b1, h5, h6⟩ : ∃ b1, sX10_hoursAhead T (xs (i + 1)) = some (b1, T1) ∧ b1.toInt64 = b := by
    unfold mI at h2
    cases e2 : sX10_hoursAhead T (xs (i + 1)) with
    | none => rw [e2] at h2; cases h2
    | some r2 =>
      rw [e2] at h2
      cases h2
      exact ⟨r2.1, rfl, rfl⟩
  refine AW.aload_n (z := 1) (lr_32 0 rfl) rfl rfl ?_
  refine AW.sarg (k := 1) (lr_32 1 rfl) (lr_32 2 rfl) (lr_32 3 rfl) (lr_32 4 rfl) (lr_32 5 rfl) rfl rfl rfl rfl ((LH_low hl hbs).trans hsc) (by omega) hn ?_
  refine AW.aload_n (z := 3) (lr_32 6 rfl) rfl rfl ?_
  have key : ∀ (S2 : XT) (o2 : Int64) (d2 : UInt64) (kc : Int32), lrw B S2.2.2.1 → gi T1 100 6 0 = kc → (kc = 0 → o2 = b) → I S2 T1 → AW g ML_law 2112 (LL bs B i) [.int kc] (LH h0 B S2 T o2 d2) Q := by
    intro S2 o2 d2 kc hl2 hk hv hI2
    refine AW.istore (L' := (LL bs B i).set 6 (some (.int kc))) (lr_32 8 rfl) rfl (Nat.le_of_ble_eq_true rfl) rfl ?_
    refine AW.aload_n (z := 2) (lr_32 9 rfl) rfl rfl ?_
    refine AW.sarg (k := 1) (lr_32 10 rfl) (lr_32 11 rfl) (lr_32 12 rfl) (lr_32 13 rfl) (lr_32 14 rfl) rfl rfl rfl rfl ((LH_low hl2 hbs).trans hsc) (by omega) hn ?_
    refine AW.callV (N := MX10_hoursAhead) (As := [.int (xs (i + 1))]) (S := []) (b := B + 129) (lr_32 15 rfl) rfl ovX10_hoursAhead q1898 rfl rfl (LH_m hl2) rfl rfl rfl rfl ?_
    refine AW.heq (LH_mb (T := T) (T' := T) hl2).symm ?_
    refine dX10_hoursAhead (Nat.le_trans hB (by omega)) h5 (cQ_r ?_)
    refine AW.heq (LH_mb hl2) ?_
    refine AW.istore (L' := (((LL bs B i).set 6 (some (.int kc))).set 7 (some (.int b1)))) (lr_32 16 rfl) rfl (Nat.le_of_ble_eq_true rfl) rfl ?_
    refine AW.aload_n (z := 2) (lr_32 17 rfl) rfl rfl ?_
    refine AW.callV (N := MX10_thrown) (As := []) (S := []) (b := B + 129) (lr_32 18 rfl) rfl ovX10_thrown q1576 rfl rfl (LH_m hl2) rfl rfl rfl rfl ?_
    refine AW.heq (LH_mb (T := T1) (T' := T1) hl2).symm ?_
    refine dX10_thrown (Nat.le_trans hB (by omega)) hk (cQ_r ?_)
    refine AW.heq (LH_mb hl2) ?_
    refine AW.iload (lr_32 19 rfl) rfl rfl ?_
    refine AW.icmp_eq (tg := 2137) (lr_32 20 rfl) rfl rfl (fun _ => ?_) (fun hc => absurd rfl hc)
    refine AW.iload (lr_32 23 rfl) rfl rfl ?_
    refine AW.if_ne (tg := 2154) (lr_32 24 rfl) rfl rfl (fun _ => ?_) (fun hc => ?_)
    · refine AW.goto (tg := 3611) (lr_32 34 rfl) rfl ?_
      refine AW.lessL (L' := LL bs B i) ⟨rfl, rfl, rfl, rfl, rfl, rfl, trivial⟩ ?_
      exact k _ _ _ _ hI2
    have hv2 := hv hc
    refine AW.aload_n (z := 3) (lr_32 25 rfl) rfl rfl ?_
    refine AW.iconst (lr_32 26 rfl) rfl ci_0 ?_
    refine AW.lald (v := .long o2) (lr_32 27 rfl) rfl (LH_o hl2) (vp_of_inb rfl) rfl ?_
    refine AW.iload (lr_32 28 rfl) rfl rfl ?_
    refine AW.i2l (lr_32 29 rfl) rfl ?_
    rw [hv2, h6]
    refine AW.lcmp (lr_32 30 rfl) rfl ?_
    refine AW.if_eq (tg := 2154) (lr_32 31 rfl) rfl rfl (fun _ => ?_) (fun hc => absurd (lg_cmp_s _) hc)
    refine AW.goto (tg := 3611) (lr_32 34 rfl) rfl ?_
    refine AW.lessL (L' := LL bs B i) ⟨rfl, rfl, rfl, rfl, rfl, rfl, trivial⟩ ?_
    exact k _ _ _ _ hI2
  refine AW.callSH (N := ML_hoursAhead) (As := [.ref B, .int (xs (i + 1)), .ref (B + 139)]) (S := []) (lr_32 7 rfl) rfl ohL_hoursAhead q1260 rfl rfl rfl rfl rfl ?_
  refine hL_hoursAhead hB hst h1 hlr (fun v hv => ?_) (fun e he => ?_)
  · obtain ⟨q1, q2, q3⟩ := h3 v hv
    refine cQ_r ?_
    exact key _ _ _ _ hlr q1 (fun _ => q2) q3
  · obtain ⟨q1, q2, q3⟩ := h4 e he
    refine ⟨_, q1, fun z z1 z2 => cQ_r ?_⟩
    exact key _ _ _ _ hlr rfl (fun h => absurd h q2) (q3 z z1 z2)
set_option maxRecDepth 100000 in
theorem cL_33 {g : AG} {h0 : AH} {B bs n i : Nat} {S : XT} {T : Mem} {o : Int64} {d : UInt64} {Q : AO → AH → Prop} {xs : Nat → Int32} {I : XT → Mem → Prop} (hB : gB g ≤ B) (hst : Sta g h0) (hbs : bs < B) (hsc : h0.1 bs = some (.inl (0, n, .inl xs))) (hn : n ≤ 3072) (hi : i + 5 < n) (hI : ∀ S T, I S T → lrw B S.2.2.1) (hl : lrw B S.2.2.1) (hpf : PFX (uP (sX9_bill S B (xs (i + 1))) S) (mI (sX10_bill T (xs (i + 1)))) co13 I) (k : ∀ S' T' o' d', I S' T' → AW g ML_law 3611 (LL bs B i) [] (LH h0 B S' T' o' d') Q) : AW g ML_law 2157 (LL bs B i) [] (LH h0 B S T o d) Q := by
  obtain ⟨r, b, T1, h1, h2, h3, h4⟩ := hpf
  have hlr := PFX.lr hI (fun v h => (h3 v h).2.2) (fun e h => (h4 e h).2.2)
  obtain ⟨b1, h5, h6⟩ : ∃ b1, sX10_bill T (xs (i + 1)) = some (b1, T1) ∧ b1.toInt64 = b := by
    unfold mI at h2
    cases e2 : sX10_bill T (xs (i + 1)) with
    | none => rw [e2] at h2; cases h2
    | some r2 =>
      rw [e2] at h2
      cases h2
      exact ⟨r2.1, rfl, rfl⟩
  refine AW.aload_n (z := 1) (lr_33 0 rfl) rfl rfl ?_
  refine AW.sarg (k := 1) (lr_33 1 rfl) (lr_33 2 rfl) (lr_33 3 rfl) (lr_33 4 rfl) (lr_33 5 rfl) rfl rfl rfl rfl ((LH_low hl hbs).trans hsc) (by omega) hn ?_
  refine AW.aload_n (z := 3) (lr_33 6 rfl) rfl rfl ?_
  have key : ∀ (S2 : XT) (o2 : Int64) (d2 : UInt64) (kc : Int32), lrw B S2.2.2.1 → gi T1 100 6 0 = kc → (kc = 0 → o2 = b) → I S2 T1 → AW g ML_law 2168 (LL bs B i) [.int kc] (LH h0 B S2 T o2 d2) Q := by
    intro S2 o2 d2 kc hl2 hk hv hI2
    refine AW.istore (L' := (LL bs B i).set 6 (some (.int kc))) (lr_33 8 rfl) rfl (Nat.le_of_ble_eq_true rfl) rfl ?_
    refine AW.aload_n (z := 2) (lr_33 9 rfl) rfl rfl ?_
    refine AW.sarg (k := 1) (lr_33 10 rfl) (lr_33 11 rfl) (lr_33 12 rfl) (lr_33 13 rfl) (lr_33 14 rfl) rfl rfl rfl rfl ((LH_low hl2 hbs).trans hsc) (by omega) hn ?_
    refine AW.callV (N := MX10_bill) (As := [.int (xs (i + 1))]) (S := []) (b := B + 129) (lr_33 15 rfl) rfl ovX10_bill q1902 rfl rfl (LH_m hl2) rfl rfl rfl rfl ?_
    refine AW.heq (LH_mb (T := T) (T' := T) hl2).symm ?_
    refine dX10_bill (Nat.le_trans hB (by omega)) h5 (cQ_r ?_)
    refine AW.heq (LH_mb hl2) ?_
    refine AW.istore (L' := (((LL bs B i).set 6 (some (.int kc))).set 7 (some (.int b1)))) (lr_33 16 rfl) rfl (Nat.le_of_ble_eq_true rfl) rfl ?_
    refine AW.aload_n (z := 2) (lr_33 17 rfl) rfl rfl ?_
    refine AW.callV (N := MX10_thrown) (As := []) (S := []) (b := B + 129) (lr_33 18 rfl) rfl ovX10_thrown q1576 rfl rfl (LH_m hl2) rfl rfl rfl rfl ?_
    refine AW.heq (LH_mb (T := T1) (T' := T1) hl2).symm ?_
    refine dX10_thrown (Nat.le_trans hB (by omega)) hk (cQ_r ?_)
    refine AW.heq (LH_mb hl2) ?_
    refine AW.iload (lr_33 19 rfl) rfl rfl ?_
    refine AW.icmp_eq (tg := 2193) (lr_33 20 rfl) rfl rfl (fun _ => ?_) (fun hc => absurd rfl hc)
    refine AW.iload (lr_33 23 rfl) rfl rfl ?_
    refine AW.if_ne (tg := 2210) (lr_33 24 rfl) rfl rfl (fun _ => ?_) (fun hc => ?_)
    · refine AW.goto (tg := 3611) (lr_33 34 rfl) rfl ?_
      refine AW.lessL (L' := LL bs B i) ⟨rfl, rfl, rfl, rfl, rfl, rfl, trivial⟩ ?_
      exact k _ _ _ _ hI2
    have hv2 := hv hc
    refine AW.aload_n (z := 3) (lr_33 25 rfl) rfl rfl ?_
    refine AW.iconst (lr_33 26 rfl) rfl ci_0 ?_
    refine AW.lald (v := .long o2) (lr_33 27 rfl) rfl (LH_o hl2) (vp_of_inb rfl) rfl ?_
    refine AW.iload (lr_33 28 rfl) rfl rfl ?_
    refine AW.i2l (lr_33 29 rfl) rfl ?_
    rw [hv2, h6]
    refine AW.lcmp (lr_33 30 rfl) rfl ?_
    refine AW.if_eq (tg := 2210) (lr_33 31 rfl) rfl rfl (fun _ => ?_) (fun hc => absurd (lg_cmp_s _) hc)
    refine AW.goto (tg := 3611) (lr_33 34 rfl) rfl ?_
    refine AW.lessL (L' := LL bs B i) ⟨rfl, rfl, rfl, rfl, rfl, rfl, trivial⟩ ?_
    exact k _ _ _ _ hI2
  refine AW.callSH (N := ML_bill) (As := [.ref B, .int (xs (i + 1)), .ref (B + 139)]) (S := []) (lr_33 7 rfl) rfl ohL_bill q1267 rfl rfl rfl rfl rfl ?_
  refine hL_bill hB hst h1 hlr (fun v hv => ?_) (fun e he => ?_)
  · obtain ⟨q1, q2, q3⟩ := h3 v hv
    refine cQ_r ?_
    exact key _ _ _ _ hlr q1 (fun _ => q2) q3
  · obtain ⟨q1, q2, q3⟩ := h4 e he
    refine ⟨_, q1, fun z z1 z2 => cQ_r ?_⟩
    exact key _ _ _ _ hlr rfl (fun h => absurd h q2) (q3 z z1 z2)
set_option maxRecDepth 100000 in
theorem cL_34 {g : AG} {h0 : AH} {B bs n i : Nat} {S : XT} {T : Mem} {o : Int64} {d : UInt64} {Q : AO → AH → Prop} {xs : Nat → Int32} {I : XT → Mem → Prop} (hB : gB g ≤ B) (hst : Sta g h0) (hbs : bs < B) (hsc : h0.1 bs = some (.inl (0, n, .inl xs))) (hn : n ≤ 3072) (hi : i + 5 < n) (hI : ∀ S T, I S T → lrw B S.2.2.1) (hl : lrw B S.2.2.1) (hpf : PFX (uP (sX9_allBills S B ) S) (mI (sX10_allBills T)) co3 I) (k : ∀ S' T' o' d', I S' T' → AW g ML_law 3611 (LL bs B i) [] (LH h0 B S' T' o' d') Q) : AW g ML_law 2213 (LL bs B i) [] (LH h0 B S T o d) Q := by
  obtain ⟨r, b, T1, h1, h2, h3, h4⟩ := hpf
  have hlr := PFX.lr hI (fun v h => (h3 v h).2.2) (fun e h => (h4 e h).2.2)
  obtain ⟨b1, h5, h6⟩ : ∃ b1, sX10_allBills T = some (b1, T1) ∧ b1.toInt64 = b := by
    unfold mI at h2
    cases e2 : sX10_allBills T with
    | none => rw [e2] at h2; cases h2
    | some r2 =>
      rw [e2] at h2
      cases h2
      exact ⟨r2.1, rfl, rfl⟩
  refine AW.aload_n (z := 1) (lr_34 0 rfl) rfl rfl ?_
  refine AW.aload_n (z := 3) (lr_34 1 rfl) rfl rfl ?_
  have key : ∀ (S2 : XT) (o2 : Int64) (d2 : UInt64) (kc : Int32), lrw B S2.2.2.1 → gi T1 100 6 0 = kc → (kc = 0 → o2 = b) → I S2 T1 → AW g ML_law 2218 (LL bs B i) [.int kc] (LH h0 B S2 T o2 d2) Q := by
    intro S2 o2 d2 kc hl2 hk hv hI2
    refine AW.istore (L' := (LL bs B i).set 6 (some (.int kc))) (lr_34 3 rfl) rfl (Nat.le_of_ble_eq_true rfl) rfl ?_
    refine AW.aload_n (z := 2) (lr_34 4 rfl) rfl rfl ?_
    refine AW.callV (N := MX10_allBills) (As := []) (S := []) (b := B + 129) (lr_34 5 rfl) rfl ovX10_allBills q1907 rfl rfl (LH_m hl2) rfl rfl rfl rfl ?_
    refine AW.heq (LH_mb (T := T) (T' := T) hl2).symm ?_
    refine dX10_allBills (Nat.le_trans hB (by omega)) h5 (cQ_r ?_)
    refine AW.heq (LH_mb hl2) ?_
    refine AW.istore (L' := (((LL bs B i).set 6 (some (.int kc))).set 7 (some (.int b1)))) (lr_34 6 rfl) rfl (Nat.le_of_ble_eq_true rfl) rfl ?_
    refine AW.aload_n (z := 2) (lr_34 7 rfl) rfl rfl ?_
    refine AW.callV (N := MX10_thrown) (As := []) (S := []) (b := B + 129) (lr_34 8 rfl) rfl ovX10_thrown q1576 rfl rfl (LH_m hl2) rfl rfl rfl rfl ?_
    refine AW.heq (LH_mb (T := T1) (T' := T1) hl2).symm ?_
    refine dX10_thrown (Nat.le_trans hB (by omega)) hk (cQ_r ?_)
    refine AW.heq (LH_mb hl2) ?_
    refine AW.iload (lr_34 9 rfl) rfl rfl ?_
    refine AW.icmp_eq (tg := 2237) (lr_34 10 rfl) rfl rfl (fun _ => ?_) (fun hc => absurd rfl hc)
    refine AW.iload (lr_34 13 rfl) rfl rfl ?_
    refine AW.if_ne (tg := 2254) (lr_34 14 rfl) rfl rfl (fun _ => ?_) (fun hc => ?_)
    · refine AW.goto (tg := 3611) (lr_34 24 rfl) rfl ?_
      refine AW.lessL (L' := LL bs B i) ⟨rfl, rfl, rfl, rfl, rfl, rfl, trivial⟩ ?_
      exact k _ _ _ _ hI2
    have hv2 := hv hc
    refine AW.aload_n (z := 3) (lr_34 15 rfl) rfl rfl ?_
    refine AW.iconst (lr_34 16 rfl) rfl ci_0 ?_
    refine AW.lald (v := .long o2) (lr_34 17 rfl) rfl (LH_o hl2) (vp_of_inb rfl) rfl ?_
    refine AW.iload (lr_34 18 rfl) rfl rfl ?_
    refine AW.i2l (lr_34 19 rfl) rfl ?_
    rw [hv2, h6]
    refine AW.lcmp (lr_34 20 rfl) rfl ?_
    refine AW.if_eq (tg := 2254) (lr_34 21 rfl) rfl rfl (fun _ => ?_) (fun hc => absurd (lg_cmp_s _) hc)
    refine AW.goto (tg := 3611) (lr_34 24 rfl) rfl ?_
    refine AW.lessL (L' := LL bs B i) ⟨rfl, rfl, rfl, rfl, rfl, rfl, trivial⟩ ?_
    exact k _ _ _ _ hI2
  refine AW.callSH (N := ML_allBills) (As := [.ref B, .ref (B + 139)]) (S := []) (lr_34 2 rfl) rfl ohL_allBills q1295 rfl rfl rfl rfl rfl ?_
  refine hL_allBills hB hst h1 hlr (fun v hv => ?_) (fun e he => ?_)
  · obtain ⟨q1, q2, q3⟩ := h3 v hv
    refine cQ_r ?_
    exact key _ _ _ _ hlr q1 (fun _ => q2) q3
  · obtain ⟨q1, q2, q3⟩ := h4 e he
    refine ⟨_, q1, fun z z1 z2 => cQ_r ?_⟩
    exact key _ _ _ _ hlr rfl (fun h => absurd h q2) (q3 z z1 z2)
set_option maxRecDepth 100000 in
theorem cL_35 {g : AG} {h0 : AH} {B bs n i : Nat} {S : XT} {T : Mem} {o : Int64} {d : UInt64} {Q : AO → AH → Prop} {xs : Nat → Int32} {I : XT → Mem → Prop} (hB : gB g ≤ B) (hst : Sta g h0) (hbs : bs < B) (hsc : h0.1 bs = some (.inl (0, n, .inl xs))) (hn : n ≤ 3072) (hi : i + 5 < n) (hI : ∀ S T, I S T → lrw B S.2.2.1) (hl : lrw B S.2.2.1) (hpf : PFX (uP (sX9_billAhead S B (xs (i + 1))) S) (mI (sX10_billAhead T (xs (i + 1)))) co13 I) (k : ∀ S' T' o' d', I S' T' → AW g ML_law 3611 (LL bs B i) [] (LH h0 B S' T' o' d') Q) : AW g ML_law 2257 (LL bs B i) [] (LH h0 B S T o d) Q := by
  obtain ⟨r, b, T1, h1, h2, h3, h4⟩ := hpf
  have hlr := PFX.lr hI (fun v h => (h3 v h).2.2) (fun e h => (h4 e h).2.2)
  obtain ⟨b1, h5, h6⟩ : ∃ b1, sX10_billAhead T (xs (i + 1)) = some (b1, T1) ∧ b1.toInt64 = b := by
    unfold mI at h2
    cases e2 : sX10_billAhead T (xs (i + 1)) with
    | none => rw [e2] at h2; cases h2
    | some r2 =>
      rw [e2] at h2
      cases h2
      exact ⟨r2.1, rfl, rfl⟩
  refine AW.aload_n (z := 1) (lr_35 0 rfl) rfl rfl ?_
  refine AW.sarg (k := 1) (lr_35 1 rfl) (lr_35 2 rfl) (lr_35 3 rfl) (lr_35 4 rfl) (lr_35 5 rfl) rfl rfl rfl rfl ((LH_low hl hbs).trans hsc) (by omega) hn ?_
  refine AW.aload_n (z := 3) (lr_35 6 rfl) rfl rfl ?_
  have key : ∀ (S2 : XT) (o2 : Int64) (d2 : UInt64) (kc : Int32), lrw B S2.2.2.1 → gi T1 100 6 0 = kc → (kc = 0 → o2 = b) → I S2 T1 → AW g ML_law 2268 (LL bs B i) [.int kc] (LH h0 B S2 T o2 d2) Q := by
    intro S2 o2 d2 kc hl2 hk hv hI2
    refine AW.istore (L' := (LL bs B i).set 6 (some (.int kc))) (lr_35 8 rfl) rfl (Nat.le_of_ble_eq_true rfl) rfl ?_
    refine AW.aload_n (z := 2) (lr_35 9 rfl) rfl rfl ?_
    refine AW.sarg (k := 1) (lr_35 10 rfl) (lr_35 11 rfl) (lr_35 12 rfl) (lr_35 13 rfl) (lr_35 14 rfl) rfl rfl rfl rfl ((LH_low hl2 hbs).trans hsc) (by omega) hn ?_
    refine AW.callV (N := MX10_billAhead) (As := [.int (xs (i + 1))]) (S := []) (b := B + 129) (lr_35 15 rfl) rfl ovX10_billAhead q1911 rfl rfl (LH_m hl2) rfl rfl rfl rfl ?_
    refine AW.heq (LH_mb (T := T) (T' := T) hl2).symm ?_
    refine dX10_billAhead (Nat.le_trans hB (by omega)) h5 (cQ_r ?_)
    refine AW.heq (LH_mb hl2) ?_
    refine AW.istore (L' := (((LL bs B i).set 6 (some (.int kc))).set 7 (some (.int b1)))) (lr_35 16 rfl) rfl (Nat.le_of_ble_eq_true rfl) rfl ?_
    refine AW.aload_n (z := 2) (lr_35 17 rfl) rfl rfl ?_
    refine AW.callV (N := MX10_thrown) (As := []) (S := []) (b := B + 129) (lr_35 18 rfl) rfl ovX10_thrown q1576 rfl rfl (LH_m hl2) rfl rfl rfl rfl ?_
    refine AW.heq (LH_mb (T := T1) (T' := T1) hl2).symm ?_
    refine dX10_thrown (Nat.le_trans hB (by omega)) hk (cQ_r ?_)
    refine AW.heq (LH_mb hl2) ?_
    refine AW.iload (lr_35 19 rfl) rfl rfl ?_
    refine AW.icmp_eq (tg := 2293) (lr_35 20 rfl) rfl rfl (fun _ => ?_) (fun hc => absurd rfl hc)
    refine AW.iload (lr_35 23 rfl) rfl rfl ?_
    refine AW.if_ne (tg := 2310) (lr_35 24 rfl) rfl rfl (fun _ => ?_) (fun hc => ?_)
    · refine AW.goto (tg := 3611) (lr_35 34 rfl) rfl ?_
      refine AW.lessL (L' := LL bs B i) ⟨rfl, rfl, rfl, rfl, rfl, rfl, trivial⟩ ?_
      exact k _ _ _ _ hI2
    have hv2 := hv hc
    refine AW.aload_n (z := 3) (lr_35 25 rfl) rfl rfl ?_
    refine AW.iconst (lr_35 26 rfl) rfl ci_0 ?_
    refine AW.lald (v := .long o2) (lr_35 27 rfl) rfl (LH_o hl2) (vp_of_inb rfl) rfl ?_
    refine AW.iload (lr_35 28 rfl) rfl rfl ?_
    refine AW.i2l (lr_35 29 rfl) rfl ?_
    rw [hv2, h6]
    refine AW.lcmp (lr_35 30 rfl) rfl ?_
    refine AW.if_eq (tg := 2310) (lr_35 31 rfl) rfl rfl (fun _ => ?_) (fun hc => absurd (lg_cmp_s _) hc)
    refine AW.goto (tg := 3611) (lr_35 34 rfl) rfl ?_
    refine AW.lessL (L' := LL bs B i) ⟨rfl, rfl, rfl, rfl, rfl, rfl, trivial⟩ ?_
    exact k _ _ _ _ hI2
  refine AW.callSH (N := ML_billAhead) (As := [.ref B, .int (xs (i + 1)), .ref (B + 139)]) (S := []) (lr_35 7 rfl) rfl ohL_billAhead q1302 rfl rfl rfl rfl rfl ?_
  refine hL_billAhead hB hst h1 hlr (fun v hv => ?_) (fun e he => ?_)
  · obtain ⟨q1, q2, q3⟩ := h3 v hv
    refine cQ_r ?_
    exact key _ _ _ _ hlr q1 (fun _ => q2) q3
  · obtain ⟨q1, q2, q3⟩ := h4 e he
    refine ⟨_, q1, fun z z1 z2 => cQ_r ?_⟩
    exact key _ _ _ _ hlr rfl (fun h => absurd h q2) (q3 z z1 z2)
set_option maxRecDepth 100000 in
theorem cL_36 {g : AG} {h0 : AH} {B bs n i : Nat} {S : XT} {T : Mem} {o : Int64} {d : UInt64} {Q : AO → AH → Prop} {xs : Nat → Int32} {I : XT → Mem → Prop} (hB : gB g ≤ B) (hst : Sta g h0) (hbs : bs < B) (hsc : h0.1 bs = some (.inl (0, n, .inl xs))) (hn : n ≤ 3072) (hi : i + 5 < n) (hI : ∀ S T, I S T → lrw B S.2.2.1) (hl : lrw B S.2.2.1) (hpf : PFX (uP (sX9_record S B (xs (i + 1)) (xs (i + 2))) S) (mI (sX10_record T (xs (i + 1)) (xs (i + 2)))) co1 I) (k : ∀ S' T' o' d', I S' T' → AW g ML_law 3611 (LL bs B i) [] (LH h0 B S' T' o' d') Q) : AW g ML_law 2313 (LL bs B i) [] (LH h0 B S T o d) Q := by
  obtain ⟨r, b, T1, h1, h2, h3, h4⟩ := hpf
  have hlr := PFX.lr hI (fun v h => (h3 v h).2.2) (fun e h => (h4 e h).2.2)
  obtain ⟨b1, h5, h6⟩ : ∃ b1, sX10_record T (xs (i + 1)) (xs (i + 2)) = some (b1, T1) ∧ b1.toInt64 = b := by
    unfold mI at h2
    cases e2 : sX10_record T (xs (i + 1)) (xs (i + 2)) with
    | none => rw [e2] at h2; cases h2
    | some r2 =>
      rw [e2] at h2
      cases h2
      exact ⟨r2.1, rfl, rfl⟩
  refine AW.aload_n (z := 1) (lr_36 0 rfl) rfl rfl ?_
  refine AW.sarg (k := 1) (lr_36 1 rfl) (lr_36 2 rfl) (lr_36 3 rfl) (lr_36 4 rfl) (lr_36 5 rfl) rfl rfl rfl rfl ((LH_low hl hbs).trans hsc) (by omega) hn ?_
  refine AW.sarg (k := 2) (lr_36 6 rfl) (lr_36 7 rfl) (lr_36 8 rfl) (lr_36 9 rfl) (lr_36 10 rfl) rfl rfl rfl rfl ((LH_low hl hbs).trans hsc) (by omega) hn ?_
  refine AW.aload_n (z := 3) (lr_36 11 rfl) rfl rfl ?_
  have key : ∀ (S2 : XT) (o2 : Int64) (d2 : UInt64) (kc : Int32), lrw B S2.2.2.1 → gi T1 100 6 0 = kc → (kc = 0 → o2 = b) → I S2 T1 → AW g ML_law 2330 (LL bs B i) [.int kc] (LH h0 B S2 T o2 d2) Q := by
    intro S2 o2 d2 kc hl2 hk hv hI2
    refine AW.istore (L' := (LL bs B i).set 6 (some (.int kc))) (lr_36 13 rfl) rfl (Nat.le_of_ble_eq_true rfl) rfl ?_
    refine AW.aload_n (z := 2) (lr_36 14 rfl) rfl rfl ?_
    refine AW.sarg (k := 1) (lr_36 15 rfl) (lr_36 16 rfl) (lr_36 17 rfl) (lr_36 18 rfl) (lr_36 19 rfl) rfl rfl rfl rfl ((LH_low hl2 hbs).trans hsc) (by omega) hn ?_
    refine AW.sarg (k := 2) (lr_36 20 rfl) (lr_36 21 rfl) (lr_36 22 rfl) (lr_36 23 rfl) (lr_36 24 rfl) rfl rfl rfl rfl ((LH_low hl2 hbs).trans hsc) (by omega) hn ?_
    refine AW.callV (N := MX10_record) (As := [.int (xs (i + 1)), .int (xs (i + 2))]) (S := []) (b := B + 129) (lr_36 25 rfl) rfl ovX10_record q1919 rfl rfl (LH_m hl2) rfl rfl rfl rfl ?_
    refine AW.heq (LH_mb (T := T) (T' := T) hl2).symm ?_
    refine dX10_record (Nat.le_trans hB (by omega)) h5 (cQ_r ?_)
    refine AW.heq (LH_mb hl2) ?_
    refine AW.istore (L' := (((LL bs B i).set 6 (some (.int kc))).set 7 (some (.int b1)))) (lr_36 26 rfl) rfl (Nat.le_of_ble_eq_true rfl) rfl ?_
    refine AW.aload_n (z := 2) (lr_36 27 rfl) rfl rfl ?_
    refine AW.callV (N := MX10_thrown) (As := []) (S := []) (b := B + 129) (lr_36 28 rfl) rfl ovX10_thrown q1576 rfl rfl (LH_m hl2) rfl rfl rfl rfl ?_
    refine AW.heq (LH_mb (T := T1) (T' := T1) hl2).symm ?_
    refine dX10_thrown (Nat.le_trans hB (by omega)) hk (cQ_r ?_)
    refine AW.heq (LH_mb hl2) ?_
    refine AW.iload (lr_36 29 rfl) rfl rfl ?_
    refine AW.icmp_eq (tg := 2361) (lr_36 30 rfl) rfl rfl (fun _ => ?_) (fun hc => absurd rfl hc)
    refine AW.iload (lr_36 33 rfl) rfl rfl ?_
    refine AW.if_ne (tg := 2378) (lr_36 34 rfl) rfl rfl (fun _ => ?_) (fun hc => ?_)
    · refine AW.goto (tg := 3611) (lr_36 44 rfl) rfl ?_
      refine AW.lessL (L' := LL bs B i) ⟨rfl, rfl, rfl, rfl, rfl, rfl, trivial⟩ ?_
      exact k _ _ _ _ hI2
    have hv2 := hv hc
    refine AW.aload_n (z := 3) (lr_36 35 rfl) rfl rfl ?_
    refine AW.iconst (lr_36 36 rfl) rfl ci_0 ?_
    refine AW.lald (v := .long o2) (lr_36 37 rfl) rfl (LH_o hl2) (vp_of_inb rfl) rfl ?_
    refine AW.iload (lr_36 38 rfl) rfl rfl ?_
    refine AW.i2l (lr_36 39 rfl) rfl ?_
    rw [hv2, h6]
    refine AW.lcmp (lr_36 40 rfl) rfl ?_
    refine AW.if_eq (tg := 2378) (lr_36 41 rfl) rfl rfl (fun _ => ?_) (fun hc => absurd (lg_cmp_s _) hc)
    refine AW.goto (tg := 3611) (lr_36 44 rfl) rfl ?_
    refine AW.lessL (L' := LL bs B i) ⟨rfl, rfl, rfl, rfl, rfl, rfl, trivial⟩ ?_
    exact k _ _ _ _ hI2
  refine AW.callSH (N := ML_record) (As := [.ref B, .int (xs (i + 1)), .int (xs (i + 2)), .ref (B + 139)]) (S := []) (lr_36 12 rfl) rfl ohL_record q1310 rfl rfl rfl rfl rfl ?_
  refine hL_record hB hst h1 hlr (fun v hv => ?_) (fun e he => ?_)
  · obtain ⟨q1, q2, q3⟩ := h3 v hv
    refine cQ_r ?_
    exact key _ _ _ _ hlr q1 (fun _ => q2) q3
  · obtain ⟨q1, q2, q3⟩ := h4 e he
    refine ⟨_, q1, fun z z1 z2 => cQ_r ?_⟩
    exact key _ _ _ _ hlr rfl (fun h => absurd h q2) (q3 z z1 z2)
set_option maxRecDepth 100000 in
theorem cL_37 {g : AG} {h0 : AH} {B bs n i : Nat} {S : XT} {T : Mem} {o : Int64} {d : UInt64} {Q : AO → AH → Prop} {xs : Nat → Int32} {I : XT → Mem → Prop} (hB : gB g ≤ B) (hst : Sta g h0) (hbs : bs < B) (hsc : h0.1 bs = some (.inl (0, n, .inl xs))) (hn : n ≤ 3072) (hi : i + 5 < n) (hI : ∀ S T, I S T → lrw B S.2.2.1) (hl : lrw B S.2.2.1) (hpf : PFX (uP (sX9_recordsOf S B (xs (i + 1)) (xs (i + 2))) S) (mI (sX10_recordsOf T (xs (i + 1)) (xs (i + 2)))) co12 I) (k : ∀ S' T' o' d', I S' T' → AW g ML_law 3611 (LL bs B i) [] (LH h0 B S' T' o' d') Q) : AW g ML_law 2381 (LL bs B i) [] (LH h0 B S T o d) Q := by
  obtain ⟨r, b, T1, h1, h2, h3, h4⟩ := hpf
  have hlr := PFX.lr hI (fun v h => (h3 v h).2.2) (fun e h => (h4 e h).2.2)
  obtain ⟨b1, h5, h6⟩ : ∃ b1, sX10_recordsOf T (xs (i + 1)) (xs (i + 2)) = some (b1, T1) ∧ b1.toInt64 = b := by
    unfold mI at h2
    cases e2 : sX10_recordsOf T (xs (i + 1)) (xs (i + 2)) with
    | none => rw [e2] at h2; cases h2
    | some r2 =>
      rw [e2] at h2
      cases h2
      exact ⟨r2.1, rfl, rfl⟩
  refine AW.aload_n (z := 1) (lr_37 0 rfl) rfl rfl ?_
  refine AW.sarg (k := 1) (lr_37 1 rfl) (lr_37 2 rfl) (lr_37 3 rfl) (lr_37 4 rfl) (lr_37 5 rfl) rfl rfl rfl rfl ((LH_low hl hbs).trans hsc) (by omega) hn ?_
  refine AW.sarg (k := 2) (lr_37 6 rfl) (lr_37 7 rfl) (lr_37 8 rfl) (lr_37 9 rfl) (lr_37 10 rfl) rfl rfl rfl rfl ((LH_low hl hbs).trans hsc) (by omega) hn ?_
  refine AW.aload_n (z := 3) (lr_37 11 rfl) rfl rfl ?_
  have key : ∀ (S2 : XT) (o2 : Int64) (d2 : UInt64) (kc : Int32), lrw B S2.2.2.1 → gi T1 100 6 0 = kc → (kc = 0 → o2 = b) → I S2 T1 → AW g ML_law 2398 (LL bs B i) [.int kc] (LH h0 B S2 T o2 d2) Q := by
    intro S2 o2 d2 kc hl2 hk hv hI2
    refine AW.istore (L' := (LL bs B i).set 6 (some (.int kc))) (lr_37 13 rfl) rfl (Nat.le_of_ble_eq_true rfl) rfl ?_
    refine AW.aload_n (z := 2) (lr_37 14 rfl) rfl rfl ?_
    refine AW.sarg (k := 1) (lr_37 15 rfl) (lr_37 16 rfl) (lr_37 17 rfl) (lr_37 18 rfl) (lr_37 19 rfl) rfl rfl rfl rfl ((LH_low hl2 hbs).trans hsc) (by omega) hn ?_
    refine AW.sarg (k := 2) (lr_37 20 rfl) (lr_37 21 rfl) (lr_37 22 rfl) (lr_37 23 rfl) (lr_37 24 rfl) rfl rfl rfl rfl ((LH_low hl2 hbs).trans hsc) (by omega) hn ?_
    refine AW.callV (N := MX10_recordsOf) (As := [.int (xs (i + 1)), .int (xs (i + 2))]) (S := []) (b := B + 129) (lr_37 25 rfl) rfl ovX10_recordsOf q1932 rfl rfl (LH_m hl2) rfl rfl rfl rfl ?_
    refine AW.heq (LH_mb (T := T) (T' := T) hl2).symm ?_
    refine dX10_recordsOf (Nat.le_trans hB (by omega)) h5 (cQ_r ?_)
    refine AW.heq (LH_mb hl2) ?_
    refine AW.istore (L' := (((LL bs B i).set 6 (some (.int kc))).set 7 (some (.int b1)))) (lr_37 26 rfl) rfl (Nat.le_of_ble_eq_true rfl) rfl ?_
    refine AW.aload_n (z := 2) (lr_37 27 rfl) rfl rfl ?_
    refine AW.callV (N := MX10_thrown) (As := []) (S := []) (b := B + 129) (lr_37 28 rfl) rfl ovX10_thrown q1576 rfl rfl (LH_m hl2) rfl rfl rfl rfl ?_
    refine AW.heq (LH_mb (T := T1) (T' := T1) hl2).symm ?_
    refine dX10_thrown (Nat.le_trans hB (by omega)) hk (cQ_r ?_)
    refine AW.heq (LH_mb hl2) ?_
    refine AW.iload (lr_37 29 rfl) rfl rfl ?_
    refine AW.icmp_eq (tg := 2429) (lr_37 30 rfl) rfl rfl (fun _ => ?_) (fun hc => absurd rfl hc)
    refine AW.iload (lr_37 33 rfl) rfl rfl ?_
    refine AW.if_ne (tg := 2446) (lr_37 34 rfl) rfl rfl (fun _ => ?_) (fun hc => ?_)
    · refine AW.goto (tg := 3611) (lr_37 44 rfl) rfl ?_
      refine AW.lessL (L' := LL bs B i) ⟨rfl, rfl, rfl, rfl, rfl, rfl, trivial⟩ ?_
      exact k _ _ _ _ hI2
    have hv2 := hv hc
    refine AW.aload_n (z := 3) (lr_37 35 rfl) rfl rfl ?_
    refine AW.iconst (lr_37 36 rfl) rfl ci_0 ?_
    refine AW.lald (v := .long o2) (lr_37 37 rfl) rfl (LH_o hl2) (vp_of_inb rfl) rfl ?_
    refine AW.iload (lr_37 38 rfl) rfl rfl ?_
    refine AW.i2l (lr_37 39 rfl) rfl ?_
    rw [hv2, h6]
    refine AW.lcmp (lr_37 40 rfl) rfl ?_
    refine AW.if_eq (tg := 2446) (lr_37 41 rfl) rfl rfl (fun _ => ?_) (fun hc => absurd (lg_cmp_s _) hc)
    refine AW.goto (tg := 3611) (lr_37 44 rfl) rfl ?_
    refine AW.lessL (L' := LL bs B i) ⟨rfl, rfl, rfl, rfl, rfl, rfl, trivial⟩ ?_
    exact k _ _ _ _ hI2
  refine AW.callSH (N := ML_recordsOf) (As := [.ref B, .int (xs (i + 1)), .int (xs (i + 2)), .ref (B + 139)]) (S := []) (lr_37 12 rfl) rfl ohL_recordsOf q1321 rfl rfl rfl rfl rfl ?_
  refine hL_recordsOf hB hst h1 hlr (fun v hv => ?_) (fun e he => ?_)
  · obtain ⟨q1, q2, q3⟩ := h3 v hv
    refine cQ_r ?_
    exact key _ _ _ _ hlr q1 (fun _ => q2) q3
  · obtain ⟨q1, q2, q3⟩ := h4 e he
    refine ⟨_, q1, fun z z1 z2 => cQ_r ?_⟩
    exact key _ _ _ _ hlr rfl (fun h => absurd h q2) (q3 z z1 z2)
set_option maxRecDepth 100000 in
theorem cL_38 {g : AG} {h0 : AH} {B bs n i : Nat} {S : XT} {T : Mem} {o : Int64} {d : UInt64} {Q : AO → AH → Prop} {xs : Nat → Int32} {I : XT → Mem → Prop} (hB : gB g ≤ B) (hst : Sta g h0) (hbs : bs < B) (hsc : h0.1 bs = some (.inl (0, n, .inl xs))) (hn : n ≤ 3072) (hi : i + 5 < n) (hI : ∀ S T, I S T → lrw B S.2.2.1) (hl : lrw B S.2.2.1) (hpf : PFX (uP (sX9_latestRecord S B (xs (i + 1))) S) (mI (sX10_latestRecord T (xs (i + 1)))) co1 I) (k : ∀ S' T' o' d', I S' T' → AW g ML_law 3611 (LL bs B i) [] (LH h0 B S' T' o' d') Q) : AW g ML_law 2449 (LL bs B i) [] (LH h0 B S T o d) Q := by
  obtain ⟨r, b, T1, h1, h2, h3, h4⟩ := hpf
  have hlr := PFX.lr hI (fun v h => (h3 v h).2.2) (fun e h => (h4 e h).2.2)
  obtain ⟨b1, h5, h6⟩ : ∃ b1, sX10_latestRecord T (xs (i + 1)) = some (b1, T1) ∧ b1.toInt64 = b := by
    unfold mI at h2
    cases e2 : sX10_latestRecord T (xs (i + 1)) with
    | none => rw [e2] at h2; cases h2
    | some r2 =>
      rw [e2] at h2
      cases h2
      exact ⟨r2.1, rfl, rfl⟩
  refine AW.aload_n (z := 1) (lr_38 0 rfl) rfl rfl ?_
  refine AW.sarg (k := 1) (lr_38 1 rfl) (lr_38 2 rfl) (lr_38 3 rfl) (lr_38 4 rfl) (lr_38 5 rfl) rfl rfl rfl rfl ((LH_low hl hbs).trans hsc) (by omega) hn ?_
  refine AW.aload_n (z := 3) (lr_38 6 rfl) rfl rfl ?_
  have key : ∀ (S2 : XT) (o2 : Int64) (d2 : UInt64) (kc : Int32), lrw B S2.2.2.1 → gi T1 100 6 0 = kc → (kc = 0 → o2 = b) → I S2 T1 → AW g ML_law 2460 (LL bs B i) [.int kc] (LH h0 B S2 T o2 d2) Q := by
    intro S2 o2 d2 kc hl2 hk hv hI2
    refine AW.istore (L' := (LL bs B i).set 6 (some (.int kc))) (lr_38 8 rfl) rfl (Nat.le_of_ble_eq_true rfl) rfl ?_
    refine AW.aload_n (z := 2) (lr_38 9 rfl) rfl rfl ?_
    refine AW.sarg (k := 1) (lr_38 10 rfl) (lr_38 11 rfl) (lr_38 12 rfl) (lr_38 13 rfl) (lr_38 14 rfl) rfl rfl rfl rfl ((LH_low hl2 hbs).trans hsc) (by omega) hn ?_
    refine AW.callV (N := MX10_latestRecord) (As := [.int (xs (i + 1))]) (S := []) (b := B + 129) (lr_38 15 rfl) rfl ovX10_latestRecord q1936 rfl rfl (LH_m hl2) rfl rfl rfl rfl ?_
    refine AW.heq (LH_mb (T := T) (T' := T) hl2).symm ?_
    refine dX10_latestRecord (Nat.le_trans hB (by omega)) h5 (cQ_r ?_)
    refine AW.heq (LH_mb hl2) ?_
    refine AW.istore (L' := (((LL bs B i).set 6 (some (.int kc))).set 7 (some (.int b1)))) (lr_38 16 rfl) rfl (Nat.le_of_ble_eq_true rfl) rfl ?_
    refine AW.aload_n (z := 2) (lr_38 17 rfl) rfl rfl ?_
    refine AW.callV (N := MX10_thrown) (As := []) (S := []) (b := B + 129) (lr_38 18 rfl) rfl ovX10_thrown q1576 rfl rfl (LH_m hl2) rfl rfl rfl rfl ?_
    refine AW.heq (LH_mb (T := T1) (T' := T1) hl2).symm ?_
    refine dX10_thrown (Nat.le_trans hB (by omega)) hk (cQ_r ?_)
    refine AW.heq (LH_mb hl2) ?_
    refine AW.iload (lr_38 19 rfl) rfl rfl ?_
    refine AW.icmp_eq (tg := 2485) (lr_38 20 rfl) rfl rfl (fun _ => ?_) (fun hc => absurd rfl hc)
    refine AW.iload (lr_38 23 rfl) rfl rfl ?_
    refine AW.if_ne (tg := 2502) (lr_38 24 rfl) rfl rfl (fun _ => ?_) (fun hc => ?_)
    · refine AW.goto (tg := 3611) (lr_38 34 rfl) rfl ?_
      refine AW.lessL (L' := LL bs B i) ⟨rfl, rfl, rfl, rfl, rfl, rfl, trivial⟩ ?_
      exact k _ _ _ _ hI2
    have hv2 := hv hc
    refine AW.aload_n (z := 3) (lr_38 25 rfl) rfl rfl ?_
    refine AW.iconst (lr_38 26 rfl) rfl ci_0 ?_
    refine AW.lald (v := .long o2) (lr_38 27 rfl) rfl (LH_o hl2) (vp_of_inb rfl) rfl ?_
    refine AW.iload (lr_38 28 rfl) rfl rfl ?_
    refine AW.i2l (lr_38 29 rfl) rfl ?_
    rw [hv2, h6]
    refine AW.lcmp (lr_38 30 rfl) rfl ?_
    refine AW.if_eq (tg := 2502) (lr_38 31 rfl) rfl rfl (fun _ => ?_) (fun hc => absurd (lg_cmp_s _) hc)
    refine AW.goto (tg := 3611) (lr_38 34 rfl) rfl ?_
    refine AW.lessL (L' := LL bs B i) ⟨rfl, rfl, rfl, rfl, rfl, rfl, trivial⟩ ?_
    exact k _ _ _ _ hI2
  refine AW.callSH (N := ML_latestRecord) (As := [.ref B, .int (xs (i + 1)), .ref (B + 139)]) (S := []) (lr_38 7 rfl) rfl ohL_latestRecord q1337 rfl rfl rfl rfl rfl ?_
  refine hL_latestRecord hB hst h1 hlr (fun v hv => ?_) (fun e he => ?_)
  · obtain ⟨q1, q2, q3⟩ := h3 v hv
    refine cQ_r ?_
    exact key _ _ _ _ hlr q1 (fun _ => q2) q3
  · obtain ⟨q1, q2, q3⟩ := h4 e he
    refine ⟨_, q1, fun z z1 z2 => cQ_r ?_⟩
    exact key _ _ _ _ hlr rfl (fun h => absurd h q2) (q3 z z1 z2)
set_option maxRecDepth 100000 in
theorem cL_39 {g : AG} {h0 : AH} {B bs n i : Nat} {S : XT} {T : Mem} {o : Int64} {d : UInt64} {Q : AO → AH → Prop} {xs : Nat → Int32} {I : XT → Mem → Prop} (hB : gB g ≤ B) (hst : Sta g h0) (hbs : bs < B) (hsc : h0.1 bs = some (.inl (0, n, .inl xs))) (hn : n ≤ 3072) (hi : i + 5 < n) (hI : ∀ S T, I S T → lrw B S.2.2.1) (hl : lrw B S.2.2.1) (hpf : PFX (uP (sX9_lost S B (xs (i + 1))) S) (mI (sX10_lost T (xs (i + 1)))) co1 I) (k : ∀ S' T' o' d', I S' T' → AW g ML_law 3611 (LL bs B i) [] (LH h0 B S' T' o' d') Q) : AW g ML_law 2505 (LL bs B i) [] (LH h0 B S T o d) Q := by
  obtain ⟨r, b, T1, h1, h2, h3, h4⟩ := hpf
  have hlr := PFX.lr hI (fun v h => (h3 v h).2.2) (fun e h => (h4 e h).2.2)
  obtain ⟨b1, h5, h6⟩ : ∃ b1, sX10_lost T (xs (i + 1)) = some (b1, T1) ∧ b1.toInt64 = b := by
    unfold mI at h2
    cases e2 : sX10_lost T (xs (i + 1)) with
    | none => rw [e2] at h2; cases h2
    | some r2 =>
      rw [e2] at h2
      cases h2
      exact ⟨r2.1, rfl, rfl⟩
  refine AW.aload_n (z := 1) (lr_39 0 rfl) rfl rfl ?_
  refine AW.sarg (k := 1) (lr_39 1 rfl) (lr_39 2 rfl) (lr_39 3 rfl) (lr_39 4 rfl) (lr_39 5 rfl) rfl rfl rfl rfl ((LH_low hl hbs).trans hsc) (by omega) hn ?_
  refine AW.aload_n (z := 3) (lr_39 6 rfl) rfl rfl ?_
  have key : ∀ (S2 : XT) (o2 : Int64) (d2 : UInt64) (kc : Int32), lrw B S2.2.2.1 → gi T1 100 6 0 = kc → (kc = 0 → o2 = b) → I S2 T1 → AW g ML_law 2516 (LL bs B i) [.int kc] (LH h0 B S2 T o2 d2) Q := by
    intro S2 o2 d2 kc hl2 hk hv hI2
    refine AW.istore (L' := (LL bs B i).set 6 (some (.int kc))) (lr_39 8 rfl) rfl (Nat.le_of_ble_eq_true rfl) rfl ?_
    refine AW.aload_n (z := 2) (lr_39 9 rfl) rfl rfl ?_
    refine AW.sarg (k := 1) (lr_39 10 rfl) (lr_39 11 rfl) (lr_39 12 rfl) (lr_39 13 rfl) (lr_39 14 rfl) rfl rfl rfl rfl ((LH_low hl2 hbs).trans hsc) (by omega) hn ?_
    refine AW.callV (N := MX10_lost) (As := [.int (xs (i + 1))]) (S := []) (b := B + 129) (lr_39 15 rfl) rfl ovX10_lost q1940 rfl rfl (LH_m hl2) rfl rfl rfl rfl ?_
    refine AW.heq (LH_mb (T := T) (T' := T) hl2).symm ?_
    refine dX10_lost (Nat.le_trans hB (by omega)) h5 (cQ_r ?_)
    refine AW.heq (LH_mb hl2) ?_
    refine AW.istore (L' := (((LL bs B i).set 6 (some (.int kc))).set 7 (some (.int b1)))) (lr_39 16 rfl) rfl (Nat.le_of_ble_eq_true rfl) rfl ?_
    refine AW.aload_n (z := 2) (lr_39 17 rfl) rfl rfl ?_
    refine AW.callV (N := MX10_thrown) (As := []) (S := []) (b := B + 129) (lr_39 18 rfl) rfl ovX10_thrown q1576 rfl rfl (LH_m hl2) rfl rfl rfl rfl ?_
    refine AW.heq (LH_mb (T := T1) (T' := T1) hl2).symm ?_
    refine dX10_thrown (Nat.le_trans hB (by omega)) hk (cQ_r ?_)
    refine AW.heq (LH_mb hl2) ?_
    refine AW.iload (lr_39 19 rfl) rfl rfl ?_
    refine AW.icmp_eq (tg := 2541) (lr_39 20 rfl) rfl rfl (fun _ => ?_) (fun hc => absurd rfl hc)
    refine AW.iload (lr_39 23 rfl) rfl rfl ?_
    refine AW.if_ne (tg := 2558) (lr_39 24 rfl) rfl rfl (fun _ => ?_) (fun hc => ?_)
    · refine AW.goto (tg := 3611) (lr_39 34 rfl) rfl ?_
      refine AW.lessL (L' := LL bs B i) ⟨rfl, rfl, rfl, rfl, rfl, rfl, trivial⟩ ?_
      exact k _ _ _ _ hI2
    have hv2 := hv hc
    refine AW.aload_n (z := 3) (lr_39 25 rfl) rfl rfl ?_
    refine AW.iconst (lr_39 26 rfl) rfl ci_0 ?_
    refine AW.lald (v := .long o2) (lr_39 27 rfl) rfl (LH_o hl2) (vp_of_inb rfl) rfl ?_
    refine AW.iload (lr_39 28 rfl) rfl rfl ?_
    refine AW.i2l (lr_39 29 rfl) rfl ?_
    rw [hv2, h6]
    refine AW.lcmp (lr_39 30 rfl) rfl ?_
    refine AW.if_eq (tg := 2558) (lr_39 31 rfl) rfl rfl (fun _ => ?_) (fun hc => absurd (lg_cmp_s _) hc)
    refine AW.goto (tg := 3611) (lr_39 34 rfl) rfl ?_
    refine AW.lessL (L' := LL bs B i) ⟨rfl, rfl, rfl, rfl, rfl, rfl, trivial⟩ ?_
    exact k _ _ _ _ hI2
  refine AW.callSH (N := ML_lost) (As := [.ref B, .int (xs (i + 1)), .ref (B + 139)]) (S := []) (lr_39 7 rfl) rfl ohL_lost q1344 rfl rfl rfl rfl rfl ?_
  refine hL_lost hB hst h1 hlr (fun v hv => ?_) (fun e he => ?_)
  · obtain ⟨q1, q2, q3⟩ := h3 v hv
    refine cQ_r ?_
    exact key _ _ _ _ hlr q1 (fun _ => q2) q3
  · obtain ⟨q1, q2, q3⟩ := h4 e he
    refine ⟨_, q1, fun z z1 z2 => cQ_r ?_⟩
    exact key _ _ _ _ hlr rfl (fun h => absurd h q2) (q3 z z1 z2)
set_option maxRecDepth 100000 in
theorem cL_40 {g : AG} {h0 : AH} {B bs n i : Nat} {S : XT} {T : Mem} {o : Int64} {d : UInt64} {Q : AO → AH → Prop} {xs : Nat → Int32} {I : XT → Mem → Prop} (hB : gB g ≤ B) (hst : Sta g h0) (hbs : bs < B) (hsc : h0.1 bs = some (.inl (0, n, .inl xs))) (hn : n ≤ 3072) (hi : i + 5 < n) (hI : ∀ S T, I S T → lrw B S.2.2.1) (hl : lrw B S.2.2.1) (hpf : PFX (uP (sX9_recorded S B (xs (i + 1))) S) (mI (sX10_recorded T (xs (i + 1)))) co1 I) (k : ∀ S' T' o' d', I S' T' → AW g ML_law 3611 (LL bs B i) [] (LH h0 B S' T' o' d') Q) : AW g ML_law 2561 (LL bs B i) [] (LH h0 B S T o d) Q := by
  obtain ⟨r, b, T1, h1, h2, h3, h4⟩ := hpf
  have hlr := PFX.lr hI (fun v h => (h3 v h).2.2) (fun e h => (h4 e h).2.2)
  obtain ⟨b1, h5, h6⟩ : ∃ b1, sX10_recorded T (xs (i + 1)) = some (b1, T1) ∧ b1.toInt64 = b := by
    unfold mI at h2
    cases e2 : sX10_recorded T (xs (i + 1)) with
    | none => rw [e2] at h2; cases h2
    | some r2 =>
      rw [e2] at h2
      cases h2
      exact ⟨r2.1, rfl, rfl⟩
  refine AW.aload_n (z := 1) (lr_40 0 rfl) rfl rfl ?_
  refine AW.sarg (k := 1) (lr_40 1 rfl) (lr_40 2 rfl) (lr_40 3 rfl) (lr_40 4 rfl) (lr_40 5 rfl) rfl rfl rfl rfl ((LH_low hl hbs).trans hsc) (by omega) hn ?_
  refine AW.aload_n (z := 3) (lr_40 6 rfl) rfl rfl ?_
  have key : ∀ (S2 : XT) (o2 : Int64) (d2 : UInt64) (kc : Int32), lrw B S2.2.2.1 → gi T1 100 6 0 = kc → (kc = 0 → o2 = b) → I S2 T1 → AW g ML_law 2572 (LL bs B i) [.int kc] (LH h0 B S2 T o2 d2) Q := by
    intro S2 o2 d2 kc hl2 hk hv hI2
    refine AW.istore (L' := (LL bs B i).set 6 (some (.int kc))) (lr_40 8 rfl) rfl (Nat.le_of_ble_eq_true rfl) rfl ?_
    refine AW.aload_n (z := 2) (lr_40 9 rfl) rfl rfl ?_
    refine AW.sarg (k := 1) (lr_40 10 rfl) (lr_40 11 rfl) (lr_40 12 rfl) (lr_40 13 rfl) (lr_40 14 rfl) rfl rfl rfl rfl ((LH_low hl2 hbs).trans hsc) (by omega) hn ?_
    refine AW.callV (N := MX10_recorded) (As := [.int (xs (i + 1))]) (S := []) (b := B + 129) (lr_40 15 rfl) rfl ovX10_recorded q1928 rfl rfl (LH_m hl2) rfl rfl rfl rfl ?_
    refine AW.heq (LH_mb (T := T) (T' := T) hl2).symm ?_
    refine dX10_recorded (Nat.le_trans hB (by omega)) h5 (cQ_r ?_)
    refine AW.heq (LH_mb hl2) ?_
    refine AW.istore (L' := (((LL bs B i).set 6 (some (.int kc))).set 7 (some (.int b1)))) (lr_40 16 rfl) rfl (Nat.le_of_ble_eq_true rfl) rfl ?_
    refine AW.aload_n (z := 2) (lr_40 17 rfl) rfl rfl ?_
    refine AW.callV (N := MX10_thrown) (As := []) (S := []) (b := B + 129) (lr_40 18 rfl) rfl ovX10_thrown q1576 rfl rfl (LH_m hl2) rfl rfl rfl rfl ?_
    refine AW.heq (LH_mb (T := T1) (T' := T1) hl2).symm ?_
    refine dX10_thrown (Nat.le_trans hB (by omega)) hk (cQ_r ?_)
    refine AW.heq (LH_mb hl2) ?_
    refine AW.iload (lr_40 19 rfl) rfl rfl ?_
    refine AW.icmp_eq (tg := 2597) (lr_40 20 rfl) rfl rfl (fun _ => ?_) (fun hc => absurd rfl hc)
    refine AW.iload (lr_40 23 rfl) rfl rfl ?_
    refine AW.if_ne (tg := 2614) (lr_40 24 rfl) rfl rfl (fun _ => ?_) (fun hc => ?_)
    · refine AW.goto (tg := 3611) (lr_40 34 rfl) rfl ?_
      refine AW.lessL (L' := LL bs B i) ⟨rfl, rfl, rfl, rfl, rfl, rfl, trivial⟩ ?_
      exact k _ _ _ _ hI2
    have hv2 := hv hc
    refine AW.aload_n (z := 3) (lr_40 25 rfl) rfl rfl ?_
    refine AW.iconst (lr_40 26 rfl) rfl ci_0 ?_
    refine AW.lald (v := .long o2) (lr_40 27 rfl) rfl (LH_o hl2) (vp_of_inb rfl) rfl ?_
    refine AW.iload (lr_40 28 rfl) rfl rfl ?_
    refine AW.i2l (lr_40 29 rfl) rfl ?_
    rw [hv2, h6]
    refine AW.lcmp (lr_40 30 rfl) rfl ?_
    refine AW.if_eq (tg := 2614) (lr_40 31 rfl) rfl rfl (fun _ => ?_) (fun hc => absurd (lg_cmp_s _) hc)
    refine AW.goto (tg := 3611) (lr_40 34 rfl) rfl ?_
    refine AW.lessL (L' := LL bs B i) ⟨rfl, rfl, rfl, rfl, rfl, rfl, trivial⟩ ?_
    exact k _ _ _ _ hI2
  refine AW.callSH (N := ML_recorded) (As := [.ref B, .int (xs (i + 1)), .ref (B + 139)]) (S := []) (lr_40 7 rfl) rfl ohL_recorded q1355 rfl rfl rfl rfl rfl ?_
  refine hL_recorded hB hst h1 hlr (fun v hv => ?_) (fun e he => ?_)
  · obtain ⟨q1, q2, q3⟩ := h3 v hv
    refine cQ_r ?_
    exact key _ _ _ _ hlr q1 (fun _ => q2) q3
  · obtain ⟨q1, q2, q3⟩ := h4 e he
    refine ⟨_, q1, fun z z1 z2 => cQ_r ?_⟩
    exact key _ _ _ _ hlr rfl (fun h => absurd h q2) (q3 z z1 z2)
set_option maxRecDepth 100000 in
theorem cL_41 {g : AG} {h0 : AH} {B bs n i : Nat} {S : XT} {T : Mem} {o : Int64} {d : UInt64} {Q : AO → AH → Prop} {xs : Nat → Int32} {I : XT → Mem → Prop} (hB : gB g ≤ B) (hst : Sta g h0) (hbs : bs < B) (hsc : h0.1 bs = some (.inl (0, n, .inl xs))) (hn : n ≤ 3072) (hi : i + 5 < n) (hI : ∀ S T, I S T → lrw B S.2.2.1) (hl : lrw B S.2.2.1) (hpf : PFX (uW (sX9_readyAt S B (xs (i + 1)) (xs (i + 2)))) (mI (sX10_readyAt T (xs (i + 1)) (xs (i + 2)))) co12 I) (k : ∀ S' T' o' d', I S' T' → AW g ML_law 3611 (LL bs B i) [] (LH h0 B S' T' o' d') Q) : AW g ML_law 2617 (LL bs B i) [] (LH h0 B S T o d) Q := by
  obtain ⟨r, b, T1, h1, h2, h3, h4⟩ := hpf
  have hlr := PFX.lr hI (fun v h => (h3 v h).2.2) (fun e h => (h4 e h).2.2)
  obtain ⟨b1, h5, h6⟩ : ∃ b1, sX10_readyAt T (xs (i + 1)) (xs (i + 2)) = some (b1, T1) ∧ b1.toInt64 = b := by
    unfold mI at h2
    cases e2 : sX10_readyAt T (xs (i + 1)) (xs (i + 2)) with
    | none => rw [e2] at h2; cases h2
    | some r2 =>
      rw [e2] at h2
      cases h2
      exact ⟨r2.1, rfl, rfl⟩
  refine AW.aload_n (z := 1) (lr_41 0 rfl) rfl rfl ?_
  refine AW.sarg (k := 1) (lr_41 1 rfl) (lr_41 2 rfl) (lr_41 3 rfl) (lr_41 4 rfl) (lr_41 5 rfl) rfl rfl rfl rfl ((LH_low hl hbs).trans hsc) (by omega) hn ?_
  refine AW.sarg (k := 2) (lr_41 6 rfl) (lr_41 7 rfl) (lr_41 8 rfl) (lr_41 9 rfl) (lr_41 10 rfl) rfl rfl rfl rfl ((LH_low hl hbs).trans hsc) (by omega) hn ?_
  refine AW.aload_n (z := 3) (lr_41 11 rfl) rfl rfl ?_
  have key : ∀ (S2 : XT) (o2 : Int64) (d2 : UInt64) (kc : Int32), lrw B S2.2.2.1 → gi T1 100 6 0 = kc → (kc = 0 → o2 = b) → I S2 T1 → AW g ML_law 2634 (LL bs B i) [.int kc] (LH h0 B S2 T o2 d2) Q := by
    intro S2 o2 d2 kc hl2 hk hv hI2
    refine AW.istore (L' := (LL bs B i).set 6 (some (.int kc))) (lr_41 13 rfl) rfl (Nat.le_of_ble_eq_true rfl) rfl ?_
    refine AW.aload_n (z := 2) (lr_41 14 rfl) rfl rfl ?_
    refine AW.sarg (k := 1) (lr_41 15 rfl) (lr_41 16 rfl) (lr_41 17 rfl) (lr_41 18 rfl) (lr_41 19 rfl) rfl rfl rfl rfl ((LH_low hl2 hbs).trans hsc) (by omega) hn ?_
    refine AW.sarg (k := 2) (lr_41 20 rfl) (lr_41 21 rfl) (lr_41 22 rfl) (lr_41 23 rfl) (lr_41 24 rfl) rfl rfl rfl rfl ((LH_low hl2 hbs).trans hsc) (by omega) hn ?_
    refine AW.callV (N := MX10_readyAt) (As := [.int (xs (i + 1)), .int (xs (i + 2))]) (S := []) (b := B + 129) (lr_41 25 rfl) rfl ovX10_readyAt q1960 rfl rfl (LH_m hl2) rfl rfl rfl rfl ?_
    refine AW.heq (LH_mb (T := T) (T' := T) hl2).symm ?_
    refine dX10_readyAt (Nat.le_trans hB (by omega)) h5 (cQ_r ?_)
    refine AW.heq (LH_mb hl2) ?_
    refine AW.istore (L' := (((LL bs B i).set 6 (some (.int kc))).set 7 (some (.int b1)))) (lr_41 26 rfl) rfl (Nat.le_of_ble_eq_true rfl) rfl ?_
    refine AW.aload_n (z := 2) (lr_41 27 rfl) rfl rfl ?_
    refine AW.callV (N := MX10_thrown) (As := []) (S := []) (b := B + 129) (lr_41 28 rfl) rfl ovX10_thrown q1576 rfl rfl (LH_m hl2) rfl rfl rfl rfl ?_
    refine AW.heq (LH_mb (T := T1) (T' := T1) hl2).symm ?_
    refine dX10_thrown (Nat.le_trans hB (by omega)) hk (cQ_r ?_)
    refine AW.heq (LH_mb hl2) ?_
    refine AW.iload (lr_41 29 rfl) rfl rfl ?_
    refine AW.icmp_eq (tg := 2665) (lr_41 30 rfl) rfl rfl (fun _ => ?_) (fun hc => absurd rfl hc)
    refine AW.iload (lr_41 33 rfl) rfl rfl ?_
    refine AW.if_ne (tg := 2682) (lr_41 34 rfl) rfl rfl (fun _ => ?_) (fun hc => ?_)
    · refine AW.goto (tg := 3611) (lr_41 44 rfl) rfl ?_
      refine AW.lessL (L' := LL bs B i) ⟨rfl, rfl, rfl, rfl, rfl, rfl, trivial⟩ ?_
      exact k _ _ _ _ hI2
    have hv2 := hv hc
    refine AW.aload_n (z := 3) (lr_41 35 rfl) rfl rfl ?_
    refine AW.iconst (lr_41 36 rfl) rfl ci_0 ?_
    refine AW.lald (v := .long o2) (lr_41 37 rfl) rfl (LH_o hl2) (vp_of_inb rfl) rfl ?_
    refine AW.iload (lr_41 38 rfl) rfl rfl ?_
    refine AW.i2l (lr_41 39 rfl) rfl ?_
    rw [hv2, h6]
    refine AW.lcmp (lr_41 40 rfl) rfl ?_
    refine AW.if_eq (tg := 2682) (lr_41 41 rfl) rfl rfl (fun _ => ?_) (fun hc => absurd (lg_cmp_s _) hc)
    refine AW.goto (tg := 3611) (lr_41 44 rfl) rfl ?_
    refine AW.lessL (L' := LL bs B i) ⟨rfl, rfl, rfl, rfl, rfl, rfl, trivial⟩ ?_
    exact k _ _ _ _ hI2
  refine AW.callSH (N := ML_readyAt) (As := [.ref B, .int (xs (i + 1)), .int (xs (i + 2)), .ref (B + 139)]) (S := []) (lr_41 12 rfl) rfl ohL_readyAt q1362 rfl rfl rfl rfl rfl ?_
  refine hL_readyAt hB hst h1 hlr (fun v hv => ?_) (fun e he => ?_)
  · obtain ⟨q1, q2, q3⟩ := h3 v hv
    refine cQ_r ?_
    exact key _ _ _ _ hlr q1 (fun _ => q2) q3
  · obtain ⟨q1, q2, q3⟩ := h4 e he
    refine ⟨_, q1, fun z z1 z2 => cQ_r ?_⟩
    exact key _ _ _ _ hlr rfl (fun h => absurd h q2) (q3 z z1 z2)
set_option maxRecDepth 100000 in
theorem cL_42 {g : AG} {h0 : AH} {B bs n i : Nat} {S : XT} {T : Mem} {o : Int64} {d : UInt64} {Q : AO → AH → Prop} {xs : Nat → Int32} {I : XT → Mem → Prop} (hB : gB g ≤ B) (hst : Sta g h0) (hbs : bs < B) (hsc : h0.1 bs = some (.inl (0, n, .inl xs))) (hn : n ≤ 3072) (hi : i + 5 < n) (hI : ∀ S T, I S T → lrw B S.2.2.1) (hl : lrw B S.2.2.1) (hpf : PFX (uW (sX9_scoreIn S B (xs (i + 1)) (xs (i + 2)))) (mI (sX10_scoreIn T (xs (i + 1)) (xs (i + 2)))) co12 I) (k : ∀ S' T' o' d', I S' T' → AW g ML_law 3611 (LL bs B i) [] (LH h0 B S' T' o' d') Q) : AW g ML_law 2685 (LL bs B i) [] (LH h0 B S T o d) Q := by
  obtain ⟨r, b, T1, h1, h2, h3, h4⟩ := hpf
  have hlr := PFX.lr hI (fun v h => (h3 v h).2.2) (fun e h => (h4 e h).2.2)
  obtain ⟨b1, h5, h6⟩ : ∃ b1, sX10_scoreIn T (xs (i + 1)) (xs (i + 2)) = some (b1, T1) ∧ b1.toInt64 = b := by
    unfold mI at h2
    cases e2 : sX10_scoreIn T (xs (i + 1)) (xs (i + 2)) with
    | none => rw [e2] at h2; cases h2
    | some r2 =>
      rw [e2] at h2
      cases h2
      exact ⟨r2.1, rfl, rfl⟩
  refine AW.aload_n (z := 1) (lr_42 0 rfl) rfl rfl ?_
  refine AW.sarg (k := 1) (lr_42 1 rfl) (lr_42 2 rfl) (lr_42 3 rfl) (lr_42 4 rfl) (lr_42 5 rfl) rfl rfl rfl rfl ((LH_low hl hbs).trans hsc) (by omega) hn ?_
  refine AW.sarg (k := 2) (lr_42 6 rfl) (lr_42 7 rfl) (lr_42 8 rfl) (lr_42 9 rfl) (lr_42 10 rfl) rfl rfl rfl rfl ((LH_low hl hbs).trans hsc) (by omega) hn ?_
  refine AW.aload_n (z := 3) (lr_42 11 rfl) rfl rfl ?_
  have key : ∀ (S2 : XT) (o2 : Int64) (d2 : UInt64) (kc : Int32), lrw B S2.2.2.1 → gi T1 100 6 0 = kc → (kc = 0 → o2 = b) → I S2 T1 → AW g ML_law 2702 (LL bs B i) [.int kc] (LH h0 B S2 T o2 d2) Q := by
    intro S2 o2 d2 kc hl2 hk hv hI2
    refine AW.istore (L' := (LL bs B i).set 6 (some (.int kc))) (lr_42 13 rfl) rfl (Nat.le_of_ble_eq_true rfl) rfl ?_
    refine AW.aload_n (z := 2) (lr_42 14 rfl) rfl rfl ?_
    refine AW.sarg (k := 1) (lr_42 15 rfl) (lr_42 16 rfl) (lr_42 17 rfl) (lr_42 18 rfl) (lr_42 19 rfl) rfl rfl rfl rfl ((LH_low hl2 hbs).trans hsc) (by omega) hn ?_
    refine AW.sarg (k := 2) (lr_42 20 rfl) (lr_42 21 rfl) (lr_42 22 rfl) (lr_42 23 rfl) (lr_42 24 rfl) rfl rfl rfl rfl ((LH_low hl2 hbs).trans hsc) (by omega) hn ?_
    refine AW.callV (N := MX10_scoreIn) (As := [.int (xs (i + 1)), .int (xs (i + 2))]) (S := []) (b := B + 129) (lr_42 25 rfl) rfl ovX10_scoreIn q1980 rfl rfl (LH_m hl2) rfl rfl rfl rfl ?_
    refine AW.heq (LH_mb (T := T) (T' := T) hl2).symm ?_
    refine dX10_scoreIn (Nat.le_trans hB (by omega)) h5 (cQ_r ?_)
    refine AW.heq (LH_mb hl2) ?_
    refine AW.istore (L' := (((LL bs B i).set 6 (some (.int kc))).set 7 (some (.int b1)))) (lr_42 26 rfl) rfl (Nat.le_of_ble_eq_true rfl) rfl ?_
    refine AW.aload_n (z := 2) (lr_42 27 rfl) rfl rfl ?_
    refine AW.callV (N := MX10_thrown) (As := []) (S := []) (b := B + 129) (lr_42 28 rfl) rfl ovX10_thrown q1576 rfl rfl (LH_m hl2) rfl rfl rfl rfl ?_
    refine AW.heq (LH_mb (T := T1) (T' := T1) hl2).symm ?_
    refine dX10_thrown (Nat.le_trans hB (by omega)) hk (cQ_r ?_)
    refine AW.heq (LH_mb hl2) ?_
    refine AW.iload (lr_42 29 rfl) rfl rfl ?_
    refine AW.icmp_eq (tg := 2733) (lr_42 30 rfl) rfl rfl (fun _ => ?_) (fun hc => absurd rfl hc)
    refine AW.iload (lr_42 33 rfl) rfl rfl ?_
    refine AW.if_ne (tg := 2750) (lr_42 34 rfl) rfl rfl (fun _ => ?_) (fun hc => ?_)
    · refine AW.goto (tg := 3611) (lr_42 44 rfl) rfl ?_
      refine AW.lessL (L' := LL bs B i) ⟨rfl, rfl, rfl, rfl, rfl, rfl, trivial⟩ ?_
      exact k _ _ _ _ hI2
    have hv2 := hv hc
    refine AW.aload_n (z := 3) (lr_42 35 rfl) rfl rfl ?_
    refine AW.iconst (lr_42 36 rfl) rfl ci_0 ?_
    refine AW.lald (v := .long o2) (lr_42 37 rfl) rfl (LH_o hl2) (vp_of_inb rfl) rfl ?_
    refine AW.iload (lr_42 38 rfl) rfl rfl ?_
    refine AW.i2l (lr_42 39 rfl) rfl ?_
    rw [hv2, h6]
    refine AW.lcmp (lr_42 40 rfl) rfl ?_
    refine AW.if_eq (tg := 2750) (lr_42 41 rfl) rfl rfl (fun _ => ?_) (fun hc => absurd (lg_cmp_s _) hc)
    refine AW.goto (tg := 3611) (lr_42 44 rfl) rfl ?_
    refine AW.lessL (L' := LL bs B i) ⟨rfl, rfl, rfl, rfl, rfl, rfl, trivial⟩ ?_
    exact k _ _ _ _ hI2
  refine AW.callSH (N := ML_scoreIn) (As := [.ref B, .int (xs (i + 1)), .int (xs (i + 2)), .ref (B + 139)]) (S := []) (lr_42 12 rfl) rfl ohL_scoreIn q1373 rfl rfl rfl rfl rfl ?_
  refine hL_scoreIn hB hst h1 hlr (fun v hv => ?_) (fun e he => ?_)
  · obtain ⟨q1, q2, q3⟩ := h3 v hv
    refine cQ_r ?_
    exact key _ _ _ _ hlr q1 (fun _ => q2) q3
  · obtain ⟨q1, q2, q3⟩ := h4 e he
    refine ⟨_, q1, fun z z1 z2 => cQ_r ?_⟩
    exact key _ _ _ _ hlr rfl (fun h => absurd h q2) (q3 z z1 z2)
set_option maxRecDepth 100000 in
theorem cL_43 {g : AG} {h0 : AH} {B bs n i : Nat} {S : XT} {T : Mem} {o : Int64} {d : UInt64} {Q : AO → AH → Prop} {xs : Nat → Int32} {I : XT → Mem → Prop} (hB : gB g ≤ B) (hst : Sta g h0) (hbs : bs < B) (hsc : h0.1 bs = some (.inl (0, n, .inl xs))) (hn : n ≤ 3072) (hi : i + 5 < n) (hI : ∀ S T, I S T → lrw B S.2.2.1) (hl : lrw B S.2.2.1) (hpf : PFX (uW (sX9_lentIn S B (xs (i + 1)))) (mI (sX10_lentIn T (xs (i + 1)))) co2 I) (k : ∀ S' T' o' d', I S' T' → AW g ML_law 3611 (LL bs B i) [] (LH h0 B S' T' o' d') Q) : AW g ML_law 2753 (LL bs B i) [] (LH h0 B S T o d) Q := by
  obtain ⟨r, b, T1, h1, h2, h3, h4⟩ := hpf
  have hlr := PFX.lr hI (fun v h => (h3 v h).2.2) (fun e h => (h4 e h).2.2)
  obtain ⟨b1, h5, h6⟩ : ∃ b1, sX10_lentIn T (xs (i + 1)) = some (b1, T1) ∧ b1.toInt64 = b := by
    unfold mI at h2
    cases e2 : sX10_lentIn T (xs (i + 1)) with
    | none => rw [e2] at h2; cases h2
    | some r2 =>
      rw [e2] at h2
      cases h2
      exact ⟨r2.1, rfl, rfl⟩
  refine AW.aload_n (z := 1) (lr_43 0 rfl) rfl rfl ?_
  refine AW.sarg (k := 1) (lr_43 1 rfl) (lr_43 2 rfl) (lr_43 3 rfl) (lr_43 4 rfl) (lr_43 5 rfl) rfl rfl rfl rfl ((LH_low hl hbs).trans hsc) (by omega) hn ?_
  refine AW.aload_n (z := 3) (lr_43 6 rfl) rfl rfl ?_
  have key : ∀ (S2 : XT) (o2 : Int64) (d2 : UInt64) (kc : Int32), lrw B S2.2.2.1 → gi T1 100 6 0 = kc → (kc = 0 → o2 = b) → I S2 T1 → AW g ML_law 2764 (LL bs B i) [.int kc] (LH h0 B S2 T o2 d2) Q := by
    intro S2 o2 d2 kc hl2 hk hv hI2
    refine AW.istore (L' := (LL bs B i).set 6 (some (.int kc))) (lr_43 8 rfl) rfl (Nat.le_of_ble_eq_true rfl) rfl ?_
    refine AW.aload_n (z := 2) (lr_43 9 rfl) rfl rfl ?_
    refine AW.sarg (k := 1) (lr_43 10 rfl) (lr_43 11 rfl) (lr_43 12 rfl) (lr_43 13 rfl) (lr_43 14 rfl) rfl rfl rfl rfl ((LH_low hl2 hbs).trans hsc) (by omega) hn ?_
    refine AW.callV (N := MX10_lentIn) (As := [.int (xs (i + 1))]) (S := []) (b := B + 129) (lr_43 15 rfl) rfl ovX10_lentIn q1988 rfl rfl (LH_m hl2) rfl rfl rfl rfl ?_
    refine AW.heq (LH_mb (T := T) (T' := T) hl2).symm ?_
    refine dX10_lentIn (Nat.le_trans hB (by omega)) h5 (cQ_r ?_)
    refine AW.heq (LH_mb hl2) ?_
    refine AW.istore (L' := (((LL bs B i).set 6 (some (.int kc))).set 7 (some (.int b1)))) (lr_43 16 rfl) rfl (Nat.le_of_ble_eq_true rfl) rfl ?_
    refine AW.aload_n (z := 2) (lr_43 17 rfl) rfl rfl ?_
    refine AW.callV (N := MX10_thrown) (As := []) (S := []) (b := B + 129) (lr_43 18 rfl) rfl ovX10_thrown q1576 rfl rfl (LH_m hl2) rfl rfl rfl rfl ?_
    refine AW.heq (LH_mb (T := T1) (T' := T1) hl2).symm ?_
    refine dX10_thrown (Nat.le_trans hB (by omega)) hk (cQ_r ?_)
    refine AW.heq (LH_mb hl2) ?_
    refine AW.iload (lr_43 19 rfl) rfl rfl ?_
    refine AW.icmp_eq (tg := 2789) (lr_43 20 rfl) rfl rfl (fun _ => ?_) (fun hc => absurd rfl hc)
    refine AW.iload (lr_43 23 rfl) rfl rfl ?_
    refine AW.if_ne (tg := 2806) (lr_43 24 rfl) rfl rfl (fun _ => ?_) (fun hc => ?_)
    · refine AW.goto (tg := 3611) (lr_43 34 rfl) rfl ?_
      refine AW.lessL (L' := LL bs B i) ⟨rfl, rfl, rfl, rfl, rfl, rfl, trivial⟩ ?_
      exact k _ _ _ _ hI2
    have hv2 := hv hc
    refine AW.aload_n (z := 3) (lr_43 25 rfl) rfl rfl ?_
    refine AW.iconst (lr_43 26 rfl) rfl ci_0 ?_
    refine AW.lald (v := .long o2) (lr_43 27 rfl) rfl (LH_o hl2) (vp_of_inb rfl) rfl ?_
    refine AW.iload (lr_43 28 rfl) rfl rfl ?_
    refine AW.i2l (lr_43 29 rfl) rfl ?_
    rw [hv2, h6]
    refine AW.lcmp (lr_43 30 rfl) rfl ?_
    refine AW.if_eq (tg := 2806) (lr_43 31 rfl) rfl rfl (fun _ => ?_) (fun hc => absurd (lg_cmp_s _) hc)
    refine AW.goto (tg := 3611) (lr_43 34 rfl) rfl ?_
    refine AW.lessL (L' := LL bs B i) ⟨rfl, rfl, rfl, rfl, rfl, rfl, trivial⟩ ?_
    exact k _ _ _ _ hI2
  refine AW.callSH (N := ML_lentIn) (As := [.ref B, .int (xs (i + 1)), .ref (B + 139)]) (S := []) (lr_43 7 rfl) rfl ohL_lentIn q1380 rfl rfl rfl rfl rfl ?_
  refine hL_lentIn hB hst h1 hlr (fun v hv => ?_) (fun e he => ?_)
  · obtain ⟨q1, q2, q3⟩ := h3 v hv
    refine cQ_r ?_
    exact key _ _ _ _ hlr q1 (fun _ => q2) q3
  · obtain ⟨q1, q2, q3⟩ := h4 e he
    refine ⟨_, q1, fun z z1 z2 => cQ_r ?_⟩
    exact key _ _ _ _ hlr rfl (fun h => absurd h q2) (q3 z z1 z2)
set_option maxRecDepth 100000 in
theorem cL_44 {g : AG} {h0 : AH} {B bs n i : Nat} {S : XT} {T : Mem} {o : Int64} {d : UInt64} {Q : AO → AH → Prop} {xs : Nat → Int32} {I : XT → Mem → Prop} (hB : gB g ≤ B) (hst : Sta g h0) (hbs : bs < B) (hsc : h0.1 bs = some (.inl (0, n, .inl xs))) (hn : n ≤ 3072) (hi : i + 5 < n) (hI : ∀ S T, I S T → lrw B S.2.2.1) (hl : lrw B S.2.2.1) (hpf : PFX (uW (sX9_bestBenches S B (xs (i + 1)))) (mI (sX10_bestBenches T (xs (i + 1)))) co2 I) (k : ∀ S' T' o' d', I S' T' → AW g ML_law 3611 (LL bs B i) [] (LH h0 B S' T' o' d') Q) : AW g ML_law 2809 (LL bs B i) [] (LH h0 B S T o d) Q := by
  obtain ⟨r, b, T1, h1, h2, h3, h4⟩ := hpf
  have hlr := PFX.lr hI (fun v h => (h3 v h).2.2) (fun e h => (h4 e h).2.2)
  obtain ⟨b1, h5, h6⟩ : ∃ b1, sX10_bestBenches T (xs (i + 1)) = some (b1, T1) ∧ b1.toInt64 = b := by
    unfold mI at h2
    cases e2 : sX10_bestBenches T (xs (i + 1)) with
    | none => rw [e2] at h2; cases h2
    | some r2 =>
      rw [e2] at h2
      cases h2
      exact ⟨r2.1, rfl, rfl⟩
  refine AW.aload_n (z := 1) (lr_44 0 rfl) rfl rfl ?_
  refine AW.sarg (k := 1) (lr_44 1 rfl) (lr_44 2 rfl) (lr_44 3 rfl) (lr_44 4 rfl) (lr_44 5 rfl) rfl rfl rfl rfl ((LH_low hl hbs).trans hsc) (by omega) hn ?_
  refine AW.aload_n (z := 3) (lr_44 6 rfl) rfl rfl ?_
  have key : ∀ (S2 : XT) (o2 : Int64) (d2 : UInt64) (kc : Int32), lrw B S2.2.2.1 → gi T1 100 6 0 = kc → (kc = 0 → o2 = b) → I S2 T1 → AW g ML_law 2820 (LL bs B i) [.int kc] (LH h0 B S2 T o2 d2) Q := by
    intro S2 o2 d2 kc hl2 hk hv hI2
    refine AW.istore (L' := (LL bs B i).set 6 (some (.int kc))) (lr_44 8 rfl) rfl (Nat.le_of_ble_eq_true rfl) rfl ?_
    refine AW.aload_n (z := 2) (lr_44 9 rfl) rfl rfl ?_
    refine AW.sarg (k := 1) (lr_44 10 rfl) (lr_44 11 rfl) (lr_44 12 rfl) (lr_44 13 rfl) (lr_44 14 rfl) rfl rfl rfl rfl ((LH_low hl2 hbs).trans hsc) (by omega) hn ?_
    refine AW.callV (N := MX10_bestBenches) (As := [.int (xs (i + 1))]) (S := []) (b := B + 129) (lr_44 15 rfl) rfl ovX10_bestBenches q1992 rfl rfl (LH_m hl2) rfl rfl rfl rfl ?_
    refine AW.heq (LH_mb (T := T) (T' := T) hl2).symm ?_
    refine dX10_bestBenches (Nat.le_trans hB (by omega)) h5 (cQ_r ?_)
    refine AW.heq (LH_mb hl2) ?_
    refine AW.istore (L' := (((LL bs B i).set 6 (some (.int kc))).set 7 (some (.int b1)))) (lr_44 16 rfl) rfl (Nat.le_of_ble_eq_true rfl) rfl ?_
    refine AW.aload_n (z := 2) (lr_44 17 rfl) rfl rfl ?_
    refine AW.callV (N := MX10_thrown) (As := []) (S := []) (b := B + 129) (lr_44 18 rfl) rfl ovX10_thrown q1576 rfl rfl (LH_m hl2) rfl rfl rfl rfl ?_
    refine AW.heq (LH_mb (T := T1) (T' := T1) hl2).symm ?_
    refine dX10_thrown (Nat.le_trans hB (by omega)) hk (cQ_r ?_)
    refine AW.heq (LH_mb hl2) ?_
    refine AW.iload (lr_44 19 rfl) rfl rfl ?_
    refine AW.icmp_eq (tg := 2845) (lr_44 20 rfl) rfl rfl (fun _ => ?_) (fun hc => absurd rfl hc)
    refine AW.iload (lr_44 23 rfl) rfl rfl ?_
    refine AW.if_ne (tg := 2862) (lr_44 24 rfl) rfl rfl (fun _ => ?_) (fun hc => ?_)
    · refine AW.goto (tg := 3611) (lr_44 34 rfl) rfl ?_
      refine AW.lessL (L' := LL bs B i) ⟨rfl, rfl, rfl, rfl, rfl, rfl, trivial⟩ ?_
      exact k _ _ _ _ hI2
    have hv2 := hv hc
    refine AW.aload_n (z := 3) (lr_44 25 rfl) rfl rfl ?_
    refine AW.iconst (lr_44 26 rfl) rfl ci_0 ?_
    refine AW.lald (v := .long o2) (lr_44 27 rfl) rfl (LH_o hl2) (vp_of_inb rfl) rfl ?_
    refine AW.iload (lr_44 28 rfl) rfl rfl ?_
    refine AW.i2l (lr_44 29 rfl) rfl ?_
    rw [hv2, h6]
    refine AW.lcmp (lr_44 30 rfl) rfl ?_
    refine AW.if_eq (tg := 2862) (lr_44 31 rfl) rfl rfl (fun _ => ?_) (fun hc => absurd (lg_cmp_s _) hc)
    refine AW.goto (tg := 3611) (lr_44 34 rfl) rfl ?_
    refine AW.lessL (L' := LL bs B i) ⟨rfl, rfl, rfl, rfl, rfl, rfl, trivial⟩ ?_
    exact k _ _ _ _ hI2
  refine AW.callSH (N := ML_bestBenches) (As := [.ref B, .int (xs (i + 1)), .ref (B + 139)]) (S := []) (lr_44 7 rfl) rfl ohL_bestBenches q1391 rfl rfl rfl rfl rfl ?_
  refine hL_bestBenches hB hst h1 hlr (fun v hv => ?_) (fun e he => ?_)
  · obtain ⟨q1, q2, q3⟩ := h3 v hv
    refine cQ_r ?_
    exact key _ _ _ _ hlr q1 (fun _ => q2) q3
  · obtain ⟨q1, q2, q3⟩ := h4 e he
    refine ⟨_, q1, fun z z1 z2 => cQ_r ?_⟩
    exact key _ _ _ _ hlr rfl (fun h => absurd h q2) (q3 z z1 z2)
set_option maxRecDepth 100000 in
theorem cL_45 {g : AG} {h0 : AH} {B bs n i : Nat} {S : XT} {T : Mem} {o : Int64} {d : UInt64} {Q : AO → AH → Prop} {xs : Nat → Int32} {I : XT → Mem → Prop} (hB : gB g ≤ B) (hst : Sta g h0) (hbs : bs < B) (hsc : h0.1 bs = some (.inl (0, n, .inl xs))) (hn : n ≤ 3072) (hi : i + 5 < n) (hI : ∀ S T, I S T → lrw B S.2.2.1) (hl : lrw B S.2.2.1) (hpf : PFX (uW (sX9_quietAt S B (xs (i + 1)))) (mI (sX10_quietAt T (xs (i + 1)))) co2 I) (k : ∀ S' T' o' d', I S' T' → AW g ML_law 3611 (LL bs B i) [] (LH h0 B S' T' o' d') Q) : AW g ML_law 2865 (LL bs B i) [] (LH h0 B S T o d) Q := by
  obtain ⟨r, b, T1, h1, h2, h3, h4⟩ := hpf
  have hlr := PFX.lr hI (fun v h => (h3 v h).2.2) (fun e h => (h4 e h).2.2)
  obtain ⟨b1, h5, h6⟩ : ∃ b1, sX10_quietAt T (xs (i + 1)) = some (b1, T1) ∧ b1.toInt64 = b := by
    unfold mI at h2
    cases e2 : sX10_quietAt T (xs (i + 1)) with
    | none => rw [e2] at h2; cases h2
    | some r2 =>
      rw [e2] at h2
      cases h2
      exact ⟨r2.1, rfl, rfl⟩
  refine AW.aload_n (z := 1) (lr_45 0 rfl) rfl rfl ?_
  refine AW.sarg (k := 1) (lr_45 1 rfl) (lr_45 2 rfl) (lr_45 3 rfl) (lr_45 4 rfl) (lr_45 5 rfl) rfl rfl rfl rfl ((LH_low hl hbs).trans hsc) (by omega) hn ?_
  refine AW.aload_n (z := 3) (lr_45 6 rfl) rfl rfl ?_
  have key : ∀ (S2 : XT) (o2 : Int64) (d2 : UInt64) (kc : Int32), lrw B S2.2.2.1 → gi T1 100 6 0 = kc → (kc = 0 → o2 = b) → I S2 T1 → AW g ML_law 2876 (LL bs B i) [.int kc] (LH h0 B S2 T o2 d2) Q := by
    intro S2 o2 d2 kc hl2 hk hv hI2
    refine AW.istore (L' := (LL bs B i).set 6 (some (.int kc))) (lr_45 8 rfl) rfl (Nat.le_of_ble_eq_true rfl) rfl ?_
    refine AW.aload_n (z := 2) (lr_45 9 rfl) rfl rfl ?_
    refine AW.sarg (k := 1) (lr_45 10 rfl) (lr_45 11 rfl) (lr_45 12 rfl) (lr_45 13 rfl) (lr_45 14 rfl) rfl rfl rfl rfl ((LH_low hl2 hbs).trans hsc) (by omega) hn ?_
    refine AW.callV (N := MX10_quietAt) (As := [.int (xs (i + 1))]) (S := []) (b := B + 129) (lr_45 15 rfl) rfl ovX10_quietAt q1976 rfl rfl (LH_m hl2) rfl rfl rfl rfl ?_
    refine AW.heq (LH_mb (T := T) (T' := T) hl2).symm ?_
    refine dX10_quietAt (Nat.le_trans hB (by omega)) h5 (cQ_r ?_)
    refine AW.heq (LH_mb hl2) ?_
    refine AW.istore (L' := (((LL bs B i).set 6 (some (.int kc))).set 7 (some (.int b1)))) (lr_45 16 rfl) rfl (Nat.le_of_ble_eq_true rfl) rfl ?_
    refine AW.aload_n (z := 2) (lr_45 17 rfl) rfl rfl ?_
    refine AW.callV (N := MX10_thrown) (As := []) (S := []) (b := B + 129) (lr_45 18 rfl) rfl ovX10_thrown q1576 rfl rfl (LH_m hl2) rfl rfl rfl rfl ?_
    refine AW.heq (LH_mb (T := T1) (T' := T1) hl2).symm ?_
    refine dX10_thrown (Nat.le_trans hB (by omega)) hk (cQ_r ?_)
    refine AW.heq (LH_mb hl2) ?_
    refine AW.iload (lr_45 19 rfl) rfl rfl ?_
    refine AW.icmp_eq (tg := 2901) (lr_45 20 rfl) rfl rfl (fun _ => ?_) (fun hc => absurd rfl hc)
    refine AW.iload (lr_45 23 rfl) rfl rfl ?_
    refine AW.if_ne (tg := 2918) (lr_45 24 rfl) rfl rfl (fun _ => ?_) (fun hc => ?_)
    · refine AW.goto (tg := 3611) (lr_45 34 rfl) rfl ?_
      refine AW.lessL (L' := LL bs B i) ⟨rfl, rfl, rfl, rfl, rfl, rfl, trivial⟩ ?_
      exact k _ _ _ _ hI2
    have hv2 := hv hc
    refine AW.aload_n (z := 3) (lr_45 25 rfl) rfl rfl ?_
    refine AW.iconst (lr_45 26 rfl) rfl ci_0 ?_
    refine AW.lald (v := .long o2) (lr_45 27 rfl) rfl (LH_o hl2) (vp_of_inb rfl) rfl ?_
    refine AW.iload (lr_45 28 rfl) rfl rfl ?_
    refine AW.i2l (lr_45 29 rfl) rfl ?_
    rw [hv2, h6]
    refine AW.lcmp (lr_45 30 rfl) rfl ?_
    refine AW.if_eq (tg := 2918) (lr_45 31 rfl) rfl rfl (fun _ => ?_) (fun hc => absurd (lg_cmp_s _) hc)
    refine AW.goto (tg := 3611) (lr_45 34 rfl) rfl ?_
    refine AW.lessL (L' := LL bs B i) ⟨rfl, rfl, rfl, rfl, rfl, rfl, trivial⟩ ?_
    exact k _ _ _ _ hI2
  refine AW.callSH (N := ML_quietAt) (As := [.ref B, .int (xs (i + 1)), .ref (B + 139)]) (S := []) (lr_45 7 rfl) rfl ohL_quietAt q1398 rfl rfl rfl rfl rfl ?_
  refine hL_quietAt hB hst h1 hlr (fun v hv => ?_) (fun e he => ?_)
  · obtain ⟨q1, q2, q3⟩ := h3 v hv
    refine cQ_r ?_
    exact key _ _ _ _ hlr q1 (fun _ => q2) q3
  · obtain ⟨q1, q2, q3⟩ := h4 e he
    refine ⟨_, q1, fun z z1 z2 => cQ_r ?_⟩
    exact key _ _ _ _ hlr rfl (fun h => absurd h q2) (q3 z z1 z2)
set_option maxRecDepth 100000 in
theorem cL_46 {g : AG} {h0 : AH} {B bs n i : Nat} {S : XT} {T : Mem} {o : Int64} {d : UInt64} {Q : AO → AH → Prop} {xs : Nat → Int32} {I : XT → Mem → Prop} (hB : gB g ≤ B) (hst : Sta g h0) (hbs : bs < B) (hsc : h0.1 bs = some (.inl (0, n, .inl xs))) (hn : n ≤ 3072) (hi : i + 5 < n) (hI : ∀ S T, I S T → lrw B S.2.2.1) (hl : lrw B S.2.2.1) (hpf : PFX (uP (sX9_lateness S B (xs (i + 1))) S) (mI (sX10_lateness T (xs (i + 1)))) co1 I) (k : ∀ S' T' o' d', I S' T' → AW g ML_law 3611 (LL bs B i) [] (LH h0 B S' T' o' d') Q) : AW g ML_law 2921 (LL bs B i) [] (LH h0 B S T o d) Q := by
  obtain ⟨r, b, T1, h1, h2, h3, h4⟩ := hpf
  have hlr := PFX.lr hI (fun v h => (h3 v h).2.2) (fun e h => (h4 e h).2.2)
  obtain ⟨b1, h5, h6⟩ : ∃ b1, sX10_lateness T (xs (i + 1)) = some (b1, T1) ∧ b1.toInt64 = b := by
    unfold mI at h2
    cases e2 : sX10_lateness T (xs (i + 1)) with
    | none => rw [e2] at h2; cases h2
    | some r2 =>
      rw [e2] at h2
      cases h2
      exact ⟨r2.1, rfl, rfl⟩
  refine AW.aload_n (z := 1) (lr_46 0 rfl) rfl rfl ?_
  refine AW.sarg (k := 1) (lr_46 1 rfl) (lr_46 2 rfl) (lr_46 3 rfl) (lr_46 4 rfl) (lr_46 5 rfl) rfl rfl rfl rfl ((LH_low hl hbs).trans hsc) (by omega) hn ?_
  refine AW.aload_n (z := 3) (lr_46 6 rfl) rfl rfl ?_
  have key : ∀ (S2 : XT) (o2 : Int64) (d2 : UInt64) (kc : Int32), lrw B S2.2.2.1 → gi T1 100 6 0 = kc → (kc = 0 → o2 = b) → I S2 T1 → AW g ML_law 2932 (LL bs B i) [.int kc] (LH h0 B S2 T o2 d2) Q := by
    intro S2 o2 d2 kc hl2 hk hv hI2
    refine AW.istore (L' := (LL bs B i).set 6 (some (.int kc))) (lr_46 8 rfl) rfl (Nat.le_of_ble_eq_true rfl) rfl ?_
    refine AW.aload_n (z := 2) (lr_46 9 rfl) rfl rfl ?_
    refine AW.sarg (k := 1) (lr_46 10 rfl) (lr_46 11 rfl) (lr_46 12 rfl) (lr_46 13 rfl) (lr_46 14 rfl) rfl rfl rfl rfl ((LH_low hl2 hbs).trans hsc) (by omega) hn ?_
    refine AW.callV (N := MX10_lateness) (As := [.int (xs (i + 1))]) (S := []) (b := B + 129) (lr_46 15 rfl) rfl ovX10_lateness q1997 rfl rfl (LH_m hl2) rfl rfl rfl rfl ?_
    refine AW.heq (LH_mb (T := T) (T' := T) hl2).symm ?_
    refine dX10_lateness (Nat.le_trans hB (by omega)) h5 (cQ_r ?_)
    refine AW.heq (LH_mb hl2) ?_
    refine AW.istore (L' := (((LL bs B i).set 6 (some (.int kc))).set 7 (some (.int b1)))) (lr_46 16 rfl) rfl (Nat.le_of_ble_eq_true rfl) rfl ?_
    refine AW.aload_n (z := 2) (lr_46 17 rfl) rfl rfl ?_
    refine AW.callV (N := MX10_thrown) (As := []) (S := []) (b := B + 129) (lr_46 18 rfl) rfl ovX10_thrown q1576 rfl rfl (LH_m hl2) rfl rfl rfl rfl ?_
    refine AW.heq (LH_mb (T := T1) (T' := T1) hl2).symm ?_
    refine dX10_thrown (Nat.le_trans hB (by omega)) hk (cQ_r ?_)
    refine AW.heq (LH_mb hl2) ?_
    refine AW.iload (lr_46 19 rfl) rfl rfl ?_
    refine AW.icmp_eq (tg := 2957) (lr_46 20 rfl) rfl rfl (fun _ => ?_) (fun hc => absurd rfl hc)
    refine AW.iload (lr_46 23 rfl) rfl rfl ?_
    refine AW.if_ne (tg := 2974) (lr_46 24 rfl) rfl rfl (fun _ => ?_) (fun hc => ?_)
    · refine AW.goto (tg := 3611) (lr_46 34 rfl) rfl ?_
      refine AW.lessL (L' := LL bs B i) ⟨rfl, rfl, rfl, rfl, rfl, rfl, trivial⟩ ?_
      exact k _ _ _ _ hI2
    have hv2 := hv hc
    refine AW.aload_n (z := 3) (lr_46 25 rfl) rfl rfl ?_
    refine AW.iconst (lr_46 26 rfl) rfl ci_0 ?_
    refine AW.lald (v := .long o2) (lr_46 27 rfl) rfl (LH_o hl2) (vp_of_inb rfl) rfl ?_
    refine AW.iload (lr_46 28 rfl) rfl rfl ?_
    refine AW.i2l (lr_46 29 rfl) rfl ?_
    rw [hv2, h6]
    refine AW.lcmp (lr_46 30 rfl) rfl ?_
    refine AW.if_eq (tg := 2974) (lr_46 31 rfl) rfl rfl (fun _ => ?_) (fun hc => absurd (lg_cmp_s _) hc)
    refine AW.goto (tg := 3611) (lr_46 34 rfl) rfl ?_
    refine AW.lessL (L' := LL bs B i) ⟨rfl, rfl, rfl, rfl, rfl, rfl, trivial⟩ ?_
    exact k _ _ _ _ hI2
  refine AW.callSH (N := ML_lateness) (As := [.ref B, .int (xs (i + 1)), .ref (B + 139)]) (S := []) (lr_46 7 rfl) rfl ohL_lateness q1410 rfl rfl rfl rfl rfl ?_
  refine hL_lateness hB hst h1 hlr (fun v hv => ?_) (fun e he => ?_)
  · obtain ⟨q1, q2, q3⟩ := h3 v hv
    refine cQ_r ?_
    exact key _ _ _ _ hlr q1 (fun _ => q2) q3
  · obtain ⟨q1, q2, q3⟩ := h4 e he
    refine ⟨_, q1, fun z z1 z2 => cQ_r ?_⟩
    exact key _ _ _ _ hlr rfl (fun h => absurd h q2) (q3 z z1 z2)
set_option maxRecDepth 100000 in
theorem cL_47 {g : AG} {h0 : AH} {B bs n i : Nat} {S : XT} {T : Mem} {o : Int64} {d : UInt64} {Q : AO → AH → Prop} {xs : Nat → Int32} {I : XT → Mem → Prop} (hB : gB g ≤ B) (hst : Sta g h0) (hbs : bs < B) (hsc : h0.1 bs = some (.inl (0, n, .inl xs))) (hn : n ≤ 3072) (hi : i + 5 < n) (hI : ∀ S T, I S T → lrw B S.2.2.1) (hl : lrw B S.2.2.1) (hpf : PFA (uA (sX9_mostUrgent S B ) S) (sX10_mostUrgent T) I) (k : ∀ S' T' o' d', I S' T' → AW g ML_law 3611 (LL bs B i) [] (LH h0 B S' T' o' d') Q) : AW g ML_law 2977 (LL bs B i) [] (LH h0 B S T o d) Q := by
  obtain ⟨v, S1, T1, h1, h2, h3⟩ := hpf
  have hl1 := hI _ _ h3
  cases e1 : sX9_mostUrgent S B  with
  | none => rw [e1] at h1; cases h1
  | some v1 =>
    rw [e1] at h1
    cases h1
    refine AW.aload_n (z := 1) (lr_47 0 rfl) rfl rfl ?_
    refine AW.callV (N := MX9_mostUrgent) (As := []) (S := []) (b := B) (lr_47 1 rfl) rfl ovX9_mostUrgent q713 rfl rfl LH_x rfl rfl rfl rfl ?_
    refine dX9_mostUrgent hB (sta_lb hst hB) e1 (cQ_r ?_)
    show AW g ML_law 2981 _ _ (LH h0 B S T o d) Q
    refine AW.aload_n (z := 2) (lr_47 2 rfl) rfl rfl ?_
    refine AW.callV (N := MX10_mostUrgent) (As := []) (S := [.int v]) (b := B + 129) (lr_47 3 rfl) rfl ovX10_mostUrgent q2001 rfl rfl (LH_m hl1) rfl rfl rfl rfl ?_
    refine AW.heq (LH_mb (T := T) (T' := T) hl1).symm ?_
    refine dX10_mostUrgent (Nat.le_trans hB (by omega)) h2 (cQ_r ?_)
    refine AW.heq (LH_mb hl1) ?_
    refine AW.icmp_eq (tg := 3611) (lr_47 4 rfl) rfl rfl (fun _ => k _ _ _ _ h3) (fun hc => absurd rfl hc)
