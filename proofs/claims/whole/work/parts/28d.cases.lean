/-! ===== THE LAW'S CASES (laid by a program), 4 ===== -/
set_option maxRecDepth 100000 in
theorem cL_48 {g : AG} {h0 : AH} {B bs n i : Nat} {S : XT} {T : Mem} {o : Int64} {d : UInt64} {Q : AO → AH → Prop} {xs : Nat → Int32} {I : XT → Mem → Prop} (hB : gB g ≤ B) (hst : Sta g h0) (hbs : bs < B) (hsc : h0.1 bs = some (.inl (0, n, .inl xs))) (hn : n ≤ 3072) (hi : i + 5 < n) (hI : ∀ S T, I S T → lrw B S.2.2.1) (hl : lrw B S.2.2.1) (hpf : PFA (uA (sX9_waitingLoan S B (xs (i + 1))) S) (sX10_waitingLoan T (xs (i + 1))) I) (k : ∀ S' T' o' d', I S' T' → AW g ML_law 3611 (LL bs B i) [] (LH h0 B S' T' o' d') Q) : AW g ML_law 2990 (LL bs B i) [] (LH h0 B S T o d) Q := by
  obtain ⟨v, S1, T1, h1, h2, h3⟩ := hpf
  have hl1 := hI _ _ h3
  cases e1 : sX9_waitingLoan S B (xs (i + 1)) with
  | none => rw [e1] at h1; cases h1
  | some v1 =>
    rw [e1] at h1
    cases h1
    refine AW.aload_n (z := 1) (lr_48 0 rfl) rfl rfl ?_
    refine AW.sarg (k := 1) (lr_48 1 rfl) (lr_48 2 rfl) (lr_48 3 rfl) (lr_48 4 rfl) (lr_48 5 rfl) rfl rfl rfl rfl ((LH_low hl hbs).trans hsc) (by omega) hn ?_
    refine AW.callV (N := MX9_waitingLoan) (As := [.int (xs (i + 1))]) (S := []) (b := B) (lr_48 6 rfl) rfl ovX9_waitingLoan q726 rfl rfl LH_x rfl rfl rfl rfl ?_
    refine dX9_waitingLoan hB (sta_lb hst hB) e1 (cQ_r ?_)
    show AW g ML_law 3000 _ _ (LH h0 B S T o d) Q
    refine AW.aload_n (z := 2) (lr_48 7 rfl) rfl rfl ?_
    refine AW.sarg (k := 1) (lr_48 8 rfl) (lr_48 9 rfl) (lr_48 10 rfl) (lr_48 11 rfl) (lr_48 12 rfl) rfl rfl rfl rfl ((LH_low hl1 hbs).trans hsc) (by omega) hn ?_
    refine AW.callV (N := MX10_waitingLoan) (As := [.int (xs (i + 1))]) (S := [.int v]) (b := B + 129) (lr_48 13 rfl) rfl ovX10_waitingLoan q1952 rfl rfl (LH_m hl1) rfl rfl rfl rfl ?_
    refine AW.heq (LH_mb (T := T) (T' := T) hl1).symm ?_
    refine dX10_waitingLoan (Nat.le_trans hB (by omega)) h2 (cQ_r ?_)
    refine AW.heq (LH_mb hl1) ?_
    refine AW.icmp_eq (tg := 3611) (lr_48 14 rfl) rfl rfl (fun _ => k _ _ _ _ h3) (fun hc => absurd rfl hc)
set_option maxRecDepth 100000 in
theorem cL_49 {g : AG} {h0 : AH} {B bs n i : Nat} {S : XT} {T : Mem} {o : Int64} {d : UInt64} {Q : AO → AH → Prop} {xs : Nat → Int32} {I : XT → Mem → Prop} (hB : gB g ≤ B) (hst : Sta g h0) (hbs : bs < B) (hsc : h0.1 bs = some (.inl (0, n, .inl xs))) (hn : n ≤ 3072) (hi : i + 5 < n) (hI : ∀ S T, I S T → lrw B S.2.2.1) (hl : lrw B S.2.2.1) (hpf : PFX (uP (sX9_uses S B (xs (i + 1))) S) (mI (sX10_uses T (xs (i + 1)))) co1 I) (k : ∀ S' T' o' d', I S' T' → AW g ML_law 3611 (LL bs B i) [] (LH h0 B S' T' o' d') Q) : AW g ML_law 3015 (LL bs B i) [] (LH h0 B S T o d) Q := by
  obtain ⟨r, b, T1, h1, h2, h3, h4⟩ := hpf
  have hlr := PFX.lr hI (fun v h => (h3 v h).2.2) (fun e h => (h4 e h).2.2)
  obtain ⟨b1, h5, h6⟩ : ∃ b1, sX10_uses T (xs (i + 1)) = some (b1, T1) ∧ b1.toInt64 = b := by
    unfold mI at h2
    cases e2 : sX10_uses T (xs (i + 1)) with
    | none => rw [e2] at h2; cases h2
    | some r2 =>
      rw [e2] at h2
      cases h2
      exact ⟨r2.1, rfl, rfl⟩
  refine AW.aload_n (z := 1) (lr_49 0 rfl) rfl rfl ?_
  refine AW.sarg (k := 1) (lr_49 1 rfl) (lr_49 2 rfl) (lr_49 3 rfl) (lr_49 4 rfl) (lr_49 5 rfl) rfl rfl rfl rfl ((LH_low hl hbs).trans hsc) (by omega) hn ?_
  refine AW.aload_n (z := 3) (lr_49 6 rfl) rfl rfl ?_
  have key : ∀ (S2 : XT) (o2 : Int64) (d2 : UInt64) (kc : Int32), lrw B S2.2.2.1 → gi T1 100 6 0 = kc → (kc = 0 → o2 = b) → I S2 T1 → AW g ML_law 3026 (LL bs B i) [.int kc] (LH h0 B S2 T o2 d2) Q := by
    intro S2 o2 d2 kc hl2 hk hv hI2
    refine AW.istore (L' := (LL bs B i).set 6 (some (.int kc))) (lr_49 8 rfl) rfl (Nat.le_of_ble_eq_true rfl) rfl ?_
    refine AW.aload_n (z := 2) (lr_49 9 rfl) rfl rfl ?_
    refine AW.sarg (k := 1) (lr_49 10 rfl) (lr_49 11 rfl) (lr_49 12 rfl) (lr_49 13 rfl) (lr_49 14 rfl) rfl rfl rfl rfl ((LH_low hl2 hbs).trans hsc) (by omega) hn ?_
    refine AW.callV (N := MX10_uses) (As := [.int (xs (i + 1))]) (S := []) (b := B + 129) (lr_49 15 rfl) rfl ovX10_uses q1944 rfl rfl (LH_m hl2) rfl rfl rfl rfl ?_
    refine AW.heq (LH_mb (T := T) (T' := T) hl2).symm ?_
    refine dX10_uses (Nat.le_trans hB (by omega)) h5 (cQ_r ?_)
    refine AW.heq (LH_mb hl2) ?_
    refine AW.istore (L' := (((LL bs B i).set 6 (some (.int kc))).set 7 (some (.int b1)))) (lr_49 16 rfl) rfl (Nat.le_of_ble_eq_true rfl) rfl ?_
    refine AW.aload_n (z := 2) (lr_49 17 rfl) rfl rfl ?_
    refine AW.callV (N := MX10_thrown) (As := []) (S := []) (b := B + 129) (lr_49 18 rfl) rfl ovX10_thrown q1576 rfl rfl (LH_m hl2) rfl rfl rfl rfl ?_
    refine AW.heq (LH_mb (T := T1) (T' := T1) hl2).symm ?_
    refine dX10_thrown (Nat.le_trans hB (by omega)) hk (cQ_r ?_)
    refine AW.heq (LH_mb hl2) ?_
    refine AW.iload (lr_49 19 rfl) rfl rfl ?_
    refine AW.icmp_eq (tg := 3051) (lr_49 20 rfl) rfl rfl (fun _ => ?_) (fun hc => absurd rfl hc)
    refine AW.iload (lr_49 23 rfl) rfl rfl ?_
    refine AW.if_ne (tg := 3068) (lr_49 24 rfl) rfl rfl (fun _ => ?_) (fun hc => ?_)
    · refine AW.goto (tg := 3611) (lr_49 34 rfl) rfl ?_
      refine AW.lessL (L' := LL bs B i) ⟨rfl, rfl, rfl, rfl, rfl, rfl, trivial⟩ ?_
      exact k _ _ _ _ hI2
    have hv2 := hv hc
    refine AW.aload_n (z := 3) (lr_49 25 rfl) rfl rfl ?_
    refine AW.iconst (lr_49 26 rfl) rfl ci_0 ?_
    refine AW.lald (v := .long o2) (lr_49 27 rfl) rfl (LH_o hl2) (vp_of_inb rfl) rfl ?_
    refine AW.iload (lr_49 28 rfl) rfl rfl ?_
    refine AW.i2l (lr_49 29 rfl) rfl ?_
    rw [hv2, h6]
    refine AW.lcmp (lr_49 30 rfl) rfl ?_
    refine AW.if_eq (tg := 3068) (lr_49 31 rfl) rfl rfl (fun _ => ?_) (fun hc => absurd (lg_cmp_s _) hc)
    refine AW.goto (tg := 3611) (lr_49 34 rfl) rfl ?_
    refine AW.lessL (L' := LL bs B i) ⟨rfl, rfl, rfl, rfl, rfl, rfl, trivial⟩ ?_
    exact k _ _ _ _ hI2
  refine AW.callSH (N := ML_uses) (As := [.ref B, .int (xs (i + 1)), .ref (B + 139)]) (S := []) (lr_49 7 rfl) rfl ohL_uses q1418 rfl rfl rfl rfl rfl ?_
  refine hL_uses hB hst h1 hlr (fun v hv => ?_) (fun e he => ?_)
  · obtain ⟨q1, q2, q3⟩ := h3 v hv
    refine cQ_r ?_
    exact key _ _ _ _ hlr q1 (fun _ => q2) q3
  · obtain ⟨q1, q2, q3⟩ := h4 e he
    refine ⟨_, q1, fun z z1 z2 => cQ_r ?_⟩
    exact key _ _ _ _ hlr rfl (fun h => absurd h q2) (q3 z z1 z2)
set_option maxRecDepth 100000 in
theorem cL_50 {g : AG} {h0 : AH} {B bs n i : Nat} {S : XT} {T : Mem} {o : Int64} {d : UInt64} {Q : AO → AH → Prop} {xs : Nat → Int32} {I : XT → Mem → Prop} (hB : gB g ≤ B) (hst : Sta g h0) (hbs : bs < B) (hsc : h0.1 bs = some (.inl (0, n, .inl xs))) (hn : n ≤ 3072) (hi : i + 5 < n) (hI : ∀ S T, I S T → lrw B S.2.2.1) (hl : lrw B S.2.2.1) (hpf : PFX (uP (sX9_pressUse S B (xs (i + 1))) S) (mI (sX10_pressUse T (xs (i + 1)))) co1 I) (k : ∀ S' T' o' d', I S' T' → AW g ML_law 3611 (LL bs B i) [] (LH h0 B S' T' o' d') Q) : AW g ML_law 3071 (LL bs B i) [] (LH h0 B S T o d) Q := by
  obtain ⟨r, b, T1, h1, h2, h3, h4⟩ := hpf
  have hlr := PFX.lr hI (fun v h => (h3 v h).2.2) (fun e h => (h4 e h).2.2)
  obtain ⟨b1, h5, h6⟩ : ∃ b1, sX10_pressUse T (xs (i + 1)) = some (b1, T1) ∧ b1.toInt64 = b := by
    unfold mI at h2
    cases e2 : sX10_pressUse T (xs (i + 1)) with
    | none => rw [e2] at h2; cases h2
    | some r2 =>
      rw [e2] at h2
      cases h2
      exact ⟨r2.1, rfl, rfl⟩
  refine AW.aload_n (z := 1) (lr_50 0 rfl) rfl rfl ?_
  refine AW.sarg (k := 1) (lr_50 1 rfl) (lr_50 2 rfl) (lr_50 3 rfl) (lr_50 4 rfl) (lr_50 5 rfl) rfl rfl rfl rfl ((LH_low hl hbs).trans hsc) (by omega) hn ?_
  refine AW.aload_n (z := 3) (lr_50 6 rfl) rfl rfl ?_
  have key : ∀ (S2 : XT) (o2 : Int64) (d2 : UInt64) (kc : Int32), lrw B S2.2.2.1 → gi T1 100 6 0 = kc → (kc = 0 → o2 = b) → I S2 T1 → AW g ML_law 3082 (LL bs B i) [.int kc] (LH h0 B S2 T o2 d2) Q := by
    intro S2 o2 d2 kc hl2 hk hv hI2
    refine AW.istore (L' := (LL bs B i).set 6 (some (.int kc))) (lr_50 8 rfl) rfl (Nat.le_of_ble_eq_true rfl) rfl ?_
    refine AW.aload_n (z := 2) (lr_50 9 rfl) rfl rfl ?_
    refine AW.sarg (k := 1) (lr_50 10 rfl) (lr_50 11 rfl) (lr_50 12 rfl) (lr_50 13 rfl) (lr_50 14 rfl) rfl rfl rfl rfl ((LH_low hl2 hbs).trans hsc) (by omega) hn ?_
    refine AW.callV (N := MX10_pressUse) (As := [.int (xs (i + 1))]) (S := []) (b := B + 129) (lr_50 15 rfl) rfl ovX10_pressUse q1948 rfl rfl (LH_m hl2) rfl rfl rfl rfl ?_
    refine AW.heq (LH_mb (T := T) (T' := T) hl2).symm ?_
    refine dX10_pressUse (Nat.le_trans hB (by omega)) h5 (cQ_r ?_)
    refine AW.heq (LH_mb hl2) ?_
    refine AW.istore (L' := (((LL bs B i).set 6 (some (.int kc))).set 7 (some (.int b1)))) (lr_50 16 rfl) rfl (Nat.le_of_ble_eq_true rfl) rfl ?_
    refine AW.aload_n (z := 2) (lr_50 17 rfl) rfl rfl ?_
    refine AW.callV (N := MX10_thrown) (As := []) (S := []) (b := B + 129) (lr_50 18 rfl) rfl ovX10_thrown q1576 rfl rfl (LH_m hl2) rfl rfl rfl rfl ?_
    refine AW.heq (LH_mb (T := T1) (T' := T1) hl2).symm ?_
    refine dX10_thrown (Nat.le_trans hB (by omega)) hk (cQ_r ?_)
    refine AW.heq (LH_mb hl2) ?_
    refine AW.iload (lr_50 19 rfl) rfl rfl ?_
    refine AW.icmp_eq (tg := 3107) (lr_50 20 rfl) rfl rfl (fun _ => ?_) (fun hc => absurd rfl hc)
    refine AW.iload (lr_50 23 rfl) rfl rfl ?_
    refine AW.if_ne (tg := 3124) (lr_50 24 rfl) rfl rfl (fun _ => ?_) (fun hc => ?_)
    · refine AW.goto (tg := 3611) (lr_50 34 rfl) rfl ?_
      refine AW.lessL (L' := LL bs B i) ⟨rfl, rfl, rfl, rfl, rfl, rfl, trivial⟩ ?_
      exact k _ _ _ _ hI2
    have hv2 := hv hc
    refine AW.aload_n (z := 3) (lr_50 25 rfl) rfl rfl ?_
    refine AW.iconst (lr_50 26 rfl) rfl ci_0 ?_
    refine AW.lald (v := .long o2) (lr_50 27 rfl) rfl (LH_o hl2) (vp_of_inb rfl) rfl ?_
    refine AW.iload (lr_50 28 rfl) rfl rfl ?_
    refine AW.i2l (lr_50 29 rfl) rfl ?_
    rw [hv2, h6]
    refine AW.lcmp (lr_50 30 rfl) rfl ?_
    refine AW.if_eq (tg := 3124) (lr_50 31 rfl) rfl rfl (fun _ => ?_) (fun hc => absurd (lg_cmp_s _) hc)
    refine AW.goto (tg := 3611) (lr_50 34 rfl) rfl ?_
    refine AW.lessL (L' := LL bs B i) ⟨rfl, rfl, rfl, rfl, rfl, rfl, trivial⟩ ?_
    exact k _ _ _ _ hI2
  refine AW.callSH (N := ML_pressUse) (As := [.ref B, .int (xs (i + 1)), .ref (B + 139)]) (S := []) (lr_50 7 rfl) rfl ohL_pressUse q1425 rfl rfl rfl rfl rfl ?_
  refine hL_pressUse hB hst h1 hlr (fun v hv => ?_) (fun e he => ?_)
  · obtain ⟨q1, q2, q3⟩ := h3 v hv
    refine cQ_r ?_
    exact key _ _ _ _ hlr q1 (fun _ => q2) q3
  · obtain ⟨q1, q2, q3⟩ := h4 e he
    refine ⟨_, q1, fun z z1 z2 => cQ_r ?_⟩
    exact key _ _ _ _ hlr rfl (fun h => absurd h q2) (q3 z z1 z2)
set_option maxRecDepth 100000 in
theorem cL_51 {g : AG} {h0 : AH} {B bs n i : Nat} {S : XT} {T : Mem} {o : Int64} {d : UInt64} {Q : AO → AH → Prop} {xs : Nat → Int32} {I : XT → Mem → Prop} (hB : gB g ≤ B) (hst : Sta g h0) (hbs : bs < B) (hsc : h0.1 bs = some (.inl (0, n, .inl xs))) (hn : n ≤ 3072) (hi : i + 5 < n) (hI : ∀ S T, I S T → lrw B S.2.2.1) (hl : lrw B S.2.2.1) (hpf : PFX (uP (sX9_inQueues S B (xs (i + 1))) S) (mI (sX10_inQueues T (xs (i + 1)))) co1 I) (k : ∀ S' T' o' d', I S' T' → AW g ML_law 3611 (LL bs B i) [] (LH h0 B S' T' o' d') Q) : AW g ML_law 3127 (LL bs B i) [] (LH h0 B S T o d) Q := by
  obtain ⟨r, b, T1, h1, h2, h3, h4⟩ := hpf
  have hlr := PFX.lr hI (fun v h => (h3 v h).2.2) (fun e h => (h4 e h).2.2)
  obtain ⟨b1, h5, h6⟩ : ∃ b1, sX10_inQueues T (xs (i + 1)) = some (b1, T1) ∧ b1.toInt64 = b := by
    unfold mI at h2
    cases e2 : sX10_inQueues T (xs (i + 1)) with
    | none => rw [e2] at h2; cases h2
    | some r2 =>
      rw [e2] at h2
      cases h2
      exact ⟨r2.1, rfl, rfl⟩
  refine AW.aload_n (z := 1) (lr_51 0 rfl) rfl rfl ?_
  refine AW.sarg (k := 1) (lr_51 1 rfl) (lr_51 2 rfl) (lr_51 3 rfl) (lr_51 4 rfl) (lr_51 5 rfl) rfl rfl rfl rfl ((LH_low hl hbs).trans hsc) (by omega) hn ?_
  refine AW.aload_n (z := 3) (lr_51 6 rfl) rfl rfl ?_
  have key : ∀ (S2 : XT) (o2 : Int64) (d2 : UInt64) (kc : Int32), lrw B S2.2.2.1 → gi T1 100 6 0 = kc → (kc = 0 → o2 = b) → I S2 T1 → AW g ML_law 3138 (LL bs B i) [.int kc] (LH h0 B S2 T o2 d2) Q := by
    intro S2 o2 d2 kc hl2 hk hv hI2
    refine AW.istore (L' := (LL bs B i).set 6 (some (.int kc))) (lr_51 8 rfl) rfl (Nat.le_of_ble_eq_true rfl) rfl ?_
    refine AW.aload_n (z := 2) (lr_51 9 rfl) rfl rfl ?_
    refine AW.sarg (k := 1) (lr_51 10 rfl) (lr_51 11 rfl) (lr_51 12 rfl) (lr_51 13 rfl) (lr_51 14 rfl) rfl rfl rfl rfl ((LH_low hl2 hbs).trans hsc) (by omega) hn ?_
    refine AW.callV (N := MX10_inQueues) (As := [.int (xs (i + 1))]) (S := []) (b := B + 129) (lr_51 15 rfl) rfl ovX10_inQueues q2005 rfl rfl (LH_m hl2) rfl rfl rfl rfl ?_
    refine AW.heq (LH_mb (T := T) (T' := T) hl2).symm ?_
    refine dX10_inQueues (Nat.le_trans hB (by omega)) h5 (cQ_r ?_)
    refine AW.heq (LH_mb hl2) ?_
    refine AW.istore (L' := (((LL bs B i).set 6 (some (.int kc))).set 7 (some (.int b1)))) (lr_51 16 rfl) rfl (Nat.le_of_ble_eq_true rfl) rfl ?_
    refine AW.aload_n (z := 2) (lr_51 17 rfl) rfl rfl ?_
    refine AW.callV (N := MX10_thrown) (As := []) (S := []) (b := B + 129) (lr_51 18 rfl) rfl ovX10_thrown q1576 rfl rfl (LH_m hl2) rfl rfl rfl rfl ?_
    refine AW.heq (LH_mb (T := T1) (T' := T1) hl2).symm ?_
    refine dX10_thrown (Nat.le_trans hB (by omega)) hk (cQ_r ?_)
    refine AW.heq (LH_mb hl2) ?_
    refine AW.iload (lr_51 19 rfl) rfl rfl ?_
    refine AW.icmp_eq (tg := 3163) (lr_51 20 rfl) rfl rfl (fun _ => ?_) (fun hc => absurd rfl hc)
    refine AW.iload (lr_51 23 rfl) rfl rfl ?_
    refine AW.if_ne (tg := 3180) (lr_51 24 rfl) rfl rfl (fun _ => ?_) (fun hc => ?_)
    · refine AW.goto (tg := 3611) (lr_51 34 rfl) rfl ?_
      refine AW.lessL (L' := LL bs B i) ⟨rfl, rfl, rfl, rfl, rfl, rfl, trivial⟩ ?_
      exact k _ _ _ _ hI2
    have hv2 := hv hc
    refine AW.aload_n (z := 3) (lr_51 25 rfl) rfl rfl ?_
    refine AW.iconst (lr_51 26 rfl) rfl ci_0 ?_
    refine AW.lald (v := .long o2) (lr_51 27 rfl) rfl (LH_o hl2) (vp_of_inb rfl) rfl ?_
    refine AW.iload (lr_51 28 rfl) rfl rfl ?_
    refine AW.i2l (lr_51 29 rfl) rfl ?_
    rw [hv2, h6]
    refine AW.lcmp (lr_51 30 rfl) rfl ?_
    refine AW.if_eq (tg := 3180) (lr_51 31 rfl) rfl rfl (fun _ => ?_) (fun hc => absurd (lg_cmp_s _) hc)
    refine AW.goto (tg := 3611) (lr_51 34 rfl) rfl ?_
    refine AW.lessL (L' := LL bs B i) ⟨rfl, rfl, rfl, rfl, rfl, rfl, trivial⟩ ?_
    exact k _ _ _ _ hI2
  refine AW.callSH (N := ML_inQueues) (As := [.ref B, .int (xs (i + 1)), .ref (B + 139)]) (S := []) (lr_51 7 rfl) rfl ohL_inQueues q1432 rfl rfl rfl rfl rfl ?_
  refine hL_inQueues hB hst h1 hlr (fun v hv => ?_) (fun e he => ?_)
  · obtain ⟨q1, q2, q3⟩ := h3 v hv
    refine cQ_r ?_
    exact key _ _ _ _ hlr q1 (fun _ => q2) q3
  · obtain ⟨q1, q2, q3⟩ := h4 e he
    refine ⟨_, q1, fun z z1 z2 => cQ_r ?_⟩
    exact key _ _ _ _ hlr rfl (fun h => absurd h q2) (q3 z z1 z2)
set_option maxRecDepth 100000 in
theorem cL_52 {g : AG} {h0 : AH} {B bs n i : Nat} {S : XT} {T : Mem} {o : Int64} {d : UInt64} {Q : AO → AH → Prop} {xs : Nat → Int32} {I : XT → Mem → Prop} (hB : gB g ≤ B) (hst : Sta g h0) (hbs : bs < B) (hsc : h0.1 bs = some (.inl (0, n, .inl xs))) (hn : n ≤ 3072) (hi : i + 5 < n) (hI : ∀ S T, I S T → lrw B S.2.2.1) (hl : lrw B S.2.2.1) (hpf : PFX (uP (sX9_dryIn S B (xs (i + 1))) S) (mI (sX10_dryIn T (xs (i + 1)))) co1 I) (k : ∀ S' T' o' d', I S' T' → AW g ML_law 3611 (LL bs B i) [] (LH h0 B S' T' o' d') Q) : AW g ML_law 3183 (LL bs B i) [] (LH h0 B S T o d) Q := by
  obtain ⟨r, b, T1, h1, h2, h3, h4⟩ := hpf
  have hlr := PFX.lr hI (fun v h => (h3 v h).2.2) (fun e h => (h4 e h).2.2)
  obtain ⟨b1, h5, h6⟩ : ∃ b1, sX10_dryIn T (xs (i + 1)) = some (b1, T1) ∧ b1.toInt64 = b := by
    unfold mI at h2
    cases e2 : sX10_dryIn T (xs (i + 1)) with
    | none => rw [e2] at h2; cases h2
    | some r2 =>
      rw [e2] at h2
      cases h2
      exact ⟨r2.1, rfl, rfl⟩
  refine AW.aload_n (z := 1) (lr_52 0 rfl) rfl rfl ?_
  refine AW.sarg (k := 1) (lr_52 1 rfl) (lr_52 2 rfl) (lr_52 3 rfl) (lr_52 4 rfl) (lr_52 5 rfl) rfl rfl rfl rfl ((LH_low hl hbs).trans hsc) (by omega) hn ?_
  refine AW.aload_n (z := 3) (lr_52 6 rfl) rfl rfl ?_
  have key : ∀ (S2 : XT) (o2 : Int64) (d2 : UInt64) (kc : Int32), lrw B S2.2.2.1 → gi T1 100 6 0 = kc → (kc = 0 → o2 = b) → I S2 T1 → AW g ML_law 3194 (LL bs B i) [.int kc] (LH h0 B S2 T o2 d2) Q := by
    intro S2 o2 d2 kc hl2 hk hv hI2
    refine AW.istore (L' := (LL bs B i).set 6 (some (.int kc))) (lr_52 8 rfl) rfl (Nat.le_of_ble_eq_true rfl) rfl ?_
    refine AW.aload_n (z := 2) (lr_52 9 rfl) rfl rfl ?_
    refine AW.sarg (k := 1) (lr_52 10 rfl) (lr_52 11 rfl) (lr_52 12 rfl) (lr_52 13 rfl) (lr_52 14 rfl) rfl rfl rfl rfl ((LH_low hl2 hbs).trans hsc) (by omega) hn ?_
    refine AW.callV (N := MX10_dryIn) (As := [.int (xs (i + 1))]) (S := []) (b := B + 129) (lr_52 15 rfl) rfl ovX10_dryIn q2009 rfl rfl (LH_m hl2) rfl rfl rfl rfl ?_
    refine AW.heq (LH_mb (T := T) (T' := T) hl2).symm ?_
    refine dX10_dryIn (Nat.le_trans hB (by omega)) h5 (cQ_r ?_)
    refine AW.heq (LH_mb hl2) ?_
    refine AW.istore (L' := (((LL bs B i).set 6 (some (.int kc))).set 7 (some (.int b1)))) (lr_52 16 rfl) rfl (Nat.le_of_ble_eq_true rfl) rfl ?_
    refine AW.aload_n (z := 2) (lr_52 17 rfl) rfl rfl ?_
    refine AW.callV (N := MX10_thrown) (As := []) (S := []) (b := B + 129) (lr_52 18 rfl) rfl ovX10_thrown q1576 rfl rfl (LH_m hl2) rfl rfl rfl rfl ?_
    refine AW.heq (LH_mb (T := T1) (T' := T1) hl2).symm ?_
    refine dX10_thrown (Nat.le_trans hB (by omega)) hk (cQ_r ?_)
    refine AW.heq (LH_mb hl2) ?_
    refine AW.iload (lr_52 19 rfl) rfl rfl ?_
    refine AW.icmp_eq (tg := 3219) (lr_52 20 rfl) rfl rfl (fun _ => ?_) (fun hc => absurd rfl hc)
    refine AW.iload (lr_52 23 rfl) rfl rfl ?_
    refine AW.if_ne (tg := 3236) (lr_52 24 rfl) rfl rfl (fun _ => ?_) (fun hc => ?_)
    · refine AW.goto (tg := 3611) (lr_52 34 rfl) rfl ?_
      refine AW.lessL (L' := LL bs B i) ⟨rfl, rfl, rfl, rfl, rfl, rfl, trivial⟩ ?_
      exact k _ _ _ _ hI2
    have hv2 := hv hc
    refine AW.aload_n (z := 3) (lr_52 25 rfl) rfl rfl ?_
    refine AW.iconst (lr_52 26 rfl) rfl ci_0 ?_
    refine AW.lald (v := .long o2) (lr_52 27 rfl) rfl (LH_o hl2) (vp_of_inb rfl) rfl ?_
    refine AW.iload (lr_52 28 rfl) rfl rfl ?_
    refine AW.i2l (lr_52 29 rfl) rfl ?_
    rw [hv2, h6]
    refine AW.lcmp (lr_52 30 rfl) rfl ?_
    refine AW.if_eq (tg := 3236) (lr_52 31 rfl) rfl rfl (fun _ => ?_) (fun hc => absurd (lg_cmp_s _) hc)
    refine AW.goto (tg := 3611) (lr_52 34 rfl) rfl ?_
    refine AW.lessL (L' := LL bs B i) ⟨rfl, rfl, rfl, rfl, rfl, rfl, trivial⟩ ?_
    exact k _ _ _ _ hI2
  refine AW.callSH (N := ML_dryIn) (As := [.ref B, .int (xs (i + 1)), .ref (B + 139)]) (S := []) (lr_52 7 rfl) rfl ohL_dryIn q1443 rfl rfl rfl rfl rfl ?_
  refine hL_dryIn hB hst h1 hlr (fun v hv => ?_) (fun e he => ?_)
  · obtain ⟨q1, q2, q3⟩ := h3 v hv
    refine cQ_r ?_
    exact key _ _ _ _ hlr q1 (fun _ => q2) q3
  · obtain ⟨q1, q2, q3⟩ := h4 e he
    refine ⟨_, q1, fun z z1 z2 => cQ_r ?_⟩
    exact key _ _ _ _ hlr rfl (fun h => absurd h q2) (q3 z z1 z2)
set_option maxRecDepth 100000 in
theorem cL_53 {g : AG} {h0 : AH} {B bs n i : Nat} {S : XT} {T : Mem} {o : Int64} {d : UInt64} {Q : AO → AH → Prop} {xs : Nat → Int32} {I : XT → Mem → Prop} (hB : gB g ≤ B) (hst : Sta g h0) (hbs : bs < B) (hsc : h0.1 bs = some (.inl (0, n, .inl xs))) (hn : n ≤ 3072) (hi : i + 5 < n) (hI : ∀ S T, I S T → lrw B S.2.2.1) (hl : lrw B S.2.2.1) (hpf : PFX (uP (sX9_rank S B (xs (i + 1))) S) (mI (sX10_rank T (xs (i + 1)))) co1 I) (k : ∀ S' T' o' d', I S' T' → AW g ML_law 3611 (LL bs B i) [] (LH h0 B S' T' o' d') Q) : AW g ML_law 3239 (LL bs B i) [] (LH h0 B S T o d) Q := by
  obtain ⟨r, b, T1, h1, h2, h3, h4⟩ := hpf
  have hlr := PFX.lr hI (fun v h => (h3 v h).2.2) (fun e h => (h4 e h).2.2)
  obtain ⟨b1, h5, h6⟩ : ∃ b1, sX10_rank T (xs (i + 1)) = some (b1, T1) ∧ b1.toInt64 = b := by
    unfold mI at h2
    cases e2 : sX10_rank T (xs (i + 1)) with
    | none => rw [e2] at h2; cases h2
    | some r2 =>
      rw [e2] at h2
      cases h2
      exact ⟨r2.1, rfl, rfl⟩
  refine AW.aload_n (z := 1) (lr_53 0 rfl) rfl rfl ?_
  refine AW.sarg (k := 1) (lr_53 1 rfl) (lr_53 2 rfl) (lr_53 3 rfl) (lr_53 4 rfl) (lr_53 5 rfl) rfl rfl rfl rfl ((LH_low hl hbs).trans hsc) (by omega) hn ?_
  refine AW.aload_n (z := 3) (lr_53 6 rfl) rfl rfl ?_
  have key : ∀ (S2 : XT) (o2 : Int64) (d2 : UInt64) (kc : Int32), lrw B S2.2.2.1 → gi T1 100 6 0 = kc → (kc = 0 → o2 = b) → I S2 T1 → AW g ML_law 3250 (LL bs B i) [.int kc] (LH h0 B S2 T o2 d2) Q := by
    intro S2 o2 d2 kc hl2 hk hv hI2
    refine AW.istore (L' := (LL bs B i).set 6 (some (.int kc))) (lr_53 8 rfl) rfl (Nat.le_of_ble_eq_true rfl) rfl ?_
    refine AW.aload_n (z := 2) (lr_53 9 rfl) rfl rfl ?_
    refine AW.sarg (k := 1) (lr_53 10 rfl) (lr_53 11 rfl) (lr_53 12 rfl) (lr_53 13 rfl) (lr_53 14 rfl) rfl rfl rfl rfl ((LH_low hl2 hbs).trans hsc) (by omega) hn ?_
    refine AW.callV (N := MX10_rank) (As := [.int (xs (i + 1))]) (S := []) (b := B + 129) (lr_53 15 rfl) rfl ovX10_rank q2013 rfl rfl (LH_m hl2) rfl rfl rfl rfl ?_
    refine AW.heq (LH_mb (T := T) (T' := T) hl2).symm ?_
    refine dX10_rank (Nat.le_trans hB (by omega)) h5 (cQ_r ?_)
    refine AW.heq (LH_mb hl2) ?_
    refine AW.istore (L' := (((LL bs B i).set 6 (some (.int kc))).set 7 (some (.int b1)))) (lr_53 16 rfl) rfl (Nat.le_of_ble_eq_true rfl) rfl ?_
    refine AW.aload_n (z := 2) (lr_53 17 rfl) rfl rfl ?_
    refine AW.callV (N := MX10_thrown) (As := []) (S := []) (b := B + 129) (lr_53 18 rfl) rfl ovX10_thrown q1576 rfl rfl (LH_m hl2) rfl rfl rfl rfl ?_
    refine AW.heq (LH_mb (T := T1) (T' := T1) hl2).symm ?_
    refine dX10_thrown (Nat.le_trans hB (by omega)) hk (cQ_r ?_)
    refine AW.heq (LH_mb hl2) ?_
    refine AW.iload (lr_53 19 rfl) rfl rfl ?_
    refine AW.icmp_eq (tg := 3275) (lr_53 20 rfl) rfl rfl (fun _ => ?_) (fun hc => absurd rfl hc)
    refine AW.iload (lr_53 23 rfl) rfl rfl ?_
    refine AW.if_ne (tg := 3292) (lr_53 24 rfl) rfl rfl (fun _ => ?_) (fun hc => ?_)
    · refine AW.goto (tg := 3611) (lr_53 34 rfl) rfl ?_
      refine AW.lessL (L' := LL bs B i) ⟨rfl, rfl, rfl, rfl, rfl, rfl, trivial⟩ ?_
      exact k _ _ _ _ hI2
    have hv2 := hv hc
    refine AW.aload_n (z := 3) (lr_53 25 rfl) rfl rfl ?_
    refine AW.iconst (lr_53 26 rfl) rfl ci_0 ?_
    refine AW.lald (v := .long o2) (lr_53 27 rfl) rfl (LH_o hl2) (vp_of_inb rfl) rfl ?_
    refine AW.iload (lr_53 28 rfl) rfl rfl ?_
    refine AW.i2l (lr_53 29 rfl) rfl ?_
    rw [hv2, h6]
    refine AW.lcmp (lr_53 30 rfl) rfl ?_
    refine AW.if_eq (tg := 3292) (lr_53 31 rfl) rfl rfl (fun _ => ?_) (fun hc => absurd (lg_cmp_s _) hc)
    refine AW.goto (tg := 3611) (lr_53 34 rfl) rfl ?_
    refine AW.lessL (L' := LL bs B i) ⟨rfl, rfl, rfl, rfl, rfl, rfl, trivial⟩ ?_
    exact k _ _ _ _ hI2
  refine AW.callSH (N := ML_rank) (As := [.ref B, .int (xs (i + 1)), .ref (B + 139)]) (S := []) (lr_53 7 rfl) rfl ohL_rank q1450 rfl rfl rfl rfl rfl ?_
  refine hL_rank hB hst h1 hlr (fun v hv => ?_) (fun e he => ?_)
  · obtain ⟨q1, q2, q3⟩ := h3 v hv
    refine cQ_r ?_
    exact key _ _ _ _ hlr q1 (fun _ => q2) q3
  · obtain ⟨q1, q2, q3⟩ := h4 e he
    refine ⟨_, q1, fun z z1 z2 => cQ_r ?_⟩
    exact key _ _ _ _ hlr rfl (fun h => absurd h q2) (q3 z z1 z2)
set_option maxRecDepth 100000 in
theorem cL_54 {g : AG} {h0 : AH} {B bs n i : Nat} {S : XT} {T : Mem} {o : Int64} {d : UInt64} {Q : AO → AH → Prop} {xs : Nat → Int32} {I : XT → Mem → Prop} (hB : gB g ≤ B) (hst : Sta g h0) (hbs : bs < B) (hsc : h0.1 bs = some (.inl (0, n, .inl xs))) (hn : n ≤ 3072) (hi : i + 5 < n) (hI : ∀ S T, I S T → lrw B S.2.2.1) (hl : lrw B S.2.2.1) (hpf : PFA (uA (sX9_below S B (xs (i + 1))) S) (sX10_below T (xs (i + 1))) I) (k : ∀ S' T' o' d', I S' T' → AW g ML_law 3611 (LL bs B i) [] (LH h0 B S' T' o' d') Q) : AW g ML_law 3295 (LL bs B i) [] (LH h0 B S T o d) Q := by
  obtain ⟨v, S1, T1, h1, h2, h3⟩ := hpf
  have hl1 := hI _ _ h3
  cases e1 : sX9_below S B (xs (i + 1)) with
  | none => rw [e1] at h1; cases h1
  | some v1 =>
    rw [e1] at h1
    cases h1
    refine AW.aload_n (z := 1) (lr_54 0 rfl) rfl rfl ?_
    refine AW.sarg (k := 1) (lr_54 1 rfl) (lr_54 2 rfl) (lr_54 3 rfl) (lr_54 4 rfl) (lr_54 5 rfl) rfl rfl rfl rfl ((LH_low hl hbs).trans hsc) (by omega) hn ?_
    refine AW.callV (N := MX9_below) (As := [.int (xs (i + 1))]) (S := []) (b := B) (lr_54 6 rfl) rfl ovX9_below q727 rfl rfl LH_x rfl rfl rfl rfl ?_
    refine dX9_below hB (sta_lb hst hB) e1 (cQ_r ?_)
    show AW g ML_law 3305 _ _ (LH h0 B S T o d) Q
    refine AW.aload_n (z := 2) (lr_54 7 rfl) rfl rfl ?_
    refine AW.sarg (k := 1) (lr_54 8 rfl) (lr_54 9 rfl) (lr_54 10 rfl) (lr_54 11 rfl) (lr_54 12 rfl) rfl rfl rfl rfl ((LH_low hl1 hbs).trans hsc) (by omega) hn ?_
    refine AW.callV (N := MX10_below) (As := [.int (xs (i + 1))]) (S := [.int v]) (b := B + 129) (lr_54 13 rfl) rfl ovX10_below q2017 rfl rfl (LH_m hl1) rfl rfl rfl rfl ?_
    refine AW.heq (LH_mb (T := T) (T' := T) hl1).symm ?_
    refine dX10_below (Nat.le_trans hB (by omega)) h2 (cQ_r ?_)
    refine AW.heq (LH_mb hl1) ?_
    refine AW.icmp_eq (tg := 3611) (lr_54 14 rfl) rfl rfl (fun _ => k _ _ _ _ h3) (fun hc => absurd rfl hc)
set_option maxRecDepth 100000 in
theorem cL_55 {g : AG} {h0 : AH} {B bs n i : Nat} {S : XT} {T : Mem} {o : Int64} {d : UInt64} {Q : AO → AH → Prop} {xs : Nat → Int32} {I : XT → Mem → Prop} (hB : gB g ≤ B) (hst : Sta g h0) (hbs : bs < B) (hsc : h0.1 bs = some (.inl (0, n, .inl xs))) (hn : n ≤ 3072) (hi : i + 5 < n) (hI : ∀ S T, I S T → lrw B S.2.2.1) (hl : lrw B S.2.2.1) (hpf : PFX (uP (sX9_objectsIn S B (xs (i + 1))) S) (mI (sX10_objectsIn T (xs (i + 1)))) co2 I) (k : ∀ S' T' o' d', I S' T' → AW g ML_law 3611 (LL bs B i) [] (LH h0 B S' T' o' d') Q) : AW g ML_law 3320 (LL bs B i) [] (LH h0 B S T o d) Q := by
  obtain ⟨r, b, T1, h1, h2, h3, h4⟩ := hpf
  have hlr := PFX.lr hI (fun v h => (h3 v h).2.2) (fun e h => (h4 e h).2.2)
  obtain ⟨b1, h5, h6⟩ : ∃ b1, sX10_objectsIn T (xs (i + 1)) = some (b1, T1) ∧ b1.toInt64 = b := by
    unfold mI at h2
    cases e2 : sX10_objectsIn T (xs (i + 1)) with
    | none => rw [e2] at h2; cases h2
    | some r2 =>
      rw [e2] at h2
      cases h2
      exact ⟨r2.1, rfl, rfl⟩
  refine AW.aload_n (z := 1) (lr_55 0 rfl) rfl rfl ?_
  refine AW.sarg (k := 1) (lr_55 1 rfl) (lr_55 2 rfl) (lr_55 3 rfl) (lr_55 4 rfl) (lr_55 5 rfl) rfl rfl rfl rfl ((LH_low hl hbs).trans hsc) (by omega) hn ?_
  refine AW.aload_n (z := 3) (lr_55 6 rfl) rfl rfl ?_
  have key : ∀ (S2 : XT) (o2 : Int64) (d2 : UInt64) (kc : Int32), lrw B S2.2.2.1 → gi T1 100 6 0 = kc → (kc = 0 → o2 = b) → I S2 T1 → AW g ML_law 3331 (LL bs B i) [.int kc] (LH h0 B S2 T o2 d2) Q := by
    intro S2 o2 d2 kc hl2 hk hv hI2
    refine AW.istore (L' := (LL bs B i).set 6 (some (.int kc))) (lr_55 8 rfl) rfl (Nat.le_of_ble_eq_true rfl) rfl ?_
    refine AW.aload_n (z := 2) (lr_55 9 rfl) rfl rfl ?_
    refine AW.sarg (k := 1) (lr_55 10 rfl) (lr_55 11 rfl) (lr_55 12 rfl) (lr_55 13 rfl) (lr_55 14 rfl) rfl rfl rfl rfl ((LH_low hl2 hbs).trans hsc) (by omega) hn ?_
    refine AW.callV (N := MX10_objectsIn) (As := [.int (xs (i + 1))]) (S := []) (b := B + 129) (lr_55 15 rfl) rfl ovX10_objectsIn q2021 rfl rfl (LH_m hl2) rfl rfl rfl rfl ?_
    refine AW.heq (LH_mb (T := T) (T' := T) hl2).symm ?_
    refine dX10_objectsIn (Nat.le_trans hB (by omega)) h5 (cQ_r ?_)
    refine AW.heq (LH_mb hl2) ?_
    refine AW.istore (L' := (((LL bs B i).set 6 (some (.int kc))).set 7 (some (.int b1)))) (lr_55 16 rfl) rfl (Nat.le_of_ble_eq_true rfl) rfl ?_
    refine AW.aload_n (z := 2) (lr_55 17 rfl) rfl rfl ?_
    refine AW.callV (N := MX10_thrown) (As := []) (S := []) (b := B + 129) (lr_55 18 rfl) rfl ovX10_thrown q1576 rfl rfl (LH_m hl2) rfl rfl rfl rfl ?_
    refine AW.heq (LH_mb (T := T1) (T' := T1) hl2).symm ?_
    refine dX10_thrown (Nat.le_trans hB (by omega)) hk (cQ_r ?_)
    refine AW.heq (LH_mb hl2) ?_
    refine AW.iload (lr_55 19 rfl) rfl rfl ?_
    refine AW.icmp_eq (tg := 3356) (lr_55 20 rfl) rfl rfl (fun _ => ?_) (fun hc => absurd rfl hc)
    refine AW.iload (lr_55 23 rfl) rfl rfl ?_
    refine AW.if_ne (tg := 3373) (lr_55 24 rfl) rfl rfl (fun _ => ?_) (fun hc => ?_)
    · refine AW.goto (tg := 3611) (lr_55 34 rfl) rfl ?_
      refine AW.lessL (L' := LL bs B i) ⟨rfl, rfl, rfl, rfl, rfl, rfl, trivial⟩ ?_
      exact k _ _ _ _ hI2
    have hv2 := hv hc
    refine AW.aload_n (z := 3) (lr_55 25 rfl) rfl rfl ?_
    refine AW.iconst (lr_55 26 rfl) rfl ci_0 ?_
    refine AW.lald (v := .long o2) (lr_55 27 rfl) rfl (LH_o hl2) (vp_of_inb rfl) rfl ?_
    refine AW.iload (lr_55 28 rfl) rfl rfl ?_
    refine AW.i2l (lr_55 29 rfl) rfl ?_
    rw [hv2, h6]
    refine AW.lcmp (lr_55 30 rfl) rfl ?_
    refine AW.if_eq (tg := 3373) (lr_55 31 rfl) rfl rfl (fun _ => ?_) (fun hc => absurd (lg_cmp_s _) hc)
    refine AW.goto (tg := 3611) (lr_55 34 rfl) rfl ?_
    refine AW.lessL (L' := LL bs B i) ⟨rfl, rfl, rfl, rfl, rfl, rfl, trivial⟩ ?_
    exact k _ _ _ _ hI2
  refine AW.callSH (N := ML_objectsIn) (As := [.ref B, .int (xs (i + 1)), .ref (B + 139)]) (S := []) (lr_55 7 rfl) rfl ohL_objectsIn q1463 rfl rfl rfl rfl rfl ?_
  refine hL_objectsIn hB hst h1 hlr (fun v hv => ?_) (fun e he => ?_)
  · obtain ⟨q1, q2, q3⟩ := h3 v hv
    refine cQ_r ?_
    exact key _ _ _ _ hlr q1 (fun _ => q2) q3
  · obtain ⟨q1, q2, q3⟩ := h4 e he
    refine ⟨_, q1, fun z z1 z2 => cQ_r ?_⟩
    exact key _ _ _ _ hlr rfl (fun h => absurd h q2) (q3 z z1 z2)
set_option maxRecDepth 100000 in
theorem cL_56 {g : AG} {h0 : AH} {B bs n i : Nat} {S : XT} {T : Mem} {o : Int64} {d : UInt64} {Q : AO → AH → Prop} {xs : Nat → Int32} {I : XT → Mem → Prop} (hB : gB g ≤ B) (hst : Sta g h0) (hbs : bs < B) (hsc : h0.1 bs = some (.inl (0, n, .inl xs))) (hn : n ≤ 3072) (hi : i + 5 < n) (hI : ∀ S T, I S T → lrw B S.2.2.1) (hl : lrw B S.2.2.1) (hpf : PFX (uM (sX9_meanScore S B ) S) (sX10_meanScore T) co3 I) (hdc : ∀ b T', sX10_meanScore T = some (b, T') → gi T' 100 6 0 = 0 → Op.cmpValue (FP.dcmp b b) .l = 0) (k : ∀ S' T' o' d', I S' T' → AW g ML_law 3611 (LL bs B i) [] (LH h0 B S' T' o' d') Q) : AW g ML_law 3376 (LL bs B i) [] (LH h0 B S T o d) Q := by
  obtain ⟨r, b, T1, h1, h2, h3, h4⟩ := hpf
  have hlr := PFX.lr hI (fun v h => (h3 v h).2.2) (fun e h => (h4 e h).2.2)
  have h5 := h2
  refine AW.aload_n (z := 1) (lr_56 0 rfl) rfl rfl ?_
  refine AW.aload (lr_56 1 rfl) rfl rfl ?_
  have key : ∀ (S2 : XT) (o2 : Int64) (d2 : UInt64) (kc : Int32), lrw B S2.2.2.1 → gi T1 100 6 0 = kc → (kc = 0 → d2 = b) → I S2 T1 → AW g ML_law 3382 (LL bs B i) [.int kc] (LH h0 B S2 T o2 d2) Q := by
    intro S2 o2 d2 kc hl2 hk hv hI2
    refine AW.istore (L' := (LL bs B i).set 6 (some (.int kc))) (lr_56 3 rfl) rfl (Nat.le_of_ble_eq_true rfl) rfl ?_
    refine AW.aload_n (z := 2) (lr_56 4 rfl) rfl rfl ?_
    refine AW.callV (N := MX10_meanScore) (As := []) (S := []) (b := B + 129) (lr_56 5 rfl) rfl ovX10_meanScore q2026 rfl rfl (LH_m hl2) rfl rfl rfl rfl ?_
    refine AW.heq (LH_mb (T := T) (T' := T) hl2).symm ?_
    refine dX10_meanScore (Nat.le_trans hB (by omega)) h5 (cQ_r ?_)
    refine AW.heq (LH_mb hl2) ?_
    refine AW.dstore (L' := (((LL bs B i).set 6 (some (.int kc))).set 7 (some (.double b)))) (lr_56 6 rfl) rfl (Nat.le_of_ble_eq_true rfl) rfl ?_
    refine AW.aload_n (z := 2) (lr_56 7 rfl) rfl rfl ?_
    refine AW.callV (N := MX10_thrown) (As := []) (S := []) (b := B + 129) (lr_56 8 rfl) rfl ovX10_thrown q1576 rfl rfl (LH_m hl2) rfl rfl rfl rfl ?_
    refine AW.heq (LH_mb (T := T1) (T' := T1) hl2).symm ?_
    refine dX10_thrown (Nat.le_trans hB (by omega)) hk (cQ_r ?_)
    refine AW.heq (LH_mb hl2) ?_
    refine AW.iload (lr_56 9 rfl) rfl rfl ?_
    refine AW.icmp_eq (tg := 3401) (lr_56 10 rfl) rfl rfl (fun _ => ?_) (fun hc => absurd rfl hc)
    refine AW.iload (lr_56 13 rfl) rfl rfl ?_
    refine AW.if_ne (tg := 3438) (lr_56 14 rfl) rfl rfl (fun _ => ?_) (fun hc => ?_)
    · refine AW.goto (tg := 3611) (lr_56 35 rfl) rfl ?_
      refine AW.lessL (L' := LL bs B i) ⟨rfl, rfl, rfl, rfl, rfl, rfl, trivial⟩ ?_
      exact k _ _ _ _ hI2
    have hv2 := hv hc
    subst hv2
    refine AW.aload (lr_56 15 rfl) rfl rfl ?_
    refine AW.iconst (lr_56 16 rfl) rfl ci_0 ?_
    refine AW.dald (v := .double d2) (lr_56 17 rfl) rfl (LH_d hl2) (vp_of_inb rfl) rfl ?_
    refine AW.dload (lr_56 18 rfl) rfl rfl ?_
    refine AW.dcmp (lr_56 19 rfl) rfl ?_
    refine AW.if_eq (tg := 3438) (lr_56 20 rfl) rfl rfl (fun _ => ?_) (fun hc2 => absurd (hdc _ _ h2 (hk.trans hc)) hc2)
    refine AW.goto (tg := 3611) (lr_56 35 rfl) rfl ?_
    refine AW.lessL (L' := LL bs B i) ⟨rfl, rfl, rfl, rfl, rfl, rfl, trivial⟩ ?_
    exact k _ _ _ _ hI2
  refine AW.callSH (N := ML_meanScore) (As := [.ref B, .ref (B + 140)]) (S := []) (lr_56 2 rfl) rfl ohL_meanScore q1470 rfl rfl rfl rfl rfl ?_
  refine hL_meanScore hB hst h1 hlr (fun v hv => ?_) (fun e he => ?_)
  · obtain ⟨q1, q2, q3⟩ := h3 v hv
    refine cQ_r ?_
    exact key _ _ _ _ hlr q1 (fun _ => q2) q3
  · obtain ⟨q1, q2, q3⟩ := h4 e he
    refine ⟨_, q1, fun z z1 z2 => cQ_r ?_⟩
    exact key _ _ _ _ hlr rfl (fun h => absurd h q2) (q3 z z1 z2)
set_option maxRecDepth 100000 in
theorem cL_57 {g : AG} {h0 : AH} {B bs n i : Nat} {S : XT} {T : Mem} {o : Int64} {d : UInt64} {Q : AO → AH → Prop} {xs : Nat → Int32} {I : XT → Mem → Prop} (hB : gB g ≤ B) (hst : Sta g h0) (hbs : bs < B) (hsc : h0.1 bs = some (.inl (0, n, .inl xs))) (hn : n ≤ 3072) (hi : i + 5 < n) (hI : ∀ S T, I S T → lrw B S.2.2.1) (hl : lrw B S.2.2.1) (hpf : PFX (uW (sX9_write S B (xs (i + 1)))) (mI (sX10_write T (xs (i + 1)))) co1 I) (k : ∀ S' T' o' d', I S' T' → AW g ML_law 3611 (LL bs B i) [] (LH h0 B S' T' o' d') Q) : AW g ML_law 3441 (LL bs B i) [] (LH h0 B S T o d) Q := by
  obtain ⟨r, b, T1, h1, h2, h3, h4⟩ := hpf
  have hlr := PFX.lr hI (fun v h => (h3 v h).2.2) (fun e h => (h4 e h).2.2)
  obtain ⟨b1, h5, h6⟩ : ∃ b1, sX10_write T (xs (i + 1)) = some (b1, T1) ∧ b1.toInt64 = b := by
    unfold mI at h2
    cases e2 : sX10_write T (xs (i + 1)) with
    | none => rw [e2] at h2; cases h2
    | some r2 =>
      rw [e2] at h2
      cases h2
      exact ⟨r2.1, rfl, rfl⟩
  refine AW.aload_n (z := 1) (lr_57 0 rfl) rfl rfl ?_
  refine AW.sarg (k := 1) (lr_57 1 rfl) (lr_57 2 rfl) (lr_57 3 rfl) (lr_57 4 rfl) (lr_57 5 rfl) rfl rfl rfl rfl ((LH_low hl hbs).trans hsc) (by omega) hn ?_
  refine AW.aload_n (z := 3) (lr_57 6 rfl) rfl rfl ?_
  have key : ∀ (S2 : XT) (o2 : Int64) (d2 : UInt64) (kc : Int32), lrw B S2.2.2.1 → gi T1 100 6 0 = kc → (kc = 0 → o2 = b) → I S2 T1 → AW g ML_law 3452 (LL bs B i) [.int kc] (LH h0 B S2 T o2 d2) Q := by
    intro S2 o2 d2 kc hl2 hk hv hI2
    refine AW.istore (L' := (LL bs B i).set 6 (some (.int kc))) (lr_57 8 rfl) rfl (Nat.le_of_ble_eq_true rfl) rfl ?_
    refine AW.aload_n (z := 2) (lr_57 9 rfl) rfl rfl ?_
    refine AW.sarg (k := 1) (lr_57 10 rfl) (lr_57 11 rfl) (lr_57 12 rfl) (lr_57 13 rfl) (lr_57 14 rfl) rfl rfl rfl rfl ((LH_low hl2 hbs).trans hsc) (by omega) hn ?_
    refine AW.callV (N := MX10_write) (As := [.int (xs (i + 1))]) (S := []) (b := B + 129) (lr_57 15 rfl) rfl ovX10_write q2034 rfl rfl (LH_m hl2) rfl rfl rfl rfl ?_
    refine AW.heq (LH_mb (T := T) (T' := T) hl2).symm ?_
    refine dX10_write (Nat.le_trans hB (by omega)) h5 (cQ_r ?_)
    refine AW.heq (LH_mb hl2) ?_
    refine AW.istore (L' := (((LL bs B i).set 6 (some (.int kc))).set 7 (some (.int b1)))) (lr_57 16 rfl) rfl (Nat.le_of_ble_eq_true rfl) rfl ?_
    refine AW.aload_n (z := 2) (lr_57 17 rfl) rfl rfl ?_
    refine AW.callV (N := MX10_thrown) (As := []) (S := []) (b := B + 129) (lr_57 18 rfl) rfl ovX10_thrown q1576 rfl rfl (LH_m hl2) rfl rfl rfl rfl ?_
    refine AW.heq (LH_mb (T := T1) (T' := T1) hl2).symm ?_
    refine dX10_thrown (Nat.le_trans hB (by omega)) hk (cQ_r ?_)
    refine AW.heq (LH_mb hl2) ?_
    refine AW.iload (lr_57 19 rfl) rfl rfl ?_
    refine AW.icmp_eq (tg := 3477) (lr_57 20 rfl) rfl rfl (fun _ => ?_) (fun hc => absurd rfl hc)
    refine AW.iload (lr_57 23 rfl) rfl rfl ?_
    refine AW.if_ne (tg := 3494) (lr_57 24 rfl) rfl rfl (fun _ => ?_) (fun hc => ?_)
    · refine AW.goto (tg := 3611) (lr_57 34 rfl) rfl ?_
      refine AW.lessL (L' := LL bs B i) ⟨rfl, rfl, rfl, rfl, rfl, rfl, trivial⟩ ?_
      exact k _ _ _ _ hI2
    have hv2 := hv hc
    refine AW.aload_n (z := 3) (lr_57 25 rfl) rfl rfl ?_
    refine AW.iconst (lr_57 26 rfl) rfl ci_0 ?_
    refine AW.lald (v := .long o2) (lr_57 27 rfl) rfl (LH_o hl2) (vp_of_inb rfl) rfl ?_
    refine AW.iload (lr_57 28 rfl) rfl rfl ?_
    refine AW.i2l (lr_57 29 rfl) rfl ?_
    rw [hv2, h6]
    refine AW.lcmp (lr_57 30 rfl) rfl ?_
    refine AW.if_eq (tg := 3494) (lr_57 31 rfl) rfl rfl (fun _ => ?_) (fun hc => absurd (lg_cmp_s _) hc)
    refine AW.goto (tg := 3611) (lr_57 34 rfl) rfl ?_
    refine AW.lessL (L' := LL bs B i) ⟨rfl, rfl, rfl, rfl, rfl, rfl, trivial⟩ ?_
    exact k _ _ _ _ hI2
  refine AW.callSH (N := ML_write) (As := [.ref B, .int (xs (i + 1)), .ref (B + 139)]) (S := []) (lr_57 7 rfl) rfl ohL_write q1482 rfl rfl rfl rfl rfl ?_
  refine hL_write hB hst h1 hlr (fun v hv => ?_) (fun e he => ?_)
  · obtain ⟨q1, q2, q3⟩ := h3 v hv
    refine cQ_r ?_
    exact key _ _ _ _ hlr q1 (fun _ => q2) q3
  · obtain ⟨q1, q2, q3⟩ := h4 e he
    refine ⟨_, q1, fun z z1 z2 => cQ_r ?_⟩
    exact key _ _ _ _ hlr rfl (fun h => absurd h q2) (q3 z z1 z2)
set_option maxRecDepth 100000 in
theorem cL_58 {g : AG} {h0 : AH} {B bs n i : Nat} {S : XT} {T : Mem} {o : Int64} {d : UInt64} {Q : AO → AH → Prop} {xs : Nat → Int32} {I : XT → Mem → Prop} (hB : gB g ≤ B) (hst : Sta g h0) (hbs : bs < B) (hsc : h0.1 bs = some (.inl (0, n, .inl xs))) (hn : n ≤ 3072) (hi : i + 5 < n) (hI : ∀ S T, I S T → lrw B S.2.2.1) (hl : lrw B S.2.2.1) (hpf : PFA (uA (sX9_outputByte S B (xs (i + 1))) S) (sX10_outputByte T (xs (i + 1))) I) (k : ∀ S' T' o' d', I S' T' → AW g ML_law 3611 (LL bs B i) [] (LH h0 B S' T' o' d') Q) : AW g ML_law 3497 (LL bs B i) [] (LH h0 B S T o d) Q := by
  obtain ⟨v, S1, T1, h1, h2, h3⟩ := hpf
  have hl1 := hI _ _ h3
  cases e1 : sX9_outputByte S B (xs (i + 1)) with
  | none => rw [e1] at h1; cases h1
  | some v1 =>
    rw [e1] at h1
    cases h1
    refine AW.aload_n (z := 1) (lr_58 0 rfl) rfl rfl ?_
    refine AW.sarg (k := 1) (lr_58 1 rfl) (lr_58 2 rfl) (lr_58 3 rfl) (lr_58 4 rfl) (lr_58 5 rfl) rfl rfl rfl rfl ((LH_low hl hbs).trans hsc) (by omega) hn ?_
    refine AW.callV (N := MX9_outputByte) (As := [.int (xs (i + 1))]) (S := []) (b := B) (lr_58 6 rfl) rfl ovX9_outputByte q735 rfl rfl LH_x rfl rfl rfl rfl ?_
    refine dX9_outputByte hB (sta_lb hst hB) e1 (cQ_r ?_)
    show AW g ML_law 3507 _ _ (LH h0 B S T o d) Q
    refine AW.aload_n (z := 2) (lr_58 7 rfl) rfl rfl ?_
    refine AW.sarg (k := 1) (lr_58 8 rfl) (lr_58 9 rfl) (lr_58 10 rfl) (lr_58 11 rfl) (lr_58 12 rfl) rfl rfl rfl rfl ((LH_low hl1 hbs).trans hsc) (by omega) hn ?_
    refine AW.callV (N := MX10_outputByte) (As := [.int (xs (i + 1))]) (S := [.int v]) (b := B + 129) (lr_58 13 rfl) rfl ovX10_outputByte q2042 rfl rfl (LH_m hl1) rfl rfl rfl rfl ?_
    refine AW.heq (LH_mb (T := T) (T' := T) hl1).symm ?_
    refine dX10_outputByte (Nat.le_trans hB (by omega)) h2 (cQ_r ?_)
    refine AW.heq (LH_mb hl1) ?_
    refine AW.icmp_eq (tg := 3611) (lr_58 14 rfl) rfl rfl (fun _ => k _ _ _ _ h3) (fun hc => absurd rfl hc)
set_option maxRecDepth 100000 in
theorem cL_59 {g : AG} {h0 : AH} {B bs n i : Nat} {S : XT} {T : Mem} {o : Int64} {d : UInt64} {Q : AO → AH → Prop} {xs : Nat → Int32} {I : XT → Mem → Prop} (hB : gB g ≤ B) (hst : Sta g h0) (hbs : bs < B) (hsc : h0.1 bs = some (.inl (0, n, .inl xs))) (hn : n ≤ 3072) (hi : i + 5 < n) (hI : ∀ S T, I S T → lrw B S.2.2.1) (hl : lrw B S.2.2.1) (hpf : PFA (uE (sX9_play S B)) (sX10_play T) I) (k : ∀ S' T' o' d', I S' T' → AW g ML_law 3611 (LL bs B i) [] (LH h0 B S' T' o' d') Q) : AW g ML_law 3522 (LL bs B i) [] (LH h0 B S T o d) Q := by
  obtain ⟨v, S1, T1, h1, h2, h3⟩ := hpf
  have hl1 := hI _ _ h3
  cases e1 : sX9_play S B with
  | none => rw [e1] at h1; cases h1
  | some r1 =>
    rw [e1] at h1
    cases r1 with
    | error e => cases h1
    | ok r2 =>
      cases h1
      refine AW.aload_n (z := 1) (lr_59 0 rfl) rfl rfl ?_
      refine AW.callV (N := MX9_play) (As := []) (S := []) (b := B) (lr_59 1 rfl) rfl ovX9_play q739 rfl rfl LH_x rfl rfl rfl rfl ?_
      refine dX9_play hB (sta_lb hst hB) e1 ⟨fun v h => ?_, fun e h => nomatch h⟩
      cases h
      refine cQ_r ?_
      show AW g ML_law 3526 _ _ (LH h0 B S1 T o d) Q
      refine AW.aload_n (z := 2) (lr_59 2 rfl) rfl rfl ?_
      refine AW.callV (N := MX10_play) (As := []) (S := [.int v]) (b := B + 129) (lr_59 3 rfl) rfl ovX10_play q2139 rfl rfl (LH_m hl1) rfl rfl rfl rfl ?_
      refine AW.heq (LH_mb (T := T) (T' := T) hl1).symm ?_
      refine dX10_play (Nat.le_trans hB (by omega)) h2 (cQ_r ?_)
      refine AW.heq (LH_mb hl1) ?_
      refine AW.icmp_eq (tg := 3611) (lr_59 4 rfl) rfl rfl (fun _ => k _ _ _ _ h3) (fun hc => absurd rfl hc)
set_option maxRecDepth 100000 in
theorem cL_60 {g : AG} {h0 : AH} {B bs n i : Nat} {S : XT} {T : Mem} {o : Int64} {d : UInt64} {Q : AO → AH → Prop} {xs : Nat → Int32} {I : XT → Mem → Prop} (hB : gB g ≤ B) (hst : Sta g h0) (hbs : bs < B) (hsc : h0.1 bs = some (.inl (0, n, .inl xs))) (hn : n ≤ 3072) (hi : i + 5 < n) (hI : ∀ S T, I S T → lrw B S.2.2.1) (hl : lrw B S.2.2.1) (hpf : PFA (sX9_undo S B) (sX10_undo T) I) (k : ∀ S' T' o' d', I S' T' → AW g ML_law 3611 (LL bs B i) [] (LH h0 B S' T' o' d') Q) : AW g ML_law 3535 (LL bs B i) [] (LH h0 B S T o d) Q := by
  obtain ⟨v, S1, T1, h1, h2, h3⟩ := hpf
  have hl1 := hI _ _ h3
  refine AW.aload_n (z := 1) (lr_60 0 rfl) rfl rfl ?_
  refine AW.callV (N := MX9_undo) (As := []) (S := []) (b := B) (lr_60 1 rfl) rfl ovX9_undo q1019 rfl rfl LH_x rfl rfl rfl rfl ?_
  refine dX9_undo hB (sta_lb hst hB) h1 (cQ_r ?_)
  show AW g ML_law 3539 _ _ (LH h0 B S1 T o d) Q
  refine AW.aload_n (z := 2) (lr_60 2 rfl) rfl rfl ?_
  refine AW.callV (N := MX10_undo) (As := []) (S := [.int v]) (b := B + 129) (lr_60 3 rfl) rfl ovX10_undo q1580 rfl rfl (LH_m hl1) rfl rfl rfl rfl ?_
  refine AW.heq (LH_mb (T := T) (T' := T) hl1).symm ?_
  refine dX10_undo (Nat.le_trans hB (by omega)) h2 (cQ_r ?_)
  refine AW.heq (LH_mb hl1) ?_
  refine AW.icmp_eq (tg := 3611) (lr_60 4 rfl) rfl rfl (fun _ => k _ _ _ _ h3) (fun hc => absurd rfl hc)
set_option maxRecDepth 100000 in
theorem cL_61 {g : AG} {h0 : AH} {B bs n i : Nat} {S : XT} {T : Mem} {o : Int64} {d : UInt64} {Q : AO → AH → Prop} {xs : Nat → Int32} {I : XT → Mem → Prop} (hB : gB g ≤ B) (hst : Sta g h0) (hbs : bs < B) (hsc : h0.1 bs = some (.inl (0, n, .inl xs))) (hn : n ≤ 3072) (hi : i + 5 < n) (hI : ∀ S T, I S T → lrw B S.2.2.1) (hl : lrw B S.2.2.1) (hpf : PFA (uA (sX9_digest S B ) S) (sX10_digest T) I) (k : ∀ S' T' o' d', I S' T' → AW g ML_law 3611 (LL bs B i) [] (LH h0 B S' T' o' d') Q) : AW g ML_law 3548 (LL bs B i) [] (LH h0 B S T o d) Q := by
  obtain ⟨v, S1, T1, h1, h2, h3⟩ := hpf
  have hl1 := hI _ _ h3
  cases e1 : sX9_digest S B  with
  | none => rw [e1] at h1; cases h1
  | some v1 =>
    rw [e1] at h1
    cases h1
    refine AW.aload_n (z := 1) (lr_61 0 rfl) rfl rfl ?_
    refine AW.callV (N := MX9_digest) (As := []) (S := []) (b := B) (lr_61 1 rfl) rfl ovX9_digest q1027 rfl rfl LH_x rfl rfl rfl rfl ?_
    refine dX9_digest hB (sta_lb hst hB) e1 (cQ_r ?_)
    show AW g ML_law 3552 _ _ (LH h0 B S T o d) Q
    refine AW.aload_n (z := 2) (lr_61 2 rfl) rfl rfl ?_
    refine AW.callV (N := MX10_digest) (As := []) (S := [.int v]) (b := B + 129) (lr_61 3 rfl) rfl ovX10_digest q2030 rfl rfl (LH_m hl1) rfl rfl rfl rfl ?_
    refine AW.heq (LH_mb (T := T) (T' := T) hl1).symm ?_
    refine dX10_digest (Nat.le_trans hB (by omega)) h2 (cQ_r ?_)
    refine AW.heq (LH_mb hl1) ?_
    refine AW.icmp_eq (tg := 3611) (lr_61 4 rfl) rfl rfl (fun _ => k _ _ _ _ h3) (fun hc => absurd rfl hc)
set_option maxRecDepth 100000 in
theorem cL_62 {g : AG} {h0 : AH} {B bs n i : Nat} {S : XT} {T : Mem} {o : Int64} {d : UInt64} {Q : AO → AH → Prop} {xs : Nat → Int32} {I : XT → Mem → Prop} (hB : gB g ≤ B) (hst : Sta g h0) (hbs : bs < B) (hsc : h0.1 bs = some (.inl (0, n, .inl xs))) (hn : n ≤ 3072) (hi : i + 5 < n) (hI : ∀ S T, I S T → lrw B S.2.2.1) (hl : lrw B S.2.2.1) (hpf : PFA (sX9_saveSnapshot S B (xs (i + 1))) (sX10_saveSnapshot T (xs (i + 1))) I) (k : ∀ S' T' o' d', I S' T' → AW g ML_law 3611 (LL bs B i) [] (LH h0 B S' T' o' d') Q) : AW g ML_law 3561 (LL bs B i) [] (LH h0 B S T o d) Q := by
  obtain ⟨v, S1, T1, h1, h2, h3⟩ := hpf
  have hl1 := hI _ _ h3
  refine AW.aload_n (z := 1) (lr_62 0 rfl) rfl rfl ?_
  refine AW.sarg (k := 1) (lr_62 1 rfl) (lr_62 2 rfl) (lr_62 3 rfl) (lr_62 4 rfl) (lr_62 5 rfl) rfl rfl rfl rfl ((LH_low hl hbs).trans hsc) (by omega) hn ?_
  refine AW.callV (N := MX9_saveSnapshot) (As := [.int (xs (i + 1))]) (S := []) (b := B) (lr_62 6 rfl) rfl ovX9_saveSnapshot q1031 rfl rfl LH_x rfl rfl rfl rfl ?_
  refine dX9_saveSnapshot hB (sta_lb hst hB) h1 (fun _ => cQ_r ?_)
  show AW g ML_law 3571 _ _ (LH h0 B S1 T o d) Q
  refine AW.aload_n (z := 2) (lr_62 7 rfl) rfl rfl ?_
  refine AW.sarg (k := 1) (lr_62 8 rfl) (lr_62 9 rfl) (lr_62 10 rfl) (lr_62 11 rfl) (lr_62 12 rfl) rfl rfl rfl rfl ((LH_low hl1 hbs).trans hsc) (by omega) hn ?_
  refine AW.callV (N := MX10_saveSnapshot) (As := [.int (xs (i + 1))]) (S := [.int v]) (b := B + 129) (lr_62 13 rfl) rfl ovX10_saveSnapshot q1588 rfl rfl (LH_m hl1) rfl rfl rfl rfl ?_
  refine AW.heq (LH_mb (T := T) (T' := T) hl1).symm ?_
  refine dX10_saveSnapshot (Nat.le_trans hB (by omega)) h2 (fun _ => cQ_r ?_)
  refine AW.heq (LH_mb hl1) ?_
  refine AW.icmp_eq (tg := 3611) (lr_62 14 rfl) rfl rfl (fun _ => k _ _ _ _ h3) (fun hc => absurd rfl hc)
set_option maxRecDepth 100000 in
theorem cL_63 {g : AG} {h0 : AH} {B bs n i : Nat} {S : XT} {T : Mem} {o : Int64} {d : UInt64} {Q : AO → AH → Prop} {xs : Nat → Int32} {I : XT → Mem → Prop} (hB : gB g ≤ B) (hst : Sta g h0) (hbs : bs < B) (hsc : h0.1 bs = some (.inl (0, n, .inl xs))) (hn : n ≤ 3072) (hi : i + 5 < n) (hI : ∀ S T, I S T → lrw B S.2.2.1) (hl : lrw B S.2.2.1) (hpf : PFA (sX9_restoreSnapshot S B (xs (i + 1))) (sX10_restoreSnapshot T (xs (i + 1))) I) (k : ∀ S' T' o' d', I S' T' → AW g ML_law 3611 (LL bs B i) [] (LH h0 B S' T' o' d') Q) : AW g ML_law 3586 (LL bs B i) [] (LH h0 B S T o d) Q := by
  obtain ⟨v, S1, T1, h1, h2, h3⟩ := hpf
  have hl1 := hI _ _ h3
  refine AW.aload_n (z := 1) (lr_63 0 rfl) rfl rfl ?_
  refine AW.sarg (k := 1) (lr_63 1 rfl) (lr_63 2 rfl) (lr_63 3 rfl) (lr_63 4 rfl) (lr_63 5 rfl) rfl rfl rfl rfl ((LH_low hl hbs).trans hsc) (by omega) hn ?_
  refine AW.callV (N := MX9_restoreSnapshot) (As := [.int (xs (i + 1))]) (S := []) (b := B) (lr_63 6 rfl) rfl ovX9_restoreSnapshot q1036 rfl rfl LH_x rfl rfl rfl rfl ?_
  refine dX9_restoreSnapshot hB (sta_lb hst hB) h1 (fun _ => cQ_r ?_)
  show AW g ML_law 3596 _ _ (LH h0 B S1 T o d) Q
  refine AW.aload_n (z := 2) (lr_63 7 rfl) rfl rfl ?_
  refine AW.sarg (k := 1) (lr_63 8 rfl) (lr_63 9 rfl) (lr_63 10 rfl) (lr_63 11 rfl) (lr_63 12 rfl) rfl rfl rfl rfl ((LH_low hl1 hbs).trans hsc) (by omega) hn ?_
  refine AW.callV (N := MX10_restoreSnapshot) (As := [.int (xs (i + 1))]) (S := [.int v]) (b := B + 129) (lr_63 13 rfl) rfl ovX10_restoreSnapshot q1595 rfl rfl (LH_m hl1) rfl rfl rfl rfl ?_
  refine AW.heq (LH_mb (T := T) (T' := T) hl1).symm ?_
  refine dX10_restoreSnapshot (Nat.le_trans hB (by omega)) h2 (fun _ => cQ_r ?_)
  refine AW.heq (LH_mb hl1) ?_
  refine AW.icmp_eq (tg := 3611) (lr_63 14 rfl) rfl rfl (fun _ => k _ _ _ _ h3) (fun hc => absurd rfl hc)
