/-! ===== THE LAW'S CASES (laid by a program), 1 ===== -/
set_option maxRecDepth 100000 in
theorem cL_0 {g : AG} {h0 : AH} {B bs n i : Nat} {S : XT} {T : Mem} {o : Int64} {d : UInt64} {Q : AO → AH → Prop} {xs : Nat → Int32} {I : XT → Mem → Prop} (hB : gB g ≤ B) (hst : Sta g h0) (hbs : bs < B) (hsc : h0.1 bs = some (.inl (0, n, .inl xs))) (hn : n ≤ 3072) (hi : i + 5 < n) (hI : ∀ S T, I S T → lrw B S.2.2.1) (hl : lrw B S.2.2.1) (hpf : PFA (sX9_appendInput S B (xs (i + 1)) (xs (i + 2)) (xs (i + 3)) (xs (i + 4)) (xs (i + 5))) (sX10_appendInput T (xs (i + 1)) (xs (i + 2)) (xs (i + 3)) (xs (i + 4)) (xs (i + 5))) I) (k : ∀ S' T' o' d', I S' T' → AW g ML_law 3611 (LL bs B i) [] (LH h0 B S' T' o' d') Q) : AW g ML_law 316 (LL bs B i) [] (LH h0 B S T o d) Q := by
  obtain ⟨v, S1, T1, h1, h2, h3⟩ := hpf
  have hl1 := hI _ _ h3
  refine AW.aload_n (z := 1) (lr_0 0 rfl) rfl rfl ?_
  refine AW.sarg (k := 1) (lr_0 1 rfl) (lr_0 2 rfl) (lr_0 3 rfl) (lr_0 4 rfl) (lr_0 5 rfl) rfl rfl rfl rfl ((LH_low hl hbs).trans hsc) (by omega) hn ?_
  refine AW.sarg (k := 2) (lr_0 6 rfl) (lr_0 7 rfl) (lr_0 8 rfl) (lr_0 9 rfl) (lr_0 10 rfl) rfl rfl rfl rfl ((LH_low hl hbs).trans hsc) (by omega) hn ?_
  refine AW.sarg (k := 3) (lr_0 11 rfl) (lr_0 12 rfl) (lr_0 13 rfl) (lr_0 14 rfl) (lr_0 15 rfl) rfl rfl rfl rfl ((LH_low hl hbs).trans hsc) (by omega) hn ?_
  refine AW.sarg (k := 4) (lr_0 16 rfl) (lr_0 17 rfl) (lr_0 18 rfl) (lr_0 19 rfl) (lr_0 20 rfl) rfl rfl rfl rfl ((LH_low hl hbs).trans hsc) (by omega) hn ?_
  refine AW.sarg (k := 5) (lr_0 21 rfl) (lr_0 22 rfl) (lr_0 23 rfl) (lr_0 24 rfl) (lr_0 25 rfl) rfl rfl rfl rfl ((LH_low hl hbs).trans hsc) (by omega) hn ?_
  refine AW.callV (N := MX9_appendInput) (As := [.int (xs (i + 1)), .int (xs (i + 2)), .int (xs (i + 3)), .int (xs (i + 4)), .int (xs (i + 5))]) (S := []) (b := B) (lr_0 26 rfl) rfl ovX9_appendInput q420 rfl rfl LH_x rfl rfl rfl rfl ?_
  refine dX9_appendInput hB (sta_lb hst hB) h1 (cQ_r ?_)
  show AW g ML_law 350 _ _ (LH h0 B S1 T o d) Q
  refine AW.aload_n (z := 2) (lr_0 27 rfl) rfl rfl ?_
  refine AW.sarg (k := 1) (lr_0 28 rfl) (lr_0 29 rfl) (lr_0 30 rfl) (lr_0 31 rfl) (lr_0 32 rfl) rfl rfl rfl rfl ((LH_low hl1 hbs).trans hsc) (by omega) hn ?_
  refine AW.sarg (k := 2) (lr_0 33 rfl) (lr_0 34 rfl) (lr_0 35 rfl) (lr_0 36 rfl) (lr_0 37 rfl) rfl rfl rfl rfl ((LH_low hl1 hbs).trans hsc) (by omega) hn ?_
  refine AW.sarg (k := 3) (lr_0 38 rfl) (lr_0 39 rfl) (lr_0 40 rfl) (lr_0 41 rfl) (lr_0 42 rfl) rfl rfl rfl rfl ((LH_low hl1 hbs).trans hsc) (by omega) hn ?_
  refine AW.sarg (k := 4) (lr_0 43 rfl) (lr_0 44 rfl) (lr_0 45 rfl) (lr_0 46 rfl) (lr_0 47 rfl) rfl rfl rfl rfl ((LH_low hl1 hbs).trans hsc) (by omega) hn ?_
  refine AW.sarg (k := 5) (lr_0 48 rfl) (lr_0 49 rfl) (lr_0 50 rfl) (lr_0 51 rfl) (lr_0 52 rfl) rfl rfl rfl rfl ((LH_low hl1 hbs).trans hsc) (by omega) hn ?_
  refine AW.callV (N := MX10_appendInput) (As := [.int (xs (i + 1)), .int (xs (i + 2)), .int (xs (i + 3)), .int (xs (i + 4)), .int (xs (i + 5))]) (S := [.int v]) (b := B + 129) (lr_0 53 rfl) rfl ovX10_appendInput q2046 rfl rfl (LH_m hl1) rfl rfl rfl rfl ?_
  refine AW.heq (LH_mb (T := T) (T' := T) hl1).symm ?_
  refine dX10_appendInput (Nat.le_trans hB (by omega)) h2 (cQ_r ?_)
  refine AW.heq (LH_mb hl1) ?_
  refine AW.icmp_eq (tg := 3611) (lr_0 54 rfl) rfl rfl (fun _ => k _ _ _ _ h3) (fun hc => absurd rfl hc)
set_option maxRecDepth 100000 in
theorem cL_1 {g : AG} {h0 : AH} {B bs n i : Nat} {S : XT} {T : Mem} {o : Int64} {d : UInt64} {Q : AO → AH → Prop} {xs : Nat → Int32} {I : XT → Mem → Prop} (hB : gB g ≤ B) (hst : Sta g h0) (hbs : bs < B) (hsc : h0.1 bs = some (.inl (0, n, .inl xs))) (hn : n ≤ 3072) (hi : i + 5 < n) (hI : ∀ S T, I S T → lrw B S.2.2.1) (hl : lrw B S.2.2.1) (hpf : PFA (sX9_truncateInput S B (xs (i + 1))) (some (sX10_truncateInput T (xs (i + 1)))) I) (k : ∀ S' T' o' d', I S' T' → AW g ML_law 3611 (LL bs B i) [] (LH h0 B S' T' o' d') Q) : AW g ML_law 389 (LL bs B i) [] (LH h0 B S T o d) Q := by
  obtain ⟨v, S1, T1, h1, h2, h3⟩ := hpf
  have h2 := Option.some.inj h2
  have hl1 := hI _ _ h3
  refine AW.aload_n (z := 1) (lr_1 0 rfl) rfl rfl ?_
  refine AW.sarg (k := 1) (lr_1 1 rfl) (lr_1 2 rfl) (lr_1 3 rfl) (lr_1 4 rfl) (lr_1 5 rfl) rfl rfl rfl rfl ((LH_low hl hbs).trans hsc) (by omega) hn ?_
  refine AW.callV (N := MX9_truncateInput) (As := [.int (xs (i + 1))]) (S := []) (b := B) (lr_1 6 rfl) rfl ovX9_truncateInput q436 rfl rfl LH_x rfl rfl rfl rfl ?_
  refine dX9_truncateInput hB (sta_lb hst hB) h1 (cQ_r ?_)
  show AW g ML_law 399 _ _ (LH h0 B S1 T o d) Q
  refine AW.aload_n (z := 2) (lr_1 7 rfl) rfl rfl ?_
  refine AW.sarg (k := 1) (lr_1 8 rfl) (lr_1 9 rfl) (lr_1 10 rfl) (lr_1 11 rfl) (lr_1 12 rfl) rfl rfl rfl rfl ((LH_low hl1 hbs).trans hsc) (by omega) hn ?_
  refine AW.callV (N := MX10_truncateInput) (As := [.int (xs (i + 1))]) (S := [.int v]) (b := B + 129) (lr_1 13 rfl) rfl ovX10_truncateInput q2054 rfl rfl (LH_m hl1) rfl rfl rfl rfl ?_
  refine AW.heq (LH_mb (T := T) (T' := T) hl1).symm ?_
  refine dX10_truncateInput (Nat.le_trans hB (by omega)) h2 (cQ_r ?_)
  refine AW.heq (LH_mb hl1) ?_
  refine AW.icmp_eq (tg := 3611) (lr_1 14 rfl) rfl rfl (fun _ => k _ _ _ _ h3) (fun hc => absurd rfl hc)
set_option maxRecDepth 100000 in
theorem cL_2 {g : AG} {h0 : AH} {B bs n i : Nat} {S : XT} {T : Mem} {o : Int64} {d : UInt64} {Q : AO → AH → Prop} {xs : Nat → Int32} {I : XT → Mem → Prop} (hB : gB g ≤ B) (hst : Sta g h0) (hbs : bs < B) (hsc : h0.1 bs = some (.inl (0, n, .inl xs))) (hn : n ≤ 3072) (hi : i + 5 < n) (hI : ∀ S T, I S T → lrw B S.2.2.1) (hl : lrw B S.2.2.1) (hpf : PFA (sX9_load S B) (sX10_load T) I) (k : ∀ S' T' o' d', I S' T' → AW g ML_law 3611 (LL bs B i) [] (LH h0 B S' T' o' d') Q) : AW g ML_law 414 (LL bs B i) [] (LH h0 B S T o d) Q := by
  obtain ⟨v, S1, T1, h1, h2, h3⟩ := hpf
  have hl1 := hI _ _ h3
  refine AW.aload_n (z := 1) (lr_2 0 rfl) rfl rfl ?_
  refine AW.callV (N := MX9_load) (As := []) (S := []) (b := B) (lr_2 1 rfl) rfl ovX9_load q440 rfl rfl LH_x rfl rfl rfl rfl ?_
  refine dX9_load hB (sta_lb hst hB) h1 (cQ_r ?_)
  show AW g ML_law 418 _ _ (LH h0 B S1 T o d) Q
  refine AW.aload_n (z := 2) (lr_2 2 rfl) rfl rfl ?_
  refine AW.callV (N := MX10_load) (As := []) (S := [.int v]) (b := B + 129) (lr_2 3 rfl) rfl ovX10_load q2066 rfl rfl (LH_m hl1) rfl rfl rfl rfl ?_
  refine AW.heq (LH_mb (T := T) (T' := T) hl1).symm ?_
  refine dX10_load (Nat.le_trans hB (by omega)) h2 (cQ_r ?_)
  refine AW.heq (LH_mb hl1) ?_
  refine AW.icmp_eq (tg := 3611) (lr_2 4 rfl) rfl rfl (fun _ => k _ _ _ _ h3) (fun hc => absurd rfl hc)
set_option maxRecDepth 100000 in
theorem cL_3 {g : AG} {h0 : AH} {B bs n i : Nat} {S : XT} {T : Mem} {o : Int64} {d : UInt64} {Q : AO → AH → Prop} {xs : Nat → Int32} {I : XT → Mem → Prop} (hB : gB g ≤ B) (hst : Sta g h0) (hbs : bs < B) (hsc : h0.1 bs = some (.inl (0, n, .inl xs))) (hn : n ≤ 3072) (hi : i + 5 < n) (hI : ∀ S T, I S T → lrw B S.2.2.1) (hl : lrw B S.2.2.1) (hpf : PFA (uA (sX9_errorCode S B ) S) (some (sX10_errorCode T )) I) (k : ∀ S' T' o' d', I S' T' → AW g ML_law 3611 (LL bs B i) [] (LH h0 B S' T' o' d') Q) : AW g ML_law 427 (LL bs B i) [] (LH h0 B S T o d) Q := by
  obtain ⟨v, S1, T1, h1, h2, h3⟩ := hpf
  have h2 := Option.some.inj h2
  have hl1 := hI _ _ h3
  cases e1 : sX9_errorCode S B  with
  | none => rw [e1] at h1; cases h1
  | some v1 =>
    rw [e1] at h1
    cases h1
    refine AW.aload_n (z := 1) (lr_3 0 rfl) rfl rfl ?_
    refine AW.callV (N := MX9_errorCode) (As := []) (S := []) (b := B) (lr_3 1 rfl) rfl ovX9_errorCode q664 rfl rfl LH_x rfl rfl rfl rfl ?_
    refine dX9_errorCode hB (sta_lb hst hB) e1 (cQ_r ?_)
    show AW g ML_law 431 _ _ (LH h0 B S T o d) Q
    refine AW.aload_n (z := 2) (lr_3 2 rfl) rfl rfl ?_
    refine AW.callV (N := MX10_errorCode) (As := []) (S := [.int v]) (b := B + 129) (lr_3 3 rfl) rfl ovX10_errorCode q2058 rfl rfl (LH_m hl1) rfl rfl rfl rfl ?_
    refine AW.heq (LH_mb (T := T) (T' := T) hl1).symm ?_
    refine dX10_errorCode (Nat.le_trans hB (by omega)) h2 (cQ_r ?_)
    refine AW.heq (LH_mb hl1) ?_
    refine AW.icmp_eq (tg := 3611) (lr_3 4 rfl) rfl rfl (fun _ => k _ _ _ _ h3) (fun hc => absurd rfl hc)
set_option maxRecDepth 100000 in
theorem cL_4 {g : AG} {h0 : AH} {B bs n i : Nat} {S : XT} {T : Mem} {o : Int64} {d : UInt64} {Q : AO → AH → Prop} {xs : Nat → Int32} {I : XT → Mem → Prop} (hB : gB g ≤ B) (hst : Sta g h0) (hbs : bs < B) (hsc : h0.1 bs = some (.inl (0, n, .inl xs))) (hn : n ≤ 3072) (hi : i + 5 < n) (hI : ∀ S T, I S T → lrw B S.2.2.1) (hl : lrw B S.2.2.1) (hpf : PFA (uA (sX9_errorPosition S B ) S) (some (sX10_errorPosition T )) I) (k : ∀ S' T' o' d', I S' T' → AW g ML_law 3611 (LL bs B i) [] (LH h0 B S' T' o' d') Q) : AW g ML_law 440 (LL bs B i) [] (LH h0 B S T o d) Q := by
  obtain ⟨v, S1, T1, h1, h2, h3⟩ := hpf
  have h2 := Option.some.inj h2
  have hl1 := hI _ _ h3
  cases e1 : sX9_errorPosition S B  with
  | none => rw [e1] at h1; cases h1
  | some v1 =>
    rw [e1] at h1
    cases h1
    refine AW.aload_n (z := 1) (lr_4 0 rfl) rfl rfl ?_
    refine AW.callV (N := MX9_errorPosition) (As := []) (S := []) (b := B) (lr_4 1 rfl) rfl ovX9_errorPosition q668 rfl rfl LH_x rfl rfl rfl rfl ?_
    refine dX9_errorPosition hB (sta_lb hst hB) e1 (cQ_r ?_)
    show AW g ML_law 444 _ _ (LH h0 B S T o d) Q
    refine AW.aload_n (z := 2) (lr_4 2 rfl) rfl rfl ?_
    refine AW.callV (N := MX10_errorPosition) (As := []) (S := [.int v]) (b := B + 129) (lr_4 3 rfl) rfl ovX10_errorPosition q2062 rfl rfl (LH_m hl1) rfl rfl rfl rfl ?_
    refine AW.heq (LH_mb (T := T) (T' := T) hl1).symm ?_
    refine dX10_errorPosition (Nat.le_trans hB (by omega)) h2 (cQ_r ?_)
    refine AW.heq (LH_mb hl1) ?_
    refine AW.icmp_eq (tg := 3611) (lr_4 4 rfl) rfl rfl (fun _ => k _ _ _ _ h3) (fun hc => absurd rfl hc)
set_option maxRecDepth 100000 in
theorem cL_5 {g : AG} {h0 : AH} {B bs n i : Nat} {S : XT} {T : Mem} {o : Int64} {d : UInt64} {Q : AO → AH → Prop} {xs : Nat → Int32} {I : XT → Mem → Prop} (hB : gB g ≤ B) (hst : Sta g h0) (hbs : bs < B) (hsc : h0.1 bs = some (.inl (0, n, .inl xs))) (hn : n ≤ 3072) (hi : i + 5 < n) (hI : ∀ S T, I S T → lrw B S.2.2.1) (hl : lrw B S.2.2.1) (hpf : PFA (uA (sX9_count S B (xs (i + 1))) S) (sX10_count T (xs (i + 1))) I) (k : ∀ S' T' o' d', I S' T' → AW g ML_law 3611 (LL bs B i) [] (LH h0 B S' T' o' d') Q) : AW g ML_law 453 (LL bs B i) [] (LH h0 B S T o d) Q := by
  obtain ⟨v, S1, T1, h1, h2, h3⟩ := hpf
  have hl1 := hI _ _ h3
  cases e1 : sX9_count S B (xs (i + 1)) with
  | none => rw [e1] at h1; cases h1
  | some v1 =>
    rw [e1] at h1
    cases h1
    refine AW.aload_n (z := 1) (lr_5 0 rfl) rfl rfl ?_
    refine AW.sarg (k := 1) (lr_5 1 rfl) (lr_5 2 rfl) (lr_5 3 rfl) (lr_5 4 rfl) (lr_5 5 rfl) rfl rfl rfl rfl ((LH_low hl hbs).trans hsc) (by omega) hn ?_
    refine AW.callV (N := MX9_count) (As := [.int (xs (i + 1))]) (S := []) (b := B) (lr_5 6 rfl) rfl ovX9_count q672 rfl rfl LH_x rfl rfl rfl rfl ?_
    refine dX9_count hB (sta_lb hst hB) e1 (cQ_r ?_)
    show AW g ML_law 463 _ _ (LH h0 B S T o d) Q
    refine AW.aload_n (z := 2) (lr_5 7 rfl) rfl rfl ?_
    refine AW.sarg (k := 1) (lr_5 8 rfl) (lr_5 9 rfl) (lr_5 10 rfl) (lr_5 11 rfl) (lr_5 12 rfl) rfl rfl rfl rfl ((LH_low hl1 hbs).trans hsc) (by omega) hn ?_
    refine AW.callV (N := MX10_count) (As := [.int (xs (i + 1))]) (S := [.int v]) (b := B + 129) (lr_5 13 rfl) rfl ovX10_count q1799 rfl rfl (LH_m hl1) rfl rfl rfl rfl ?_
    refine AW.heq (LH_mb (T := T) (T' := T) hl1).symm ?_
    refine dX10_count (Nat.le_trans hB (by omega)) h2 (cQ_r ?_)
    refine AW.heq (LH_mb hl1) ?_
    refine AW.icmp_eq (tg := 3611) (lr_5 14 rfl) rfl rfl (fun _ => k _ _ _ _ h3) (fun hc => absurd rfl hc)
set_option maxRecDepth 100000 in
theorem cL_6 {g : AG} {h0 : AH} {B bs n i : Nat} {S : XT} {T : Mem} {o : Int64} {d : UInt64} {Q : AO → AH → Prop} {xs : Nat → Int32} {I : XT → Mem → Prop} (hB : gB g ≤ B) (hst : Sta g h0) (hbs : bs < B) (hsc : h0.1 bs = some (.inl (0, n, .inl xs))) (hn : n ≤ 3072) (hi : i + 5 < n) (hI : ∀ S T, I S T → lrw B S.2.2.1) (hl : lrw B S.2.2.1) (hpf : PFX (uP (sX9_press S B (xs (i + 1)) (xs (i + 2))) S) (mI (sX10_press T (xs (i + 1)) (xs (i + 2)))) co1 I) (k : ∀ S' T' o' d', I S' T' → AW g ML_law 3611 (LL bs B i) [] (LH h0 B S' T' o' d') Q) : AW g ML_law 478 (LL bs B i) [] (LH h0 B S T o d) Q := by
  obtain ⟨r, b, T1, h1, h2, h3, h4⟩ := hpf
  have hlr := PFX.lr hI (fun v h => (h3 v h).2.2) (fun e h => (h4 e h).2.2)
  obtain ⟨b1, h5, h6⟩ : ∃ b1, sX10_press T (xs (i + 1)) (xs (i + 2)) = some (b1, T1) ∧ b1.toInt64 = b := by
    unfold mI at h2
    cases e2 : sX10_press T (xs (i + 1)) (xs (i + 2)) with
    | none => rw [e2] at h2; cases h2
    | some r2 =>
      rw [e2] at h2
      cases h2
      exact ⟨r2.1, rfl, rfl⟩
  refine AW.aload_n (z := 1) (lr_6 0 rfl) rfl rfl ?_
  refine AW.sarg (k := 1) (lr_6 1 rfl) (lr_6 2 rfl) (lr_6 3 rfl) (lr_6 4 rfl) (lr_6 5 rfl) rfl rfl rfl rfl ((LH_low hl hbs).trans hsc) (by omega) hn ?_
  refine AW.sarg (k := 2) (lr_6 6 rfl) (lr_6 7 rfl) (lr_6 8 rfl) (lr_6 9 rfl) (lr_6 10 rfl) rfl rfl rfl rfl ((LH_low hl hbs).trans hsc) (by omega) hn ?_
  refine AW.aload_n (z := 3) (lr_6 11 rfl) rfl rfl ?_
  have key : ∀ (S2 : XT) (o2 : Int64) (d2 : UInt64) (kc : Int32), lrw B S2.2.2.1 → gi T1 100 6 0 = kc → (kc = 0 → o2 = b) → I S2 T1 → AW g ML_law 495 (LL bs B i) [.int kc] (LH h0 B S2 T o2 d2) Q := by
    intro S2 o2 d2 kc hl2 hk hv hI2
    refine AW.istore (L' := (LL bs B i).set 6 (some (.int kc))) (lr_6 13 rfl) rfl (Nat.le_of_ble_eq_true rfl) rfl ?_
    refine AW.aload_n (z := 2) (lr_6 14 rfl) rfl rfl ?_
    refine AW.sarg (k := 1) (lr_6 15 rfl) (lr_6 16 rfl) (lr_6 17 rfl) (lr_6 18 rfl) (lr_6 19 rfl) rfl rfl rfl rfl ((LH_low hl2 hbs).trans hsc) (by omega) hn ?_
    refine AW.sarg (k := 2) (lr_6 20 rfl) (lr_6 21 rfl) (lr_6 22 rfl) (lr_6 23 rfl) (lr_6 24 rfl) rfl rfl rfl rfl ((LH_low hl2 hbs).trans hsc) (by omega) hn ?_
    refine AW.callV (N := MX10_press) (As := [.int (xs (i + 1)), .int (xs (i + 2))]) (S := []) (b := B + 129) (lr_6 25 rfl) rfl ovX10_press q1807 rfl rfl (LH_m hl2) rfl rfl rfl rfl ?_
    refine AW.heq (LH_mb (T := T) (T' := T) hl2).symm ?_
    refine dX10_press (Nat.le_trans hB (by omega)) h5 (cQ_r ?_)
    refine AW.heq (LH_mb hl2) ?_
    refine AW.istore (L' := (((LL bs B i).set 6 (some (.int kc))).set 7 (some (.int b1)))) (lr_6 26 rfl) rfl (Nat.le_of_ble_eq_true rfl) rfl ?_
    refine AW.aload_n (z := 2) (lr_6 27 rfl) rfl rfl ?_
    refine AW.callV (N := MX10_thrown) (As := []) (S := []) (b := B + 129) (lr_6 28 rfl) rfl ovX10_thrown q1576 rfl rfl (LH_m hl2) rfl rfl rfl rfl ?_
    refine AW.heq (LH_mb (T := T1) (T' := T1) hl2).symm ?_
    refine dX10_thrown (Nat.le_trans hB (by omega)) hk (cQ_r ?_)
    refine AW.heq (LH_mb hl2) ?_
    refine AW.iload (lr_6 29 rfl) rfl rfl ?_
    refine AW.icmp_eq (tg := 526) (lr_6 30 rfl) rfl rfl (fun _ => ?_) (fun hc => absurd rfl hc)
    refine AW.iload (lr_6 33 rfl) rfl rfl ?_
    refine AW.if_ne (tg := 543) (lr_6 34 rfl) rfl rfl (fun _ => ?_) (fun hc => ?_)
    · refine AW.goto (tg := 3611) (lr_6 44 rfl) rfl ?_
      refine AW.lessL (L' := LL bs B i) ⟨rfl, rfl, rfl, rfl, rfl, rfl, trivial⟩ ?_
      exact k _ _ _ _ hI2
    have hv2 := hv hc
    refine AW.aload_n (z := 3) (lr_6 35 rfl) rfl rfl ?_
    refine AW.iconst (lr_6 36 rfl) rfl ci_0 ?_
    refine AW.lald (v := .long o2) (lr_6 37 rfl) rfl (LH_o hl2) (vp_of_inb rfl) rfl ?_
    refine AW.iload (lr_6 38 rfl) rfl rfl ?_
    refine AW.i2l (lr_6 39 rfl) rfl ?_
    rw [hv2, h6]
    refine AW.lcmp (lr_6 40 rfl) rfl ?_
    refine AW.if_eq (tg := 543) (lr_6 41 rfl) rfl rfl (fun _ => ?_) (fun hc => absurd (lg_cmp_s _) hc)
    refine AW.goto (tg := 3611) (lr_6 44 rfl) rfl ?_
    refine AW.lessL (L' := LL bs B i) ⟨rfl, rfl, rfl, rfl, rfl, rfl, trivial⟩ ?_
    exact k _ _ _ _ hI2
  refine AW.callSH (N := ML_press) (As := [.ref B, .int (xs (i + 1)), .int (xs (i + 2)), .ref (B + 139)]) (S := []) (lr_6 12 rfl) rfl ohL_press q1040 rfl rfl rfl rfl rfl ?_
  refine hL_press hB hst h1 hlr (fun v hv => ?_) (fun e he => ?_)
  · obtain ⟨q1, q2, q3⟩ := h3 v hv
    refine cQ_r ?_
    exact key _ _ _ _ hlr q1 (fun _ => q2) q3
  · obtain ⟨q1, q2, q3⟩ := h4 e he
    refine ⟨_, q1, fun z z1 z2 => cQ_r ?_⟩
    exact key _ _ _ _ hlr rfl (fun h => absurd h q2) (q3 z z1 z2)
set_option maxRecDepth 100000 in
theorem cL_7 {g : AG} {h0 : AH} {B bs n i : Nat} {S : XT} {T : Mem} {o : Int64} {d : UInt64} {Q : AO → AH → Prop} {xs : Nat → Int32} {I : XT → Mem → Prop} (hB : gB g ≤ B) (hst : Sta g h0) (hbs : bs < B) (hsc : h0.1 bs = some (.inl (0, n, .inl xs))) (hn : n ≤ 3072) (hi : i + 5 < n) (hI : ∀ S T, I S T → lrw B S.2.2.1) (hl : lrw B S.2.2.1) (hpf : PFX (uP (sX9_recipe S B (xs (i + 1)) (xs (i + 2))) S) (mI (sX10_recipe T (xs (i + 1)) (xs (i + 2)))) co1 I) (k : ∀ S' T' o' d', I S' T' → AW g ML_law 3611 (LL bs B i) [] (LH h0 B S' T' o' d') Q) : AW g ML_law 546 (LL bs B i) [] (LH h0 B S T o d) Q := by
  obtain ⟨r, b, T1, h1, h2, h3, h4⟩ := hpf
  have hlr := PFX.lr hI (fun v h => (h3 v h).2.2) (fun e h => (h4 e h).2.2)
  obtain ⟨b1, h5, h6⟩ : ∃ b1, sX10_recipe T (xs (i + 1)) (xs (i + 2)) = some (b1, T1) ∧ b1.toInt64 = b := by
    unfold mI at h2
    cases e2 : sX10_recipe T (xs (i + 1)) (xs (i + 2)) with
    | none => rw [e2] at h2; cases h2
    | some r2 =>
      rw [e2] at h2
      cases h2
      exact ⟨r2.1, rfl, rfl⟩
  refine AW.aload_n (z := 1) (lr_7 0 rfl) rfl rfl ?_
  refine AW.sarg (k := 1) (lr_7 1 rfl) (lr_7 2 rfl) (lr_7 3 rfl) (lr_7 4 rfl) (lr_7 5 rfl) rfl rfl rfl rfl ((LH_low hl hbs).trans hsc) (by omega) hn ?_
  refine AW.sarg (k := 2) (lr_7 6 rfl) (lr_7 7 rfl) (lr_7 8 rfl) (lr_7 9 rfl) (lr_7 10 rfl) rfl rfl rfl rfl ((LH_low hl hbs).trans hsc) (by omega) hn ?_
  refine AW.aload_n (z := 3) (lr_7 11 rfl) rfl rfl ?_
  have key : ∀ (S2 : XT) (o2 : Int64) (d2 : UInt64) (kc : Int32), lrw B S2.2.2.1 → gi T1 100 6 0 = kc → (kc = 0 → o2 = b) → I S2 T1 → AW g ML_law 563 (LL bs B i) [.int kc] (LH h0 B S2 T o2 d2) Q := by
    intro S2 o2 d2 kc hl2 hk hv hI2
    refine AW.istore (L' := (LL bs B i).set 6 (some (.int kc))) (lr_7 13 rfl) rfl (Nat.le_of_ble_eq_true rfl) rfl ?_
    refine AW.aload_n (z := 2) (lr_7 14 rfl) rfl rfl ?_
    refine AW.sarg (k := 1) (lr_7 15 rfl) (lr_7 16 rfl) (lr_7 17 rfl) (lr_7 18 rfl) (lr_7 19 rfl) rfl rfl rfl rfl ((LH_low hl2 hbs).trans hsc) (by omega) hn ?_
    refine AW.sarg (k := 2) (lr_7 20 rfl) (lr_7 21 rfl) (lr_7 22 rfl) (lr_7 23 rfl) (lr_7 24 rfl) rfl rfl rfl rfl ((LH_low hl2 hbs).trans hsc) (by omega) hn ?_
    refine AW.callV (N := MX10_recipe) (As := [.int (xs (i + 1)), .int (xs (i + 2))]) (S := []) (b := B + 129) (lr_7 25 rfl) rfl ovX10_recipe q1815 rfl rfl (LH_m hl2) rfl rfl rfl rfl ?_
    refine AW.heq (LH_mb (T := T) (T' := T) hl2).symm ?_
    refine dX10_recipe (Nat.le_trans hB (by omega)) h5 (cQ_r ?_)
    refine AW.heq (LH_mb hl2) ?_
    refine AW.istore (L' := (((LL bs B i).set 6 (some (.int kc))).set 7 (some (.int b1)))) (lr_7 26 rfl) rfl (Nat.le_of_ble_eq_true rfl) rfl ?_
    refine AW.aload_n (z := 2) (lr_7 27 rfl) rfl rfl ?_
    refine AW.callV (N := MX10_thrown) (As := []) (S := []) (b := B + 129) (lr_7 28 rfl) rfl ovX10_thrown q1576 rfl rfl (LH_m hl2) rfl rfl rfl rfl ?_
    refine AW.heq (LH_mb (T := T1) (T' := T1) hl2).symm ?_
    refine dX10_thrown (Nat.le_trans hB (by omega)) hk (cQ_r ?_)
    refine AW.heq (LH_mb hl2) ?_
    refine AW.iload (lr_7 29 rfl) rfl rfl ?_
    refine AW.icmp_eq (tg := 594) (lr_7 30 rfl) rfl rfl (fun _ => ?_) (fun hc => absurd rfl hc)
    refine AW.iload (lr_7 33 rfl) rfl rfl ?_
    refine AW.if_ne (tg := 611) (lr_7 34 rfl) rfl rfl (fun _ => ?_) (fun hc => ?_)
    · refine AW.goto (tg := 3611) (lr_7 44 rfl) rfl ?_
      refine AW.lessL (L' := LL bs B i) ⟨rfl, rfl, rfl, rfl, rfl, rfl, trivial⟩ ?_
      exact k _ _ _ _ hI2
    have hv2 := hv hc
    refine AW.aload_n (z := 3) (lr_7 35 rfl) rfl rfl ?_
    refine AW.iconst (lr_7 36 rfl) rfl ci_0 ?_
    refine AW.lald (v := .long o2) (lr_7 37 rfl) rfl (LH_o hl2) (vp_of_inb rfl) rfl ?_
    refine AW.iload (lr_7 38 rfl) rfl rfl ?_
    refine AW.i2l (lr_7 39 rfl) rfl ?_
    rw [hv2, h6]
    refine AW.lcmp (lr_7 40 rfl) rfl ?_
    refine AW.if_eq (tg := 611) (lr_7 41 rfl) rfl rfl (fun _ => ?_) (fun hc => absurd (lg_cmp_s _) hc)
    refine AW.goto (tg := 3611) (lr_7 44 rfl) rfl ?_
    refine AW.lessL (L' := LL bs B i) ⟨rfl, rfl, rfl, rfl, rfl, rfl, trivial⟩ ?_
    exact k _ _ _ _ hI2
  refine AW.callSH (N := ML_recipe) (As := [.ref B, .int (xs (i + 1)), .int (xs (i + 2)), .ref (B + 139)]) (S := []) (lr_7 12 rfl) rfl ohL_recipe q1073 rfl rfl rfl rfl rfl ?_
  refine hL_recipe hB hst h1 hlr (fun v hv => ?_) (fun e he => ?_)
  · obtain ⟨q1, q2, q3⟩ := h3 v hv
    refine cQ_r ?_
    exact key _ _ _ _ hlr q1 (fun _ => q2) q3
  · obtain ⟨q1, q2, q3⟩ := h4 e he
    refine ⟨_, q1, fun z z1 z2 => cQ_r ?_⟩
    exact key _ _ _ _ hlr rfl (fun h => absurd h q2) (q3 z z1 z2)
set_option maxRecDepth 100000 in
theorem cL_8 {g : AG} {h0 : AH} {B bs n i : Nat} {S : XT} {T : Mem} {o : Int64} {d : UInt64} {Q : AO → AH → Prop} {xs : Nat → Int32} {I : XT → Mem → Prop} (hB : gB g ≤ B) (hst : Sta g h0) (hbs : bs < B) (hsc : h0.1 bs = some (.inl (0, n, .inl xs))) (hn : n ≤ 3072) (hi : i + 5 < n) (hI : ∀ S T, I S T → lrw B S.2.2.1) (hl : lrw B S.2.2.1) (hpf : PFX (uP (sX9_object S B (xs (i + 1)) (xs (i + 2))) S) (mI (sX10_object T (xs (i + 1)) (xs (i + 2)))) co1 I) (k : ∀ S' T' o' d', I S' T' → AW g ML_law 3611 (LL bs B i) [] (LH h0 B S' T' o' d') Q) : AW g ML_law 614 (LL bs B i) [] (LH h0 B S T o d) Q := by
  obtain ⟨r, b, T1, h1, h2, h3, h4⟩ := hpf
  have hlr := PFX.lr hI (fun v h => (h3 v h).2.2) (fun e h => (h4 e h).2.2)
  obtain ⟨b1, h5, h6⟩ : ∃ b1, sX10_object T (xs (i + 1)) (xs (i + 2)) = some (b1, T1) ∧ b1.toInt64 = b := by
    unfold mI at h2
    cases e2 : sX10_object T (xs (i + 1)) (xs (i + 2)) with
    | none => rw [e2] at h2; cases h2
    | some r2 =>
      rw [e2] at h2
      cases h2
      exact ⟨r2.1, rfl, rfl⟩
  refine AW.aload_n (z := 1) (lr_8 0 rfl) rfl rfl ?_
  refine AW.sarg (k := 1) (lr_8 1 rfl) (lr_8 2 rfl) (lr_8 3 rfl) (lr_8 4 rfl) (lr_8 5 rfl) rfl rfl rfl rfl ((LH_low hl hbs).trans hsc) (by omega) hn ?_
  refine AW.sarg (k := 2) (lr_8 6 rfl) (lr_8 7 rfl) (lr_8 8 rfl) (lr_8 9 rfl) (lr_8 10 rfl) rfl rfl rfl rfl ((LH_low hl hbs).trans hsc) (by omega) hn ?_
  refine AW.aload_n (z := 3) (lr_8 11 rfl) rfl rfl ?_
  have key : ∀ (S2 : XT) (o2 : Int64) (d2 : UInt64) (kc : Int32), lrw B S2.2.2.1 → gi T1 100 6 0 = kc → (kc = 0 → o2 = b) → I S2 T1 → AW g ML_law 631 (LL bs B i) [.int kc] (LH h0 B S2 T o2 d2) Q := by
    intro S2 o2 d2 kc hl2 hk hv hI2
    refine AW.istore (L' := (LL bs B i).set 6 (some (.int kc))) (lr_8 13 rfl) rfl (Nat.le_of_ble_eq_true rfl) rfl ?_
    refine AW.aload_n (z := 2) (lr_8 14 rfl) rfl rfl ?_
    refine AW.sarg (k := 1) (lr_8 15 rfl) (lr_8 16 rfl) (lr_8 17 rfl) (lr_8 18 rfl) (lr_8 19 rfl) rfl rfl rfl rfl ((LH_low hl2 hbs).trans hsc) (by omega) hn ?_
    refine AW.sarg (k := 2) (lr_8 20 rfl) (lr_8 21 rfl) (lr_8 22 rfl) (lr_8 23 rfl) (lr_8 24 rfl) rfl rfl rfl rfl ((LH_low hl2 hbs).trans hsc) (by omega) hn ?_
    refine AW.callV (N := MX10_object) (As := [.int (xs (i + 1)), .int (xs (i + 2))]) (S := []) (b := B + 129) (lr_8 25 rfl) rfl ovX10_object q1820 rfl rfl (LH_m hl2) rfl rfl rfl rfl ?_
    refine AW.heq (LH_mb (T := T) (T' := T) hl2).symm ?_
    refine dX10_object (Nat.le_trans hB (by omega)) h5 (cQ_r ?_)
    refine AW.heq (LH_mb hl2) ?_
    refine AW.istore (L' := (((LL bs B i).set 6 (some (.int kc))).set 7 (some (.int b1)))) (lr_8 26 rfl) rfl (Nat.le_of_ble_eq_true rfl) rfl ?_
    refine AW.aload_n (z := 2) (lr_8 27 rfl) rfl rfl ?_
    refine AW.callV (N := MX10_thrown) (As := []) (S := []) (b := B + 129) (lr_8 28 rfl) rfl ovX10_thrown q1576 rfl rfl (LH_m hl2) rfl rfl rfl rfl ?_
    refine AW.heq (LH_mb (T := T1) (T' := T1) hl2).symm ?_
    refine dX10_thrown (Nat.le_trans hB (by omega)) hk (cQ_r ?_)
    refine AW.heq (LH_mb hl2) ?_
    refine AW.iload (lr_8 29 rfl) rfl rfl ?_
    refine AW.icmp_eq (tg := 662) (lr_8 30 rfl) rfl rfl (fun _ => ?_) (fun hc => absurd rfl hc)
    refine AW.iload (lr_8 33 rfl) rfl rfl ?_
    refine AW.if_ne (tg := 679) (lr_8 34 rfl) rfl rfl (fun _ => ?_) (fun hc => ?_)
    · refine AW.goto (tg := 3611) (lr_8 44 rfl) rfl ?_
      refine AW.lessL (L' := LL bs B i) ⟨rfl, rfl, rfl, rfl, rfl, rfl, trivial⟩ ?_
      exact k _ _ _ _ hI2
    have hv2 := hv hc
    refine AW.aload_n (z := 3) (lr_8 35 rfl) rfl rfl ?_
    refine AW.iconst (lr_8 36 rfl) rfl ci_0 ?_
    refine AW.lald (v := .long o2) (lr_8 37 rfl) rfl (LH_o hl2) (vp_of_inb rfl) rfl ?_
    refine AW.iload (lr_8 38 rfl) rfl rfl ?_
    refine AW.i2l (lr_8 39 rfl) rfl ?_
    rw [hv2, h6]
    refine AW.lcmp (lr_8 40 rfl) rfl ?_
    refine AW.if_eq (tg := 679) (lr_8 41 rfl) rfl rfl (fun _ => ?_) (fun hc => absurd (lg_cmp_s _) hc)
    refine AW.goto (tg := 3611) (lr_8 44 rfl) rfl ?_
    refine AW.lessL (L' := LL bs B i) ⟨rfl, rfl, rfl, rfl, rfl, rfl, trivial⟩ ?_
    exact k _ _ _ _ hI2
  refine AW.callSH (N := ML_object) (As := [.ref B, .int (xs (i + 1)), .int (xs (i + 2)), .ref (B + 139)]) (S := []) (lr_8 12 rfl) rfl ohL_object q1080 rfl rfl rfl rfl rfl ?_
  refine hL_object hB hst h1 hlr (fun v hv => ?_) (fun e he => ?_)
  · obtain ⟨q1, q2, q3⟩ := h3 v hv
    refine cQ_r ?_
    exact key _ _ _ _ hlr q1 (fun _ => q2) q3
  · obtain ⟨q1, q2, q3⟩ := h4 e he
    refine ⟨_, q1, fun z z1 z2 => cQ_r ?_⟩
    exact key _ _ _ _ hlr rfl (fun h => absurd h q2) (q3 z z1 z2)
set_option maxRecDepth 100000 in
theorem cL_9 {g : AG} {h0 : AH} {B bs n i : Nat} {S : XT} {T : Mem} {o : Int64} {d : UInt64} {Q : AO → AH → Prop} {xs : Nat → Int32} {I : XT → Mem → Prop} (hB : gB g ≤ B) (hst : Sta g h0) (hbs : bs < B) (hsc : h0.1 bs = some (.inl (0, n, .inl xs))) (hn : n ≤ 3072) (hi : i + 5 < n) (hI : ∀ S T, I S T → lrw B S.2.2.1) (hl : lrw B S.2.2.1) (hpf : PFX (uP (sX9_queued S B (xs (i + 1)) (xs (i + 2))) S) (mI (sX10_queued T (xs (i + 1)) (xs (i + 2)))) co1 I) (k : ∀ S' T' o' d', I S' T' → AW g ML_law 3611 (LL bs B i) [] (LH h0 B S' T' o' d') Q) : AW g ML_law 682 (LL bs B i) [] (LH h0 B S T o d) Q := by
  obtain ⟨r, b, T1, h1, h2, h3, h4⟩ := hpf
  have hlr := PFX.lr hI (fun v h => (h3 v h).2.2) (fun e h => (h4 e h).2.2)
  obtain ⟨b1, h5, h6⟩ : ∃ b1, sX10_queued T (xs (i + 1)) (xs (i + 2)) = some (b1, T1) ∧ b1.toInt64 = b := by
    unfold mI at h2
    cases e2 : sX10_queued T (xs (i + 1)) (xs (i + 2)) with
    | none => rw [e2] at h2; cases h2
    | some r2 =>
      rw [e2] at h2
      cases h2
      exact ⟨r2.1, rfl, rfl⟩
  refine AW.aload_n (z := 1) (lr_9 0 rfl) rfl rfl ?_
  refine AW.sarg (k := 1) (lr_9 1 rfl) (lr_9 2 rfl) (lr_9 3 rfl) (lr_9 4 rfl) (lr_9 5 rfl) rfl rfl rfl rfl ((LH_low hl hbs).trans hsc) (by omega) hn ?_
  refine AW.sarg (k := 2) (lr_9 6 rfl) (lr_9 7 rfl) (lr_9 8 rfl) (lr_9 9 rfl) (lr_9 10 rfl) rfl rfl rfl rfl ((LH_low hl hbs).trans hsc) (by omega) hn ?_
  refine AW.aload_n (z := 3) (lr_9 11 rfl) rfl rfl ?_
  have key : ∀ (S2 : XT) (o2 : Int64) (d2 : UInt64) (kc : Int32), lrw B S2.2.2.1 → gi T1 100 6 0 = kc → (kc = 0 → o2 = b) → I S2 T1 → AW g ML_law 699 (LL bs B i) [.int kc] (LH h0 B S2 T o2 d2) Q := by
    intro S2 o2 d2 kc hl2 hk hv hI2
    refine AW.istore (L' := (LL bs B i).set 6 (some (.int kc))) (lr_9 13 rfl) rfl (Nat.le_of_ble_eq_true rfl) rfl ?_
    refine AW.aload_n (z := 2) (lr_9 14 rfl) rfl rfl ?_
    refine AW.sarg (k := 1) (lr_9 15 rfl) (lr_9 16 rfl) (lr_9 17 rfl) (lr_9 18 rfl) (lr_9 19 rfl) rfl rfl rfl rfl ((LH_low hl2 hbs).trans hsc) (by omega) hn ?_
    refine AW.sarg (k := 2) (lr_9 20 rfl) (lr_9 21 rfl) (lr_9 22 rfl) (lr_9 23 rfl) (lr_9 24 rfl) rfl rfl rfl rfl ((LH_low hl2 hbs).trans hsc) (by omega) hn ?_
    refine AW.callV (N := MX10_queued) (As := [.int (xs (i + 1)), .int (xs (i + 2))]) (S := []) (b := B + 129) (lr_9 25 rfl) rfl ovX10_queued q1824 rfl rfl (LH_m hl2) rfl rfl rfl rfl ?_
    refine AW.heq (LH_mb (T := T) (T' := T) hl2).symm ?_
    refine dX10_queued (Nat.le_trans hB (by omega)) h5 (cQ_r ?_)
    refine AW.heq (LH_mb hl2) ?_
    refine AW.istore (L' := (((LL bs B i).set 6 (some (.int kc))).set 7 (some (.int b1)))) (lr_9 26 rfl) rfl (Nat.le_of_ble_eq_true rfl) rfl ?_
    refine AW.aload_n (z := 2) (lr_9 27 rfl) rfl rfl ?_
    refine AW.callV (N := MX10_thrown) (As := []) (S := []) (b := B + 129) (lr_9 28 rfl) rfl ovX10_thrown q1576 rfl rfl (LH_m hl2) rfl rfl rfl rfl ?_
    refine AW.heq (LH_mb (T := T1) (T' := T1) hl2).symm ?_
    refine dX10_thrown (Nat.le_trans hB (by omega)) hk (cQ_r ?_)
    refine AW.heq (LH_mb hl2) ?_
    refine AW.iload (lr_9 29 rfl) rfl rfl ?_
    refine AW.icmp_eq (tg := 730) (lr_9 30 rfl) rfl rfl (fun _ => ?_) (fun hc => absurd rfl hc)
    refine AW.iload (lr_9 33 rfl) rfl rfl ?_
    refine AW.if_ne (tg := 747) (lr_9 34 rfl) rfl rfl (fun _ => ?_) (fun hc => ?_)
    · refine AW.goto (tg := 3611) (lr_9 44 rfl) rfl ?_
      refine AW.lessL (L' := LL bs B i) ⟨rfl, rfl, rfl, rfl, rfl, rfl, trivial⟩ ?_
      exact k _ _ _ _ hI2
    have hv2 := hv hc
    refine AW.aload_n (z := 3) (lr_9 35 rfl) rfl rfl ?_
    refine AW.iconst (lr_9 36 rfl) rfl ci_0 ?_
    refine AW.lald (v := .long o2) (lr_9 37 rfl) rfl (LH_o hl2) (vp_of_inb rfl) rfl ?_
    refine AW.iload (lr_9 38 rfl) rfl rfl ?_
    refine AW.i2l (lr_9 39 rfl) rfl ?_
    rw [hv2, h6]
    refine AW.lcmp (lr_9 40 rfl) rfl ?_
    refine AW.if_eq (tg := 747) (lr_9 41 rfl) rfl rfl (fun _ => ?_) (fun hc => absurd (lg_cmp_s _) hc)
    refine AW.goto (tg := 3611) (lr_9 44 rfl) rfl ?_
    refine AW.lessL (L' := LL bs B i) ⟨rfl, rfl, rfl, rfl, rfl, rfl, trivial⟩ ?_
    exact k _ _ _ _ hI2
  refine AW.callSH (N := ML_queued) (As := [.ref B, .int (xs (i + 1)), .int (xs (i + 2)), .ref (B + 139)]) (S := []) (lr_9 12 rfl) rfl ohL_queued q1087 rfl rfl rfl rfl rfl ?_
  refine hL_queued hB hst h1 hlr (fun v hv => ?_) (fun e he => ?_)
  · obtain ⟨q1, q2, q3⟩ := h3 v hv
    refine cQ_r ?_
    exact key _ _ _ _ hlr q1 (fun _ => q2) q3
  · obtain ⟨q1, q2, q3⟩ := h4 e he
    refine ⟨_, q1, fun z z1 z2 => cQ_r ?_⟩
    exact key _ _ _ _ hlr rfl (fun h => absurd h q2) (q3 z z1 z2)
set_option maxRecDepth 100000 in
theorem cL_10 {g : AG} {h0 : AH} {B bs n i : Nat} {S : XT} {T : Mem} {o : Int64} {d : UInt64} {Q : AO → AH → Prop} {xs : Nat → Int32} {I : XT → Mem → Prop} (hB : gB g ≤ B) (hst : Sta g h0) (hbs : bs < B) (hsc : h0.1 bs = some (.inl (0, n, .inl xs))) (hn : n ≤ 3072) (hi : i + 5 < n) (hI : ∀ S T, I S T → lrw B S.2.2.1) (hl : lrw B S.2.2.1) (hpf : PFX (uP (sX9_loan S B (xs (i + 1)) (xs (i + 2))) S) (mI (sX10_loan T (xs (i + 1)) (xs (i + 2)))) co1 I) (k : ∀ S' T' o' d', I S' T' → AW g ML_law 3611 (LL bs B i) [] (LH h0 B S' T' o' d') Q) : AW g ML_law 750 (LL bs B i) [] (LH h0 B S T o d) Q := by
  obtain ⟨r, b, T1, h1, h2, h3, h4⟩ := hpf
  have hlr := PFX.lr hI (fun v h => (h3 v h).2.2) (fun e h => (h4 e h).2.2)
  obtain ⟨b1, h5, h6⟩ : ∃ b1, sX10_loan T (xs (i + 1)) (xs (i + 2)) = some (b1, T1) ∧ b1.toInt64 = b := by
    unfold mI at h2
    cases e2 : sX10_loan T (xs (i + 1)) (xs (i + 2)) with
    | none => rw [e2] at h2; cases h2
    | some r2 =>
      rw [e2] at h2
      cases h2
      exact ⟨r2.1, rfl, rfl⟩
  refine AW.aload_n (z := 1) (lr_10 0 rfl) rfl rfl ?_
  refine AW.sarg (k := 1) (lr_10 1 rfl) (lr_10 2 rfl) (lr_10 3 rfl) (lr_10 4 rfl) (lr_10 5 rfl) rfl rfl rfl rfl ((LH_low hl hbs).trans hsc) (by omega) hn ?_
  refine AW.sarg (k := 2) (lr_10 6 rfl) (lr_10 7 rfl) (lr_10 8 rfl) (lr_10 9 rfl) (lr_10 10 rfl) rfl rfl rfl rfl ((LH_low hl hbs).trans hsc) (by omega) hn ?_
  refine AW.aload_n (z := 3) (lr_10 11 rfl) rfl rfl ?_
  have key : ∀ (S2 : XT) (o2 : Int64) (d2 : UInt64) (kc : Int32), lrw B S2.2.2.1 → gi T1 100 6 0 = kc → (kc = 0 → o2 = b) → I S2 T1 → AW g ML_law 767 (LL bs B i) [.int kc] (LH h0 B S2 T o2 d2) Q := by
    intro S2 o2 d2 kc hl2 hk hv hI2
    refine AW.istore (L' := (LL bs B i).set 6 (some (.int kc))) (lr_10 13 rfl) rfl (Nat.le_of_ble_eq_true rfl) rfl ?_
    refine AW.aload_n (z := 2) (lr_10 14 rfl) rfl rfl ?_
    refine AW.sarg (k := 1) (lr_10 15 rfl) (lr_10 16 rfl) (lr_10 17 rfl) (lr_10 18 rfl) (lr_10 19 rfl) rfl rfl rfl rfl ((LH_low hl2 hbs).trans hsc) (by omega) hn ?_
    refine AW.sarg (k := 2) (lr_10 20 rfl) (lr_10 21 rfl) (lr_10 22 rfl) (lr_10 23 rfl) (lr_10 24 rfl) rfl rfl rfl rfl ((LH_low hl2 hbs).trans hsc) (by omega) hn ?_
    refine AW.callV (N := MX10_loan) (As := [.int (xs (i + 1)), .int (xs (i + 2))]) (S := []) (b := B + 129) (lr_10 25 rfl) rfl ovX10_loan q1828 rfl rfl (LH_m hl2) rfl rfl rfl rfl ?_
    refine AW.heq (LH_mb (T := T) (T' := T) hl2).symm ?_
    refine dX10_loan (Nat.le_trans hB (by omega)) h5 (cQ_r ?_)
    refine AW.heq (LH_mb hl2) ?_
    refine AW.istore (L' := (((LL bs B i).set 6 (some (.int kc))).set 7 (some (.int b1)))) (lr_10 26 rfl) rfl (Nat.le_of_ble_eq_true rfl) rfl ?_
    refine AW.aload_n (z := 2) (lr_10 27 rfl) rfl rfl ?_
    refine AW.callV (N := MX10_thrown) (As := []) (S := []) (b := B + 129) (lr_10 28 rfl) rfl ovX10_thrown q1576 rfl rfl (LH_m hl2) rfl rfl rfl rfl ?_
    refine AW.heq (LH_mb (T := T1) (T' := T1) hl2).symm ?_
    refine dX10_thrown (Nat.le_trans hB (by omega)) hk (cQ_r ?_)
    refine AW.heq (LH_mb hl2) ?_
    refine AW.iload (lr_10 29 rfl) rfl rfl ?_
    refine AW.icmp_eq (tg := 798) (lr_10 30 rfl) rfl rfl (fun _ => ?_) (fun hc => absurd rfl hc)
    refine AW.iload (lr_10 33 rfl) rfl rfl ?_
    refine AW.if_ne (tg := 815) (lr_10 34 rfl) rfl rfl (fun _ => ?_) (fun hc => ?_)
    · refine AW.goto (tg := 3611) (lr_10 44 rfl) rfl ?_
      refine AW.lessL (L' := LL bs B i) ⟨rfl, rfl, rfl, rfl, rfl, rfl, trivial⟩ ?_
      exact k _ _ _ _ hI2
    have hv2 := hv hc
    refine AW.aload_n (z := 3) (lr_10 35 rfl) rfl rfl ?_
    refine AW.iconst (lr_10 36 rfl) rfl ci_0 ?_
    refine AW.lald (v := .long o2) (lr_10 37 rfl) rfl (LH_o hl2) (vp_of_inb rfl) rfl ?_
    refine AW.iload (lr_10 38 rfl) rfl rfl ?_
    refine AW.i2l (lr_10 39 rfl) rfl ?_
    rw [hv2, h6]
    refine AW.lcmp (lr_10 40 rfl) rfl ?_
    refine AW.if_eq (tg := 815) (lr_10 41 rfl) rfl rfl (fun _ => ?_) (fun hc => absurd (lg_cmp_s _) hc)
    refine AW.goto (tg := 3611) (lr_10 44 rfl) rfl ?_
    refine AW.lessL (L' := LL bs B i) ⟨rfl, rfl, rfl, rfl, rfl, rfl, trivial⟩ ?_
    exact k _ _ _ _ hI2
  refine AW.callSH (N := ML_loan) (As := [.ref B, .int (xs (i + 1)), .int (xs (i + 2)), .ref (B + 139)]) (S := []) (lr_10 12 rfl) rfl ohL_loan q1095 rfl rfl rfl rfl rfl ?_
  refine hL_loan hB hst h1 hlr (fun v hv => ?_) (fun e he => ?_)
  · obtain ⟨q1, q2, q3⟩ := h3 v hv
    refine cQ_r ?_
    exact key _ _ _ _ hlr q1 (fun _ => q2) q3
  · obtain ⟨q1, q2, q3⟩ := h4 e he
    refine ⟨_, q1, fun z z1 z2 => cQ_r ?_⟩
    exact key _ _ _ _ hlr rfl (fun h => absurd h q2) (q3 z z1 z2)
set_option maxRecDepth 100000 in
theorem cL_11 {g : AG} {h0 : AH} {B bs n i : Nat} {S : XT} {T : Mem} {o : Int64} {d : UInt64} {Q : AO → AH → Prop} {xs : Nat → Int32} {I : XT → Mem → Prop} (hB : gB g ≤ B) (hst : Sta g h0) (hbs : bs < B) (hsc : h0.1 bs = some (.inl (0, n, .inl xs))) (hn : n ≤ 3072) (hi : i + 5 < n) (hI : ∀ S T, I S T → lrw B S.2.2.1) (hl : lrw B S.2.2.1) (hpf : PFX (uW (sX9_plan S B (xs (i + 1)) (xs (i + 2)))) (mI (sX10_plan T (xs (i + 1)) (xs (i + 2)))) co1 I) (k : ∀ S' T' o' d', I S' T' → AW g ML_law 3611 (LL bs B i) [] (LH h0 B S' T' o' d') Q) : AW g ML_law 818 (LL bs B i) [] (LH h0 B S T o d) Q := by
  obtain ⟨r, b, T1, h1, h2, h3, h4⟩ := hpf
  have hlr := PFX.lr hI (fun v h => (h3 v h).2.2) (fun e h => (h4 e h).2.2)
  obtain ⟨b1, h5, h6⟩ : ∃ b1, sX10_plan T (xs (i + 1)) (xs (i + 2)) = some (b1, T1) ∧ b1.toInt64 = b := by
    unfold mI at h2
    cases e2 : sX10_plan T (xs (i + 1)) (xs (i + 2)) with
    | none => rw [e2] at h2; cases h2
    | some r2 =>
      rw [e2] at h2
      cases h2
      exact ⟨r2.1, rfl, rfl⟩
  refine AW.aload_n (z := 1) (lr_11 0 rfl) rfl rfl ?_
  refine AW.sarg (k := 1) (lr_11 1 rfl) (lr_11 2 rfl) (lr_11 3 rfl) (lr_11 4 rfl) (lr_11 5 rfl) rfl rfl rfl rfl ((LH_low hl hbs).trans hsc) (by omega) hn ?_
  refine AW.sarg (k := 2) (lr_11 6 rfl) (lr_11 7 rfl) (lr_11 8 rfl) (lr_11 9 rfl) (lr_11 10 rfl) rfl rfl rfl rfl ((LH_low hl hbs).trans hsc) (by omega) hn ?_
  refine AW.aload_n (z := 3) (lr_11 11 rfl) rfl rfl ?_
  have key : ∀ (S2 : XT) (o2 : Int64) (d2 : UInt64) (kc : Int32), lrw B S2.2.2.1 → gi T1 100 6 0 = kc → (kc = 0 → o2 = b) → I S2 T1 → AW g ML_law 835 (LL bs B i) [.int kc] (LH h0 B S2 T o2 d2) Q := by
    intro S2 o2 d2 kc hl2 hk hv hI2
    refine AW.istore (L' := (LL bs B i).set 6 (some (.int kc))) (lr_11 13 rfl) rfl (Nat.le_of_ble_eq_true rfl) rfl ?_
    refine AW.aload_n (z := 2) (lr_11 14 rfl) rfl rfl ?_
    refine AW.sarg (k := 1) (lr_11 15 rfl) (lr_11 16 rfl) (lr_11 17 rfl) (lr_11 18 rfl) (lr_11 19 rfl) rfl rfl rfl rfl ((LH_low hl2 hbs).trans hsc) (by omega) hn ?_
    refine AW.sarg (k := 2) (lr_11 20 rfl) (lr_11 21 rfl) (lr_11 22 rfl) (lr_11 23 rfl) (lr_11 24 rfl) rfl rfl rfl rfl ((LH_low hl2 hbs).trans hsc) (by omega) hn ?_
    refine AW.callV (N := MX10_plan) (As := [.int (xs (i + 1)), .int (xs (i + 2))]) (S := []) (b := B + 129) (lr_11 25 rfl) rfl ovX10_plan q1635 rfl rfl (LH_m hl2) rfl rfl rfl rfl ?_
    refine AW.heq (LH_mb (T := T) (T' := T) hl2).symm ?_
    refine dX10_plan (Nat.le_trans hB (by omega)) h5 (cQ_r ?_)
    refine AW.heq (LH_mb hl2) ?_
    refine AW.istore (L' := (((LL bs B i).set 6 (some (.int kc))).set 7 (some (.int b1)))) (lr_11 26 rfl) rfl (Nat.le_of_ble_eq_true rfl) rfl ?_
    refine AW.aload_n (z := 2) (lr_11 27 rfl) rfl rfl ?_
    refine AW.callV (N := MX10_thrown) (As := []) (S := []) (b := B + 129) (lr_11 28 rfl) rfl ovX10_thrown q1576 rfl rfl (LH_m hl2) rfl rfl rfl rfl ?_
    refine AW.heq (LH_mb (T := T1) (T' := T1) hl2).symm ?_
    refine dX10_thrown (Nat.le_trans hB (by omega)) hk (cQ_r ?_)
    refine AW.heq (LH_mb hl2) ?_
    refine AW.iload (lr_11 29 rfl) rfl rfl ?_
    refine AW.icmp_eq (tg := 866) (lr_11 30 rfl) rfl rfl (fun _ => ?_) (fun hc => absurd rfl hc)
    refine AW.iload (lr_11 33 rfl) rfl rfl ?_
    refine AW.if_ne (tg := 883) (lr_11 34 rfl) rfl rfl (fun _ => ?_) (fun hc => ?_)
    · refine AW.goto (tg := 3611) (lr_11 44 rfl) rfl ?_
      refine AW.lessL (L' := LL bs B i) ⟨rfl, rfl, rfl, rfl, rfl, rfl, trivial⟩ ?_
      exact k _ _ _ _ hI2
    have hv2 := hv hc
    refine AW.aload_n (z := 3) (lr_11 35 rfl) rfl rfl ?_
    refine AW.iconst (lr_11 36 rfl) rfl ci_0 ?_
    refine AW.lald (v := .long o2) (lr_11 37 rfl) rfl (LH_o hl2) (vp_of_inb rfl) rfl ?_
    refine AW.iload (lr_11 38 rfl) rfl rfl ?_
    refine AW.i2l (lr_11 39 rfl) rfl ?_
    rw [hv2, h6]
    refine AW.lcmp (lr_11 40 rfl) rfl ?_
    refine AW.if_eq (tg := 883) (lr_11 41 rfl) rfl rfl (fun _ => ?_) (fun hc => absurd (lg_cmp_s _) hc)
    refine AW.goto (tg := 3611) (lr_11 44 rfl) rfl ?_
    refine AW.lessL (L' := LL bs B i) ⟨rfl, rfl, rfl, rfl, rfl, rfl, trivial⟩ ?_
    exact k _ _ _ _ hI2
  refine AW.callSH (N := ML_plan) (As := [.ref B, .int (xs (i + 1)), .int (xs (i + 2)), .ref (B + 139)]) (S := []) (lr_11 12 rfl) rfl ohL_plan q1102 rfl rfl rfl rfl rfl ?_
  refine hL_plan hB hst h1 hlr (fun v hv => ?_) (fun e he => ?_)
  · obtain ⟨q1, q2, q3⟩ := h3 v hv
    refine cQ_r ?_
    exact key _ _ _ _ hlr q1 (fun _ => q2) q3
  · obtain ⟨q1, q2, q3⟩ := h4 e he
    refine ⟨_, q1, fun z z1 z2 => cQ_r ?_⟩
    exact key _ _ _ _ hlr rfl (fun h => absurd h q2) (q3 z z1 z2)
set_option maxRecDepth 100000 in
theorem cL_12 {g : AG} {h0 : AH} {B bs n i : Nat} {S : XT} {T : Mem} {o : Int64} {d : UInt64} {Q : AO → AH → Prop} {xs : Nat → Int32} {I : XT → Mem → Prop} (hB : gB g ≤ B) (hst : Sta g h0) (hbs : bs < B) (hsc : h0.1 bs = some (.inl (0, n, .inl xs))) (hn : n ≤ 3072) (hi : i + 5 < n) (hI : ∀ S T, I S T → lrw B S.2.2.1) (hl : lrw B S.2.2.1) (hpf : PFX (uW (sX9_cancel S B (xs (i + 1)))) (mI (sX10_cancel T (xs (i + 1)))) co1 I) (k : ∀ S' T' o' d', I S' T' → AW g ML_law 3611 (LL bs B i) [] (LH h0 B S' T' o' d') Q) : AW g ML_law 886 (LL bs B i) [] (LH h0 B S T o d) Q := by
  obtain ⟨r, b, T1, h1, h2, h3, h4⟩ := hpf
  have hlr := PFX.lr hI (fun v h => (h3 v h).2.2) (fun e h => (h4 e h).2.2)
  obtain ⟨b1, h5, h6⟩ : ∃ b1, sX10_cancel T (xs (i + 1)) = some (b1, T1) ∧ b1.toInt64 = b := by
    unfold mI at h2
    cases e2 : sX10_cancel T (xs (i + 1)) with
    | none => rw [e2] at h2; cases h2
    | some r2 =>
      rw [e2] at h2
      cases h2
      exact ⟨r2.1, rfl, rfl⟩
  refine AW.aload_n (z := 1) (lr_12 0 rfl) rfl rfl ?_
  refine AW.sarg (k := 1) (lr_12 1 rfl) (lr_12 2 rfl) (lr_12 3 rfl) (lr_12 4 rfl) (lr_12 5 rfl) rfl rfl rfl rfl ((LH_low hl hbs).trans hsc) (by omega) hn ?_
  refine AW.aload_n (z := 3) (lr_12 6 rfl) rfl rfl ?_
  have key : ∀ (S2 : XT) (o2 : Int64) (d2 : UInt64) (kc : Int32), lrw B S2.2.2.1 → gi T1 100 6 0 = kc → (kc = 0 → o2 = b) → I S2 T1 → AW g ML_law 897 (LL bs B i) [.int kc] (LH h0 B S2 T o2 d2) Q := by
    intro S2 o2 d2 kc hl2 hk hv hI2
    refine AW.istore (L' := (LL bs B i).set 6 (some (.int kc))) (lr_12 8 rfl) rfl (Nat.le_of_ble_eq_true rfl) rfl ?_
    refine AW.aload_n (z := 2) (lr_12 9 rfl) rfl rfl ?_
    refine AW.sarg (k := 1) (lr_12 10 rfl) (lr_12 11 rfl) (lr_12 12 rfl) (lr_12 13 rfl) (lr_12 14 rfl) rfl rfl rfl rfl ((LH_low hl2 hbs).trans hsc) (by omega) hn ?_
    refine AW.callV (N := MX10_cancel) (As := [.int (xs (i + 1))]) (S := []) (b := B + 129) (lr_12 15 rfl) rfl ovX10_cancel q1651 rfl rfl (LH_m hl2) rfl rfl rfl rfl ?_
    refine AW.heq (LH_mb (T := T) (T' := T) hl2).symm ?_
    refine dX10_cancel (Nat.le_trans hB (by omega)) h5 (cQ_r ?_)
    refine AW.heq (LH_mb hl2) ?_
    refine AW.istore (L' := (((LL bs B i).set 6 (some (.int kc))).set 7 (some (.int b1)))) (lr_12 16 rfl) rfl (Nat.le_of_ble_eq_true rfl) rfl ?_
    refine AW.aload_n (z := 2) (lr_12 17 rfl) rfl rfl ?_
    refine AW.callV (N := MX10_thrown) (As := []) (S := []) (b := B + 129) (lr_12 18 rfl) rfl ovX10_thrown q1576 rfl rfl (LH_m hl2) rfl rfl rfl rfl ?_
    refine AW.heq (LH_mb (T := T1) (T' := T1) hl2).symm ?_
    refine dX10_thrown (Nat.le_trans hB (by omega)) hk (cQ_r ?_)
    refine AW.heq (LH_mb hl2) ?_
    refine AW.iload (lr_12 19 rfl) rfl rfl ?_
    refine AW.icmp_eq (tg := 922) (lr_12 20 rfl) rfl rfl (fun _ => ?_) (fun hc => absurd rfl hc)
    refine AW.iload (lr_12 23 rfl) rfl rfl ?_
    refine AW.if_ne (tg := 939) (lr_12 24 rfl) rfl rfl (fun _ => ?_) (fun hc => ?_)
    · refine AW.goto (tg := 3611) (lr_12 34 rfl) rfl ?_
      refine AW.lessL (L' := LL bs B i) ⟨rfl, rfl, rfl, rfl, rfl, rfl, trivial⟩ ?_
      exact k _ _ _ _ hI2
    have hv2 := hv hc
    refine AW.aload_n (z := 3) (lr_12 25 rfl) rfl rfl ?_
    refine AW.iconst (lr_12 26 rfl) rfl ci_0 ?_
    refine AW.lald (v := .long o2) (lr_12 27 rfl) rfl (LH_o hl2) (vp_of_inb rfl) rfl ?_
    refine AW.iload (lr_12 28 rfl) rfl rfl ?_
    refine AW.i2l (lr_12 29 rfl) rfl ?_
    rw [hv2, h6]
    refine AW.lcmp (lr_12 30 rfl) rfl ?_
    refine AW.if_eq (tg := 939) (lr_12 31 rfl) rfl rfl (fun _ => ?_) (fun hc => absurd (lg_cmp_s _) hc)
    refine AW.goto (tg := 3611) (lr_12 34 rfl) rfl ?_
    refine AW.lessL (L' := LL bs B i) ⟨rfl, rfl, rfl, rfl, rfl, rfl, trivial⟩ ?_
    exact k _ _ _ _ hI2
  refine AW.callSH (N := ML_cancel) (As := [.ref B, .int (xs (i + 1)), .ref (B + 139)]) (S := []) (lr_12 7 rfl) rfl ohL_cancel q1106 rfl rfl rfl rfl rfl ?_
  refine hL_cancel hB hst h1 hlr (fun v hv => ?_) (fun e he => ?_)
  · obtain ⟨q1, q2, q3⟩ := h3 v hv
    refine cQ_r ?_
    exact key _ _ _ _ hlr q1 (fun _ => q2) q3
  · obtain ⟨q1, q2, q3⟩ := h4 e he
    refine ⟨_, q1, fun z z1 z2 => cQ_r ?_⟩
    exact key _ _ _ _ hlr rfl (fun h => absurd h q2) (q3 z z1 z2)
set_option maxRecDepth 100000 in
theorem cL_13 {g : AG} {h0 : AH} {B bs n i : Nat} {S : XT} {T : Mem} {o : Int64} {d : UInt64} {Q : AO → AH → Prop} {xs : Nat → Int32} {I : XT → Mem → Prop} (hB : gB g ≤ B) (hst : Sta g h0) (hbs : bs < B) (hsc : h0.1 bs = some (.inl (0, n, .inl xs))) (hn : n ≤ 3072) (hi : i + 5 < n) (hI : ∀ S T, I S T → lrw B S.2.2.1) (hl : lrw B S.2.2.1) (hpf : PFX (uW (sX9_clearQueue S B (xs (i + 1)))) (mI (sX10_clearQueue T (xs (i + 1)))) co1 I) (k : ∀ S' T' o' d', I S' T' → AW g ML_law 3611 (LL bs B i) [] (LH h0 B S' T' o' d') Q) : AW g ML_law 942 (LL bs B i) [] (LH h0 B S T o d) Q := by
  obtain ⟨r, b, T1, h1, h2, h3, h4⟩ := hpf
  have hlr := PFX.lr hI (fun v h => (h3 v h).2.2) (fun e h => (h4 e h).2.2)
  obtain ⟨b1, h5, h6⟩ : ∃ b1, sX10_clearQueue T (xs (i + 1)) = some (b1, T1) ∧ b1.toInt64 = b := by
    unfold mI at h2
    cases e2 : sX10_clearQueue T (xs (i + 1)) with
    | none => rw [e2] at h2; cases h2
    | some r2 =>
      rw [e2] at h2
      cases h2
      exact ⟨r2.1, rfl, rfl⟩
  refine AW.aload_n (z := 1) (lr_13 0 rfl) rfl rfl ?_
  refine AW.sarg (k := 1) (lr_13 1 rfl) (lr_13 2 rfl) (lr_13 3 rfl) (lr_13 4 rfl) (lr_13 5 rfl) rfl rfl rfl rfl ((LH_low hl hbs).trans hsc) (by omega) hn ?_
  refine AW.aload_n (z := 3) (lr_13 6 rfl) rfl rfl ?_
  have key : ∀ (S2 : XT) (o2 : Int64) (d2 : UInt64) (kc : Int32), lrw B S2.2.2.1 → gi T1 100 6 0 = kc → (kc = 0 → o2 = b) → I S2 T1 → AW g ML_law 953 (LL bs B i) [.int kc] (LH h0 B S2 T o2 d2) Q := by
    intro S2 o2 d2 kc hl2 hk hv hI2
    refine AW.istore (L' := (LL bs B i).set 6 (some (.int kc))) (lr_13 8 rfl) rfl (Nat.le_of_ble_eq_true rfl) rfl ?_
    refine AW.aload_n (z := 2) (lr_13 9 rfl) rfl rfl ?_
    refine AW.sarg (k := 1) (lr_13 10 rfl) (lr_13 11 rfl) (lr_13 12 rfl) (lr_13 13 rfl) (lr_13 14 rfl) rfl rfl rfl rfl ((LH_low hl2 hbs).trans hsc) (by omega) hn ?_
    refine AW.callV (N := MX10_clearQueue) (As := [.int (xs (i + 1))]) (S := []) (b := B + 129) (lr_13 15 rfl) rfl ovX10_clearQueue q1599 rfl rfl (LH_m hl2) rfl rfl rfl rfl ?_
    refine AW.heq (LH_mb (T := T) (T' := T) hl2).symm ?_
    refine dX10_clearQueue (Nat.le_trans hB (by omega)) h5 (cQ_r ?_)
    refine AW.heq (LH_mb hl2) ?_
    refine AW.istore (L' := (((LL bs B i).set 6 (some (.int kc))).set 7 (some (.int b1)))) (lr_13 16 rfl) rfl (Nat.le_of_ble_eq_true rfl) rfl ?_
    refine AW.aload_n (z := 2) (lr_13 17 rfl) rfl rfl ?_
    refine AW.callV (N := MX10_thrown) (As := []) (S := []) (b := B + 129) (lr_13 18 rfl) rfl ovX10_thrown q1576 rfl rfl (LH_m hl2) rfl rfl rfl rfl ?_
    refine AW.heq (LH_mb (T := T1) (T' := T1) hl2).symm ?_
    refine dX10_thrown (Nat.le_trans hB (by omega)) hk (cQ_r ?_)
    refine AW.heq (LH_mb hl2) ?_
    refine AW.iload (lr_13 19 rfl) rfl rfl ?_
    refine AW.icmp_eq (tg := 978) (lr_13 20 rfl) rfl rfl (fun _ => ?_) (fun hc => absurd rfl hc)
    refine AW.iload (lr_13 23 rfl) rfl rfl ?_
    refine AW.if_ne (tg := 995) (lr_13 24 rfl) rfl rfl (fun _ => ?_) (fun hc => ?_)
    · refine AW.goto (tg := 3611) (lr_13 34 rfl) rfl ?_
      refine AW.lessL (L' := LL bs B i) ⟨rfl, rfl, rfl, rfl, rfl, rfl, trivial⟩ ?_
      exact k _ _ _ _ hI2
    have hv2 := hv hc
    refine AW.aload_n (z := 3) (lr_13 25 rfl) rfl rfl ?_
    refine AW.iconst (lr_13 26 rfl) rfl ci_0 ?_
    refine AW.lald (v := .long o2) (lr_13 27 rfl) rfl (LH_o hl2) (vp_of_inb rfl) rfl ?_
    refine AW.iload (lr_13 28 rfl) rfl rfl ?_
    refine AW.i2l (lr_13 29 rfl) rfl ?_
    rw [hv2, h6]
    refine AW.lcmp (lr_13 30 rfl) rfl ?_
    refine AW.if_eq (tg := 995) (lr_13 31 rfl) rfl rfl (fun _ => ?_) (fun hc => absurd (lg_cmp_s _) hc)
    refine AW.goto (tg := 3611) (lr_13 34 rfl) rfl ?_
    refine AW.lessL (L' := LL bs B i) ⟨rfl, rfl, rfl, rfl, rfl, rfl, trivial⟩ ?_
    exact k _ _ _ _ hI2
  refine AW.callSH (N := ML_clearQueue) (As := [.ref B, .int (xs (i + 1)), .ref (B + 139)]) (S := []) (lr_13 7 rfl) rfl ohL_clearQueue q1110 rfl rfl rfl rfl rfl ?_
  refine hL_clearQueue hB hst h1 hlr (fun v hv => ?_) (fun e he => ?_)
  · obtain ⟨q1, q2, q3⟩ := h3 v hv
    refine cQ_r ?_
    exact key _ _ _ _ hlr q1 (fun _ => q2) q3
  · obtain ⟨q1, q2, q3⟩ := h4 e he
    refine ⟨_, q1, fun z z1 z2 => cQ_r ?_⟩
    exact key _ _ _ _ hlr rfl (fun h => absurd h q2) (q3 z z1 z2)
set_option maxRecDepth 100000 in
theorem cL_14 {g : AG} {h0 : AH} {B bs n i : Nat} {S : XT} {T : Mem} {o : Int64} {d : UInt64} {Q : AO → AH → Prop} {xs : Nat → Int32} {I : XT → Mem → Prop} (hB : gB g ≤ B) (hst : Sta g h0) (hbs : bs < B) (hsc : h0.1 bs = some (.inl (0, n, .inl xs))) (hn : n ≤ 3072) (hi : i + 5 < n) (hI : ∀ S T, I S T → lrw B S.2.2.1) (hl : lrw B S.2.2.1) (hpf : PFX (uW (sX9_exchange S B (xs (i + 1)) (xs (i + 2)) (xs (i + 3)))) (mI (sX10_exchange T (xs (i + 1)) (xs (i + 2)) (xs (i + 3)))) co1 I) (k : ∀ S' T' o' d', I S' T' → AW g ML_law 3611 (LL bs B i) [] (LH h0 B S' T' o' d') Q) : AW g ML_law 998 (LL bs B i) [] (LH h0 B S T o d) Q := by
  obtain ⟨r, b, T1, h1, h2, h3, h4⟩ := hpf
  have hlr := PFX.lr hI (fun v h => (h3 v h).2.2) (fun e h => (h4 e h).2.2)
  obtain ⟨b1, h5, h6⟩ : ∃ b1, sX10_exchange T (xs (i + 1)) (xs (i + 2)) (xs (i + 3)) = some (b1, T1) ∧ b1.toInt64 = b := by
    unfold mI at h2
    cases e2 : sX10_exchange T (xs (i + 1)) (xs (i + 2)) (xs (i + 3)) with
    | none => rw [e2] at h2; cases h2
    | some r2 =>
      rw [e2] at h2
      cases h2
      exact ⟨r2.1, rfl, rfl⟩
  refine AW.aload_n (z := 1) (lr_14 0 rfl) rfl rfl ?_
  refine AW.sarg (k := 1) (lr_14 1 rfl) (lr_14 2 rfl) (lr_14 3 rfl) (lr_14 4 rfl) (lr_14 5 rfl) rfl rfl rfl rfl ((LH_low hl hbs).trans hsc) (by omega) hn ?_
  refine AW.sarg (k := 2) (lr_14 6 rfl) (lr_14 7 rfl) (lr_14 8 rfl) (lr_14 9 rfl) (lr_14 10 rfl) rfl rfl rfl rfl ((LH_low hl hbs).trans hsc) (by omega) hn ?_
  refine AW.sarg (k := 3) (lr_14 11 rfl) (lr_14 12 rfl) (lr_14 13 rfl) (lr_14 14 rfl) (lr_14 15 rfl) rfl rfl rfl rfl ((LH_low hl hbs).trans hsc) (by omega) hn ?_
  refine AW.aload_n (z := 3) (lr_14 16 rfl) rfl rfl ?_
  have key : ∀ (S2 : XT) (o2 : Int64) (d2 : UInt64) (kc : Int32), lrw B S2.2.2.1 → gi T1 100 6 0 = kc → (kc = 0 → o2 = b) → I S2 T1 → AW g ML_law 1021 (LL bs B i) [.int kc] (LH h0 B S2 T o2 d2) Q := by
    intro S2 o2 d2 kc hl2 hk hv hI2
    refine AW.istore (L' := (LL bs B i).set 6 (some (.int kc))) (lr_14 18 rfl) rfl (Nat.le_of_ble_eq_true rfl) rfl ?_
    refine AW.aload_n (z := 2) (lr_14 19 rfl) rfl rfl ?_
    refine AW.sarg (k := 1) (lr_14 20 rfl) (lr_14 21 rfl) (lr_14 22 rfl) (lr_14 23 rfl) (lr_14 24 rfl) rfl rfl rfl rfl ((LH_low hl2 hbs).trans hsc) (by omega) hn ?_
    refine AW.sarg (k := 2) (lr_14 25 rfl) (lr_14 26 rfl) (lr_14 27 rfl) (lr_14 28 rfl) (lr_14 29 rfl) rfl rfl rfl rfl ((LH_low hl2 hbs).trans hsc) (by omega) hn ?_
    refine AW.sarg (k := 3) (lr_14 30 rfl) (lr_14 31 rfl) (lr_14 32 rfl) (lr_14 33 rfl) (lr_14 34 rfl) rfl rfl rfl rfl ((LH_low hl2 hbs).trans hsc) (by omega) hn ?_
    refine AW.callV (N := MX10_exchange) (As := [.int (xs (i + 1)), .int (xs (i + 2)), .int (xs (i + 3))]) (S := []) (b := B + 129) (lr_14 35 rfl) rfl ovX10_exchange q1627 rfl rfl (LH_m hl2) rfl rfl rfl rfl ?_
    refine AW.heq (LH_mb (T := T) (T' := T) hl2).symm ?_
    refine dX10_exchange (Nat.le_trans hB (by omega)) h5 (cQ_r ?_)
    refine AW.heq (LH_mb hl2) ?_
    refine AW.istore (L' := (((LL bs B i).set 6 (some (.int kc))).set 7 (some (.int b1)))) (lr_14 36 rfl) rfl (Nat.le_of_ble_eq_true rfl) rfl ?_
    refine AW.aload_n (z := 2) (lr_14 37 rfl) rfl rfl ?_
    refine AW.callV (N := MX10_thrown) (As := []) (S := []) (b := B + 129) (lr_14 38 rfl) rfl ovX10_thrown q1576 rfl rfl (LH_m hl2) rfl rfl rfl rfl ?_
    refine AW.heq (LH_mb (T := T1) (T' := T1) hl2).symm ?_
    refine dX10_thrown (Nat.le_trans hB (by omega)) hk (cQ_r ?_)
    refine AW.heq (LH_mb hl2) ?_
    refine AW.iload (lr_14 39 rfl) rfl rfl ?_
    refine AW.icmp_eq (tg := 1058) (lr_14 40 rfl) rfl rfl (fun _ => ?_) (fun hc => absurd rfl hc)
    refine AW.iload (lr_14 43 rfl) rfl rfl ?_
    refine AW.if_ne (tg := 1075) (lr_14 44 rfl) rfl rfl (fun _ => ?_) (fun hc => ?_)
    · refine AW.goto (tg := 3611) (lr_14 54 rfl) rfl ?_
      refine AW.lessL (L' := LL bs B i) ⟨rfl, rfl, rfl, rfl, rfl, rfl, trivial⟩ ?_
      exact k _ _ _ _ hI2
    have hv2 := hv hc
    refine AW.aload_n (z := 3) (lr_14 45 rfl) rfl rfl ?_
    refine AW.iconst (lr_14 46 rfl) rfl ci_0 ?_
    refine AW.lald (v := .long o2) (lr_14 47 rfl) rfl (LH_o hl2) (vp_of_inb rfl) rfl ?_
    refine AW.iload (lr_14 48 rfl) rfl rfl ?_
    refine AW.i2l (lr_14 49 rfl) rfl ?_
    rw [hv2, h6]
    refine AW.lcmp (lr_14 50 rfl) rfl ?_
    refine AW.if_eq (tg := 1075) (lr_14 51 rfl) rfl rfl (fun _ => ?_) (fun hc => absurd (lg_cmp_s _) hc)
    refine AW.goto (tg := 3611) (lr_14 54 rfl) rfl ?_
    refine AW.lessL (L' := LL bs B i) ⟨rfl, rfl, rfl, rfl, rfl, rfl, trivial⟩ ?_
    exact k _ _ _ _ hI2
  refine AW.callSH (N := ML_exchange) (As := [.ref B, .int (xs (i + 1)), .int (xs (i + 2)), .int (xs (i + 3)), .ref (B + 139)]) (S := []) (lr_14 17 rfl) rfl ohL_exchange q1117 rfl rfl rfl rfl rfl ?_
  refine hL_exchange hB hst h1 hlr (fun v hv => ?_) (fun e he => ?_)
  · obtain ⟨q1, q2, q3⟩ := h3 v hv
    refine cQ_r ?_
    exact key _ _ _ _ hlr q1 (fun _ => q2) q3
  · obtain ⟨q1, q2, q3⟩ := h4 e he
    refine ⟨_, q1, fun z z1 z2 => cQ_r ?_⟩
    exact key _ _ _ _ hlr rfl (fun h => absurd h q2) (q3 z z1 z2)
set_option maxRecDepth 100000 in
theorem cL_15 {g : AG} {h0 : AH} {B bs n i : Nat} {S : XT} {T : Mem} {o : Int64} {d : UInt64} {Q : AO → AH → Prop} {xs : Nat → Int32} {I : XT → Mem → Prop} (hB : gB g ≤ B) (hst : Sta g h0) (hbs : bs < B) (hsc : h0.1 bs = some (.inl (0, n, .inl xs))) (hn : n ≤ 3072) (hi : i + 5 < n) (hI : ∀ S T, I S T → lrw B S.2.2.1) (hl : lrw B S.2.2.1) (hpf : PFX (uW (sX9_approve S B (xs (i + 1)))) (mI (sX10_approve T (xs (i + 1)))) co1 I) (k : ∀ S' T' o' d', I S' T' → AW g ML_law 3611 (LL bs B i) [] (LH h0 B S' T' o' d') Q) : AW g ML_law 1078 (LL bs B i) [] (LH h0 B S T o d) Q := by
  obtain ⟨r, b, T1, h1, h2, h3, h4⟩ := hpf
  have hlr := PFX.lr hI (fun v h => (h3 v h).2.2) (fun e h => (h4 e h).2.2)
  obtain ⟨b1, h5, h6⟩ : ∃ b1, sX10_approve T (xs (i + 1)) = some (b1, T1) ∧ b1.toInt64 = b := by
    unfold mI at h2
    cases e2 : sX10_approve T (xs (i + 1)) with
    | none => rw [e2] at h2; cases h2
    | some r2 =>
      rw [e2] at h2
      cases h2
      exact ⟨r2.1, rfl, rfl⟩
  refine AW.aload_n (z := 1) (lr_15 0 rfl) rfl rfl ?_
  refine AW.sarg (k := 1) (lr_15 1 rfl) (lr_15 2 rfl) (lr_15 3 rfl) (lr_15 4 rfl) (lr_15 5 rfl) rfl rfl rfl rfl ((LH_low hl hbs).trans hsc) (by omega) hn ?_
  refine AW.aload_n (z := 3) (lr_15 6 rfl) rfl rfl ?_
  have key : ∀ (S2 : XT) (o2 : Int64) (d2 : UInt64) (kc : Int32), lrw B S2.2.2.1 → gi T1 100 6 0 = kc → (kc = 0 → o2 = b) → I S2 T1 → AW g ML_law 1089 (LL bs B i) [.int kc] (LH h0 B S2 T o2 d2) Q := by
    intro S2 o2 d2 kc hl2 hk hv hI2
    refine AW.istore (L' := (LL bs B i).set 6 (some (.int kc))) (lr_15 8 rfl) rfl (Nat.le_of_ble_eq_true rfl) rfl ?_
    refine AW.aload_n (z := 2) (lr_15 9 rfl) rfl rfl ?_
    refine AW.sarg (k := 1) (lr_15 10 rfl) (lr_15 11 rfl) (lr_15 12 rfl) (lr_15 13 rfl) (lr_15 14 rfl) rfl rfl rfl rfl ((LH_low hl2 hbs).trans hsc) (by omega) hn ?_
    refine AW.callV (N := MX10_approve) (As := [.int (xs (i + 1))]) (S := []) (b := B + 129) (lr_15 15 rfl) rfl ovX10_approve q1659 rfl rfl (LH_m hl2) rfl rfl rfl rfl ?_
    refine AW.heq (LH_mb (T := T) (T' := T) hl2).symm ?_
    refine dX10_approve (Nat.le_trans hB (by omega)) h5 (cQ_r ?_)
    refine AW.heq (LH_mb hl2) ?_
    refine AW.istore (L' := (((LL bs B i).set 6 (some (.int kc))).set 7 (some (.int b1)))) (lr_15 16 rfl) rfl (Nat.le_of_ble_eq_true rfl) rfl ?_
    refine AW.aload_n (z := 2) (lr_15 17 rfl) rfl rfl ?_
    refine AW.callV (N := MX10_thrown) (As := []) (S := []) (b := B + 129) (lr_15 18 rfl) rfl ovX10_thrown q1576 rfl rfl (LH_m hl2) rfl rfl rfl rfl ?_
    refine AW.heq (LH_mb (T := T1) (T' := T1) hl2).symm ?_
    refine dX10_thrown (Nat.le_trans hB (by omega)) hk (cQ_r ?_)
    refine AW.heq (LH_mb hl2) ?_
    refine AW.iload (lr_15 19 rfl) rfl rfl ?_
    refine AW.icmp_eq (tg := 1114) (lr_15 20 rfl) rfl rfl (fun _ => ?_) (fun hc => absurd rfl hc)
    refine AW.iload (lr_15 23 rfl) rfl rfl ?_
    refine AW.if_ne (tg := 1131) (lr_15 24 rfl) rfl rfl (fun _ => ?_) (fun hc => ?_)
    · refine AW.goto (tg := 3611) (lr_15 34 rfl) rfl ?_
      refine AW.lessL (L' := LL bs B i) ⟨rfl, rfl, rfl, rfl, rfl, rfl, trivial⟩ ?_
      exact k _ _ _ _ hI2
    have hv2 := hv hc
    refine AW.aload_n (z := 3) (lr_15 25 rfl) rfl rfl ?_
    refine AW.iconst (lr_15 26 rfl) rfl ci_0 ?_
    refine AW.lald (v := .long o2) (lr_15 27 rfl) rfl (LH_o hl2) (vp_of_inb rfl) rfl ?_
    refine AW.iload (lr_15 28 rfl) rfl rfl ?_
    refine AW.i2l (lr_15 29 rfl) rfl ?_
    rw [hv2, h6]
    refine AW.lcmp (lr_15 30 rfl) rfl ?_
    refine AW.if_eq (tg := 1131) (lr_15 31 rfl) rfl rfl (fun _ => ?_) (fun hc => absurd (lg_cmp_s _) hc)
    refine AW.goto (tg := 3611) (lr_15 34 rfl) rfl ?_
    refine AW.lessL (L' := LL bs B i) ⟨rfl, rfl, rfl, rfl, rfl, rfl, trivial⟩ ?_
    exact k _ _ _ _ hI2
  refine AW.callSH (N := ML_approve) (As := [.ref B, .int (xs (i + 1)), .ref (B + 139)]) (S := []) (lr_15 7 rfl) rfl ohL_approve q1129 rfl rfl rfl rfl rfl ?_
  refine hL_approve hB hst h1 hlr (fun v hv => ?_) (fun e he => ?_)
  · obtain ⟨q1, q2, q3⟩ := h3 v hv
    refine cQ_r ?_
    exact key _ _ _ _ hlr q1 (fun _ => q2) q3
  · obtain ⟨q1, q2, q3⟩ := h4 e he
    refine ⟨_, q1, fun z z1 z2 => cQ_r ?_⟩
    exact key _ _ _ _ hlr rfl (fun h => absurd h q2) (q3 z z1 z2)
