/-! ===== THE LAW'S LOOP (laid by a program) ===== -/
/-- what the law asks of a call, by its number -/
def PF (B : Nat) (S : XT) (T : Mem) (a : Nat → Int32) (I : XT → Mem → Prop) : Nat → Prop := fun c => match c with
  | 0 => PFA (sX9_appendInput S B (a 1) (a 2) (a 3) (a 4) (a 5)) (sX10_appendInput T (a 1) (a 2) (a 3) (a 4) (a 5)) I
  | 1 => PFA (sX9_truncateInput S B (a 1)) (some (sX10_truncateInput T (a 1))) I
  | 2 => PFA (sX9_load S B) (sX10_load T) I
  | 3 => PFA (uA (sX9_errorCode S B ) S) (some (sX10_errorCode T )) I
  | 4 => PFA (uA (sX9_errorPosition S B ) S) (some (sX10_errorPosition T )) I
  | 5 => PFA (uA (sX9_count S B (a 1)) S) (sX10_count T (a 1)) I
  | 6 => PFX (uP (sX9_press S B (a 1) (a 2)) S) (mI (sX10_press T (a 1) (a 2))) co1 I
  | 7 => PFX (uP (sX9_recipe S B (a 1) (a 2)) S) (mI (sX10_recipe T (a 1) (a 2))) co1 I
  | 8 => PFX (uP (sX9_object S B (a 1) (a 2)) S) (mI (sX10_object T (a 1) (a 2))) co1 I
  | 9 => PFX (uP (sX9_queued S B (a 1) (a 2)) S) (mI (sX10_queued T (a 1) (a 2))) co1 I
  | 10 => PFX (uP (sX9_loan S B (a 1) (a 2)) S) (mI (sX10_loan T (a 1) (a 2))) co1 I
  | 11 => PFX (uW (sX9_plan S B (a 1) (a 2))) (mI (sX10_plan T (a 1) (a 2))) co1 I
  | 12 => PFX (uW (sX9_cancel S B (a 1))) (mI (sX10_cancel T (a 1))) co1 I
  | 13 => PFX (uW (sX9_clearQueue S B (a 1))) (mI (sX10_clearQueue T (a 1))) co1 I
  | 14 => PFX (uW (sX9_exchange S B (a 1) (a 2) (a 3))) (mI (sX10_exchange T (a 1) (a 2) (a 3))) co1 I
  | 15 => PFX (uW (sX9_approve S B (a 1))) (mI (sX10_approve T (a 1))) co1 I
  | 16 => PFX (uW (sX9_lend S B (a 1) (a 2) (a 3) (a 4))) (mI (sX10_lend T (a 1) (a 2) (a 3) (a 4))) co12 I
  | 17 => PFX (uW (sX9_recall S B (a 1))) (mI (sX10_recall T (a 1))) co1 I
  | 18 => PFX (uW (sX9_tick S B (a 1))) (mI (sX10_tick T (a 1))) co2 I
  | 19 => PFX (uP (sX9_reason S B (a 1)) S) (mI (sX10_reason T (a 1))) co1 I
  | 20 => PFX (uP (sX9_cause S B (a 1)) S) (mI (sX10_cause T (a 1))) co1 I
  | 21 => PFX (uP (sX9_objectsWith S B (a 1)) S) (mI (sX10_objectsWith T (a 1))) co2 I
  | 22 => PFA (uA (sX9_next S B ) S) (sX10_next T) I
  | 23 => PFX (uB (sX9_needsApproval S B (a 1) (a 2)) S) (mZ (sX10_needsApproval T (a 1) (a 2))) co1 I
  | 24 => PFX (uP (sX9_approvalsAhead S B (a 1)) S) (mI (sX10_approvalsAhead T (a 1))) co1 I
  | 25 => PFX (uP (sX9_pressFor S B (a 1)) S) (mI (sX10_pressFor T (a 1))) co1 I
  | 26 => PFX (uP (sX9_scoreAfter S B (a 1) (a 2)) S) (mI (sX10_scoreAfter T (a 1) (a 2))) co1 I
  | 27 => PFX (uP (sX9_scoreAhead S B (a 1)) S) (mI (sX10_scoreAhead T (a 1))) co1 I
  | 28 => PFX (uP (sX9_bestRecipe S B (a 1)) S) (mI (sX10_bestRecipe T (a 1))) co1 I
  | 29 => PFX (uP (sX9_stepsTo S B (a 1) (a 2) (a 3)) S) (mI (sX10_stepsTo T (a 1) (a 2) (a 3))) co12 I
  | 30 => PFX (uW (sX9_quickestTo S B (a 1) (a 2))) (mI (sX10_quickestTo T (a 1) (a 2))) co12 I
  | 31 => PFX (uV (sX9_cheapestTo S B (a 1) (a 2))) (sX10_cheapestTo T (a 1) (a 2)) co12 I
  | 32 => PFX (uP (sX9_hoursAhead S B (a 1)) S) (mI (sX10_hoursAhead T (a 1))) co1 I
  | 33 => PFX (uP (sX9_bill S B (a 1)) S) (mI (sX10_bill T (a 1))) co13 I
  | 34 => PFX (uP (sX9_allBills S B ) S) (mI (sX10_allBills T)) co3 I
  | 35 => PFX (uP (sX9_billAhead S B (a 1)) S) (mI (sX10_billAhead T (a 1))) co13 I
  | 36 => PFX (uP (sX9_record S B (a 1) (a 2)) S) (mI (sX10_record T (a 1) (a 2))) co1 I
  | 37 => PFX (uP (sX9_recordsOf S B (a 1) (a 2)) S) (mI (sX10_recordsOf T (a 1) (a 2))) co12 I
  | 38 => PFX (uP (sX9_latestRecord S B (a 1)) S) (mI (sX10_latestRecord T (a 1))) co1 I
  | 39 => PFX (uP (sX9_lost S B (a 1)) S) (mI (sX10_lost T (a 1))) co1 I
  | 40 => PFX (uP (sX9_recorded S B (a 1)) S) (mI (sX10_recorded T (a 1))) co1 I
  | 41 => PFX (uW (sX9_readyAt S B (a 1) (a 2))) (mI (sX10_readyAt T (a 1) (a 2))) co12 I
  | 42 => PFX (uW (sX9_scoreIn S B (a 1) (a 2))) (mI (sX10_scoreIn T (a 1) (a 2))) co12 I
  | 43 => PFX (uW (sX9_lentIn S B (a 1))) (mI (sX10_lentIn T (a 1))) co2 I
  | 44 => PFX (uW (sX9_bestBenches S B (a 1))) (mI (sX10_bestBenches T (a 1))) co2 I
  | 45 => PFX (uW (sX9_quietAt S B (a 1))) (mI (sX10_quietAt T (a 1))) co2 I
  | 46 => PFX (uP (sX9_lateness S B (a 1)) S) (mI (sX10_lateness T (a 1))) co1 I
  | 47 => PFA (uA (sX9_mostUrgent S B ) S) (sX10_mostUrgent T) I
  | 48 => PFA (uA (sX9_waitingLoan S B (a 1)) S) (sX10_waitingLoan T (a 1)) I
  | 49 => PFX (uP (sX9_uses S B (a 1)) S) (mI (sX10_uses T (a 1))) co1 I
  | 50 => PFX (uP (sX9_pressUse S B (a 1)) S) (mI (sX10_pressUse T (a 1))) co1 I
  | 51 => PFX (uP (sX9_inQueues S B (a 1)) S) (mI (sX10_inQueues T (a 1))) co1 I
  | 52 => PFX (uP (sX9_dryIn S B (a 1)) S) (mI (sX10_dryIn T (a 1))) co1 I
  | 53 => PFX (uP (sX9_rank S B (a 1)) S) (mI (sX10_rank T (a 1))) co1 I
  | 54 => PFA (uA (sX9_below S B (a 1)) S) (sX10_below T (a 1)) I
  | 55 => PFX (uP (sX9_objectsIn S B (a 1)) S) (mI (sX10_objectsIn T (a 1))) co2 I
  | 56 => PFX (uM (sX9_meanScore S B ) S) (sX10_meanScore T) co3 I
  | 57 => PFX (uW (sX9_write S B (a 1))) (mI (sX10_write T (a 1))) co1 I
  | 58 => PFA (uA (sX9_outputByte S B (a 1)) S) (sX10_outputByte T (a 1)) I
  | 59 => PFA (uE (sX9_play S B)) (sX10_play T) I
  | 60 => PFA (sX9_undo S B) (sX10_undo T) I
  | 61 => PFA (uA (sX9_digest S B ) S) (sX10_digest T) I
  | 62 => PFA (sX9_saveSnapshot S B (a 1)) (sX10_saveSnapshot T (a 1)) I
  | _ => PFA (sX9_restoreSnapshot S B (a 1)) (sX10_restoreSnapshot T (a 1)) I
theorem law_cmp {n i : Nat} (hn : n < 1000000) (hi : i < 1000000) : Int32.ofNat n - (6 : Int32) < Int32.ofNat i ↔ n < i + 6 := by
  show nI n - nI 6 < nI i ↔ _
  have e1 : (nI i).toInt = (i : Int) := ofN_int (by omega)
  rw [Int32.lt_iff_toInt_lt, pk_sub_toInt (by omega) (by omega), e1]
  omega
theorem le64 {P : Nat → Prop} (h0 : P 0) (h1 : P 1) (h2 : P 2) (h3 : P 3) (h4 : P 4) (h5 : P 5) (h6 : P 6) (h7 : P 7) (h8 : P 8) (h9 : P 9) (h10 : P 10) (h11 : P 11) (h12 : P 12) (h13 : P 13) (h14 : P 14) (h15 : P 15) (h16 : P 16) (h17 : P 17) (h18 : P 18) (h19 : P 19) (h20 : P 20) (h21 : P 21) (h22 : P 22) (h23 : P 23) (h24 : P 24) (h25 : P 25) (h26 : P 26) (h27 : P 27) (h28 : P 28) (h29 : P 29) (h30 : P 30) (h31 : P 31) (h32 : P 32) (h33 : P 33) (h34 : P 34) (h35 : P 35) (h36 : P 36) (h37 : P 37) (h38 : P 38) (h39 : P 39) (h40 : P 40) (h41 : P 41) (h42 : P 42) (h43 : P 43) (h44 : P 44) (h45 : P 45) (h46 : P 46) (h47 : P 47) (h48 : P 48) (h49 : P 49) (h50 : P 50) (h51 : P 51) (h52 : P 52) (h53 : P 53) (h54 : P 54) (h55 : P 55) (h56 : P 56) (h57 : P 57) (h58 : P 58) (h59 : P 59) (h60 : P 60) (h61 : P 61) (h62 : P 62) (h63 : P 63) : ∀ j, j < 64 → P j := fun j hj => match j, hj with
  | 0, _ => h0
  | 1, _ => h1
  | 2, _ => h2
  | 3, _ => h3
  | 4, _ => h4
  | 5, _ => h5
  | 6, _ => h6
  | 7, _ => h7
  | 8, _ => h8
  | 9, _ => h9
  | 10, _ => h10
  | 11, _ => h11
  | 12, _ => h12
  | 13, _ => h13
  | 14, _ => h14
  | 15, _ => h15
  | 16, _ => h16
  | 17, _ => h17
  | 18, _ => h18
  | 19, _ => h19
  | 20, _ => h20
  | 21, _ => h21
  | 22, _ => h22
  | 23, _ => h23
  | 24, _ => h24
  | 25, _ => h25
  | 26, _ => h26
  | 27, _ => h27
  | 28, _ => h28
  | 29, _ => h29
  | 30, _ => h30
  | 31, _ => h31
  | 32, _ => h32
  | 33, _ => h33
  | 34, _ => h34
  | 35, _ => h35
  | 36, _ => h36
  | 37, _ => h37
  | 38, _ => h38
  | 39, _ => h39
  | 40, _ => h40
  | 41, _ => h41
  | 42, _ => h42
  | 43, _ => h43
  | 44, _ => h44
  | 45, _ => h45
  | 46, _ => h46
  | 47, _ => h47
  | 48, _ => h48
  | 49, _ => h49
  | 50, _ => h50
  | 51, _ => h51
  | 52, _ => h52
  | 53, _ => h53
  | 54, _ => h54
  | 55, _ => h55
  | 56, _ => h56
  | 57, _ => h57
  | 58, _ => h58
  | 59, _ => h59
  | 60, _ => h60
  | 61, _ => h61
  | 62, _ => h62
  | 63, _ => h63
  | _ + 64, h => absurd h (by omega)
set_option maxRecDepth 100000 in
theorem law_loop {g : AG} {h0 : AH} {B bs n : Nat} {Q : AO → AH → Prop} {xs : Nat → Int32} {I : Nat → XT → Mem → Prop} (hB : gB g ≤ B) (hst : Sta g h0) (hbs : bs < B) (hsc : h0.1 bs = some (.inl (0, n, .inl xs))) (hn : n ≤ 3072) (hI : ∀ m S T, I m S T → lrw B S.2.2.1)
    (hpf : ∀ m S T a c, c < 64 → I (m + 1) S T → PF B S T a (I m) c) (hdc : ∀ m S T, I (m + 1) S T → ∀ b T1, sX10_meanScore T = some (b, T1) → gi T1 100 6 0 = 0 → Op.cmpValue (FP.dcmp b b) .l = 0) (hQ : ∀ h, Q (.ok (some (.int 1))) h) : ∀ m i S T o d, i + 6 * m ≤ n → n < i + 6 * m + 6 → I m S T → AW g ML_law 28 (LL bs B i) [] (LH h0 B S T o d) Q := by
  intro m
  induction m with
  | zero =>
    intro i S T o d h1 h2 hIn
    have hl := hI _ _ _ hIn
    refine AW.iload (lr_h 16 rfl) rfl rfl ?_
    refine AW.aload_n (z := 0) (lr_h 17 rfl) rfl rfl ?_
    refine AW.alen (v := Int32.ofNat n) (lr_h 18 rfl) rfl rfl ((LH_low hl hbs).trans hsc) rfl ?_
    refine AW.bipush (v := (6 : Int32)) (lr_h 19 rfl) rfl (by decide) ?_
    refine AW.isub (lr_h 20 rfl) rfl ?_
    refine AW.icmp_gt (tg := 3617) (lr_h 21 rfl) rfl rfl (fun _ => ?_) (fun hc => absurd (law_cmp (by omega) (by omega) |>.mpr (by omega)) hc)
    refine AW.iconst (lr_t 2 rfl) rfl ci_1 ?_
    exact AW.zret (lr_t 3 rfl) rfl (Or.inr rfl) (hQ _)
  | succ m ih =>
    intro i S T o d h1 h2 hIn
    have hl := hI _ _ _ hIn
    refine AW.iload (lr_h 16 rfl) rfl rfl ?_
    refine AW.aload_n (z := 0) (lr_h 17 rfl) rfl rfl ?_
    refine AW.alen (v := Int32.ofNat n) (lr_h 18 rfl) rfl rfl ((LH_low hl hbs).trans hsc) rfl ?_
    refine AW.bipush (v := (6 : Int32)) (lr_h 19 rfl) rfl (by decide) ?_
    refine AW.isub (lr_h 20 rfl) rfl ?_
    refine AW.icmp_gt (tg := 3617) (lr_h 21 rfl) rfl rfl (fun hc => absurd (law_cmp (by omega) (by omega) |>.mp hc) (by omega)) (fun _ => ?_)
    refine AW.aload_n (z := 0) (lr_h 22 rfl) rfl rfl ?_
    refine AW.iload (lr_h 23 rfl) rfl rfl ?_
    refine AW.iald (v := .int (xs i)) (lr_h 24 rfl) rfl ((LH_low hl hbs).trans hsc) (ofN_in (by omega) (by omega)) (by rw [ofN_nat (by omega)]) ?_
    refine AW.bipush (v := (63 : Int32)) (lr_h 25 rfl) rfl (by decide) ?_
    refine AW.iand (lr_h 26 rfl) rfl ?_
    have kk : ∀ S' T' o' d', I m S' T' → AW g ML_law 3611 (LL bs B i) [] (LH h0 B S' T' o' d') Q := by
      intro S' T' o' d' hI'
      refine AW.iinc (v := Int32.ofNat (i + 6)) (L' := LL bs B (i + 6)) (lr_t 0 rfl) rfl (Nat.le_of_ble_eq_true rfl) rfl (ix_add rfl) rfl ?_
      refine AW.goto (tg := 28) (lr_t 1 rfl) rfl ?_
      exact ih (i + 6) S' T' o' d' (by omega) (by omega) hI'
    obtain ⟨c, hc, hx⟩ := pk_andE (xs i) (m := 63) 6 (by decide)
    revert hx
    revert c
    exact le64 (P := fun c => (xs i &&& 63) = nI c → AW g ML_law 45 (LL bs B i) [.int (xs i &&& 63)] (LH h0 B S T o d) Q)
      (fun hx => AW.tabsw_at (tg := 316) (i := 0) (lr_h 27 rfl) hx rfl rfl rfl (by decide) (cL_0 hB hst hbs hsc hn (by omega) (hI m) (hI _ _ _ hIn) (hpf m S T (fun k => xs (i + k)) 0 (by omega) hIn) kk))
      (fun hx => AW.tabsw_at (tg := 389) (i := 1) (lr_h 27 rfl) hx rfl rfl rfl (by decide) (cL_1 hB hst hbs hsc hn (by omega) (hI m) (hI _ _ _ hIn) (hpf m S T (fun k => xs (i + k)) 1 (by omega) hIn) kk))
      (fun hx => AW.tabsw_at (tg := 414) (i := 2) (lr_h 27 rfl) hx rfl rfl rfl (by decide) (cL_2 hB hst hbs hsc hn (by omega) (hI m) (hI _ _ _ hIn) (hpf m S T (fun k => xs (i + k)) 2 (by omega) hIn) kk))
      (fun hx => AW.tabsw_at (tg := 427) (i := 3) (lr_h 27 rfl) hx rfl rfl rfl (by decide) (cL_3 hB hst hbs hsc hn (by omega) (hI m) (hI _ _ _ hIn) (hpf m S T (fun k => xs (i + k)) 3 (by omega) hIn) kk))
      (fun hx => AW.tabsw_at (tg := 440) (i := 4) (lr_h 27 rfl) hx rfl rfl rfl (by decide) (cL_4 hB hst hbs hsc hn (by omega) (hI m) (hI _ _ _ hIn) (hpf m S T (fun k => xs (i + k)) 4 (by omega) hIn) kk))
      (fun hx => AW.tabsw_at (tg := 453) (i := 5) (lr_h 27 rfl) hx rfl rfl rfl (by decide) (cL_5 hB hst hbs hsc hn (by omega) (hI m) (hI _ _ _ hIn) (hpf m S T (fun k => xs (i + k)) 5 (by omega) hIn) kk))
      (fun hx => AW.tabsw_at (tg := 478) (i := 6) (lr_h 27 rfl) hx rfl rfl rfl (by decide) (cL_6 hB hst hbs hsc hn (by omega) (hI m) (hI _ _ _ hIn) (hpf m S T (fun k => xs (i + k)) 6 (by omega) hIn) kk))
      (fun hx => AW.tabsw_at (tg := 546) (i := 7) (lr_h 27 rfl) hx rfl rfl rfl (by decide) (cL_7 hB hst hbs hsc hn (by omega) (hI m) (hI _ _ _ hIn) (hpf m S T (fun k => xs (i + k)) 7 (by omega) hIn) kk))
      (fun hx => AW.tabsw_at (tg := 614) (i := 8) (lr_h 27 rfl) hx rfl rfl rfl (by decide) (cL_8 hB hst hbs hsc hn (by omega) (hI m) (hI _ _ _ hIn) (hpf m S T (fun k => xs (i + k)) 8 (by omega) hIn) kk))
      (fun hx => AW.tabsw_at (tg := 682) (i := 9) (lr_h 27 rfl) hx rfl rfl rfl (by decide) (cL_9 hB hst hbs hsc hn (by omega) (hI m) (hI _ _ _ hIn) (hpf m S T (fun k => xs (i + k)) 9 (by omega) hIn) kk))
      (fun hx => AW.tabsw_at (tg := 750) (i := 10) (lr_h 27 rfl) hx rfl rfl rfl (by decide) (cL_10 hB hst hbs hsc hn (by omega) (hI m) (hI _ _ _ hIn) (hpf m S T (fun k => xs (i + k)) 10 (by omega) hIn) kk))
      (fun hx => AW.tabsw_at (tg := 818) (i := 11) (lr_h 27 rfl) hx rfl rfl rfl (by decide) (cL_11 hB hst hbs hsc hn (by omega) (hI m) (hI _ _ _ hIn) (hpf m S T (fun k => xs (i + k)) 11 (by omega) hIn) kk))
      (fun hx => AW.tabsw_at (tg := 886) (i := 12) (lr_h 27 rfl) hx rfl rfl rfl (by decide) (cL_12 hB hst hbs hsc hn (by omega) (hI m) (hI _ _ _ hIn) (hpf m S T (fun k => xs (i + k)) 12 (by omega) hIn) kk))
      (fun hx => AW.tabsw_at (tg := 942) (i := 13) (lr_h 27 rfl) hx rfl rfl rfl (by decide) (cL_13 hB hst hbs hsc hn (by omega) (hI m) (hI _ _ _ hIn) (hpf m S T (fun k => xs (i + k)) 13 (by omega) hIn) kk))
      (fun hx => AW.tabsw_at (tg := 998) (i := 14) (lr_h 27 rfl) hx rfl rfl rfl (by decide) (cL_14 hB hst hbs hsc hn (by omega) (hI m) (hI _ _ _ hIn) (hpf m S T (fun k => xs (i + k)) 14 (by omega) hIn) kk))
      (fun hx => AW.tabsw_at (tg := 1078) (i := 15) (lr_h 27 rfl) hx rfl rfl rfl (by decide) (cL_15 hB hst hbs hsc hn (by omega) (hI m) (hI _ _ _ hIn) (hpf m S T (fun k => xs (i + k)) 15 (by omega) hIn) kk))
      (fun hx => AW.tabsw_at (tg := 1134) (i := 16) (lr_h 27 rfl) hx rfl rfl rfl (by decide) (cL_16 hB hst hbs hsc hn (by omega) (hI m) (hI _ _ _ hIn) (hpf m S T (fun k => xs (i + k)) 16 (by omega) hIn) kk))
      (fun hx => AW.tabsw_at (tg := 1226) (i := 17) (lr_h 27 rfl) hx rfl rfl rfl (by decide) (cL_17 hB hst hbs hsc hn (by omega) (hI m) (hI _ _ _ hIn) (hpf m S T (fun k => xs (i + k)) 17 (by omega) hIn) kk))
      (fun hx => AW.tabsw_at (tg := 1282) (i := 18) (lr_h 27 rfl) hx rfl rfl rfl (by decide) (cL_18 hB hst hbs hsc hn (by omega) (hI m) (hI _ _ _ hIn) (hpf m S T (fun k => xs (i + k)) 18 (by omega) hIn) kk))
      (fun hx => AW.tabsw_at (tg := 1338) (i := 19) (lr_h 27 rfl) hx rfl rfl rfl (by decide) (cL_19 hB hst hbs hsc hn (by omega) (hI m) (hI _ _ _ hIn) (hpf m S T (fun k => xs (i + k)) 19 (by omega) hIn) kk))
      (fun hx => AW.tabsw_at (tg := 1394) (i := 20) (lr_h 27 rfl) hx rfl rfl rfl (by decide) (cL_20 hB hst hbs hsc hn (by omega) (hI m) (hI _ _ _ hIn) (hpf m S T (fun k => xs (i + k)) 20 (by omega) hIn) kk))
      (fun hx => AW.tabsw_at (tg := 1450) (i := 21) (lr_h 27 rfl) hx rfl rfl rfl (by decide) (cL_21 hB hst hbs hsc hn (by omega) (hI m) (hI _ _ _ hIn) (hpf m S T (fun k => xs (i + k)) 21 (by omega) hIn) kk))
      (fun hx => AW.tabsw_at (tg := 1506) (i := 22) (lr_h 27 rfl) hx rfl rfl rfl (by decide) (cL_22 hB hst hbs hsc hn (by omega) (hI m) (hI _ _ _ hIn) (hpf m S T (fun k => xs (i + k)) 22 (by omega) hIn) kk))
      (fun hx => AW.tabsw_at (tg := 1519) (i := 23) (lr_h 27 rfl) hx rfl rfl rfl (by decide) (cL_23 hB hst hbs hsc hn (by omega) (hI m) (hI _ _ _ hIn) (hpf m S T (fun k => xs (i + k)) 23 (by omega) hIn) kk))
      (fun hx => AW.tabsw_at (tg := 1594) (i := 24) (lr_h 27 rfl) hx rfl rfl rfl (by decide) (cL_24 hB hst hbs hsc hn (by omega) (hI m) (hI _ _ _ hIn) (hpf m S T (fun k => xs (i + k)) 24 (by omega) hIn) kk))
      (fun hx => AW.tabsw_at (tg := 1650) (i := 25) (lr_h 27 rfl) hx rfl rfl rfl (by decide) (cL_25 hB hst hbs hsc hn (by omega) (hI m) (hI _ _ _ hIn) (hpf m S T (fun k => xs (i + k)) 25 (by omega) hIn) kk))
      (fun hx => AW.tabsw_at (tg := 1706) (i := 26) (lr_h 27 rfl) hx rfl rfl rfl (by decide) (cL_26 hB hst hbs hsc hn (by omega) (hI m) (hI _ _ _ hIn) (hpf m S T (fun k => xs (i + k)) 26 (by omega) hIn) kk))
      (fun hx => AW.tabsw_at (tg := 1774) (i := 27) (lr_h 27 rfl) hx rfl rfl rfl (by decide) (cL_27 hB hst hbs hsc hn (by omega) (hI m) (hI _ _ _ hIn) (hpf m S T (fun k => xs (i + k)) 27 (by omega) hIn) kk))
      (fun hx => AW.tabsw_at (tg := 1830) (i := 28) (lr_h 27 rfl) hx rfl rfl rfl (by decide) (cL_28 hB hst hbs hsc hn (by omega) (hI m) (hI _ _ _ hIn) (hpf m S T (fun k => xs (i + k)) 28 (by omega) hIn) kk))
      (fun hx => AW.tabsw_at (tg := 1886) (i := 29) (lr_h 27 rfl) hx rfl rfl rfl (by decide) (cL_29 hB hst hbs hsc hn (by omega) (hI m) (hI _ _ _ hIn) (hpf m S T (fun k => xs (i + k)) 29 (by omega) hIn) kk))
      (fun hx => AW.tabsw_at (tg := 1966) (i := 30) (lr_h 27 rfl) hx rfl rfl rfl (by decide) (cL_30 hB hst hbs hsc hn (by omega) (hI m) (hI _ _ _ hIn) (hpf m S T (fun k => xs (i + k)) 30 (by omega) hIn) kk))
      (fun hx => AW.tabsw_at (tg := 2034) (i := 31) (lr_h 27 rfl) hx rfl rfl rfl (by decide) (cL_31 hB hst hbs hsc hn (by omega) (hI m) (hI _ _ _ hIn) (hpf m S T (fun k => xs (i + k)) 31 (by omega) hIn) kk))
      (fun hx => AW.tabsw_at (tg := 2101) (i := 32) (lr_h 27 rfl) hx rfl rfl rfl (by decide) (cL_32 hB hst hbs hsc hn (by omega) (hI m) (hI _ _ _ hIn) (hpf m S T (fun k => xs (i + k)) 32 (by omega) hIn) kk))
      (fun hx => AW.tabsw_at (tg := 2157) (i := 33) (lr_h 27 rfl) hx rfl rfl rfl (by decide) (cL_33 hB hst hbs hsc hn (by omega) (hI m) (hI _ _ _ hIn) (hpf m S T (fun k => xs (i + k)) 33 (by omega) hIn) kk))
      (fun hx => AW.tabsw_at (tg := 2213) (i := 34) (lr_h 27 rfl) hx rfl rfl rfl (by decide) (cL_34 hB hst hbs hsc hn (by omega) (hI m) (hI _ _ _ hIn) (hpf m S T (fun k => xs (i + k)) 34 (by omega) hIn) kk))
      (fun hx => AW.tabsw_at (tg := 2257) (i := 35) (lr_h 27 rfl) hx rfl rfl rfl (by decide) (cL_35 hB hst hbs hsc hn (by omega) (hI m) (hI _ _ _ hIn) (hpf m S T (fun k => xs (i + k)) 35 (by omega) hIn) kk))
      (fun hx => AW.tabsw_at (tg := 2313) (i := 36) (lr_h 27 rfl) hx rfl rfl rfl (by decide) (cL_36 hB hst hbs hsc hn (by omega) (hI m) (hI _ _ _ hIn) (hpf m S T (fun k => xs (i + k)) 36 (by omega) hIn) kk))
      (fun hx => AW.tabsw_at (tg := 2381) (i := 37) (lr_h 27 rfl) hx rfl rfl rfl (by decide) (cL_37 hB hst hbs hsc hn (by omega) (hI m) (hI _ _ _ hIn) (hpf m S T (fun k => xs (i + k)) 37 (by omega) hIn) kk))
      (fun hx => AW.tabsw_at (tg := 2449) (i := 38) (lr_h 27 rfl) hx rfl rfl rfl (by decide) (cL_38 hB hst hbs hsc hn (by omega) (hI m) (hI _ _ _ hIn) (hpf m S T (fun k => xs (i + k)) 38 (by omega) hIn) kk))
      (fun hx => AW.tabsw_at (tg := 2505) (i := 39) (lr_h 27 rfl) hx rfl rfl rfl (by decide) (cL_39 hB hst hbs hsc hn (by omega) (hI m) (hI _ _ _ hIn) (hpf m S T (fun k => xs (i + k)) 39 (by omega) hIn) kk))
      (fun hx => AW.tabsw_at (tg := 2561) (i := 40) (lr_h 27 rfl) hx rfl rfl rfl (by decide) (cL_40 hB hst hbs hsc hn (by omega) (hI m) (hI _ _ _ hIn) (hpf m S T (fun k => xs (i + k)) 40 (by omega) hIn) kk))
      (fun hx => AW.tabsw_at (tg := 2617) (i := 41) (lr_h 27 rfl) hx rfl rfl rfl (by decide) (cL_41 hB hst hbs hsc hn (by omega) (hI m) (hI _ _ _ hIn) (hpf m S T (fun k => xs (i + k)) 41 (by omega) hIn) kk))
      (fun hx => AW.tabsw_at (tg := 2685) (i := 42) (lr_h 27 rfl) hx rfl rfl rfl (by decide) (cL_42 hB hst hbs hsc hn (by omega) (hI m) (hI _ _ _ hIn) (hpf m S T (fun k => xs (i + k)) 42 (by omega) hIn) kk))
      (fun hx => AW.tabsw_at (tg := 2753) (i := 43) (lr_h 27 rfl) hx rfl rfl rfl (by decide) (cL_43 hB hst hbs hsc hn (by omega) (hI m) (hI _ _ _ hIn) (hpf m S T (fun k => xs (i + k)) 43 (by omega) hIn) kk))
      (fun hx => AW.tabsw_at (tg := 2809) (i := 44) (lr_h 27 rfl) hx rfl rfl rfl (by decide) (cL_44 hB hst hbs hsc hn (by omega) (hI m) (hI _ _ _ hIn) (hpf m S T (fun k => xs (i + k)) 44 (by omega) hIn) kk))
      (fun hx => AW.tabsw_at (tg := 2865) (i := 45) (lr_h 27 rfl) hx rfl rfl rfl (by decide) (cL_45 hB hst hbs hsc hn (by omega) (hI m) (hI _ _ _ hIn) (hpf m S T (fun k => xs (i + k)) 45 (by omega) hIn) kk))
      (fun hx => AW.tabsw_at (tg := 2921) (i := 46) (lr_h 27 rfl) hx rfl rfl rfl (by decide) (cL_46 hB hst hbs hsc hn (by omega) (hI m) (hI _ _ _ hIn) (hpf m S T (fun k => xs (i + k)) 46 (by omega) hIn) kk))
      (fun hx => AW.tabsw_at (tg := 2977) (i := 47) (lr_h 27 rfl) hx rfl rfl rfl (by decide) (cL_47 hB hst hbs hsc hn (by omega) (hI m) (hI _ _ _ hIn) (hpf m S T (fun k => xs (i + k)) 47 (by omega) hIn) kk))
      (fun hx => AW.tabsw_at (tg := 2990) (i := 48) (lr_h 27 rfl) hx rfl rfl rfl (by decide) (cL_48 hB hst hbs hsc hn (by omega) (hI m) (hI _ _ _ hIn) (hpf m S T (fun k => xs (i + k)) 48 (by omega) hIn) kk))
      (fun hx => AW.tabsw_at (tg := 3015) (i := 49) (lr_h 27 rfl) hx rfl rfl rfl (by decide) (cL_49 hB hst hbs hsc hn (by omega) (hI m) (hI _ _ _ hIn) (hpf m S T (fun k => xs (i + k)) 49 (by omega) hIn) kk))
      (fun hx => AW.tabsw_at (tg := 3071) (i := 50) (lr_h 27 rfl) hx rfl rfl rfl (by decide) (cL_50 hB hst hbs hsc hn (by omega) (hI m) (hI _ _ _ hIn) (hpf m S T (fun k => xs (i + k)) 50 (by omega) hIn) kk))
      (fun hx => AW.tabsw_at (tg := 3127) (i := 51) (lr_h 27 rfl) hx rfl rfl rfl (by decide) (cL_51 hB hst hbs hsc hn (by omega) (hI m) (hI _ _ _ hIn) (hpf m S T (fun k => xs (i + k)) 51 (by omega) hIn) kk))
      (fun hx => AW.tabsw_at (tg := 3183) (i := 52) (lr_h 27 rfl) hx rfl rfl rfl (by decide) (cL_52 hB hst hbs hsc hn (by omega) (hI m) (hI _ _ _ hIn) (hpf m S T (fun k => xs (i + k)) 52 (by omega) hIn) kk))
      (fun hx => AW.tabsw_at (tg := 3239) (i := 53) (lr_h 27 rfl) hx rfl rfl rfl (by decide) (cL_53 hB hst hbs hsc hn (by omega) (hI m) (hI _ _ _ hIn) (hpf m S T (fun k => xs (i + k)) 53 (by omega) hIn) kk))
      (fun hx => AW.tabsw_at (tg := 3295) (i := 54) (lr_h 27 rfl) hx rfl rfl rfl (by decide) (cL_54 hB hst hbs hsc hn (by omega) (hI m) (hI _ _ _ hIn) (hpf m S T (fun k => xs (i + k)) 54 (by omega) hIn) kk))
      (fun hx => AW.tabsw_at (tg := 3320) (i := 55) (lr_h 27 rfl) hx rfl rfl rfl (by decide) (cL_55 hB hst hbs hsc hn (by omega) (hI m) (hI _ _ _ hIn) (hpf m S T (fun k => xs (i + k)) 55 (by omega) hIn) kk))
      (fun hx => AW.tabsw_at (tg := 3376) (i := 56) (lr_h 27 rfl) hx rfl rfl rfl (by decide) (cL_56 hB hst hbs hsc hn (by omega) (hI m) (hI _ _ _ hIn) (hpf m S T (fun k => xs (i + k)) 56 (by omega) hIn) (hdc m S T hIn) kk))
      (fun hx => AW.tabsw_at (tg := 3441) (i := 57) (lr_h 27 rfl) hx rfl rfl rfl (by decide) (cL_57 hB hst hbs hsc hn (by omega) (hI m) (hI _ _ _ hIn) (hpf m S T (fun k => xs (i + k)) 57 (by omega) hIn) kk))
      (fun hx => AW.tabsw_at (tg := 3497) (i := 58) (lr_h 27 rfl) hx rfl rfl rfl (by decide) (cL_58 hB hst hbs hsc hn (by omega) (hI m) (hI _ _ _ hIn) (hpf m S T (fun k => xs (i + k)) 58 (by omega) hIn) kk))
      (fun hx => AW.tabsw_at (tg := 3522) (i := 59) (lr_h 27 rfl) hx rfl rfl rfl (by decide) (cL_59 hB hst hbs hsc hn (by omega) (hI m) (hI _ _ _ hIn) (hpf m S T (fun k => xs (i + k)) 59 (by omega) hIn) kk))
      (fun hx => AW.tabsw_at (tg := 3535) (i := 60) (lr_h 27 rfl) hx rfl rfl rfl (by decide) (cL_60 hB hst hbs hsc hn (by omega) (hI m) (hI _ _ _ hIn) (hpf m S T (fun k => xs (i + k)) 60 (by omega) hIn) kk))
      (fun hx => AW.tabsw_at (tg := 3548) (i := 61) (lr_h 27 rfl) hx rfl rfl rfl (by decide) (cL_61 hB hst hbs hsc hn (by omega) (hI m) (hI _ _ _ hIn) (hpf m S T (fun k => xs (i + k)) 61 (by omega) hIn) kk))
      (fun hx => AW.tabsw_at (tg := 3561) (i := 62) (lr_h 27 rfl) hx rfl rfl rfl (by decide) (cL_62 hB hst hbs hsc hn (by omega) (hI m) (hI _ _ _ hIn) (hpf m S T (fun k => xs (i + k)) 62 (by omega) hIn) kk))
      (fun hx => AW.tabsw_at (tg := 3586) (i := 63) (lr_h 27 rfl) hx rfl rfl rfl (by decide) (cL_63 hB hst hbs hsc hn (by omega) (hI m) (hI _ _ _ hIn) (hpf m S T (fun k => xs (i + k)) 63 (by omega) hIn) kk))
