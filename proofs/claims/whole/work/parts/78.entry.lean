/-! ===== THE LAW'S ENTRY ===== -/
section ENT
theorem gro_00 {h0 : AH} {f : Nat → AE} : gro h0 h0.2.1 0 h0.2.2.1 h0.2.2.2 f = h0 := by
  refine Prod.ext (funext fun q => ?_) rfl
  show (blk h0 h0.2.1 0 f).1 q = h0.1 q
  exact blk_out (by omega)
/-- the Model, made -/
theorem made0 : ∃ r, sX10_clearStudio M0 (0 : Int32) = some r ∧ (∀ c j i, c ≠ 5 → gi r c j i = gi M0 c j i) ∧ (∀ c i, gq r c i = 0) ∧ gi r 5 0 0 = 1 ∧ gi r 5 1 0 = 72 ∧ ∀ j, 2 ≤ j → j < 129 → gi r 5 j 0 = 0 := by
  unfold sX10_clearStudio sX10_clearStudio_l2
  obtain ⟨b, h1, h2⟩ := itw_one (f := sX10_clearStudio_l2_step (0 : Int32)) (J := fun k a => ∃ u X, u ≤ 129 ∧ k = 129 - u ∧ a = (nI u, X) ∧ (∀ c j i, c ≠ 5 → gi X c j i = gi M0 c j i) ∧ (∀ c i, gq X c i = 0) ∧ ∀ j, j < u → gi X 5 j 0 = 0) (P := fun r => (∀ c j i, c ≠ 5 → gi r c j i = gi M0 c j i) ∧ (∀ c i, gq r c i = 0) ∧ gi r 5 0 0 = 1 ∧ gi r 5 1 0 = 72 ∧ ∀ j, 2 ≤ j → j < 129 → gi r 5 j 0 = 0) (fun k a => by
    rintro ⟨u, X, u1, rfl, rfl, x1, x2, x3⟩
    unfold sX10_clearStudio_l2_step
    dsimp only
    by_cases e : u = 129
    · subst e
      rw [if_pos (show (129 : Int32) ≤ nI 129 by decide), show (0 : Int32) + 0 = nI 0 by decide, show (0 : Int32) + 1 = nI 1 by decide, n_inb (by omega) (by omega), oif_t rfl, olet_eq, n_inb (by omega) (by omega), oif_t rfl, olet_eq, n_cl (by omega), n_cl (by omega)]
      refine Or.inl ⟨_, rfl, fun c j i h => ?_, fun c i => x2 c i, ?_, ?_, fun j h1 h2 => ?_⟩
      · rw [gi_ne (by omega), gi_ne (by omega)]; exact x1 c j i h
      · rw [gi_ne (by omega), gi_eq2 ⟨rfl, rfl, rfl⟩]
      · rw [gi_eq2 ⟨rfl, rfl, rfl⟩]
      · rw [gi_ne (by omega), gi_ne (by omega)]; exact x3 j h2
    · have hle : ¬ (129 : Int32) ≤ nI u := by rw [n_lit 129, n_le (by omega) (by omega)]; omega
      rw [if_neg hle, show (0 : Int32) + nI u = nI u by rw [n_lit 0, nI_add, Nat.zero_add], n_inb (by omega) (by omega), oif_t rfl, olet_eq, n_cl (by omega), n_suc]
      refine Or.inr ⟨_, 129 - (u + 1), by omega, rfl, u + 1, _, by omega, rfl, rfl, fun c j i h => ?_, fun c i => x2 c i, fun j h1 => ?_⟩
      · rw [gi_ne (by omega)]; exact x1 c j i h
      · by_cases q : j = u
        · subst q; rw [gi_eq2 ⟨rfl, rfl, rfl⟩]
        · rw [gi_ne (by omega)]; exact x3 j (by omega)) (k := 129 - 0) (a := ((0 : Int32), M0)) ⟨0, M0, by omega, rfl, rfl, fun _ _ _ _ => rfl, fun _ _ => rfl, fun j h1 => by omega⟩
  exact ⟨b, h1, h2⟩
theorem mis0 : mis P0 = 12 := by decide
/-- what stands before the first call -/
theorem iw_start {B m c s : Nat} {r : Mem} (h1 : ∀ c j i, c ≠ 5 → gi r c j i = gi M0 c j i) (h2 : ∀ c i, gq r c i = 0) (h3 : gi r 5 0 0 = 1) (h4 : gi r 5 1 0 = 72) (h5 : ∀ j, 2 ≤ j → j < 129 → gi r 5 j 0 = 0) (hc : 696 + m ≤ c) (hs : 14628 + 6 * m ≤ s) : IW B m ((B + 141, c, s), Z0, P0, R0, S0, S0, fun _ => S0) r := by
  have hN : NumR S0 := fun i hi => by
    show (if (3 : Nat) = 0 ∧ 0 = 10 then (1 : Int32) else if (3 : Nat) = 0 ∧ 0 = 11 then 72 else if (3 : Nat) = 3 ∧ 0 = 0 then (if i = 17 then -1 else Int32.ofNat i) else 0) = nI i
    rw [if_neg (by omega), if_neg (by omega), if_pos (by omega), if_neg (by omega)]
    rfl
  refine ⟨⟨0, 0, 0, ⟨⟨⟨by omega, by omega, by omega⟩, ⟨rfl, rfl, rfl⟩, ⟨h5 2 (by omega) (by omega), h5 3 (by omega) (by omega), h5 4 (by omega) (by omega)⟩, ⟨h3.symm, h4.symm, ⟨1, by omega, by omega, h3⟩, ⟨72, by omega, by omega, h4⟩, hN⟩, fun p hp => by omega, fun r hr => by omega, fun i hi => by omega⟩, ⟨⟨0, by omega, rfl⟩, ⟨(h1 0 0 0 (by decide)).symm, (h1 0 1 0 (by decide)).symm, (h1 0 2 0 (by decide)).symm, (h1 0 3 0 (by decide)).symm⟩, fun r hr => by omega, fun p hp => by omega⟩, ⟨0, 0, by omega, by omega, Or.inl rfl, ⟨rfl, rfl⟩, ⟨h1 0 5 0 (by decide), h1 0 4 0 (by decide)⟩, fun j hj => by omega⟩, fun i hi => by omega, ⟨fun p hp => by omega, fun i hi => by omega⟩, fun i hi => by omega⟩, ⟨0, 0, 0, by omega, by omega, by omega, rfl, rfl, h1 100 3 0 (by decide), h1 100 4 0 (by decide), fun j hj => by omega⟩, ?_, ⟨(fun k hk a ha => by cases ha), Nat.le_refl _, ?_, ?_, fun k hk h => absurd rfl h⟩, ⟨⟨0, by omega, rfl, h1 100 12 0 (by decide), fun j hj => by omega⟩, (h1 100 14 0 (by decide)).symm, (h1 100 15 0 (by decide)).symm⟩, ⟨0, by omega, rfl, h1 100 10 0 (by decide), fun j hj => by omega⟩, hN, hN⟩, st_S0, fun _ => st_S0⟩
  · intro k hk
    have : gi r 2 k 0 = 0 := h1 2 k 0 (by decide)
    exact ⟨⟨fun _ => this, fun _ => rfl⟩, fun h => absurd this h⟩
  · show 58 * mis P0 + m ≤ c
    rw [mis0]; omega
  · show 1219 * mis P0 + 6 * m ≤ s
    rw [mis0]; omega
set_option maxRecDepth 100000 in
theorem law_entry {g : AG} {h0 : AH} {bs n : Nat} {Q : AO → AH → Prop} {xs : Nat → Int32} (hst : Sta g h0) (hB : gB g ≤ h0.2.1) (hbs : bs < h0.2.1) (hsc : h0.1 bs = some (.inl (0, n, .inl xs))) (hn : n ≤ 3072) (hc : 2000 ≤ h0.2.2.1) (hs : 60000 ≤ h0.2.2.2)
    (hm : ∀ B m S T, IV B (m + 1) S T → PFX (uM (sX9_meanScore S B) S) (sX10_meanScore T) co3 (IV B m)) (hdc : ∀ B m S T, IV B (m + 1) S T → ∀ b T1, sX10_meanScore T = some (b, T1) → gi T1 100 6 0 = 0 → Op.cmpValue (FP.dcmp b b) .l = 0) (hQ : ∀ h, Q (.ok (some (.int 1))) h) : AW g ML_law 0 [some (.ref bs), none, none, none, none, none, none, none, none] [] h0 Q := by
  obtain ⟨r, r0, r1, r2, r3, r4, r5⟩ := made0
  generalize hB2 : h0.2.1 = B at hB hbs
  refine AW.heq (h' := gro h0 B 0 h0.2.2.1 h0.2.2.2 (fun _ => ob 9 9 fdX9)) (by rw [← hB2]; exact gro_00.symm) ?_
  refine AW.newG (F := fdX9) (lr_h 0 rfl) rfl klX9 q26 q27 q1 hdX9 (by omega) (by omega) ?_
  refine AW.dup (lr_h 1 rfl) rfl rfl ?_
  refine AW.callI (N := MX9_init) (As := []) (b := _) (lr_h 2 rfl) rfl oiX9_init q28 rfl rfl rfl rfl rfl ?_
  refine AW.heq (gro_eq (f' := fun _ => ob 9 9 fdX9) rfl rfl rfl (fun j hj => by rw [if_pos (by omega)])) ?_
  refine nX9_init (W := fun _ => S0) hst (by omega) (by omega) hB (cQ_v ?_)
  refine AW.astore_n (z := 1) (L' := [some (.ref bs), some (.ref B), none, none, none, none, none, none, none]) (lr_h 3 rfl) rfl (Nat.le_of_ble_eq_true rfl) rfl ?_
  generalize hH1 : xh (bw h0 B (B + 129, h0.2.2.1 - 1 - 128, h0.2.2.2 - 9 - 4710) P0 (fun _ => S0)) B Z0 P0 R0 S0 S0 = h1
  have z1 : h1.2 = (B + 129, h0.2.2.1 - 1 - 128, h0.2.2.2 - 9 - 4710) := by rw [← hH1]; rfl
  have z2 : h1.2.1 = B + 129 := congrArg Prod.fst z1
  have z3 : h1.2.2.1 = h0.2.2.1 - 1 - 128 := congrArg (fun z => z.2.1) z1
  have z4 : h1.2.2.2 = h0.2.2.2 - 9 - 4710 := congrArg (fun z => z.2.2) z1
  refine AW.heq (h' := gro h1 (B + 129) 0 h1.2.2.1 h1.2.2.2 (fun _ => ob 10 24 fdX10)) (by rw [← z2]; exact gro_00.symm) ?_
  refine AW.newG (F := fdX10) (lr_h 4 rfl) rfl klX10 q1493 q1494 q11 hdX10 (by omega) (by omega) ?_
  refine AW.dup (lr_h 5 rfl) rfl rfl ?_
  refine AW.callI (N := MX10_init) (As := []) (b := _) (lr_h 6 rfl) rfl oiX10_init q1495 rfl rfl rfl rfl rfl ?_
  refine AW.heq (gro_eq (f' := fun _ => ob 10 24 fdX10) rfl rfl rfl (fun j hj => by rw [if_pos (by omega)])) ?_
  refine nX10_init (by omega) (by omega) (by omega) r0 (cQ_v ?_)
  refine AW.astore_n (z := 2) (L' := [some (.ref bs), some (.ref B), some (.ref (B + 129)), none, none, none, none, none, none]) (lr_h 7 rfl) rfl (Nat.le_of_ble_eq_true rfl) rfl ?_
  refine AW.iconst (lr_h 8 rfl) rfl ci_1 ?_
  refine AW.newa (t := 1) (N := 1) (ty := .long) (a0 := (1, .inr (.inl (fun _ => 0)))) (lr_h 9 rfl) rfl q391 rfl rfl (fun _ => rfl) (by decide) (by decide) (by decide) (show 1 ≤ h1.2.2.1 - 1 - 9 by omega) (show 1 ≤ h1.2.2.2 - 24 - 16137 by omega) ?_
  refine AW.astore_n (z := 3) (L' := [some (.ref bs), some (.ref B), some (.ref (B + 129)), some (.ref (B + 139)), none, none, none, none, none]) (lr_h 10 rfl) rfl (Nat.le_of_ble_eq_true rfl) rfl ?_
  refine AW.iconst (lr_h 11 rfl) rfl ci_1 ?_
  refine AW.newa (t := 4) (N := 1) (ty := .double) (a0 := (1, .inr (.inr (.inr (.inl (fun _ => 0)))))) (lr_h 12 rfl) rfl q2163 rfl rfl (fun _ => rfl) (by decide) (by decide) (by decide) (show 1 ≤ h1.2.2.1 - 1 - 9 - 1 by omega) (show 1 ≤ h1.2.2.2 - 24 - 16137 - 1 by omega) ?_
  refine AW.astore (L' := [some (.ref bs), some (.ref B), some (.ref (B + 129)), some (.ref (B + 139)), some (.ref (B + 140)), none, none, none, none]) (lr_h 13 rfl) rfl (Nat.le_of_ble_eq_true rfl) rfl ?_
  refine AW.iconst (lr_h 14 rfl) rfl ci_0 ?_
  refine AW.istore (L' := LL bs B 0) (lr_h 15 rfl) rfl (Nat.le_of_ble_eq_true rfl) rfl ?_
  have hm512 : n / 6 ≤ 512 := by omega
  have hl : lrw B P0 := fun k hk a ha => by cases ha
  refine AW.heq (h' := LH h0 B ((B + 141, h0.2.2.1 - 141, h0.2.2.2 - 20882), Z0, P0, R0, S0, S0, fun _ => S0) r 0 0) ?_ ?_
  · refine Prod.ext (funext fun q => ?_) ?_
    · by_cases q1 : q < B
      · rw [LH_low hl q1]
        show (upA (upA (mb (h1.1, B + 129 + 10, h1.2.2.1 - 1 - 9, h1.2.2.2 - 24 - 16137) (B + 129) r).1 (B + 129 + 10) _) (B + 129 + 10 + 1) _) q = _
        unfold upA
        rw [if_neg (by omega), if_neg (by omega)]
        refine (blk_out (by omega)).trans ?_
        show h1.1 q = h0.1 q
        rw [← hH1, xh_far (by omega)]
        exact rws_out 12 (Nat.le_refl _) fun k hk a ha => by cases ha
      · by_cases q2 : q < B + 129
        · obtain ⟨j, rfl⟩ : ∃ j, q = B + j := ⟨q - B, by omega⟩
          unfold LH
          rw [xh_cell (by omega)]
          show (upA (upA (mb (h1.1, B + 129 + 10, h1.2.2.1 - 1 - 9, h1.2.2.2 - 24 - 16137) (B + 129) r).1 (B + 129 + 10) _) (B + 129 + 10 + 1) _) (B + j) = _
          unfold upA
          rw [if_neg (by omega), if_neg (by omega)]
          refine (blk_out (by omega)).trans ?_
          show h1.1 (B + j) = _
          rw [← hH1, xh_cell (by omega)]
        · by_cases q3 : q < B + 141
          · obtain ⟨j, rfl⟩ : ∃ j, q = B + 129 + j := ⟨q - (B + 129), by omega⟩
            rw [LH_at hl (by omega)]
            show (upA (upA (mb (h1.1, B + 129 + 10, h1.2.2.1 - 1 - 9, h1.2.2.2 - 24 - 16137) (B + 129) r).1 (B + 129 + 10) _) (B + 129 + 10 + 1) _) (B + 129 + j) = _
            unfold upA lcell
            by_cases j1 : j < 10
            · rw [if_neg (by omega), if_neg (by omega), if_pos j1]
              exact blk_in j1
            · by_cases j2 : j = 10
              · subst j2
                rw [if_neg (by omega), if_pos (by omega), if_neg (by omega)]
                unfold loc2
                rw [if_pos (by omega)]
                congr 6
                funext k
                by_cases k0 : k = 0
                · rw [if_pos k0]
                · rw [if_neg k0]
              · have : j = 11 := by omega
                subst this
                rw [if_pos (by omega), if_neg (by omega)]
                unfold loc2
                rw [if_neg (by omega)]
                congr 8
                funext k
                by_cases k0 : k = 0
                · rw [if_pos k0]
                · rw [if_neg k0]
          · rw [LH_cg (T' := r) (o' := 0) (d' := 0) (by omega)]
            unfold LH
            rw [xh_far (by omega)]
            show (upA (upA (mb (h1.1, B + 129 + 10, h1.2.2.1 - 1 - 9, h1.2.2.2 - 24 - 16137) (B + 129) r).1 (B + 129 + 10) _) (B + 129 + 10 + 1) _) q = _
            unfold upA
            rw [if_neg (by omega), if_neg (by omega)]
            refine (blk_out (by omega)).trans ?_
            show h1.1 q = _
            rw [← hH1, xh_far (by omega)]
            have hr : ∀ h : AH, (rws h (B + 129) P0 (fun _ => S0) 12).1 q = h.1 q := fun h => rws_out 12 (Nat.le_refl _) (fun k hk a ha => by cases ha)
            show (rws h0 (B + 129) P0 (fun _ => S0) 12).1 q = (rws (lb h0 B r 0 0) (B + 129) P0 (fun _ => S0) 12).1 q
            rw [hr, hr]
            exact (blk_out (by omega)).symm
    · show (B + 129 + 10 + 1 + 1, h1.2.2.1 - 1 - 9 - 1 - 1, h1.2.2.2 - 24 - 16137 - 1 - 1) = (B + 141, h0.2.2.1 - 141, h0.2.2.2 - 20882)
      rw [z3, z4]
      refine Prod.ext rfl (Prod.ext ?_ ?_)
      · show h0.2.2.1 - 1 - 128 - 1 - 9 - 1 - 1 = h0.2.2.1 - 141; omega
      · show h0.2.2.2 - 9 - 4710 - 24 - 16137 - 1 - 1 = h0.2.2.2 - 20882; omega
  · exact law_loop (I := IW B) hB hst hbs hsc hn (fun m S T h => iw_lrw h) (fun m S T a c hc h => pf_all (fun m S T => hm B m S T) a h c hc) (fun m S T h => hdc B m S T h.1) hQ (n / 6) 0 _ r 0 0 (by omega) (by omega) (iw_start r1 r2 r3 r4 r5 (by omega) (by omega))
end ENT
