/-! ===== BILLS, COUNTS, LOANS THAT WAIT ===== -/
section BILLS
variable {B m np nr ni : Nat} {S : XT} {T : Mem} {co : Nat → Option Int32}
theorem e_price {L T : Mem} {r : Nat} (h : Rel L T np nr ni) (hr : r < nr) : ∃ a b, sX10_ofRecipe T (nI r) (0 : Int32) = some a ∧ sX10_ofRecipe T (nI r) (6 : Int32) = some b ∧ sX5_price L r = a.toInt64 * b.toInt64 := by
  have hnr : nr ≤ 10 := h.1.1.2.1
  obtain ⟨f1, _⟩ := h.1.2.2.2.2.2.1 r hr
  refine ⟨_, _, e_re_0 (by omega), e_re_6 (by omega), ?_⟩
  unfold sX5_price
  rw [f1 0 (by omega), f1 6 (by omega)]
/-- a sum that may be too great -/
theorem fin_bill {x : Int64} {w : Int32} {e : Nat} {F : Option (Except Nat Int32)} {G : Option (Int32 × Mem)} (hV : IVn B (m + 1) S T np nr ni) (hco : co 3 = some w) (hw : w ≠ 0) (hF : F = oexc (sX9_exactInt S B x) (fun e => e) fun w10 => some (.ok (w10))) (hG : G = if (lg_cmp x (2147483647 : Int64)) ≤ 0 then some (x.toInt32, si T 100 6 0 0) else some ((0 : Int32), si (si T 100 6 0 0) 100 6 0 w)) : PFX (uP F S) (mI G) co (IV B m) := by
  unfold sX9_exactInt at hF
  by_cases h : lg_cmp x (2147483647 : Int64) ≤ 0
  · rw [if_pos h] at hF hG
    exact pfp_ok hV hF hG
  · rw [if_neg h, oif_t hV.2.2.2.1.xr] at hF
    rw [if_neg h] at hG
    exact pfp_bad hV hF hG hco hw
theorem call_bill (h : IV B (m + 1) S T) (p1 : Int32) : PFX (uP (sX9_bill S B p1) S) (mI (sX10_bill T p1)) co13 (IV B m) := by
  obtain ⟨np, nr, ni, hV⟩ := h
  have hR : Rel S.2.2.2.2.2.1 (si T 100 6 0 0) np nr ni := hV.1.th
  have hni : ni ≤ 16 := hR.1.1.2.2
  rcases e_item hV p1 with ⟨i, hi, rfl, h1, -, h2⟩ | ⟨h1, -, h2⟩
  · refine fin_bill (x := gq S.2.2.2.2.2.1 3 i) (w := 2) (e := 3) hV rfl (by decide) ?_ ?_
    · unfold sX9_bill
      rw [h1]
      rfl
    · unfold sX10_bill
      rw [olet_eq, h2 _ (gi_ne (by omega)), if_neg one_ne]
      unfold sX10_bill_j19
      rw [e_thr0, olet_eq, if_pos rfl, n_inb (by omega) (by omega), oif_t rfl, n_cl (by omega), ← hR.2.2.2.1 i hi]
      unfold sX10_bill_j45
      rw [e_thr0, e_thr1, olet_eq, olet_eq, if_pos rfl, if_neg one_ne, n_inb (by omega) (by omega), oif_t rfl, n_cl (by omega), ← hR.2.2.2.1 i hi]
  · refine pfp_bad (e := 1) (b := 0) (w := 1) hV ?_ ?_ rfl (by decide)
    · unfold sX9_bill
      rw [h1]
      rfl
    · unfold sX10_bill
      rw [olet_eq, h2 _ (gi_ne (by omega)), if_pos rfl]
      unfold sX10_bill_j19
      rw [e_thr1, olet_eq, if_neg one_ne]
theorem e_exact (hx : xrm S.1 = true) (c : Int64) : ∃ z, (oexc (sX9_exactInt S B c) (fun e => e) fun w10 => some (.ok (w10)) : Option (Except Nat Int32)) = some z := by
  unfold sX9_exactInt
  by_cases h : lg_cmp c (2147483647 : Int64) ≤ 0
  · rw [if_pos h]; exact ⟨_, rfl⟩
  · rw [if_neg h, oif_t hx]; exact ⟨_, rfl⟩
theorem e_owedAhead {i : Nat} {T0 : Mem} (hx : xrm S.1 = true) (hR : Rel S.2.2.2.2.2.1 T0 np nr ni) (hi : i < ni) : ∃ x, sX10_owedAhead T0 (nI i) = some x ∧ sX9_billAhead_l14 S B (nI i) (i, gq S.2.2.2.2.2.1 3 i, (0 : Int32)) = oexc (sX9_exactInt S B x) (fun e => e) fun w10 => some (.ok (w10)) := by
  have hni : ni ≤ 16 := hR.1.1.2.2
  obtain ⟨k, k1, k2, k3, k4⟩ := e_q hR hi
  unfold sX10_owedAhead
  rw [n_inb (by omega) (by omega), oif_t rfl, n_cl (by omega), olet_eq, ← hR.2.2.2.1 i hi]
  -- the program's loop comes to its end with the Model's sum
  have hgo : ∀ q u (c : Int64), q = k - u → u ≤ k → ∃ x, sX10_owedAhead_l10 T0 (nI i) (c, nI u) = some x ∧ sX9_billAhead_l14 S B (nI i) (i, c, nI u) = oexc (sX9_exactInt S B x) (fun e => e) fun w10 => some (.ok (w10)) := by
    intro q
    induction q with
    | zero =>
      intro u c hq hu
      have e : u = k := by omega
      subst e
      refine ⟨c, ?_, ?_⟩
      · unfold sX10_owedAhead_l10
        refine itw_out ?_
        unfold sX10_owedAhead_l10_step
        dsimp only
        rw [k3, obind_some, if_pos (Int32.le_refl _)]
        rfl
      · unfold sX9_billAhead_l14
        have hs : sX9_billAhead_l14_step S B (nI i) (i, c, nI u) = oinr (oexc (sX9_exactInt S B c) (fun e => e) fun w10 => some (.ok (w10))) := by
          unfold sX9_billAhead_l14_step
          dsimp only
          rw [k2, if_pos (Int32.le_refl _)]
        obtain ⟨z, hz⟩ := e_exact (B := B) hx c
        rw [hz] at hs ⊢
        exact itw_out hs
    | succ q ih =>
      intro u c hq hu
      have hle : ¬ nI k ≤ nI u := by rw [n_le (by omega) (by omega)]; omega
      obtain ⟨r, r1, r2, r3, r4⟩ := k4 u (by omega)
      obtain ⟨a, b, a1, b1, ab⟩ := e_price hR r1
      obtain ⟨x, x1, x2⟩ := ih (u + 1) (c + sX5_price S.2.2.2.2.2.1 r) (by omega) (by omega)
      refine ⟨x, ?_, ?_⟩
      · unfold sX10_owedAhead_l10 at x1 ⊢
        refine (itw_in ?_).trans x1
        unfold sX10_owedAhead_l10_step
        dsimp only
        rw [k3, obind_some, if_neg hle, r4, obind_some, a1, obind_some, obind_some, b1, obind_some, olet_eq, n_suc, ab]
      · unfold sX9_billAhead_l14 at x2 ⊢
        refine (itw_in ?_).trans x2
        unfold sX9_billAhead_l14_step
        dsimp only
        rw [k2, if_neg hle, r3, obind_some, e_recipeAt r2, olet_eq, olet_eq, n_suc]
  exact hgo (k - 0) 0 _ rfl (Nat.zero_le _)
theorem call_billAhead (h : IV B (m + 1) S T) (p1 : Int32) : PFX (uP (sX9_billAhead S B p1) S) (mI (sX10_billAhead T p1)) co13 (IV B m) := by
  obtain ⟨np, nr, ni, hV⟩ := h
  have hR : Rel S.2.2.2.2.2.1 (si T 100 6 0 0) np nr ni := hV.1.th
  have hni : ni ≤ 16 := hR.1.1.2.2
  rcases e_item hV p1 with ⟨i, hi, rfl, h1, -, h2⟩ | ⟨h1, -, h2⟩
  · obtain ⟨x, x1, x2⟩ := e_owedAhead (B := B) hV.2.2.2.1.xr hR hi
    refine fin_bill (x := x) (w := 2) (e := 3) hV rfl (by decide) ?_ ?_
    · unfold sX9_billAhead
      rw [h1]
      dsimp only [oexc]
      rw [olet_eq, x2]
      rfl
    · unfold sX10_billAhead
      rw [olet_eq, h2 _ (gi_ne (by omega)), if_neg one_ne]
      unfold sX10_billAhead_j19
      rw [e_thr0, olet_eq, if_pos rfl, x1, obind_some]
      unfold sX10_billAhead_j44
      rw [e_thr0, e_thr1, olet_eq, olet_eq, if_pos rfl, if_neg one_ne, x1, obind_some]
  · refine pfp_bad (e := 1) (b := 0) (w := 1) hV ?_ ?_ rfl (by decide)
    · unfold sX9_billAhead
      rw [h1]
      rfl
    · unfold sX10_billAhead
      rw [olet_eq, h2 _ (gi_ne (by omega)), if_pos rfl]
      unfold sX10_billAhead_j19
      rw [e_thr1, olet_eq, if_neg one_ne]
theorem call_allBills (h : IV B (m + 1) S T) : PFX (uP (sX9_allBills S B) S) (mI (sX10_allBills T)) co3 (IV B m) := by
  obtain ⟨np, nr, ni, hV⟩ := h
  have hR : Rel S.2.2.2.2.2.1 (si T 100 6 0 0) np nr ni := hV.1.th
  have hni : ni ≤ 16 := hR.1.1.2.2
  have hx := hV.2.2.2.1.xr
  have e9 : gi S.2.2.2.2.2.1 0 9 0 = nI ni := hR.1.2.1.2.2
  have t4 : gi (si T 100 6 0 0) 5 (4 : Int32).toNatClampNeg 0 = nI ni := hR.1.2.2.1.2.2
  have key : ∃ x, sX9_allBills S B = (oexc (sX9_exactInt S B x) (fun e => e) fun w10 => some (.ok (w10))) ∧ sX10_allBills T = if (lg_cmp x (2147483647 : Int64)) ≤ 0 then some (x.toInt32, si T 100 6 0 0) else some ((0 : Int32), si (si T 100 6 0 0) 100 6 0 1) := by
    unfold sX9_allBills sX10_allBills sX9_allBills_l4 sX10_allBills_l9
    rw [olet_eq]
    have key2 := loop2 (f := sX9_allBills_l4_step S B) (g := sX10_allBills_l9_step) ni (fun u (c : Int64) => (c, nI u)) (fun u c => (c, nI u, si T 100 6 0 0)) (P := fun b b' => ∃ x, some b = (oexc (sX9_exactInt S B x) (fun e => e) fun w10 => some (.ok (w10))) ∧ some b' = if (lg_cmp x (2147483647 : Int64)) ≤ 0 then some (x.toInt32, si T 100 6 0 0) else some ((0 : Int32), si (si T 100 6 0 0) 100 6 0 1)) (fun c => by
      unfold sX9_allBills_l4_step sX10_allBills_l9_step
      dsimp only
      rw [e9, t4, if_pos (Int32.le_refl _), if_pos (Int32.le_refl _)]
      obtain ⟨z, hz⟩ := e_exact (B := B) hx c
      unfold sX10_allBills_j48
      rw [e_thr0, e_thr1, olet_eq, olet_eq, if_pos rfl, if_neg one_ne]
      by_cases h : lg_cmp c (2147483647 : Int64) ≤ 0
      · rw [if_pos h, hz]
        exact ⟨_, _, rfl, rfl, c, hz.symm, by rw [if_pos h]⟩
      · rw [if_neg h, hz]
        exact ⟨_, _, rfl, rfl, c, hz.symm, by rw [if_neg h]⟩) (fun u c hu => by
      unfold sX9_allBills_l4_step sX10_allBills_l9_step
      dsimp only
      have hle : ¬ nI ni ≤ nI u := by rw [n_le (by omega) (by omega)]; omega
      rw [e9, t4, if_neg hle, if_neg hle, e_itemAt (by omega), n_inb (by omega) (by omega), oif_t rfl, n_cl (by omega), hR.2.2.2.1 u hu]
      simp only [olet_eq]
      rw [n_suc]
      exact ⟨_, rfl, rfl⟩) (0 : Int64)
    obtain ⟨b, b', g1, g2, x, g3, g4⟩ := key2
    exact ⟨x, g1.trans g3, g2.trans g4⟩
  obtain ⟨x, g1, g2⟩ := key
  exact fin_bill (e := 3) hV rfl (by decide) g1 g2
theorem e_freeP {L T : Mem} (h : Rel L T np nr ni) : ∃ v, sX7_freePresses L = some v ∧ sX10_freePresses T = some v := by
  have hnp : np ≤ 6 := h.1.1.1
  have e7 : gi L 0 7 0 = nI np := h.1.2.1.1
  have t2 : gi T 5 (2 : Int32).toNatClampNeg 0 = nI np := h.1.2.2.1.1
  unfold sX7_freePresses sX10_freePresses sX7_freePresses_l4 sX10_freePresses_l4
  have key2 := loop2 (f := sX7_freePresses_l4_step L) (g := sX10_freePresses_l4_step T) np (fun u (c : Int32) => (c, nI u)) (fun u c => (c, nI u)) (P := fun b b' => b = b') (fun c => by
    unfold sX7_freePresses_l4_step sX10_freePresses_l4_step
    dsimp only
    rw [e7, t2, if_pos (Int32.le_refl _), if_pos (Int32.le_refl _)]
    exact ⟨_, _, rfl, rfl, rfl⟩) (fun u c hu => by
    unfold sX7_freePresses_l4_step sX10_freePresses_l4_step
    dsimp only
    have hle : ¬ nI np ≤ nI u := by rw [n_le (by omega) (by omega)]; omega
    rw [e7, t2, if_neg hle, if_neg hle, e_pressAt (by omega), e_inPress h.1 h.2.2.2.2.1 h.e10 hu, obind_some]
    by_cases e : gi L 1 1 u = -1
    · rw [if_pos e, if_pos e, olet_eq, n_suc]
      exact ⟨_, rfl, rfl⟩
    · rw [if_neg e, if_neg e, olet_eq, add_0, n_suc]
      exact ⟨_, rfl, rfl⟩) (0 : Int32)
  obtain ⟨b, b', g1, g2, rfl⟩ := key2
  exact ⟨b, g1, g2⟩
theorem e_greatP {L T : Mem} (h : Rel L T np nr ni) : ∃ v, sX7_greatestPress L = some v ∧ sX10_greatestPress T = some v := by
  have hnp : np ≤ 6 := h.1.1.1
  have e7 : gi L 0 7 0 = nI np := h.1.2.1.1
  have t2 : gi T 5 (2 : Int32).toNatClampNeg 0 = nI np := h.1.2.2.1.1
  unfold sX7_greatestPress sX10_greatestPress sX7_greatestPress_l4 sX10_greatestPress_l4
  have key2 := loop2 (f := sX7_greatestPress_l4_step L) (g := sX10_greatestPress_l4_step T) np (fun u (c : Int32) => (c, nI u)) (fun u c => (c, nI u)) (P := fun b b' => b = b') (fun c => by
    unfold sX7_greatestPress_l4_step sX10_greatestPress_l4_step
    dsimp only
    rw [e7, t2, if_pos (Int32.le_refl _), if_pos (Int32.le_refl _)]
    exact ⟨_, _, rfl, rfl, rfl⟩) (fun u c hu => by
    unfold sX7_greatestPress_l4_step sX10_greatestPress_l4_step
    dsimp only
    have hle : ¬ nI np ≤ nI u := by rw [n_le (by omega) (by omega)]; omega
    have hl6 : ¬ (6 : Int32) ≤ nI u := by rw [n_lit 6, n_le (by omega) (by omega)]; omega
    rw [e7, t2, if_neg hle, if_neg hle, if_neg hl6, n_inb (by omega) (by omega), oif_t rfl, oif_t rfl, n_cl (by omega), e_ps (by omega), obind_some, ← (h.1.2.2.2.2.1 u hu).1, e_max, olet_eq, olet_eq, n_suc]
    unfold jmax
    by_cases e : gi L 1 0 u ≤ c
    · rw [if_pos e, if_neg (Int32.not_lt.mpr e)]
      exact ⟨_, rfl, rfl⟩
    · rw [if_neg e, if_pos (Int32.not_le.mp e)]
      exact ⟨_, rfl, rfl⟩) (0 : Int32)
  obtain ⟨b, b', g1, g2, rfl⟩ := key2
  exact ⟨b, g1, g2⟩
end BILLS
