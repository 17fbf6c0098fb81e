/-! ===== READING CALLS WITH LOOPS ===== -/
section RD3
variable {B m np nr ni : Nat} {S : XT} {T : Mem} {co : Nat → Option Int32}
theorem e_last {L T : Mem} {r : Nat} (h : Rel L T np nr ni) (hr : r < nr) : sX10_lasting T (nI r) = some (sX5_hours L r) := by
  have hnr : nr ≤ 10 := h.1.1.2.1
  obtain ⟨f1, _⟩ := h.1.2.2.2.2.2.1 r hr
  unfold sX10_lasting sX5_hours
  rw [e_re_0 (by omega), obind_some, e_re_1 (by omega), obind_some, ← f1 0 (by omega), ← f1 1 (by omega)]
theorem call_approvalsAhead (h : IV B (m + 1) S T) (p1 : Int32) : PFX (uP (sX9_approvalsAhead S B p1) S) (mI (sX10_approvalsAhead T p1)) co1 (IV B m) := by
  obtain ⟨np, nr, ni, hV⟩ := h
  have hR : Rel S.2.2.2.2.2.1 (si T 100 6 0 0) np nr ni := hV.1.th
  have hni : ni ≤ 16 := hR.1.1.2.2
  have hnr : nr ≤ 10 := hR.1.1.2.1
  have hnp : np ≤ 6 := hR.1.1.1
  rcases e_item hV p1 with ⟨i, hi, rfl, h1, -, h2⟩ | ⟨h1, -, h2⟩
  · have key : ∃ v, sX9_approvalsAhead S B (nI i) = some (.ok v) ∧ sX10_approvalsAhead T (nI i) = some (v, si T 100 6 0 0) := by
      unfold sX9_approvalsAhead sX10_approvalsAhead
      rw [h1, olet_eq (si T 100 6 0 0), h2 _ (gi_ne (by omega)), if_neg one_ne]
      unfold sX10_approvalsAhead_j19
      rw [e_thr0, olet_eq ((0 : Int32), si T 100 6 0 0), if_pos rfl]
      dsimp only [oexc]
      clear h2 hV h1
      generalize si T 100 6 0 0 = T0 at hR ⊢
      obtain ⟨k, k1, k2, k3, k4⟩ := e_q hR hi
      unfold sX9_approvalsAhead_l11 sX10_approvalsAhead_l32
      have key2 := loop2 (f := sX9_approvalsAhead_l11_step S B (nI i)) (g := sX10_approvalsAhead_l32_step (nI i)) k (fun u (c : Int32) => (i, c, nI u)) (fun u c => (c, nI u, T0)) (P := fun b b' => ∃ v, b = .ok v ∧ b' = (v, T0)) (fun c => by
        unfold sX9_approvalsAhead_l11_step sX10_approvalsAhead_l32_step
        dsimp only
        rw [k2, k3, obind_some, if_pos (Int32.le_refl _), if_pos (Int32.le_refl _)]
        exact ⟨_, _, rfl, rfl, c, rfl, rfl⟩) (fun u c hu => by
        unfold sX9_approvalsAhead_l11_step sX10_approvalsAhead_l32_step
        dsimp only
        have hle : ¬ nI k ≤ nI u := by rw [n_le (by omega) (by omega)]; omega
        obtain ⟨r, r1, r2, r3, r4⟩ := k4 u hu
        rw [k2, k3, obind_some, if_neg hle, if_neg hle, r3, r4, obind_some, obind_some, e_recipeAt r2]
        rw [e_appr hR hi r1, obind_some]
        by_cases e : sX5_asksApproval S.2.2.2.2.2.1 r (gi S.2.2.2.2.2.1 3 4 i) = 0
        · rw [if_pos e, if_pos e, olet_eq, olet_eq, add_0, n_suc]
          exact ⟨_, rfl, rfl⟩
        · rw [if_neg e, if_neg e, olet_eq, olet_eq, olet_eq, n_suc]
          exact ⟨_, rfl, rfl⟩) (0 : Int32)
      obtain ⟨b, b', g1, g2, v, rfl, rfl⟩ := key2
      exact ⟨v, g1, g2⟩
    obtain ⟨v, g1, g2⟩ := key
    exact pfp_ok hV g1 g2
  · refine pfp_bad (e := 1) (b := 0) (w := 1) hV ?_ ?_ rfl (by decide)
    · unfold sX9_approvalsAhead
      rw [h1]
      rfl
    · unfold sX10_approvalsAhead
      rw [olet_eq, h2 _ (gi_ne (by omega)), if_pos rfl]
      unfold sX10_approvalsAhead_j19
      rw [e_thr1, olet_eq, if_neg one_ne]
theorem call_scoreAhead (h : IV B (m + 1) S T) (p1 : Int32) : PFX (uP (sX9_scoreAhead S B p1) S) (mI (sX10_scoreAhead T p1)) co1 (IV B m) := by
  obtain ⟨np, nr, ni, hV⟩ := h
  have hR : Rel S.2.2.2.2.2.1 (si T 100 6 0 0) np nr ni := hV.1.th
  have hni : ni ≤ 16 := hR.1.1.2.2
  have hnr : nr ≤ 10 := hR.1.1.2.1
  have hnp : np ≤ 6 := hR.1.1.1
  rcases e_item hV p1 with ⟨i, hi, rfl, h1, -, h2⟩ | ⟨h1, -, h2⟩
  · have key : ∃ v, sX9_scoreAhead S B (nI i) = some (.ok v) ∧ sX10_scoreAhead T (nI i) = some (v, si T 100 6 0 0) := by
      unfold sX9_scoreAhead sX10_scoreAhead
      rw [h1, olet_eq (si T 100 6 0 0), h2 _ (gi_ne (by omega)), if_neg one_ne]
      unfold sX10_scoreAhead_j19
      rw [e_thr0, olet_eq ((0 : Int32), si T 100 6 0 0), if_pos rfl]
      dsimp only [oexc]
      clear h2 hV h1
      generalize si T 100 6 0 0 = T0 at hR ⊢
      rw [e_of_0 (by omega), obind_some, olet_eq, ← (hR.2.2.2.2.2 i hi).1.1]
      obtain ⟨k, k1, k2, k3, k4⟩ := e_q hR hi
      unfold sX9_scoreAhead_l14 sX10_scoreAhead_l37
      have key2 := loop2 (f := sX9_scoreAhead_l14_step S B (nI i)) (g := sX10_scoreAhead_l37_step (nI i)) k (fun u (c : Int32) => (i, c, nI u)) (fun u c => (c, nI u, T0)) (P := fun b b' => ∃ v, b = .ok v ∧ b' = (v, T0)) (fun c => by
        unfold sX9_scoreAhead_l14_step sX10_scoreAhead_l37_step
        dsimp only
        rw [k2, k3, obind_some, if_pos (Int32.le_refl _), if_pos (Int32.le_refl _)]
        exact ⟨_, _, rfl, rfl, c, rfl, rfl⟩) (fun u c hu => by
        unfold sX9_scoreAhead_l14_step sX10_scoreAhead_l37_step
        dsimp only
        have hle : ¬ nI k ≤ nI u := by rw [n_le (by omega) (by omega)]; omega
        obtain ⟨r, r1, r2, r3, r4⟩ := k4 u hu
        rw [k2, k3, obind_some, if_neg hle, if_neg hle, r3, r4, obind_some, obind_some, e_recipeAt r2]
        rw [e_beh hR r1, obind_some, olet_eq, olet_eq, n_suc]
        exact ⟨_, rfl, rfl⟩) (gi S.2.2.2.2.2.1 3 3 i)
      obtain ⟨b, b', g1, g2, v, rfl, rfl⟩ := key2
      exact ⟨v, g1, g2⟩
    obtain ⟨v, g1, g2⟩ := key
    exact pfp_ok hV g1 g2
  · refine pfp_bad (e := 1) (b := 0) (w := 1) hV ?_ ?_ rfl (by decide)
    · unfold sX9_scoreAhead
      rw [h1]
      rfl
    · unfold sX10_scoreAhead
      rw [olet_eq, h2 _ (gi_ne (by omega)), if_pos rfl]
      unfold sX10_scoreAhead_j19
      rw [e_thr1, olet_eq, if_neg one_ne]
theorem call_hoursAhead (h : IV B (m + 1) S T) (p1 : Int32) : PFX (uP (sX9_hoursAhead S B p1) S) (mI (sX10_hoursAhead T p1)) co1 (IV B m) := by
  obtain ⟨np, nr, ni, hV⟩ := h
  have hR : Rel S.2.2.2.2.2.1 (si T 100 6 0 0) np nr ni := hV.1.th
  have hni : ni ≤ 16 := hR.1.1.2.2
  have hnr : nr ≤ 10 := hR.1.1.2.1
  have hnp : np ≤ 6 := hR.1.1.1
  rcases e_item hV p1 with ⟨i, hi, rfl, h1, -, h2⟩ | ⟨h1, -, h2⟩
  · have key : ∃ v, sX9_hoursAhead S B (nI i) = some (.ok v) ∧ sX10_hoursAhead T (nI i) = some (v, si T 100 6 0 0) := by
      unfold sX9_hoursAhead sX10_hoursAhead
      rw [h1, olet_eq (si T 100 6 0 0), h2 _ (gi_ne (by omega)), if_neg one_ne]
      unfold sX10_hoursAhead_j19
      rw [e_thr0, olet_eq ((0 : Int32), si T 100 6 0 0), if_pos rfl]
      dsimp only [oexc]
      clear h2 hV h1
      generalize si T 100 6 0 0 = T0 at hR ⊢
      obtain ⟨k, k1, k2, k3, k4⟩ := e_q hR hi
      unfold sX9_hoursAhead_l11 sX10_hoursAhead_l32
      have key2 := loop2 (f := sX9_hoursAhead_l11_step S B (nI i)) (g := sX10_hoursAhead_l32_step (nI i)) k (fun u (c : Int32) => (i, c, nI u)) (fun u c => (c, nI u, T0)) (P := fun b b' => ∃ v, b = .ok v ∧ b' = (v, T0)) (fun c => by
        unfold sX9_hoursAhead_l11_step sX10_hoursAhead_l32_step
        dsimp only
        rw [k2, k3, obind_some, if_pos (Int32.le_refl _), if_pos (Int32.le_refl _)]
        exact ⟨_, _, rfl, rfl, c, rfl, rfl⟩) (fun u c hu => by
        unfold sX9_hoursAhead_l11_step sX10_hoursAhead_l32_step
        dsimp only
        have hle : ¬ nI k ≤ nI u := by rw [n_le (by omega) (by omega)]; omega
        obtain ⟨r, r1, r2, r3, r4⟩ := k4 u hu
        rw [k2, k3, obind_some, if_neg hle, if_neg hle, r3, r4, obind_some, obind_some, e_recipeAt r2]
        rw [e_last hR r1, obind_some, olet_eq, olet_eq, n_suc]
        exact ⟨_, rfl, rfl⟩) (0 : Int32)
      obtain ⟨b, b', g1, g2, v, rfl, rfl⟩ := key2
      exact ⟨v, g1, g2⟩
    obtain ⟨v, g1, g2⟩ := key
    exact pfp_ok hV g1 g2
  · refine pfp_bad (e := 1) (b := 0) (w := 1) hV ?_ ?_ rfl (by decide)
    · unfold sX9_hoursAhead
      rw [h1]
      rfl
    · unfold sX10_hoursAhead
      rw [olet_eq, h2 _ (gi_ne (by omega)), if_pos rfl]
      unfold sX10_hoursAhead_j19
      rw [e_thr1, olet_eq, if_neg one_ne]
theorem call_objectsWith (h : IV B (m + 1) S T) (p1 : Int32) : PFX (uP (sX9_objectsWith S B p1) S) (mI (sX10_objectsWith T p1)) co2 (IV B m) := by
  obtain ⟨np, nr, ni, hV⟩ := h
  have hR : Rel S.2.2.2.2.2.1 (si T 100 6 0 0) np nr ni := hV.1.th
  have hni : ni ≤ 16 := hR.1.1.2.2
  have e9 : gi S.2.2.2.2.2.1 0 9 0 = nI ni := hR.1.2.1.2.2
  have t4 : gi (si T 100 6 0 0) 5 (4 : Int32).toNatClampNeg 0 = nI ni := hR.1.2.2.1.2.2
  rcases e_btw (B := B) (lo := 0) (hi := 6) hV.2.2.2.1.xr (by omega) (by omega) p1 with ⟨k, k1, k2, rfl, h1, h2⟩ | ⟨h1, h2⟩
  · have key : ∃ v, sX9_objectsWith S B (nI k) = some (.ok v) ∧ sX10_objectsWith T (nI k) = some (v, si T 100 6 0 0) := by
      unfold sX9_objectsWith sX10_objectsWith
      rw [show sX9_requireBetween S B (nI k) (0 : Int32) (6 : Int32) = some (.ok ()) from h1, olet_eq, h2 _ _ _ (by decide) (by decide), if_neg one_ne]
      unfold sX10_objectsWith_j23
      rw [e_thr0, olet_eq, if_pos rfl]
      dsimp only [oexc]
      clear h2 hV h1
      generalize si T 100 6 0 0 = T0 at hR t4 ⊢
      unfold sX9_objectsWith_l11 sX10_objectsWith_l36
      have key2 := loop2 (f := sX9_objectsWith_l11_step S B (nI k)) (g := sX10_objectsWith_l36_step (nI k)) ni (fun u (c : Int32) => (c, nI u)) (fun u c => (c, nI u, T0)) (P := fun b b' => ∃ v, b = .ok v ∧ b' = (v, T0)) (fun c => by
        unfold sX9_objectsWith_l11_step sX10_objectsWith_l36_step
        dsimp only
        rw [e9, t4, if_pos (Int32.le_refl _), if_pos (Int32.le_refl _)]
        exact ⟨_, _, rfl, rfl, c, rfl, rfl⟩) (fun u c hu => by
        unfold sX9_objectsWith_l11_step sX10_objectsWith_l36_step
        dsimp only
        have hle : ¬ nI ni ≤ nI u := by rw [n_le (by omega) (by omega)]; omega
        obtain ⟨v, v1, v2, _⟩ := sim_reason hR hu
        rw [e9, t4, if_neg hle, if_neg hle, e_itemAt (by omega), v1, v2, obind_some, obind_some]
        by_cases e : v = nI k
        · rw [if_pos e, if_pos e, olet_eq, olet_eq, olet_eq, n_suc]
          exact ⟨_, rfl, rfl⟩
        · rw [if_neg e, if_neg e, olet_eq, olet_eq, or_0, n_suc]
          exact ⟨_, rfl, rfl⟩) (0 : Int32)
      obtain ⟨b, b', g1, g2, v, rfl, rfl⟩ := key2
      exact ⟨v, g1, g2⟩
    obtain ⟨v, g1, g2⟩ := key
    exact pfp_ok hV g1 g2
  · refine pfp_bad (e := 2) (b := 0) (w := 1) hV ?_ ?_ rfl (by decide)
    · unfold sX9_objectsWith
      rw [show sX9_requireBetween S B p1 (0 : Int32) (6 : Int32) = some (.error 2) from h1]
      rfl
    · unfold sX10_objectsWith
      rw [olet_eq, h2 _ _ _ (by decide) (by decide), if_pos rfl]
      unfold sX10_objectsWith_j23
      rw [e_thr1, olet_eq, if_neg one_ne]
theorem call_below (h : IV B (m + 1) S T) (p1 : Int32) : PFA (uA (sX9_below S B p1) S) (sX10_below T p1) (IV B m) := by
  obtain ⟨np, nr, ni, hV⟩ := h
  have hR : Rel S.2.2.2.2.2.1 (si T 100 6 0 0) np nr ni := hV.1.th
  have hni : ni ≤ 16 := hR.1.1.2.2
  have e9 : gi S.2.2.2.2.2.1 0 9 0 = nI ni := hR.1.2.1.2.2
  have t4 : gi (si T 100 6 0 0) 5 (4 : Int32).toNatClampNeg 0 = nI ni := hR.1.2.2.1.2.2
  have key : ∃ v, sX9_below S B p1 = some v ∧ sX10_below T p1 = some (v, si T 100 6 0 0) := by
    unfold sX9_below sX10_below
    rw [olet_eq]
    generalize si T 100 6 0 0 = T0 at hR t4 ⊢
    unfold sX7_itemsBelow sX7_itemsBelow_l4 sX10_below_l9
    have key2 := loop2 (f := sX7_itemsBelow_l4_step S.2.2.2.2.2.1 p1) (g := sX10_below_l9_step p1) ni (fun u (c : Int32) => (c, nI u)) (fun u c => (c, nI u, T0)) (P := fun b b' => b' = (b, T0)) (fun c => by
      unfold sX7_itemsBelow_l4_step sX10_below_l9_step
      dsimp only
      rw [e9, t4, if_pos (Int32.le_refl _), if_pos (Int32.le_refl _)]
      exact ⟨_, _, rfl, rfl, rfl⟩) (fun u c hu => by
      unfold sX7_itemsBelow_l4_step sX10_below_l9_step
      dsimp only
      have hle : ¬ nI ni ≤ nI u := by rw [n_le (by omega) (by omega)]; omega
      rw [e9, t4, if_neg hle, if_neg hle, e_itemAt (by omega), e_of_0 (by omega), obind_some, ← (hR.2.2.2.2.2 u hu).1.1]
      by_cases e : p1 ≤ gi S.2.2.2.2.2.1 3 3 u
      · rw [if_pos e, if_pos e, olet_eq, or_0, n_suc]
        exact ⟨_, rfl, rfl⟩
      · rw [if_neg e, if_neg e, olet_eq, olet_eq, n_suc]
        exact ⟨_, rfl, rfl⟩) (0 : Int32)
    obtain ⟨b, b', g1, g2, rfl⟩ := key2
    refine ⟨b, ?_, g2⟩
    show (obind (itw (sX7_itemsBelow_l4_step S.2.2.2.2.2.1 p1) (0, nI 0)) fun r1 => some r1) = some b
    rw [g1, obind_some]
  obtain ⟨v, g1, g2⟩ := key
  exact pfa_ok hV g1 g2
theorem call_digest (h : IV B (m + 1) S T) : PFA (uA (sX9_digest S B) S) (sX10_digest T) (IV B m) := by
  obtain ⟨np, nr, ni, hV⟩ := h
  have hR : Rel S.2.2.2.2.2.1 (si T 100 6 0 0) np nr ni := hV.1.th
  have hni : ni ≤ 16 := hR.1.1.2.2
  have e9 : gi S.2.2.2.2.2.1 0 9 0 = nI ni := hR.1.2.1.2.2
  have t4 : gi (si T 100 6 0 0) 5 (4 : Int32).toNatClampNeg 0 = nI ni := hR.1.2.2.1.2.2
  have key : ∃ v, sX9_digest S B = some v ∧ sX10_digest T = some (v, si T 100 6 0 0) := by
    unfold sX9_digest sX10_digest
    simp only [olet_eq]
    generalize si T 100 6 0 0 = T0 at hR t4 ⊢
    rw [show (0 : Int32).toNatClampNeg = 0 from rfl, hR.2.1.2.1.1]
    unfold sX9_digest_l13 sX10_digest_l17
    have key2 := loop2 (f := sX9_digest_l13_step S B) (g := sX10_digest_l17_step) ni (fun u (c : Int32) => (c, nI u)) (fun u c => (c, nI u, T0)) (P := fun b b' => b' = (b, T0)) (fun c => by
      unfold sX9_digest_l13_step sX10_digest_l17_step
      dsimp only
      rw [e9, t4, if_pos (Int32.le_refl _), if_pos (Int32.le_refl _)]
      exact ⟨_, _, rfl, rfl, rfl⟩) (fun u c hu => by
      unfold sX9_digest_l13_step sX10_digest_l17_step
      dsimp only
      have hle : ¬ nI ni ≤ nI u := by rw [n_le (by omega) (by omega)]; omega
      have q := (hR.2.2.2.2.2 u hu).1
      rw [e9, t4, if_neg hle, if_neg hle, e_itemAt (by omega), e_of_0 (by omega), obind_some, e_of_1 (by omega), obind_some, e_of_2 (by omega), obind_some, ← q.1, ← q.2.1, ← q.2.2.1]
      simp only [olet_eq]
      rw [n_suc]
      exact ⟨_, rfl, rfl⟩) ((31 : Int32) + gi T0 0 0 0)
    obtain ⟨b, b', g1, g2, rfl⟩ := key2
    exact ⟨b, g1, g2⟩
  obtain ⟨v, g1, g2⟩ := key
  exact pfa_ok hV g1 g2
end RD3
