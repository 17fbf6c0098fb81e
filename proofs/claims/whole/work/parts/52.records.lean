/-! ===== RECORDS ===== -/
section RECS
variable {B m np nr ni : Nat} {S : XT} {T : Mem} {co : Nat → Option Int32}
theorem e_rec0 {L T : Mem} (h : Rel L T np nr ni) : ∃ k, k ≤ 100 ∧ gi L 5 2 0 = nI k ∧ gi T 0 4 0 = nI k ∧ ∃ c : Nat → Nat → Int32, ∀ j, j < k → ∀ w, w < 6 → sX0_cell L (nI j) (nI w) = c j w ∧ sX10_ofRecord T (nI j) (nI w) = some (c j w) := by
  obtain ⟨f, k, a, b, c, ⟨d1, d2⟩, ⟨e1, e2⟩, g⟩ := h.2.2.1
  refine ⟨k, b, d2, e2, fun j w => gi L 6 ((f + j) % 100 * 6 + w) 0, fun j hj w hw => ⟨?_, ?_⟩⟩
  · have hm : (f + j) % 100 < 100 := Nat.mod_lt _ (by omega)
    unfold sX0_cell
    rw [if_neg (n_nn (by omega)), d2, if_neg (by rw [n_le (by omega) (by omega)]; omega), if_neg (n_nn (by omega)), if_pos (by rw [n_lit 6, n_lt (by omega) (by omega)]; exact hw), d1, nI_add, e_rem100 (by omega), n_lit 6, pk_mul, nI_add, olet_eq, if_neg (n_nn (by omega)), if_neg (by rw [n_lit 600, n_le (by omega) (by omega)]; omega), n_cl (by omega)]
  · have hm : (f + j) % 100 < 100 := Nat.mod_lt _ (by omega)
    unfold sX10_ofRecord
    rw [show (5 : Int32).toNatClampNeg = 5 from rfl, e1, nI_add, e_rem100 (by omega), n_lit 6, pk_mul, n_lit 358, nI_add, nI_add, n_inb (by omega) (by omega), oif_t rfl, n_cl (by omega)]
    refine congrArg some ?_
    show gi T 0 (358 + 6 * ((f + j) % 100) + w) 0 = gi L 6 ((f + j) % 100 * 6 + w) 0
    rw [g _ (show (f + j) % 100 * 6 + w < 6 * k by omega)]
    congr 1
    omega
theorem e_rec {L T : Mem} (h : Rel L T np nr ni) : ∃ k, k ≤ 100 ∧ gi L 5 2 0 = nI k ∧ gi T 0 4 0 = nI k ∧ ∃ c : Nat → Nat → Int32, ∀ j, j < k → (sX0_cell L (nI j) (0 : Int32) = c j 0 ∧ sX10_ofRecord T (nI j) (0 : Int32) = some (c j 0)) ∧ (sX0_cell L (nI j) (1 : Int32) = c j 1 ∧ sX10_ofRecord T (nI j) (1 : Int32) = some (c j 1)) ∧ (sX0_cell L (nI j) (4 : Int32) = c j 4 ∧ sX10_ofRecord T (nI j) (4 : Int32) = some (c j 4)) ∧ (sX0_cell L (nI j) (5 : Int32) = c j 5 ∧ sX10_ofRecord T (nI j) (5 : Int32) = some (c j 5)) := by
  obtain ⟨k, h1, h2, h3, c, h4⟩ := e_rec0 h
  exact ⟨k, h1, h2, h3, c, fun j hj => ⟨h4 j hj 0 (by omega), h4 j hj 1 (by omega), h4 j hj 4 (by omega), h4 j hj 5 (by omega)⟩⟩
theorem sub_neg (a x y : Int32) : a - (x - y) = a + (y - x) := by
  apply Int32.toBitVec_inj.1
  simp only [Int32.toBitVec_add, Int32.toBitVec_sub]
  generalize a.toBitVec = a
  generalize x.toBitVec = x
  generalize y.toBitVec = y
  rw [BitVec.sub_eq_add_neg, BitVec.neg_sub, BitVec.sub_eq_add_neg y, BitVec.add_comm y]
theorem call_lost (h : IV B (m + 1) S T) (p1 : Int32) : PFX (uP (sX9_lost S B p1) S) (mI (sX10_lost T p1)) co1 (IV B m) := by
  obtain ⟨np, nr, ni, hV⟩ := h
  have hR : Rel S.2.2.2.2.2.1 (si T 100 6 0 0) np nr ni := hV.1.th
  have hni : ni ≤ 16 := hR.1.1.2.2
  have hnr : nr ≤ 10 := hR.1.1.2.1
  have hnp : np ≤ 6 := hR.1.1.1
  rcases e_item hV p1 with ⟨i, hi, rfl, -, h1, h2⟩ | ⟨-, h1, h2⟩
  · have key : ∃ v, sX9_lost S B (nI i) = some (.ok v) ∧ sX10_lost T (nI i) = some (v, si T 100 6 0 0) := by
      unfold sX9_lost sX10_lost
      rw [h1, olet_eq (si T 100 6 0 0), h2 _ (gi_ne (by omega)), if_neg one_ne]
      unfold sX10_lost_j19
      rw [e_thr0, olet_eq ((0 : Int32), si T 100 6 0 0), if_pos rfl]
      dsimp only [oexc]
      clear h2 hV h1
      generalize si T 100 6 0 0 = T0 at hR ⊢
      obtain ⟨k, k1, k2, k3, c, hc⟩ := e_rec hR
      unfold sX9_lost_l9 sX10_lost_l32
      have key2 := loop2 (f := sX9_lost_l9_step S B (nI i)) (g := sX10_lost_l32_step (nI i)) k (fun u (c : Int32) => (c, nI u)) (fun u c => (c, nI u, T0)) (P := fun b b' => ∃ v, b = .ok v ∧ b' = (v, T0)) (fun c => by
        unfold sX9_lost_l9_step sX10_lost_l32_step
        dsimp only
        rw [k2, show (4 : Int32).toNatClampNeg = 4 from rfl, k3, if_pos (Int32.le_refl _), if_pos (Int32.le_refl _)]
        exact ⟨_, _, rfl, rfl, c, rfl, rfl⟩) (fun u s hu => by
        unfold sX9_lost_l9_step sX10_lost_l32_step
        dsimp only
        have hle : ¬ nI k ≤ nI u := by rw [n_le (by omega) (by omega)]; omega
        obtain ⟨⟨a0, b0⟩, ⟨a1, b1⟩, ⟨a4, b4⟩, ⟨a5, b5⟩⟩ := hc u hu
        unfold sX0_isOf
        rw [k2, show (4 : Int32).toNatClampNeg = 4 from rfl, k3, if_neg hle, if_neg hle, a0, b0, obind_some]
        by_cases e : c u 0 = nI i
        · rw [if_pos e, if_pos e, if_neg one_ne, b1, obind_some]
          unfold sX0_kindOf
          rw [a1]
          by_cases e1 : c u 1 = 1
          · unfold sX0_changeOf
            rw [if_pos e1, if_pos e1, b4, b5, a4, a5, obind_some, obind_some, olet_eq, olet_eq, olet_eq, n_suc, sub_neg]
            exact ⟨_, rfl, rfl⟩
          · rw [if_neg e1, if_neg e1, olet_eq, olet_eq, add_0, n_suc]
            exact ⟨_, rfl, rfl⟩
        · rw [if_neg e, if_neg e, if_pos rfl, olet_eq, olet_eq, add_0, n_suc]
          exact ⟨_, rfl, rfl⟩) (0 : Int32)
      obtain ⟨b, b', g1, g2, v, rfl, rfl⟩ := key2
      exact ⟨v, g1, g2⟩
    obtain ⟨v, g1, g2⟩ := key
    exact pfp_ok hV g1 g2
  · refine pfp_bad (e := 1) (b := 0) (w := 1) hV ?_ ?_ rfl (by decide)
    · unfold sX9_lost
      rw [h1]
      rfl
    · unfold sX10_lost
      rw [olet_eq, h2 _ (gi_ne (by omega)), if_pos rfl]
      unfold sX10_lost_j19
      rw [e_thr1, olet_eq, if_neg one_ne]
theorem call_recorded (h : IV B (m + 1) S T) (p1 : Int32) : PFX (uP (sX9_recorded S B p1) S) (mI (sX10_recorded T p1)) co1 (IV B m) := by
  obtain ⟨np, nr, ni, hV⟩ := h
  have hR : Rel S.2.2.2.2.2.1 (si T 100 6 0 0) np nr ni := hV.1.th
  have hni : ni ≤ 16 := hR.1.1.2.2
  have hnr : nr ≤ 10 := hR.1.1.2.1
  have hnp : np ≤ 6 := hR.1.1.1
  rcases e_item hV p1 with ⟨i, hi, rfl, -, h1, h2⟩ | ⟨-, h1, h2⟩
  · have key : ∃ v, sX9_recorded S B (nI i) = some (.ok v) ∧ sX10_recorded T (nI i) = some (v, si T 100 6 0 0) := by
      unfold sX9_recorded sX10_recorded
      rw [h1, olet_eq (si T 100 6 0 0), h2 _ (gi_ne (by omega)), if_neg one_ne]
      unfold sX10_recorded_j19
      rw [e_thr0, olet_eq ((0 : Int32), si T 100 6 0 0), if_pos rfl]
      dsimp only [oexc]
      clear h2 hV h1
      generalize si T 100 6 0 0 = T0 at hR ⊢
      obtain ⟨k, k1, k2, k3, c, hc⟩ := e_rec hR
      unfold sX9_recorded_l9 sX10_recorded_l32
      have key2 := loop2 (f := sX9_recorded_l9_step S B (nI i)) (g := sX10_recorded_l32_step (nI i)) k (fun u (c : Int32) => (c, nI u)) (fun u c => (c, nI u, T0)) (P := fun b b' => ∃ v, b = .ok v ∧ b' = (v, T0)) (fun c => by
        unfold sX9_recorded_l9_step sX10_recorded_l32_step
        dsimp only
        rw [k2, show (4 : Int32).toNatClampNeg = 4 from rfl, k3, if_pos (Int32.le_refl _), if_pos (Int32.le_refl _)]
        exact ⟨_, _, rfl, rfl, c, rfl, rfl⟩) (fun u s hu => by
        unfold sX9_recorded_l9_step sX10_recorded_l32_step
        dsimp only
        have hle : ¬ nI k ≤ nI u := by rw [n_le (by omega) (by omega)]; omega
        obtain ⟨⟨a0, b0⟩, ⟨a1, b1⟩, ⟨a4, b4⟩, ⟨a5, b5⟩⟩ := hc u hu
        unfold sX0_isOf
        rw [k2, show (4 : Int32).toNatClampNeg = 4 from rfl, k3, if_neg hle, if_neg hle, a0, b0, obind_some]
        by_cases e : c u 0 = nI i
        · unfold sX0_changeOf
          rw [if_pos e, if_pos e, if_neg one_ne, b4, b5, a4, a5, obind_some, obind_some, olet_eq, olet_eq, olet_eq, n_suc]
          exact ⟨_, rfl, rfl⟩
        · rw [if_neg e, if_neg e, if_pos rfl, olet_eq, olet_eq, add_0, n_suc]
          exact ⟨_, rfl, rfl⟩) (0 : Int32)
      obtain ⟨b, b', g1, g2, v, rfl, rfl⟩ := key2
      exact ⟨v, g1, g2⟩
    obtain ⟨v, g1, g2⟩ := key
    exact pfp_ok hV g1 g2
  · refine pfp_bad (e := 1) (b := 0) (w := 1) hV ?_ ?_ rfl (by decide)
    · unfold sX9_recorded
      rw [h1]
      rfl
    · unfold sX10_recorded
      rw [olet_eq, h2 _ (gi_ne (by omega)), if_pos rfl]
      unfold sX10_recorded_j19
      rw [e_thr1, olet_eq, if_neg one_ne]
theorem call_latestRecord (h : IV B (m + 1) S T) (p1 : Int32) : PFX (uP (sX9_latestRecord S B p1) S) (mI (sX10_latestRecord T p1)) co1 (IV B m) := by
  obtain ⟨np, nr, ni, hV⟩ := h
  have hR : Rel S.2.2.2.2.2.1 (si T 100 6 0 0) np nr ni := hV.1.th
  have hni : ni ≤ 16 := hR.1.1.2.2
  have hnr : nr ≤ 10 := hR.1.1.2.1
  have hnp : np ≤ 6 := hR.1.1.1
  rcases e_item hV p1 with ⟨i, hi, rfl, -, h1, h2⟩ | ⟨-, h1, h2⟩
  · have key : ∃ v, sX9_latestRecord S B (nI i) = some (.ok v) ∧ sX10_latestRecord T (nI i) = some (v, si T 100 6 0 0) := by
      unfold sX9_latestRecord sX10_latestRecord
      rw [h1, olet_eq (si T 100 6 0 0), h2 _ (gi_ne (by omega)), if_neg one_ne]
      unfold sX10_latestRecord_j19
      rw [e_thr0, olet_eq ((0 : Int32), si T 100 6 0 0), if_pos rfl]
      dsimp only [oexc]
      clear h2 hV h1
      generalize si T 100 6 0 0 = T0 at hR ⊢
      obtain ⟨k, k1, k2, k3, c, hc⟩ := e_rec hR
      rw [k2, show (4 : Int32).toNatClampNeg = 4 from rfl, k3, olet_eq, olet_eq]
      unfold sX9_latestRecord_l18 sX10_latestRecord_l37
      have key2 := itw_two (f := sX9_latestRecord_l18_step S B (nI i)) (g := sX10_latestRecord_l37_step (nI i)) (J := fun q a a' => ∃ u, u ≤ k ∧ q = u ∧ a = nI u - 1 ∧ a' = (nI u - 1, T0)) (P := fun b b' => ∃ v, b = .ok v ∧ b' = (v, T0)) (fun q a a' => by
        rintro ⟨u, h1, rfl, rfl, rfl⟩
        unfold sX9_latestRecord_l18_step sX10_latestRecord_l37_step
        dsimp only
        rcases Nat.eq_zero_or_pos q with e | e
        · subst e
          rw [show nI 0 - (1 : Int32) = -1 by decide, if_pos (show (-1 : Int32) < 0 by decide), if_pos (show (-1 : Int32) < 0 by decide)]
          exact Or.inl ⟨_, _, rfl, rfl, -1, rfl, rfl⟩
        · obtain ⟨u, rfl⟩ : ∃ u, q = u + 1 := ⟨q - 1, by omega⟩
          obtain ⟨⟨a0, b0⟩, -⟩ := hc u (by omega)
          unfold sX0_isOf
          rw [n_pred, if_neg (n_nn (by omega)), if_neg (n_nn (by omega)), a0, b0, obind_some]
          by_cases e : c u 0 = nI i
          · rw [if_pos e, if_pos e, if_neg one_ne]
            exact Or.inl ⟨_, _, rfl, rfl, _, rfl, rfl⟩
          · rw [if_neg e, if_neg e, if_pos rfl, olet_eq]
            have em : nI u + (-1 : Int32) = nI u - 1 := (Int32.sub_eq_add_neg (nI u) 1).symm
            rw [em]
            exact Or.inr ⟨_, _, u, by omega, rfl, rfl, u, by omega, rfl, rfl, rfl⟩) (k := k) ⟨k, Nat.le_refl _, rfl, rfl, rfl⟩
      obtain ⟨b, b', g1, g2, v, rfl, rfl⟩ := key2
      exact ⟨v, g1, g2⟩
    obtain ⟨v, g1, g2⟩ := key
    exact pfp_ok hV g1 g2
  · refine pfp_bad (e := 1) (b := 0) (w := 1) hV ?_ ?_ rfl (by decide)
    · unfold sX9_latestRecord
      rw [h1]
      rfl
    · unfold sX10_latestRecord
      rw [olet_eq, h2 _ (gi_ne (by omega)), if_pos rfl]
      unfold sX10_latestRecord_j19
      rw [e_thr1, olet_eq, if_neg one_ne]
theorem call_record (h : IV B (m + 1) S T) (p1 p2 : Int32) : PFX (uP (sX9_record S B p1 p2) S) (mI (sX10_record T p1 p2)) co1 (IV B m) := by
  obtain ⟨np, nr, ni, hV⟩ := h
  have hR : Rel S.2.2.2.2.2.1 (si T 100 6 0 0) np nr ni := hV.1.th
  obtain ⟨k, k1, k2, k3, c, hc⟩ := e_rec0 hR
  rcases e_rqi (B := B) (n := k) hV.2.2.2.1.xr (by omega) p1 with ⟨j, hj, rfl, h1, h2⟩ | ⟨h1, h2⟩
  · have key : ∃ v, sX9_record S B (nI j) p2 = some (.ok v) ∧ sX10_record T (nI j) p2 = some (v, si T 100 6 0 0) := by
      unfold sX9_record sX10_record
      rw [k2, h1, olet_eq, show (4 : Int32).toNatClampNeg = 4 from rfl, k3, h2, if_neg one_ne]
      unfold sX10_record_j29
      rw [e_thr0, olet_eq, if_pos rfl, e_inR, i64_0, show (5 : Int64).toInt = 5 by decide]
      dsimp only [oexc]
      rcases n_cases p2 (n := 6) (by omega) with ⟨w, hw, rfl, c1, c2, c3, c4⟩ | ⟨c1, c2⟩
      · obtain ⟨q1, q2⟩ := hc j hj w hw
        rw [if_pos (show (0 : Int) ≤ (nI w).toInt64.toInt ∧ (nI w).toInt64.toInt ≤ 5 by omega), if_neg one_ne, q1, q2, obind_some]
        exact ⟨_, rfl, rfl⟩
      · rw [if_neg (show ¬ ((0 : Int) ≤ p2.toInt64.toInt ∧ p2.toInt64.toInt ≤ 5) by omega), if_pos rfl]
        refine ⟨-1, ?_, rfl⟩
        unfold sX0_cell
        rw [if_neg (n_nn (by omega)), k2, if_neg (by rw [n_le (by omega) (by omega)]; omega)]
        rcases c1 with c1 | ⟨c1, c3, c4⟩
        · rw [if_pos c1]
        · rw [if_neg c1, if_neg (show ¬ p2 < (6 : Int32) from c3)]
    obtain ⟨v, g1, g2⟩ := key
    exact pfp_ok hV g1 g2
  · refine pfp_bad (e := 1) (b := 0) (w := 1) hV ?_ ?_ rfl (by decide)
    · unfold sX9_record
      rw [k2, h1]
      rfl
    · unfold sX10_record
      rw [olet_eq, show (4 : Int32).toNatClampNeg = 4 from rfl, k3, h2, if_pos rfl]
      unfold sX10_record_j29
      rw [e_thr1, olet_eq, if_neg one_ne]
theorem call_recordsOf (h : IV B (m + 1) S T) (p1 p2 : Int32) : PFX (uP (sX9_recordsOf S B p1 p2) S) (mI (sX10_recordsOf T p1 p2)) co12 (IV B m) := by
  obtain ⟨np, nr, ni, hV⟩ := h
  have hR : Rel S.2.2.2.2.2.1 (si T 100 6 0 0) np nr ni := hV.1.th
  have hni : ni ≤ 16 := hR.1.1.2.2
  rcases e_item hV p1 with ⟨i, hi, rfl, -, h1, h2⟩ | ⟨-, h1, h2⟩
  · rcases e_btw (B := B) (lo := 0) (hi := 2) hV.2.2.2.1.xr (by omega) (by omega) p2 with ⟨x, x1, x2, rfl, d3, d4⟩ | ⟨d3, d4⟩
    · have key : ∃ v, sX9_recordsOf S B (nI i) (nI x) = some (.ok v) ∧ sX10_recordsOf T (nI i) (nI x) = some (v, si T 100 6 0 0) := by
        unfold sX9_recordsOf sX10_recordsOf
        rw [h1, show sX9_requireBetween S B (nI x) (0 : Int32) (2 : Int32) = some (.ok ()) from d3, olet_eq, h2 _ (gi_ne (by omega)), if_neg one_ne]
        unfold sX10_recordsOf_j19
        rw [e_thr0, olet_eq, if_pos rfl, d4 _ _ _ (by decide) (by decide), if_neg one_ne]
        unfold sX10_recordsOf_j44
        rw [e_thr0, olet_eq, if_pos rfl]
        dsimp only [oexc]
        clear h2 hV h1 d3 d4
        generalize si T 100 6 0 0 = T0 at hR ⊢
        obtain ⟨k, k1, k2, k3, c, hc⟩ := e_rec hR
        unfold sX9_recordsOf_l16 sX10_recordsOf_l58
        have key2 := loop2 (f := sX9_recordsOf_l16_step S B (nI i) (nI x)) (g := sX10_recordsOf_l58_step (nI i) (nI x)) k (fun u (c : Int32) => (c, nI u)) (fun u c => (c, nI u, T0)) (P := fun b b' => ∃ v, b = .ok v ∧ b' = (v, T0)) (fun c => by
          unfold sX9_recordsOf_l16_step sX10_recordsOf_l58_step
          dsimp only
          rw [k2, show (4 : Int32).toNatClampNeg = 4 from rfl, k3, if_pos (Int32.le_refl _), if_pos (Int32.le_refl _)]
          exact ⟨_, _, rfl, rfl, c, rfl, rfl⟩) (fun u s hu => by
          unfold sX9_recordsOf_l16_step sX10_recordsOf_l58_step
          dsimp only
          have hle : ¬ nI k ≤ nI u := by rw [n_le (by omega) (by omega)]; omega
          obtain ⟨⟨a0, b0⟩, ⟨a1, b1⟩, -⟩ := hc u hu
          unfold sX0_isOf
          rw [k2, show (4 : Int32).toNatClampNeg = 4 from rfl, k3, if_neg hle, if_neg hle, a0, b0, obind_some]
          by_cases e : c u 0 = nI i
          · rw [if_pos e, if_pos e, if_neg one_ne, b1, obind_some]
            unfold sX0_kindOf
            rw [a1]
            by_cases e1 : c u 1 = nI x
            · rw [if_pos e1, if_pos e1, olet_eq, olet_eq, olet_eq, n_suc]
              exact ⟨_, rfl, rfl⟩
            · rw [if_neg e1, if_neg e1, olet_eq, olet_eq, add_0, n_suc]
              exact ⟨_, rfl, rfl⟩
          · rw [if_neg e, if_neg e, if_pos rfl, olet_eq, olet_eq, add_0, n_suc]
            exact ⟨_, rfl, rfl⟩) (0 : Int32)
        obtain ⟨b, b', g1, g2, v, rfl, rfl⟩ := key2
        exact ⟨v, g1, g2⟩
      obtain ⟨v, g1, g2⟩ := key
      exact pfp_ok hV g1 g2
    · refine pfp_bad (e := 2) (b := 0) (w := 2) hV ?_ ?_ rfl (by decide)
      · unfold sX9_recordsOf
        rw [h1, show sX9_requireBetween S B p2 (0 : Int32) (2 : Int32) = some (.error 2) from d3]
        rfl
      · unfold sX10_recordsOf
        rw [olet_eq, h2 _ (gi_ne (by omega)), if_neg one_ne]
        unfold sX10_recordsOf_j19
        rw [e_thr0, olet_eq, if_pos rfl, d4 _ _ _ (by decide) (by decide), if_pos rfl]
        unfold sX10_recordsOf_j44
        rw [e_thr1, olet_eq, if_neg one_ne]
  · refine pfp_bad (e := 1) (b := 0) (w := 1) hV ?_ ?_ rfl (by decide)
    · unfold sX9_recordsOf
      rw [h1]
      rfl
    · unfold sX10_recordsOf
      rw [olet_eq, h2 _ (gi_ne (by omega)), if_pos rfl]
      unfold sX10_recordsOf_j19
      rw [e_thr1, olet_eq, if_neg one_ne]
end RECS
