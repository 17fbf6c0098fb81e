/-! ===== READING CALLS ===== -/
section RD
variable {B m np nr ni : Nat} {S : XT} {T : Mem} {co : Nat → Option Int32}
theorem e_min {T : Mem} {a b : Int32} : sX10_min T a b = jmin a b := by
  unfold sX10_min jmin
  by_cases h : b < a
  · rw [if_pos h, if_pos (Int32.le_of_lt h)]
  · rw [if_neg h]
    by_cases h2 : b ≤ a
    · rw [if_pos h2]; exact Int32.le_antisymm h2 (Int32.not_lt.mp h)
    · rw [if_neg h2]
theorem e_max {T : Mem} {a b : Int32} : sX10_max T a b = jmax a b := by
  unfold sX10_max jmax
  by_cases h : a < b
  · rw [if_pos h, if_pos (Int32.le_of_lt h)]
  · rw [if_neg h]
    by_cases h2 : a ≤ b
    · rw [if_pos h2]; exact Int32.le_antisymm (Int32.not_lt.mp h) h2
    · rw [if_neg h2]
theorem e_beh {L T : Mem} {r : Nat} {x : Int32} (h : Rel L T np nr ni) (hr : r < nr) : sX10_behind T x (nI r) = some (sX5_scoreBehind L r x) := by
  have hnr : nr ≤ 10 := h.1.1.2.1
  obtain ⟨f1, _⟩ := h.1.2.2.2.2.2.1 r hr
  unfold sX10_behind sX5_scoreBehind
  rw [e_re_4 (by omega), obind_some, e_re_5 (by omega), obind_some, e_min, ← f1 4 (by omega), ← f1 5 (by omega)]
theorem e_appr {L T : Mem} {i r : Nat} (h : Rel L T np nr ni) (hi : i < ni) (hr : r < nr) : sX10_isApprovable T (nI i) (nI r) = some (sX5_asksApproval L r (gi L 3 4 i)) := by
  have hnr : nr ≤ 10 := h.1.1.2.1
  have hni : ni ≤ 16 := h.1.1.2.2
  have f1 := (h.1.2.2.2.2.2.1 r hr).1 3 (by omega)
  have f2 := (h.1.2.2.2.2.2.2 i hi).2.2.1
  unfold sX10_isApprovable sX5_asksApproval
  rw [e_re_3 (by omega), obind_some, e_th_1 (by omega), obind_some, ← f1, ← f2]
  by_cases e : gi L 2 3 r + gi L 3 4 i < 4
  · rw [if_pos e, if_pos e]
  · rw [if_neg e, if_neg e]
theorem call_press (h : IV B (m + 1) S T) (p1 p2 : Int32) : PFX (uP (sX9_press S B p1 p2) S) (mI (sX10_press T p1 p2)) co1 (IV B m) := by
  obtain ⟨np, nr, ni, hV⟩ := h
  have hR : Rel S.2.2.2.2.2.1 (si T 100 6 0 0) np nr ni := hV.1.th
  have hni : ni ≤ 16 := hR.1.1.2.2
  have hnr : nr ≤ 10 := hR.1.1.2.1
  have hnp : np ≤ 6 := hR.1.1.1
  rcases e_reqP hV p1 with ⟨i, hi, rfl, h1, h2⟩ | ⟨h1, h2⟩
  · have key : ∃ v, sX9_press S B (nI i) p2 = some (.ok v) ∧ sX10_press T (nI i) p2 = some (v, si T 100 6 0 0) := by
      unfold sX9_press sX10_press
      rw [h1, olet_eq (si T 100 6 0 0), h2 _ (gi_ne (by omega)), if_neg one_ne]
      unfold sX10_press_j19
      rw [e_thr0, olet_eq ((0 : Int32), si T 100 6 0 0), if_pos rfl]
      dsimp only [oexc]
      clear h2 hV h1
      generalize si T 100 6 0 0 = T0 at hR ⊢
      generalize S.2.2.2.2.2.1 = L at hR ⊢
      rw [e_pressAt (by omega)]
      by_cases h0 : p2 = 0
      · rw [if_pos h0, if_pos h0, e_ps (by omega), obind_some]
        exact ⟨_, rfl, by rw [(hR.1.2.2.2.2.1 i hi).1]⟩
      · rw [if_neg h0, if_neg h0]
        by_cases h1 : p2 = 1
        · rw [if_pos h1, if_pos h1, e_inPress hR.1 hR.2.2.2.2.1 hR.e10 hi, obind_some]
          exact ⟨_, rfl, rfl⟩
        · rw [if_neg h1, if_neg h1]
          exact ⟨_, rfl, rfl⟩
    obtain ⟨v, g1, g2⟩ := key
    exact pfp_ok hV g1 g2
  · refine pfp_bad (e := 1) (b := 0) (w := 1) hV ?_ ?_ rfl (by decide)
    · unfold sX9_press
      rw [h1]
      rfl
    · unfold sX10_press
      rw [olet_eq, h2 _ (gi_ne (by omega)), if_pos rfl]
      unfold sX10_press_j19
      rw [e_thr1, olet_eq, if_neg one_ne]
theorem call_recipe (h : IV B (m + 1) S T) (p1 p2 : Int32) : PFX (uP (sX9_recipe S B p1 p2) S) (mI (sX10_recipe T p1 p2)) co1 (IV B m) := by
  obtain ⟨np, nr, ni, hV⟩ := h
  have hR : Rel S.2.2.2.2.2.1 (si T 100 6 0 0) np nr ni := hV.1.th
  have hni : ni ≤ 16 := hR.1.1.2.2
  have hnr : nr ≤ 10 := hR.1.1.2.1
  have hnp : np ≤ 6 := hR.1.1.1
  rcases e_reqR hV p1 with ⟨i, hi, rfl, h1, h2⟩ | ⟨h1, h2⟩
  · have key : ∃ v, sX9_recipe S B (nI i) p2 = some (.ok v) ∧ sX10_recipe T (nI i) p2 = some (v, si T 100 6 0 0) := by
      unfold sX9_recipe sX10_recipe
      rw [h1, olet_eq (si T 100 6 0 0), h2 _ (gi_ne (by omega)), if_neg one_ne]
      unfold sX10_recipe_j19
      rw [e_thr0, olet_eq ((0 : Int32), si T 100 6 0 0), if_pos rfl]
      dsimp only [oexc]
      clear h2 hV h1
      generalize si T 100 6 0 0 = T0 at hR ⊢
      generalize S.2.2.2.2.2.1 = L at hR ⊢
      rw [e_inR, i64_0, show (6 : Int64).toInt = 6 by decide, e_recipeAt (by omega)]
      rcases n_cases p2 (n := 7) (by omega) with ⟨k, hk, rfl, c1, c2, c3, c4⟩ | ⟨c1, c2⟩
      · rw [if_pos (show (0 : Int) ≤ (nI k).toInt64.toInt ∧ (nI k).toInt64.toInt ≤ 6 by omega), if_neg one_ne, e_re (by omega) hk, obind_some, ← (hR.1.2.2.2.2.2.1 i hi).1 k hk]
        have hk2 : k = 0 ∨ k = 1 ∨ k = 2 ∨ k = 3 ∨ k = 4 ∨ k = 5 ∨ k = 6 := by omega
        rcases hk2 with rfl | rfl | rfl | rfl | rfl | rfl | rfl
        · exact ⟨_, by rw [if_pos (show nI 0 = (0 : Int32) from rfl)], rfl⟩
        · exact ⟨_, by rw [if_neg (show ¬ nI 1 = (0 : Int32) by decide), if_pos (show nI 1 = (1 : Int32) from rfl)], rfl⟩
        · exact ⟨_, by rw [if_neg (show ¬ nI 2 = (0 : Int32) by decide), if_neg (show ¬ nI 2 = (1 : Int32) by decide), if_pos (show nI 2 = (2 : Int32) from rfl)], rfl⟩
        · exact ⟨_, by rw [if_neg (show ¬ nI 3 = (0 : Int32) by decide), if_neg (show ¬ nI 3 = (1 : Int32) by decide), if_neg (show ¬ nI 3 = (2 : Int32) by decide), if_pos (show nI 3 = (3 : Int32) from rfl)], rfl⟩
        · exact ⟨_, by rw [if_neg (show ¬ nI 4 = (0 : Int32) by decide), if_neg (show ¬ nI 4 = (1 : Int32) by decide), if_neg (show ¬ nI 4 = (2 : Int32) by decide), if_neg (show ¬ nI 4 = (3 : Int32) by decide), if_pos (show nI 4 = (4 : Int32) from rfl)], rfl⟩
        · exact ⟨_, by rw [if_neg (show ¬ nI 5 = (0 : Int32) by decide), if_neg (show ¬ nI 5 = (1 : Int32) by decide), if_neg (show ¬ nI 5 = (2 : Int32) by decide), if_neg (show ¬ nI 5 = (3 : Int32) by decide), if_neg (show ¬ nI 5 = (4 : Int32) by decide), if_pos (show nI 5 = (5 : Int32) from rfl)], rfl⟩
        · exact ⟨_, by rw [if_neg (show ¬ nI 6 = (0 : Int32) by decide), if_neg (show ¬ nI 6 = (1 : Int32) by decide), if_neg (show ¬ nI 6 = (2 : Int32) by decide), if_neg (show ¬ nI 6 = (3 : Int32) by decide), if_neg (show ¬ nI 6 = (4 : Int32) by decide), if_neg (show ¬ nI 6 = (5 : Int32) by decide), if_pos (show nI 6 = (6 : Int32) from rfl)], rfl⟩
      · rw [if_neg (show ¬ ((0 : Int) ≤ p2.toInt64.toInt ∧ p2.toInt64.toInt ≤ 6) by omega), if_pos rfl]
        have e : ∀ w, w < 7 → ¬ p2 = nI w := fun w hw z => by
          subst z; rw [n_i64 (by omega)] at c2; omega
        exact ⟨_, by rw [if_neg (show ¬ p2 = (0 : Int32) from e 0 (by omega)), if_neg (show ¬ p2 = (1 : Int32) from e 1 (by omega)), if_neg (show ¬ p2 = (2 : Int32) from e 2 (by omega)), if_neg (show ¬ p2 = (3 : Int32) from e 3 (by omega)), if_neg (show ¬ p2 = (4 : Int32) from e 4 (by omega)), if_neg (show ¬ p2 = (5 : Int32) from e 5 (by omega)), if_neg (show ¬ p2 = (6 : Int32) from e 6 (by omega))], rfl⟩
    obtain ⟨v, g1, g2⟩ := key
    exact pfp_ok hV g1 g2
  · refine pfp_bad (e := 1) (b := 0) (w := 1) hV ?_ ?_ rfl (by decide)
    · unfold sX9_recipe
      rw [h1]
      rfl
    · unfold sX10_recipe
      rw [olet_eq, h2 _ (gi_ne (by omega)), if_pos rfl]
      unfold sX10_recipe_j19
      rw [e_thr1, olet_eq, if_neg one_ne]
theorem call_queued (h : IV B (m + 1) S T) (p1 p2 : Int32) : PFX (uP (sX9_queued S B p1 p2) S) (mI (sX10_queued T p1 p2)) co1 (IV B m) := by
  obtain ⟨np, nr, ni, hV⟩ := h
  have hR : Rel S.2.2.2.2.2.1 (si T 100 6 0 0) np nr ni := hV.1.th
  have hni : ni ≤ 16 := hR.1.1.2.2
  have hnr : nr ≤ 10 := hR.1.1.2.1
  have hnp : np ≤ 6 := hR.1.1.1
  rcases e_item hV p1 with ⟨i, hi, rfl, h1, -, h2⟩ | ⟨h1, -, h2⟩
  · have key : ∃ v, sX9_queued S B (nI i) p2 = some (.ok v) ∧ sX10_queued T (nI i) p2 = some (v, si T 100 6 0 0) := by
      unfold sX9_queued sX10_queued
      rw [h1, olet_eq (si T 100 6 0 0), h2 _ (gi_ne (by omega)), if_neg one_ne]
      unfold sX10_queued_j19
      rw [e_thr0, olet_eq ((0 : Int32), si T 100 6 0 0), if_pos rfl]
      dsimp only [oexc]
      clear h2 hV h1
      generalize si T 100 6 0 0 = T0 at hR ⊢
      generalize S.2.2.2.2.2.1 = L at hR ⊢
      obtain ⟨q1, q2, ⟨k, k1, k2, k3⟩, -⟩ := hR.2.2.2.2.2 i hi
      have t3 : gi T0 0 (6 + 21 * i + 3) 0 = nI k := q1.2.2.2.1.symm.trans k2
      rw [e_of_3 (by omega), obind_some, t3]
      rcases e_place k1 k2 p2 with ⟨a, ha, rfl, a1, a2⟩ | ⟨a1, a2⟩
      · rw [a2, if_neg one_ne, e_queuedAt k1 ha k2, obind_some, n_lit 13, nI_add, e_of (by omega) (by omega), obind_some]
        exact ⟨_, rfl, by rw [(k3 a ha).1]⟩
      · rw [a2, if_pos rfl]
        refine ⟨-1, ?_, rfl⟩
        unfold sX2_queuedAt
        rw [a1, if_pos rfl, obind_some]
    obtain ⟨v, g1, g2⟩ := key
    exact pfp_ok hV g1 g2
  · refine pfp_bad (e := 1) (b := 0) (w := 1) hV ?_ ?_ rfl (by decide)
    · unfold sX9_queued
      rw [h1]
      rfl
    · unfold sX10_queued
      rw [olet_eq, h2 _ (gi_ne (by omega)), if_pos rfl]
      unfold sX10_queued_j19
      rw [e_thr1, olet_eq, if_neg one_ne]
theorem call_loan (h : IV B (m + 1) S T) (p1 p2 : Int32) : PFX (uP (sX9_loan S B p1 p2) S) (mI (sX10_loan T p1 p2)) co1 (IV B m) := by
  obtain ⟨np, nr, ni, hV⟩ := h
  have hR : Rel S.2.2.2.2.2.1 (si T 100 6 0 0) np nr ni := hV.1.th
  have hni : ni ≤ 16 := hR.1.1.2.2
  have hnr : nr ≤ 10 := hR.1.1.2.1
  have hnp : np ≤ 6 := hR.1.1.1
  rcases e_item hV p1 with ⟨i, hi, rfl, h1, -, h2⟩ | ⟨h1, -, h2⟩
  · have key : ∃ v, sX9_loan S B (nI i) p2 = some (.ok v) ∧ sX10_loan T (nI i) p2 = some (v, si T 100 6 0 0) := by
      unfold sX9_loan sX10_loan
      rw [h1, olet_eq (si T 100 6 0 0), h2 _ (gi_ne (by omega)), if_neg one_ne]
      unfold sX10_loan_j19
      rw [e_thr0, olet_eq ((0 : Int32), si T 100 6 0 0), if_pos rfl]
      dsimp only [oexc]
      clear h2 hV h1
      generalize si T 100 6 0 0 = T0 at hR ⊢
      generalize S.2.2.2.2.2.1 = L at hR ⊢
      have hL := (hR.2.2.2.2.2 i hi).2.2.2.1
      rw [e_of_8 (by omega), obind_some]
      rcases hL with ⟨a, b⟩ | ⟨a, b, c, d, ⟨x, x1, x2⟩, -⟩
      · rw [a, b, if_pos (show bz 0 = 0 from rfl), if_pos rfl]
        exact ⟨_, rfl, rfl⟩
      · have e8 : gi T0 0 (6 + 21 * i + 8) 0 = nI x := b.symm.trans x2
        rw [if_neg (fun z => a (bz_0.mp z)), e8, if_neg (n_m1 (by omega)), e_inR, i64_0, show (2 : Int64).toInt = 2 by decide]
        rcases n_cases p2 (n := 3) (by omega) with ⟨k, hk, rfl, c1, c2, c3, c4⟩ | ⟨c1, c2⟩
        · rw [if_pos (show (0 : Int) ≤ (nI k).toInt64.toInt ∧ (nI k).toInt64.toInt ≤ 2 by omega), if_neg one_ne, n_lit 8, nI_add, e_of (by omega) (by omega), obind_some]
          have hk2 : k = 0 ∨ k = 1 ∨ k = 2 := by omega
          rcases hk2 with rfl | rfl | rfl
          · exact ⟨_, by rw [if_pos (show nI 0 = (0 : Int32) from rfl)], by rw [b]⟩
          · exact ⟨_, by rw [if_neg (show ¬ nI 1 = (0 : Int32) by decide), if_pos (show nI 1 = (1 : Int32) from rfl)], by rw [c]⟩
          · exact ⟨_, by rw [if_neg (show ¬ nI 2 = (0 : Int32) by decide), if_neg (show ¬ nI 2 = (1 : Int32) by decide), if_pos (show nI 2 = (2 : Int32) from rfl)], by rw [d]⟩
        · rw [if_neg (show ¬ ((0 : Int) ≤ p2.toInt64.toInt ∧ p2.toInt64.toInt ≤ 2) by omega), if_pos rfl]
          have e : ∀ w, w < 3 → ¬ p2 = nI w := fun w hw z => by
            subst z; rw [n_i64 (by omega)] at c2; omega
          exact ⟨_, by rw [if_neg (show ¬ p2 = (0 : Int32) from e 0 (by omega)), if_neg (show ¬ p2 = (1 : Int32) from e 1 (by omega)), if_neg (show ¬ p2 = (2 : Int32) from e 2 (by omega))], rfl⟩
    obtain ⟨v, g1, g2⟩ := key
    exact pfp_ok hV g1 g2
  · refine pfp_bad (e := 1) (b := 0) (w := 1) hV ?_ ?_ rfl (by decide)
    · unfold sX9_loan
      rw [h1]
      rfl
    · unfold sX10_loan
      rw [olet_eq, h2 _ (gi_ne (by omega)), if_pos rfl]
      unfold sX10_loan_j19
      rw [e_thr1, olet_eq, if_neg one_ne]
theorem call_reason (h : IV B (m + 1) S T) (p1 : Int32) : PFX (uP (sX9_reason S B p1) S) (mI (sX10_reason T p1)) co1 (IV B m) := by
  obtain ⟨np, nr, ni, hV⟩ := h
  have hR : Rel S.2.2.2.2.2.1 (si T 100 6 0 0) np nr ni := hV.1.th
  have hni : ni ≤ 16 := hR.1.1.2.2
  have hnr : nr ≤ 10 := hR.1.1.2.1
  have hnp : np ≤ 6 := hR.1.1.1
  rcases e_item hV p1 with ⟨i, hi, rfl, h1, -, h2⟩ | ⟨h1, -, h2⟩
  · have key : ∃ v, sX9_reason S B (nI i) = some (.ok v) ∧ sX10_reason T (nI i) = some (v, si T 100 6 0 0) := by
      unfold sX9_reason sX10_reason
      rw [h1, olet_eq (si T 100 6 0 0), h2 _ (gi_ne (by omega)), if_neg one_ne]
      unfold sX10_reason_j19
      rw [e_thr0, olet_eq ((0 : Int32), si T 100 6 0 0), if_pos rfl]
      dsimp only [oexc]
      clear h2 hV h1
      generalize si T 100 6 0 0 = T0 at hR ⊢
      generalize S.2.2.2.2.2.1 = L at hR ⊢
      obtain ⟨v, v1, v2, _⟩ := sim_reason hR hi
      rw [v1, v2, obind_some, obind_some]
      exact ⟨_, rfl, rfl⟩
    obtain ⟨v, g1, g2⟩ := key
    exact pfp_ok hV g1 g2
  · refine pfp_bad (e := 1) (b := 0) (w := 1) hV ?_ ?_ rfl (by decide)
    · unfold sX9_reason
      rw [h1]
      rfl
    · unfold sX10_reason
      rw [olet_eq, h2 _ (gi_ne (by omega)), if_pos rfl]
      unfold sX10_reason_j19
      rw [e_thr1, olet_eq, if_neg one_ne]
theorem call_pressFor (h : IV B (m + 1) S T) (p1 : Int32) : PFX (uP (sX9_pressFor S B p1) S) (mI (sX10_pressFor T p1)) co1 (IV B m) := by
  obtain ⟨np, nr, ni, hV⟩ := h
  have hR : Rel S.2.2.2.2.2.1 (si T 100 6 0 0) np nr ni := hV.1.th
  have hni : ni ≤ 16 := hR.1.1.2.2
  have hnr : nr ≤ 10 := hR.1.1.2.1
  have hnp : np ≤ 6 := hR.1.1.1
  rcases e_item hV p1 with ⟨i, hi, rfl, h1, -, h2⟩ | ⟨h1, -, h2⟩
  · have key : ∃ v, sX9_pressFor S B (nI i) = some (.ok v) ∧ sX10_pressFor T (nI i) = some (v, si T 100 6 0 0) := by
      unfold sX9_pressFor sX10_pressFor
      rw [h1, olet_eq (si T 100 6 0 0), h2 _ (gi_ne (by omega)), if_neg one_ne]
      unfold sX10_pressFor_j19
      rw [e_thr0, olet_eq ((0 : Int32), si T 100 6 0 0), if_pos rfl]
      dsimp only [oexc]
      clear h2 hV h1
      generalize si T 100 6 0 0 = T0 at hR ⊢
      generalize S.2.2.2.2.2.1 = L at hR ⊢
      obtain ⟨v, v1, v2, _⟩ := sim_fit hR.1 hR.2.2.2.2.1 hR.e10 hi (fl := 0)
      rw [v1, v2, obind_some, obind_some]
      exact ⟨_, rfl, rfl⟩
    obtain ⟨v, g1, g2⟩ := key
    exact pfp_ok hV g1 g2
  · refine pfp_bad (e := 1) (b := 0) (w := 1) hV ?_ ?_ rfl (by decide)
    · unfold sX9_pressFor
      rw [h1]
      rfl
    · unfold sX10_pressFor
      rw [olet_eq, h2 _ (gi_ne (by omega)), if_pos rfl]
      unfold sX10_pressFor_j19
      rw [e_thr1, olet_eq, if_neg one_ne]
theorem call_lateness (h : IV B (m + 1) S T) (p1 : Int32) : PFX (uP (sX9_lateness S B p1) S) (mI (sX10_lateness T p1)) co1 (IV B m) := by
  obtain ⟨np, nr, ni, hV⟩ := h
  have hR : Rel S.2.2.2.2.2.1 (si T 100 6 0 0) np nr ni := hV.1.th
  have hni : ni ≤ 16 := hR.1.1.2.2
  have hnr : nr ≤ 10 := hR.1.1.2.1
  have hnp : np ≤ 6 := hR.1.1.1
  rcases e_item hV p1 with ⟨i, hi, rfl, h1, -, h2⟩ | ⟨h1, -, h2⟩
  · have key : ∃ v, sX9_lateness S B (nI i) = some (.ok v) ∧ sX10_lateness T (nI i) = some (v, si T 100 6 0 0) := by
      unfold sX9_lateness sX10_lateness
      rw [h1, olet_eq (si T 100 6 0 0), h2 _ (gi_ne (by omega)), if_neg one_ne]
      unfold sX10_lateness_j19
      rw [e_thr0, olet_eq ((0 : Int32), si T 100 6 0 0), if_pos rfl]
      dsimp only [oexc]
      clear h2 hV h1
      generalize si T 100 6 0 0 = T0 at hR ⊢
      generalize S.2.2.2.2.2.1 = L at hR ⊢
      have hL := (hR.2.2.2.2.2 i hi).2.2.2.1
      rw [e_of_8 (by omega), obind_some, obind_some, e_max, show (0 : Int32).toNatClampNeg = 0 from rfl, ← hR.2.1.2.1.1]
      rcases hL with ⟨a, b⟩ | ⟨a, b, c, d, ⟨x, x1, x2⟩, -⟩
      · rw [a, b, if_pos (show bz 0 = 0 from rfl), if_pos rfl]
        exact ⟨_, rfl, rfl⟩
      · have e8 : gi T0 0 (6 + 21 * i + 8) 0 = nI x := b.symm.trans x2
        rw [if_neg (fun z => a (bz_0.mp z)), e8, if_neg (n_m1 (by omega)), x2]
        exact ⟨_, rfl, rfl⟩
    obtain ⟨v, g1, g2⟩ := key
    exact pfp_ok hV g1 g2
  · refine pfp_bad (e := 1) (b := 0) (w := 1) hV ?_ ?_ rfl (by decide)
    · unfold sX9_lateness
      rw [h1]
      rfl
    · unfold sX10_lateness
      rw [olet_eq, h2 _ (gi_ne (by omega)), if_pos rfl]
      unfold sX10_lateness_j19
      rw [e_thr1, olet_eq, if_neg one_ne]
theorem call_uses (h : IV B (m + 1) S T) (p1 : Int32) : PFX (uP (sX9_uses S B p1) S) (mI (sX10_uses T p1)) co1 (IV B m) := by
  obtain ⟨np, nr, ni, hV⟩ := h
  have hR : Rel S.2.2.2.2.2.1 (si T 100 6 0 0) np nr ni := hV.1.th
  have hni : ni ≤ 16 := hR.1.1.2.2
  have hnr : nr ≤ 10 := hR.1.1.2.1
  have hnp : np ≤ 6 := hR.1.1.1
  rcases e_reqR hV p1 with ⟨i, hi, rfl, h1, h2⟩ | ⟨h1, h2⟩
  · have key : ∃ v, sX9_uses S B (nI i) = some (.ok v) ∧ sX10_uses T (nI i) = some (v, si T 100 6 0 0) := by
      unfold sX9_uses sX10_uses
      rw [h1, olet_eq (si T 100 6 0 0), h2 _ (gi_ne (by omega)), if_neg one_ne]
      unfold sX10_uses_j19
      rw [e_thr0, olet_eq ((0 : Int32), si T 100 6 0 0), if_pos rfl]
      dsimp only [oexc]
      clear h2 hV h1
      generalize si T 100 6 0 0 = T0 at hR ⊢
      generalize S.2.2.2.2.2.1 = L at hR ⊢
      rw [e_recipeAt (by omega), n_lit 342, nI_add, n_inb (by omega) (by omega), oif_t rfl, n_cl (by omega), ← hR.2.1.2.2.1 i hi]
      exact ⟨_, rfl, rfl⟩
    obtain ⟨v, g1, g2⟩ := key
    exact pfp_ok hV g1 g2
  · refine pfp_bad (e := 1) (b := 0) (w := 1) hV ?_ ?_ rfl (by decide)
    · unfold sX9_uses
      rw [h1]
      rfl
    · unfold sX10_uses
      rw [olet_eq, h2 _ (gi_ne (by omega)), if_pos rfl]
      unfold sX10_uses_j19
      rw [e_thr1, olet_eq, if_neg one_ne]
theorem call_pressUse (h : IV B (m + 1) S T) (p1 : Int32) : PFX (uP (sX9_pressUse S B p1) S) (mI (sX10_pressUse T p1)) co1 (IV B m) := by
  obtain ⟨np, nr, ni, hV⟩ := h
  have hR : Rel S.2.2.2.2.2.1 (si T 100 6 0 0) np nr ni := hV.1.th
  have hni : ni ≤ 16 := hR.1.1.2.2
  have hnr : nr ≤ 10 := hR.1.1.2.1
  have hnp : np ≤ 6 := hR.1.1.1
  rcases e_reqP hV p1 with ⟨i, hi, rfl, h1, h2⟩ | ⟨h1, h2⟩
  · have key : ∃ v, sX9_pressUse S B (nI i) = some (.ok v) ∧ sX10_pressUse T (nI i) = some (v, si T 100 6 0 0) := by
      unfold sX9_pressUse sX10_pressUse
      rw [h1, olet_eq (si T 100 6 0 0), h2 _ (gi_ne (by omega)), if_neg one_ne]
      unfold sX10_pressUse_j19
      rw [e_thr0, olet_eq ((0 : Int32), si T 100 6 0 0), if_pos rfl]
      dsimp only [oexc]
      clear h2 hV h1
      generalize si T 100 6 0 0 = T0 at hR ⊢
      generalize S.2.2.2.2.2.1 = L at hR ⊢
      rw [e_pressAt (by omega), n_lit 352, nI_add, n_inb (by omega) (by omega), oif_t rfl, n_cl (by omega), ← hR.2.1.2.2.2 i hi]
      exact ⟨_, rfl, rfl⟩
    obtain ⟨v, g1, g2⟩ := key
    exact pfp_ok hV g1 g2
  · refine pfp_bad (e := 1) (b := 0) (w := 1) hV ?_ ?_ rfl (by decide)
    · unfold sX9_pressUse
      rw [h1]
      rfl
    · unfold sX10_pressUse
      rw [olet_eq, h2 _ (gi_ne (by omega)), if_pos rfl]
      unfold sX10_pressUse_j19
      rw [e_thr1, olet_eq, if_neg one_ne]
theorem call_errorCode (h : IV B (m + 1) S T) : PFA (uA (sX9_errorCode S B) S) (some (sX10_errorCode T)) (IV B m) := by
  obtain ⟨np, nr, ni, hV⟩ := h
  refine pfa_ok hV rfl ?_
  unfold sX10_errorCode
  rw [olet_eq, gi_ne (by omega), ← hV.2.2.2.2.1.2.1]
theorem call_errorPosition (h : IV B (m + 1) S T) : PFA (uA (sX9_errorPosition S B) S) (some (sX10_errorPosition T)) (IV B m) := by
  obtain ⟨np, nr, ni, hV⟩ := h
  refine pfa_ok hV rfl ?_
  unfold sX10_errorPosition
  rw [olet_eq, gi_ne (by omega), ← hV.2.2.2.2.1.2.2]
theorem call_next (h : IV B (m + 1) S T) : PFA (uA (sX9_next S B) S) (sX10_next T) (IV B m) := by
  obtain ⟨np, nr, ni, hV⟩ := h
  have hR : Rel S.2.2.2.2.2.1 (si T 100 6 0 0) np nr ni := hV.1.th
  obtain ⟨v, v1, v2, _⟩ := sim_next hR
  refine pfa_ok (v := v) hV ?_ ?_
  · unfold sX9_next
    rw [v1, obind_some]
  · unfold sX10_next
    rw [olet_eq, v2, obind_some]
theorem call_objectsIn (h : IV B (m + 1) S T) (p1 : Int32) : PFX (uP (sX9_objectsIn S B p1) S) (mI (sX10_objectsIn T p1)) co2 (IV B m) := by
  obtain ⟨np, nr, ni, hV⟩ := h
  have hR : Rel S.2.2.2.2.2.1 (si T 100 6 0 0) np nr ni := hV.1.th
  rcases e_btw (B := B) (lo := 0) (hi := 4) hV.2.2.2.1.xr (by omega) (by omega) p1 with ⟨k, k1, k2, rfl, h1, h2⟩ | ⟨h1, h2⟩
  · refine pfp_ok (v := nI (msk (inst S.2.2.2.2.2.1 (nI k)) ni)) hV ?_ ?_
    · unfold sX9_objectsIn
      rw [show sX9_requireBetween S B (nI k) (0 : Int32) (4 : Int32) = some (.ok ()) from h1]
      dsimp only [oexc]
      rw [e_itemsIn hR.1, obind_some]
    · unfold sX10_objectsIn
      rw [olet_eq, h2 _ _ _ (by decide) (by decide), if_neg one_ne]
      unfold sX10_objectsIn_j23
      rw [e_thr0, olet_eq, if_pos rfl, e_objectsAt hR.1 hR.e5, obind_some]
  · refine pfp_bad (e := 2) (b := 0) (w := 1) hV ?_ ?_ rfl (by decide)
    · unfold sX9_objectsIn
      rw [show sX9_requireBetween S B p1 (0 : Int32) (4 : Int32) = some (.error 2) from h1]
      rfl
    · unfold sX10_objectsIn
      rw [olet_eq, h2 _ _ _ (by decide) (by decide), if_pos rfl]
      unfold sX10_objectsIn_j23
      rw [e_thr1, olet_eq, if_neg one_ne]
theorem call_outputByte (h : IV B (m + 1) S T) (p1 : Int32) : PFA (uA (sX9_outputByte S B p1) S) (sX10_outputByte T p1) (IV B m) := by
  obtain ⟨np, nr, ni, hV⟩ := h
  obtain ⟨k, k1, k2, k3, k4⟩ := hV.2.2.2.2.2.1
  have key : ∃ v, sX9_outputByte S B p1 = some v ∧ sX10_outputByte T p1 = some (v, si T 100 6 0 0) := by
    unfold sX9_outputByte sX10_outputByte
    rw [olet_eq, gi_ne (by omega), k2, k3, e_inR, i64_0, n_sub1 (by omega)]
    rcases n_cases p1 (n := k) (by omega) with ⟨j, hj, rfl, c1, c2, c3, c4⟩ | ⟨c1, c2⟩
    · rw [if_neg c1, if_neg c3, if_neg (by rw [n_lit 32, n_le (by omega) (by omega)]; omega), if_pos (show (0 : Int) ≤ (nI j).toInt64.toInt ∧ (nI j).toInt64.toInt ≤ (k : Int) - 1 by omega), if_neg one_ne, n_inb (by omega) (by omega), oif_t rfl, n_cl (by omega), gi_ne (by omega), k4 j hj]
      exact ⟨_, rfl, rfl⟩
    · rw [if_neg (show ¬ ((0 : Int) ≤ p1.toInt64.toInt ∧ p1.toInt64.toInt ≤ (k : Int) - 1) by omega), if_pos rfl]
      rcases c1 with c1 | ⟨c1, c3, c4⟩
      · rw [if_pos c1]; exact ⟨_, rfl, rfl⟩
      · rw [if_neg c1, if_pos c4]; exact ⟨_, rfl, rfl⟩
  obtain ⟨v, g1, g2⟩ := key
  exact pfa_ok hV g1 g2
end RD
