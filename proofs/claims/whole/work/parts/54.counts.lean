/-! ===== COUNT, CAUSE, QUEUES, LOANS THAT WAIT ===== -/
section CNT
variable {B m np nr ni : Nat} {S : XT} {T : Mem} {co : Nat → Option Int32}
theorem call_count (h : IV B (m + 1) S T) (p1 : Int32) : PFA (uA (sX9_count S B p1) S) (sX10_count T p1) (IV B m) := by
  obtain ⟨np, nr, ni, hV⟩ := h
  have hR : Rel S.2.2.2.2.2.1 (si T 100 6 0 0) np nr ni := hV.1.th
  obtain ⟨b, -, -, f1, f2⟩ := sim_free hR.1 hR.e5
  obtain ⟨v, p1', p2'⟩ := e_freeP hR
  obtain ⟨k, -, r2, r3, -⟩ := e_rec0 hR
  obtain ⟨_, kk, _, _, _, _, _, x2, _, x1', _⟩ := hV.2.1
  have x1 : gi (si T 100 6 0 0) 100 4 0 = nI kk := (gi_ne (by omega)).trans x1'
  have key : ∃ v, sX9_count S B p1 = some v ∧ sX10_count T p1 = some (v, si T 100 6 0 0) := by
    unfold sX9_count sX10_count
    rw [olet_eq]
    clear hV x1'
    generalize si T 100 6 0 0 = T0 at hR f2 p2' r3 x1 ⊢
    rcases n_cases p1 (n := 13) (by omega) with ⟨k, hk, rfl, -, -, -, -⟩ | ⟨-, c2⟩
    · have hk2 : k = 0 ∨ k = 1 ∨ k = 2 ∨ k = 3 ∨ k = 4 ∨ k = 5 ∨ k = 6 ∨ k = 7 ∨ k = 8 ∨ k = 9 ∨ k = 10 ∨ k = 11 ∨ k = 12 := by omega
      rcases hk2 with rfl | rfl | rfl | rfl | rfl | rfl | rfl | rfl | rfl | rfl | rfl | rfl | rfl
      · exact ⟨_, by rw [if_pos (show nI 0 = (0 : Int32) from rfl)], by rw [if_pos (show nI 0 = (0 : Int32) from rfl), show (0 : Int32).toNatClampNeg = 0 from rfl, ← hR.1.2.2.2.1.1]⟩
      · exact ⟨_, by rw [if_neg (show ¬ nI 1 = (0 : Int32) by decide), if_pos (show nI 1 = (1 : Int32) from rfl)], by rw [if_neg (show ¬ nI 1 = (0 : Int32) by decide), if_pos (show nI 1 = (1 : Int32) from rfl), show (2 : Int32).toNatClampNeg = 2 from rfl, hR.1.2.2.1.1, ← hR.1.2.1.1]⟩
      · exact ⟨_, by rw [if_neg (show ¬ nI 2 = (0 : Int32) by decide), if_neg (show ¬ nI 2 = (1 : Int32) by decide), if_pos (show nI 2 = (2 : Int32) from rfl)], by rw [if_neg (show ¬ nI 2 = (0 : Int32) by decide), if_neg (show ¬ nI 2 = (1 : Int32) by decide), if_pos (show nI 2 = (2 : Int32) from rfl), show (3 : Int32).toNatClampNeg = 3 from rfl, hR.1.2.2.1.2.1, ← hR.1.2.1.2.1]⟩
      · exact ⟨_, by rw [if_neg (show ¬ nI 3 = (0 : Int32) by decide), if_neg (show ¬ nI 3 = (1 : Int32) by decide), if_neg (show ¬ nI 3 = (2 : Int32) by decide), if_pos (show nI 3 = (3 : Int32) from rfl)], by rw [if_neg (show ¬ nI 3 = (0 : Int32) by decide), if_neg (show ¬ nI 3 = (1 : Int32) by decide), if_neg (show ¬ nI 3 = (2 : Int32) by decide), if_pos (show nI 3 = (3 : Int32) from rfl), show (4 : Int32).toNatClampNeg = 4 from rfl, hR.1.2.2.1.2.2, ← hR.1.2.1.2.2]⟩
      · exact ⟨_, by rw [if_neg (show ¬ nI 4 = (0 : Int32) by decide), if_neg (show ¬ nI 4 = (1 : Int32) by decide), if_neg (show ¬ nI 4 = (2 : Int32) by decide), if_neg (show ¬ nI 4 = (3 : Int32) by decide), if_pos (show nI 4 = (4 : Int32) from rfl)], by rw [if_neg (show ¬ nI 4 = (0 : Int32) by decide), if_neg (show ¬ nI 4 = (1 : Int32) by decide), if_neg (show ¬ nI 4 = (2 : Int32) by decide), if_neg (show ¬ nI 4 = (3 : Int32) by decide), if_pos (show nI 4 = (4 : Int32) from rfl), show (0 : Int32).toNatClampNeg = 0 from rfl, ← hR.2.1.2.1.1]⟩
      · exact ⟨_, by rw [if_neg (show ¬ nI 5 = (0 : Int32) by decide), if_neg (show ¬ nI 5 = (1 : Int32) by decide), if_neg (show ¬ nI 5 = (2 : Int32) by decide), if_neg (show ¬ nI 5 = (3 : Int32) by decide), if_neg (show ¬ nI 5 = (4 : Int32) by decide), if_pos (show nI 5 = (5 : Int32) from rfl)], by rw [if_neg (show ¬ nI 5 = (0 : Int32) by decide), if_neg (show ¬ nI 5 = (1 : Int32) by decide), if_neg (show ¬ nI 5 = (2 : Int32) by decide), if_neg (show ¬ nI 5 = (3 : Int32) by decide), if_neg (show ¬ nI 5 = (4 : Int32) by decide), if_pos (show nI 5 = (5 : Int32) from rfl), show (1 : Int32).toNatClampNeg = 1 from rfl, ← hR.1.2.2.2.1.2.1]⟩
      · exact ⟨_, by rw [if_neg (show ¬ nI 6 = (0 : Int32) by decide), if_neg (show ¬ nI 6 = (1 : Int32) by decide), if_neg (show ¬ nI 6 = (2 : Int32) by decide), if_neg (show ¬ nI 6 = (3 : Int32) by decide), if_neg (show ¬ nI 6 = (4 : Int32) by decide), if_neg (show ¬ nI 6 = (5 : Int32) by decide), if_pos (show nI 6 = (6 : Int32) from rfl), f1, obind_some], by rw [if_neg (show ¬ nI 6 = (0 : Int32) by decide), if_neg (show ¬ nI 6 = (1 : Int32) by decide), if_neg (show ¬ nI 6 = (2 : Int32) by decide), if_neg (show ¬ nI 6 = (3 : Int32) by decide), if_neg (show ¬ nI 6 = (4 : Int32) by decide), if_neg (show ¬ nI 6 = (5 : Int32) by decide), if_pos (show nI 6 = (6 : Int32) from rfl), f2, obind_some]⟩
      · exact ⟨_, by rw [if_neg (show ¬ nI 7 = (0 : Int32) by decide), if_neg (show ¬ nI 7 = (1 : Int32) by decide), if_neg (show ¬ nI 7 = (2 : Int32) by decide), if_neg (show ¬ nI 7 = (3 : Int32) by decide), if_neg (show ¬ nI 7 = (4 : Int32) by decide), if_neg (show ¬ nI 7 = (5 : Int32) by decide), if_neg (show ¬ nI 7 = (6 : Int32) by decide), if_pos (show nI 7 = (7 : Int32) from rfl), p1', obind_some], by rw [if_neg (show ¬ nI 7 = (0 : Int32) by decide), if_neg (show ¬ nI 7 = (1 : Int32) by decide), if_neg (show ¬ nI 7 = (2 : Int32) by decide), if_neg (show ¬ nI 7 = (3 : Int32) by decide), if_neg (show ¬ nI 7 = (4 : Int32) by decide), if_neg (show ¬ nI 7 = (5 : Int32) by decide), if_neg (show ¬ nI 7 = (6 : Int32) by decide), if_pos (show nI 7 = (7 : Int32) from rfl), p2', obind_some]⟩
      · exact ⟨_, by rw [if_neg (show ¬ nI 8 = (0 : Int32) by decide), if_neg (show ¬ nI 8 = (1 : Int32) by decide), if_neg (show ¬ nI 8 = (2 : Int32) by decide), if_neg (show ¬ nI 8 = (3 : Int32) by decide), if_neg (show ¬ nI 8 = (4 : Int32) by decide), if_neg (show ¬ nI 8 = (5 : Int32) by decide), if_neg (show ¬ nI 8 = (6 : Int32) by decide), if_neg (show ¬ nI 8 = (7 : Int32) by decide), if_pos (show nI 8 = (8 : Int32) from rfl)], by rw [if_neg (show ¬ nI 8 = (0 : Int32) by decide), if_neg (show ¬ nI 8 = (1 : Int32) by decide), if_neg (show ¬ nI 8 = (2 : Int32) by decide), if_neg (show ¬ nI 8 = (3 : Int32) by decide), if_neg (show ¬ nI 8 = (4 : Int32) by decide), if_neg (show ¬ nI 8 = (5 : Int32) by decide), if_neg (show ¬ nI 8 = (6 : Int32) by decide), if_neg (show ¬ nI 8 = (7 : Int32) by decide), if_pos (show nI 8 = (8 : Int32) from rfl), show (4 : Int32).toNatClampNeg = 4 from rfl, r3, ← r2]⟩
      · exact ⟨_, by rw [if_neg (show ¬ nI 9 = (0 : Int32) by decide), if_neg (show ¬ nI 9 = (1 : Int32) by decide), if_neg (show ¬ nI 9 = (2 : Int32) by decide), if_neg (show ¬ nI 9 = (3 : Int32) by decide), if_neg (show ¬ nI 9 = (4 : Int32) by decide), if_neg (show ¬ nI 9 = (5 : Int32) by decide), if_neg (show ¬ nI 9 = (6 : Int32) by decide), if_neg (show ¬ nI 9 = (7 : Int32) by decide), if_neg (show ¬ nI 9 = (8 : Int32) by decide), if_pos (show nI 9 = (9 : Int32) from rfl)], by rw [if_neg (show ¬ nI 9 = (0 : Int32) by decide), if_neg (show ¬ nI 9 = (1 : Int32) by decide), if_neg (show ¬ nI 9 = (2 : Int32) by decide), if_neg (show ¬ nI 9 = (3 : Int32) by decide), if_neg (show ¬ nI 9 = (4 : Int32) by decide), if_neg (show ¬ nI 9 = (5 : Int32) by decide), if_neg (show ¬ nI 9 = (6 : Int32) by decide), if_neg (show ¬ nI 9 = (7 : Int32) by decide), if_neg (show ¬ nI 9 = (8 : Int32) by decide), if_pos (show nI 9 = (9 : Int32) from rfl), show (1 : Int32).toNatClampNeg = 1 from rfl, ← hR.2.1.2.1.2.1]⟩
      · exact ⟨_, by rw [if_neg (show ¬ nI 10 = (0 : Int32) by decide), if_neg (show ¬ nI 10 = (1 : Int32) by decide), if_neg (show ¬ nI 10 = (2 : Int32) by decide), if_neg (show ¬ nI 10 = (3 : Int32) by decide), if_neg (show ¬ nI 10 = (4 : Int32) by decide), if_neg (show ¬ nI 10 = (5 : Int32) by decide), if_neg (show ¬ nI 10 = (6 : Int32) by decide), if_neg (show ¬ nI 10 = (7 : Int32) by decide), if_neg (show ¬ nI 10 = (8 : Int32) by decide), if_neg (show ¬ nI 10 = (9 : Int32) by decide), if_pos (show nI 10 = (10 : Int32) from rfl)], by rw [if_neg (show ¬ nI 10 = (0 : Int32) by decide), if_neg (show ¬ nI 10 = (1 : Int32) by decide), if_neg (show ¬ nI 10 = (2 : Int32) by decide), if_neg (show ¬ nI 10 = (3 : Int32) by decide), if_neg (show ¬ nI 10 = (4 : Int32) by decide), if_neg (show ¬ nI 10 = (5 : Int32) by decide), if_neg (show ¬ nI 10 = (6 : Int32) by decide), if_neg (show ¬ nI 10 = (7 : Int32) by decide), if_neg (show ¬ nI 10 = (8 : Int32) by decide), if_neg (show ¬ nI 10 = (9 : Int32) by decide), if_pos (show nI 10 = (10 : Int32) from rfl), show (2 : Int32).toNatClampNeg = 2 from rfl, ← hR.2.1.2.1.2.2.1]⟩
      · exact ⟨_, by rw [if_neg (show ¬ nI 11 = (0 : Int32) by decide), if_neg (show ¬ nI 11 = (1 : Int32) by decide), if_neg (show ¬ nI 11 = (2 : Int32) by decide), if_neg (show ¬ nI 11 = (3 : Int32) by decide), if_neg (show ¬ nI 11 = (4 : Int32) by decide), if_neg (show ¬ nI 11 = (5 : Int32) by decide), if_neg (show ¬ nI 11 = (6 : Int32) by decide), if_neg (show ¬ nI 11 = (7 : Int32) by decide), if_neg (show ¬ nI 11 = (8 : Int32) by decide), if_neg (show ¬ nI 11 = (9 : Int32) by decide), if_neg (show ¬ nI 11 = (10 : Int32) by decide), if_pos (show nI 11 = (11 : Int32) from rfl)], by rw [if_neg (show ¬ nI 11 = (0 : Int32) by decide), if_neg (show ¬ nI 11 = (1 : Int32) by decide), if_neg (show ¬ nI 11 = (2 : Int32) by decide), if_neg (show ¬ nI 11 = (3 : Int32) by decide), if_neg (show ¬ nI 11 = (4 : Int32) by decide), if_neg (show ¬ nI 11 = (5 : Int32) by decide), if_neg (show ¬ nI 11 = (6 : Int32) by decide), if_neg (show ¬ nI 11 = (7 : Int32) by decide), if_neg (show ¬ nI 11 = (8 : Int32) by decide), if_neg (show ¬ nI 11 = (9 : Int32) by decide), if_neg (show ¬ nI 11 = (10 : Int32) by decide), if_pos (show nI 11 = (11 : Int32) from rfl), show (3 : Int32).toNatClampNeg = 3 from rfl, ← hR.2.1.2.1.2.2.2]⟩
      · exact ⟨_, by rw [if_neg (show ¬ nI 12 = (0 : Int32) by decide), if_neg (show ¬ nI 12 = (1 : Int32) by decide), if_neg (show ¬ nI 12 = (2 : Int32) by decide), if_neg (show ¬ nI 12 = (3 : Int32) by decide), if_neg (show ¬ nI 12 = (4 : Int32) by decide), if_neg (show ¬ nI 12 = (5 : Int32) by decide), if_neg (show ¬ nI 12 = (6 : Int32) by decide), if_neg (show ¬ nI 12 = (7 : Int32) by decide), if_neg (show ¬ nI 12 = (8 : Int32) by decide), if_neg (show ¬ nI 12 = (9 : Int32) by decide), if_neg (show ¬ nI 12 = (10 : Int32) by decide), if_neg (show ¬ nI 12 = (11 : Int32) by decide), if_pos (show nI 12 = (12 : Int32) from rfl)], by rw [if_neg (show ¬ nI 12 = (0 : Int32) by decide), if_neg (show ¬ nI 12 = (1 : Int32) by decide), if_neg (show ¬ nI 12 = (2 : Int32) by decide), if_neg (show ¬ nI 12 = (3 : Int32) by decide), if_neg (show ¬ nI 12 = (4 : Int32) by decide), if_neg (show ¬ nI 12 = (5 : Int32) by decide), if_neg (show ¬ nI 12 = (6 : Int32) by decide), if_neg (show ¬ nI 12 = (7 : Int32) by decide), if_neg (show ¬ nI 12 = (8 : Int32) by decide), if_neg (show ¬ nI 12 = (9 : Int32) by decide), if_neg (show ¬ nI 12 = (10 : Int32) by decide), if_neg (show ¬ nI 12 = (11 : Int32) by decide), if_pos (show nI 12 = (12 : Int32) from rfl), x1, ← x2]⟩
    · have e : ∀ w, w < 13 → ¬ p1 = nI w := fun w hw z => by
        subst z; rw [n_i64 (by omega)] at c2; omega
      exact ⟨_, by rw [if_neg (show ¬ p1 = (0 : Int32) from e 0 (by omega)), if_neg (show ¬ p1 = (1 : Int32) from e 1 (by omega)), if_neg (show ¬ p1 = (2 : Int32) from e 2 (by omega)), if_neg (show ¬ p1 = (3 : Int32) from e 3 (by omega)), if_neg (show ¬ p1 = (4 : Int32) from e 4 (by omega)), if_neg (show ¬ p1 = (5 : Int32) from e 5 (by omega)), if_neg (show ¬ p1 = (6 : Int32) from e 6 (by omega)), if_neg (show ¬ p1 = (7 : Int32) from e 7 (by omega)), if_neg (show ¬ p1 = (8 : Int32) from e 8 (by omega)), if_neg (show ¬ p1 = (9 : Int32) from e 9 (by omega)), if_neg (show ¬ p1 = (10 : Int32) from e 10 (by omega)), if_neg (show ¬ p1 = (11 : Int32) from e 11 (by omega)), if_neg (show ¬ p1 = (12 : Int32) from e 12 (by omega))], by rw [if_neg (show ¬ p1 = (0 : Int32) from e 0 (by omega)), if_neg (show ¬ p1 = (1 : Int32) from e 1 (by omega)), if_neg (show ¬ p1 = (2 : Int32) from e 2 (by omega)), if_neg (show ¬ p1 = (3 : Int32) from e 3 (by omega)), if_neg (show ¬ p1 = (4 : Int32) from e 4 (by omega)), if_neg (show ¬ p1 = (5 : Int32) from e 5 (by omega)), if_neg (show ¬ p1 = (6 : Int32) from e 6 (by omega)), if_neg (show ¬ p1 = (7 : Int32) from e 7 (by omega)), if_neg (show ¬ p1 = (8 : Int32) from e 8 (by omega)), if_neg (show ¬ p1 = (9 : Int32) from e 9 (by omega)), if_neg (show ¬ p1 = (10 : Int32) from e 10 (by omega)), if_neg (show ¬ p1 = (11 : Int32) from e 11 (by omega)), if_neg (show ¬ p1 = (12 : Int32) from e 12 (by omega))]⟩
  obtain ⟨v, g1, g2⟩ := key
  exact pfa_ok hV g1 g2
theorem call_cause (h : IV B (m + 1) S T) (p1 : Int32) : PFX (uP (sX9_cause S B p1) S) (mI (sX10_cause T p1)) co1 (IV B m) := by
  obtain ⟨np, nr, ni, hV⟩ := h
  have hR : Rel S.2.2.2.2.2.1 (si T 100 6 0 0) np nr ni := hV.1.th
  have hni : ni ≤ 16 := hR.1.1.2.2
  have hnr : nr ≤ 10 := hR.1.1.2.1
  have hnp : np ≤ 6 := hR.1.1.1
  rcases e_item hV p1 with ⟨i, hi, rfl, h1, -, h2⟩ | ⟨h1, -, h2⟩
  · have key : ∃ v, sX9_cause S B (nI i) = some (.ok v) ∧ sX10_cause T (nI i) = some (v, si T 100 6 0 0) := by
      unfold sX9_cause sX10_cause
      rw [h1, olet_eq (si T 100 6 0 0), h2 _ (gi_ne (by omega)), if_neg one_ne]
      unfold sX10_cause_j19
      rw [e_thr0, olet_eq ((0 : Int32), si T 100 6 0 0), if_pos rfl]
      dsimp only [oexc]
      clear h2 hV h1
      generalize si T 100 6 0 0 = T0 at hR ⊢
      generalize S.2.2.2.2.2.1 = L at hR ⊢
      obtain ⟨v, v1, v2, _⟩ := sim_reason hR hi
      obtain ⟨G, G1, G2⟩ := e_greatP hR
      have q := (hR.2.2.2.2.2 i hi).1
      rw [v1, v2, obind_some, obind_some, G1, G2, obind_some, obind_some, e_of_1 (by omega), obind_some, e_of_4 (by omega), obind_some, ← q.2.1, ← q.2.2.2.2.1]
      by_cases c1 : v = 1
      · rw [if_pos c1, if_pos c1]; exact ⟨_, rfl, rfl⟩
      · rw [if_neg c1, if_neg c1]
        by_cases c3 : v = 3
        · subst c3
          rw [if_neg (show ¬ (3 : Int32) = 2 by decide), if_pos rfl, if_pos rfl]; exact ⟨_, rfl, rfl⟩
        · by_cases c5 : v = 5
          · subst c5
            rw [if_neg (show ¬ (5 : Int32) = 2 by decide), if_neg (show ¬ (5 : Int32) = 3 by decide), if_neg (show ¬ (5 : Int32) = 3 by decide), if_neg (show ¬ (5 : Int32) = 4 by decide), if_pos rfl, if_pos rfl]; exact ⟨_, rfl, rfl⟩
          · rw [if_neg c3, if_neg c3, if_neg c5, if_neg c5]
            refine ⟨-1, ?_, rfl⟩
            by_cases c2 : v = 2
            · rw [if_pos c2]
            · rw [if_neg c2]
              by_cases c4 : v = 4
              · rw [if_pos c4]
              · rw [if_neg c4]
    obtain ⟨v, g1, g2⟩ := key
    exact pfp_ok hV g1 g2
  · refine pfp_bad (e := 1) (b := 0) (w := 1) hV ?_ ?_ rfl (by decide)
    · unfold sX9_cause
      rw [h1]
      rfl
    · unfold sX10_cause
      rw [olet_eq, h2 _ (gi_ne (by omega)), if_pos rfl]
      unfold sX10_cause_j19
      rw [e_thr1, olet_eq, if_neg one_ne]
theorem e_ahead {L T : Mem} {i : Nat} (h : Rel L T np nr ni) (hi : i < ni) (hL : gi L 3 15 i ≠ 0) : ∃ v, sX7_loansAheadOf L (nI i) = some v ∧ sX10_loansAhead T (nI i) = some v := by
  have hni : ni ≤ 16 := h.1.1.2.2
  have e9 : gi L 0 9 0 = nI ni := h.1.2.1.2.2
  have t4 : gi T 5 (4 : Int32).toNatClampNeg 0 = nI ni := h.1.2.2.1.2.2
  have di : gi L 3 16 i = gi T 0 (6 + 21 * i + 8) 0 := by
    rcases (h.2.2.2.2.2 i hi).2.2.2.1 with ⟨a, b⟩ | ⟨a, b, _⟩
    · exact absurd a hL
    · exact b
  unfold sX7_loansAheadOf sX10_loansAhead sX7_loansAheadOf_l14 sX10_loansAhead_l4
  rw [e_itemAt (by omega), olet_eq]
  have key2 := loop2 (f := sX7_loansAheadOf_l14_step L (nI i)) (g := sX10_loansAhead_l4_step T (nI i)) ni (fun u (c : Int32) => (gi L 3 16 i, c, nI u)) (fun u c => (c, nI u)) (P := fun b b' => b = b') (fun c => by
    unfold sX7_loansAheadOf_l14_step sX10_loansAhead_l4_step
    dsimp only
    rw [e9, t4, if_pos (Int32.le_refl _), if_pos (Int32.le_refl _)]
    exact ⟨_, _, rfl, rfl, rfl⟩) (fun u c hu => by
    unfold sX7_loansAheadOf_l14_step sX10_loansAhead_l4_step
    dsimp only
    have hle : ¬ nI ni ≤ nI u := by rw [n_le (by omega) (by omega)]; omega
    rw [e9, t4, if_neg hle, if_neg hle, e_itemAt (by omega), e_of_8 (by omega), obind_some, obind_some, obind_some, e_of_8 (by omega), obind_some, obind_some, ← di]
    rcases (h.2.2.2.2.2 u hu).2.2.2.1 with ⟨a, b⟩ | ⟨a, b, -, -, ⟨x, x1, x2⟩, -⟩
    · rw [a, b, if_pos (show bz 0 = 0 from rfl), if_pos rfl, olet_eq, add_0, n_suc]
      exact ⟨_, rfl, rfl⟩
    · have e8 : ¬ gi T 0 (6 + 21 * u + 8) 0 = -1 := by
        rw [← b, x2]; exact n_m1 (by omega)
      rw [if_neg (fun z => a (bz_0.mp z)), if_neg e8, ← b]
      simp only [olet_eq, add_0]
      rw [n_suc]
      by_cases c1 : gi L 3 16 u < gi L 3 16 i
      · rw [if_pos c1, if_pos c1]; exact ⟨_, rfl, rfl⟩
      · rw [if_neg c1, if_neg c1]
        by_cases c2 : gi L 3 16 u = gi L 3 16 i
        · rw [if_pos c2, if_pos c2]
          by_cases c3 : nI i ≤ nI u
          · rw [if_pos c3, if_pos c3]; exact ⟨_, rfl, rfl⟩
          · rw [if_neg c3, if_neg c3]; exact ⟨_, rfl, rfl⟩
        · rw [if_neg c2, if_neg c2]; exact ⟨_, rfl, rfl⟩) (0 : Int32)
  obtain ⟨b, b', g1, g2, rfl⟩ := key2
  exact ⟨b, g1, g2⟩
theorem call_waitingLoan (h : IV B (m + 1) S T) (p1 : Int32) : PFA (uA (sX9_waitingLoan S B p1) S) (sX10_waitingLoan T p1) (IV B m) := by
  obtain ⟨np, nr, ni, hV⟩ := h
  have hR : Rel S.2.2.2.2.2.1 (si T 100 6 0 0) np nr ni := hV.1.th
  have hni : ni ≤ 16 := hR.1.1.2.2
  have e9 : gi S.2.2.2.2.2.1 0 9 0 = nI ni := hR.1.2.1.2.2
  have t4 : gi (si T 100 6 0 0) 5 (4 : Int32).toNatClampNeg 0 = nI ni := hR.1.2.2.1.2.2
  have key : ∃ v, sX9_waitingLoan S B p1 = some v ∧ sX10_waitingLoan T p1 = some (v, si T 100 6 0 0) := by
    unfold sX9_waitingLoan sX10_waitingLoan
    rw [olet_eq]
    clear hV
    generalize si T 100 6 0 0 = T0 at hR t4 ⊢
    unfold sX9_waitingLoan_l2 sX10_waitingLoan_l7
    have key2 := itw_two (f := sX9_waitingLoan_l2_step S B p1) (g := sX10_waitingLoan_l7_step p1) (J := fun k a a' => ∃ u, u ≤ ni ∧ k = ni - u ∧ a = nI u ∧ a' = (nI u, T0)) (P := fun b b' => b' = (b, T0)) (fun k a a' => by
      rintro ⟨u, h1, rfl, rfl, rfl⟩
      unfold sX9_waitingLoan_l2_step sX10_waitingLoan_l7_step
      dsimp only
      rw [e9, t4]
      by_cases e : ni ≤ u
      · have hle : nI ni ≤ nI u := by rw [n_le (by omega) (by omega)]; exact e
        rw [if_pos hle, if_pos hle]
        exact Or.inl ⟨_, _, rfl, rfl, rfl⟩
      · have hle : ¬ nI ni ≤ nI u := by rw [n_le (by omega) (by omega)]; exact e
        have hu : u < ni := by omega
        rw [if_neg hle, if_neg hle, e_itemAt (by omega), e_of_8 (by omega), obind_some]
        rcases (hR.2.2.2.2.2 u hu).2.2.2.1 with ⟨a, b⟩ | ⟨a, b, -, -, ⟨x, x1, x2⟩, -⟩
        · rw [a, b, if_pos (show bz 0 = 0 from rfl), if_pos rfl, olet_eq, n_suc]
          exact Or.inr ⟨_, _, ni - (u + 1), by omega, rfl, rfl, u + 1, by omega, rfl, rfl, rfl⟩
        · have e8 : ¬ gi T0 0 (6 + 21 * u + 8) 0 = -1 := by
            rw [← b, x2]; exact n_m1 (by omega)
          obtain ⟨v, v1, v2⟩ := e_ahead hR hu a
          rw [if_neg (fun z => a (bz_0.mp z)), if_neg e8, v1, v2, obind_some, obind_some]
          by_cases c1 : v = p1
          · rw [if_pos c1, if_pos c1]
            exact Or.inl ⟨_, _, rfl, rfl, rfl⟩
          · rw [if_neg c1, if_neg c1, olet_eq, n_suc]
            exact Or.inr ⟨_, _, ni - (u + 1), by omega, rfl, rfl, u + 1, by omega, rfl, rfl, rfl⟩) (k := ni - 0) ⟨0, by omega, rfl, rfl, rfl⟩
    obtain ⟨b, b', g1, g2, rfl⟩ := key2
    exact ⟨b, g1, g2⟩
  obtain ⟨v, g1, g2⟩ := key
  exact pfa_ok hV g1 g2
end CNT
