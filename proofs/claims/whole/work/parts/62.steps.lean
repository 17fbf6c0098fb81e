/-! ===== STEPS TO A TARGET ===== -/
section STEPS
variable {B m np nr ni : Nat} {S : XT} {T : Mem} {co : Nat → Option Int32}
theorem e_sb {L T : Mem} {r s : Nat} (h : Rel L T np nr ni) (hr : r < nr) (hs : s ≤ 1000) : ∃ s', s ≤ s' ∧ s' ≤ 1000 ∧ sX5_scoreBehind L r (nI s) = nI s' := by
  obtain ⟨f1, _, _, _, _, ⟨b, b1, b2⟩, ⟨c, c1, c2⟩, _⟩ := h.1.2.2.2.2.2.1 r hr
  have := e_behindS (S := L) (r := r) b1 c1 hs b2 c2
  exact ⟨_, bh_ge hs, bh_le _ _ _, this⟩
theorem e_steps {L T0 : Mem} {r s i : Nat} {p3 : Int32} (h : Rel L T0 np nr ni) (hr : r < nr) (hs : s ≤ 1000) : ∃ v, sX5_stepsBetween L r (nI s) p3 = some v ∧ sX10_stepsTo_l72 (nI i) (nI r) p3 (nI s, (0 : Int32), T0) = some (v, T0) := by
  unfold sX5_stepsBetween sX5_stepsBetween_l5 sX10_stepsTo_l72
  obtain ⟨b, b', g1, g2, g3⟩ := itw_two (f := sX5_stepsBetween_l5_step L r (nI s) p3) (g := sX10_stepsTo_l72_step (nI i) (nI r) p3) (J := fun k a a' => ∃ x c, x ≤ 1000 ∧ c ≤ x ∧ k = 1000 - x ∧ a = (nI x, nI c) ∧ a' = (nI x, nI c, T0)) (P := fun b b' => b' = (b, T0)) (fun k a a' => by
    rintro ⟨x, c, h1, h2, rfl, rfl, rfl⟩
    unfold sX5_stepsBetween_l5_step sX10_stepsTo_l72_step
    dsimp only
    have hc : ¬ (1000 : Int32) < nI c := by rw [n_lit 1000, n_lt (by omega) (by omega)]; omega
    rw [if_neg hc]
    by_cases e : nI x < p3
    · have e2 : ¬ p3 ≤ nI x := Int32.not_le.mpr e
      obtain ⟨x', x1, x2, x3⟩ := e_sb h hr h1
      rw [if_pos e, if_neg e2, e_beh h hr, obind_some, x3, olet_eq]
      by_cases ex : x' = x
      · subst ex
        rw [if_neg (show ¬ nI x' < nI x' from Int32.lt_irrefl), if_pos rfl]
        exact Or.inl ⟨_, _, rfl, rfl, rfl⟩
      · rw [if_pos (show nI x < nI x' by rw [n_lt (by omega) (by omega)]; omega), if_neg (show ¬ nI x' = nI x by rw [n_eq (by omega) (by omega)]; exact ex), n_suc]
        exact Or.inr ⟨_, _, 1000 - x', by omega, rfl, rfl, x', c + 1, x2, by omega, rfl, rfl, rfl⟩
    · have e2 : p3 ≤ nI x := Int32.not_lt.mp e
      rw [if_neg e, if_pos e2]
      exact Or.inl ⟨_, _, rfl, rfl, rfl⟩) (k := 1000 - s) ⟨s, 0, hs, Nat.zero_le _, rfl, rfl, rfl⟩
  subst g3
  exact ⟨b, g1, g2⟩
theorem call_stepsTo (h : IV B (m + 1) S T) (p1 p2 p3 : Int32) : PFX (uP (sX9_stepsTo S B p1 p2 p3) S) (mI (sX10_stepsTo T p1 p2 p3)) co12 (IV B m) := by
  obtain ⟨np, nr, ni, hV⟩ := h
  have hR : Rel S.2.2.2.2.2.1 (si T 100 6 0 0) np nr ni := hV.1.th
  have hni : ni ≤ 16 := hR.1.1.2.2
  have hnr : nr ≤ 10 := hR.1.1.2.1
  rcases e_item hV p1 with ⟨i, hi, rfl, h1, -, h2⟩ | ⟨h1, -, h2⟩
  · rcases e_reqR hV p2 with ⟨r, hr, rfl, g1, g2⟩ | ⟨g1, g2⟩
    · have eT : sX10_stepsTo T (nI i) (nI r) p3 = if (sX10_inRange (si T 100 6 0 0) p3.toInt64 (0 : Int64) (1000 : Int64)) = 0 then sX10_stepsTo_j52 (si T 100 6 0 0) (nI i) (nI r) p3 (1 : Int32) else sX10_stepsTo_j52 (si T 100 6 0 0) (nI i) (nI r) p3 (0 : Int32) := by
        unfold sX10_stepsTo
        rw [olet_eq, h2 _ (gi_ne (by omega)), if_neg one_ne, g2 _ (gi_ne (by omega)), if_neg one_ne]
        unfold sX10_stepsTo_j27
        rw [e_thr0, olet_eq, if_pos rfl]
      rcases e_btw (B := B) (lo := 0) (hi := 1000) hV.2.2.2.1.xr (by omega) (by omega) p3 with ⟨x, x1, x2, rfl, d3, d4⟩ | ⟨d3, d4⟩
      · obtain ⟨⟨q, -⟩, ⟨s, s1, s2⟩, -⟩ := hR.2.2.2.2.2 i hi
        obtain ⟨v, v1, v2⟩ := e_steps (i := i) (p3 := nI x) hR hr s1
        refine pfp_ok (v := v) hV ?_ ?_
        · unfold sX9_stepsTo
          rw [h1, g1, show sX9_requireBetween S B (nI x) (0 : Int32) (1000 : Int32) = some (.ok ()) from d3]
          dsimp only [oexc]
          rw [e_recipeAt (by omega), s2, v1, obind_some]
        · rw [eT, d4 _ _ _ (by decide) (by decide), if_neg one_ne]
          unfold sX10_stepsTo_j52
          rw [e_thr0, olet_eq, if_pos rfl, e_of_0 (by omega), obind_some, ← q, s2, v2]
      · refine pfp_bad (e := 2) (b := 0) (w := 2) hV ?_ ?_ rfl (by decide)
        · unfold sX9_stepsTo
          rw [h1, g1, show sX9_requireBetween S B p3 (0 : Int32) (1000 : Int32) = some (.error 2) from d3]
          rfl
        · rw [eT, d4 _ _ _ (by decide) (by decide), if_pos rfl]
          unfold sX10_stepsTo_j52
          rw [e_thr1, olet_eq, if_neg one_ne]
    · refine pfp_bad (e := 1) (b := 0) (w := 1) hV ?_ ?_ rfl (by decide)
      · unfold sX9_stepsTo
        rw [h1, g1]
        rfl
      · unfold sX10_stepsTo
        rw [olet_eq, h2 _ (gi_ne (by omega)), if_neg one_ne, g2 _ (gi_ne (by omega)), if_pos rfl]
        unfold sX10_stepsTo_j22 sX10_stepsTo_j27
        rw [e_thr1, olet_eq, if_neg one_ne]
  · refine pfp_bad (e := 1) (b := 0) (w := 1) hV ?_ ?_ rfl (by decide)
    · unfold sX9_stepsTo
      rw [h1]
      rfl
    · unfold sX10_stepsTo
      rw [olet_eq, h2 _ (gi_ne (by omega)), if_pos rfl]
      unfold sX10_stepsTo_j22 sX10_stepsTo_j27
      rw [e_thr1, olet_eq, if_neg one_ne]
end STEPS
