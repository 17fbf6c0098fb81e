/-! ===== THE BEST RECIPE ===== -/
section BEST
variable {B m np nr ni : Nat} {S : XT} {T : Mem} {co : Nat → Option Int32}
theorem mul_1 (x : Int32) : x * 1 = x := by
  apply Int32.toBitVec_inj.1
  rw [Int32.toBitVec_mul]
  exact BitVec.mul_one _
theorem mul_0 (x : Int32) : 0 * x = 0 := by
  apply Int32.toBitVec_inj.1
  rw [Int32.toBitVec_mul]
  exact BitVec.zero_mul
theorem call_bestRecipe (h : IV B (m + 1) S T) (p1 : Int32) : PFX (uP (sX9_bestRecipe S B p1) S) (mI (sX10_bestRecipe T p1)) co1 (IV B m) := by
  obtain ⟨np, nr, ni, hV⟩ := h
  have hR : Rel S.2.2.2.2.2.1 (si T 100 6 0 0) np nr ni := hV.1.th
  have hni : ni ≤ 16 := hR.1.1.2.2
  have hnr : nr ≤ 10 := hR.1.1.2.1
  have hnp : np ≤ 6 := hR.1.1.1
  rcases e_item hV p1 with ⟨i, hi, rfl, h1, -, h2⟩ | ⟨h1, -, h2⟩
  · have key : ∃ v, sX9_bestRecipe S B (nI i) = some (.ok v) ∧ sX10_bestRecipe T (nI i) = some (v, si T 100 6 0 0) := by
      unfold sX9_bestRecipe sX10_bestRecipe
      rw [h1, olet_eq (si T 100 6 0 0), h2 _ (gi_ne (by omega)), if_neg one_ne]
      unfold sX10_bestRecipe_j19
      rw [e_thr0, olet_eq ((0 : Int32), si T 100 6 0 0), if_pos rfl]
      dsimp only [oexc]
      clear h2 hV h1
      generalize si T 100 6 0 0 = T0 at hR ⊢
      have e8 : gi S.2.2.2.2.2.1 0 8 0 = nI nr := hR.1.2.1.2.1
      have t3 : gi T0 5 (3 : Int32).toNatClampNeg 0 = nI nr := hR.1.2.2.1.2.1
      rw [olet_eq, e_of_0 (by omega), obind_some, ← (hR.2.2.2.2.2 i hi).1.1]
      generalize gi S.2.2.2.2.2.1 3 3 i = s
      unfold sX9_bestRecipe_l20 sX10_bestRecipe_l40
      have key2 := itw_two (f := sX9_bestRecipe_l20_step S B (nI i)) (g := sX10_bestRecipe_l40_step (nI i)) (J := fun k a a' => ∃ u, u ≤ nr ∧ k = nr - u ∧ ((a = (s, -1, 0, 1, nI u) ∧ a' = (s, -1, nI u, T0)) ∨ ∃ r, r < nr ∧ a = (s, nI r, sX5_scoreBehind S.2.2.2.2.2.1 r s - s, sX5_hours S.2.2.2.2.2.1 r, nI u) ∧ a' = (s, nI r, nI u, T0))) (P := fun b b' => ∃ v, b = .ok v ∧ b' = (v, T0)) (fun k a a' => by
        rintro ⟨u, q1, rfl, q⟩
        unfold sX9_bestRecipe_l20_step sX10_bestRecipe_l40_step
        by_cases e : nr ≤ u
        · have hle : nI nr ≤ nI u := by rw [n_le (by omega) (by omega)]; exact e
          rcases q with ⟨rfl, rfl⟩ | ⟨r, hr, rfl, rfl⟩
          · dsimp only
            rw [e8, t3, if_pos hle, if_pos hle]
            exact Or.inl ⟨_, _, rfl, rfl, _, rfl, rfl⟩
          · dsimp only
            rw [e8, t3, if_pos hle, if_pos hle]
            exact Or.inl ⟨_, _, rfl, rfl, _, rfl, rfl⟩
        · have hle : ¬ nI nr ≤ nI u := by rw [n_le (by omega) (by omega)]; exact e
          have hu : u < nr := by omega
          rcases q with ⟨rfl, rfl⟩ | ⟨r, hr, rfl, rfl⟩
          · dsimp only
            rw [e8, t3, if_neg hle, if_neg hle, e_recipeAt (by omega), e_beh hR hu, obind_some, if_pos rfl]
            simp only [olet_eq]
            rw [mul_1, mul_0, n_suc]
            unfold sX10_bestRecipe_j111
            by_cases c : sX5_scoreBehind S.2.2.2.2.2.1 u s - s ≤ 0
            · rw [if_pos c, if_pos c, if_pos rfl, n_suc]
              exact Or.inr ⟨_, _, nr - (u + 1), by omega, rfl, rfl, u + 1, by omega, rfl, Or.inl ⟨rfl, rfl⟩⟩
            · rw [if_neg c, if_neg c, if_neg one_ne, n_suc]
              exact Or.inr ⟨_, _, nr - (u + 1), by omega, rfl, rfl, u + 1, by omega, rfl, Or.inr ⟨u, hu, rfl, rfl⟩⟩
          · dsimp only
            rw [e8, t3, if_neg hle, if_neg hle, e_recipeAt (by omega), e_beh hR hu, obind_some, if_neg (n_m1 (by omega)), e_last hR hr, obind_some, e_beh hR hr, obind_some, e_last hR hu, obind_some]
            simp only [olet_eq]
            rw [n_suc]
            unfold sX10_bestRecipe_j111
            by_cases c : (sX5_scoreBehind S.2.2.2.2.2.1 u s - s) * sX5_hours S.2.2.2.2.2.1 r ≤ (sX5_scoreBehind S.2.2.2.2.2.1 r s - s) * sX5_hours S.2.2.2.2.2.1 u
            · rw [if_pos c, if_pos c, if_pos rfl, n_suc]
              exact Or.inr ⟨_, _, nr - (u + 1), by omega, rfl, rfl, u + 1, by omega, rfl, Or.inr ⟨r, hr, rfl, rfl⟩⟩
            · rw [if_neg c, if_neg c, if_neg one_ne, n_suc]
              exact Or.inr ⟨_, _, nr - (u + 1), by omega, rfl, rfl, u + 1, by omega, rfl, Or.inr ⟨u, hu, rfl, rfl⟩⟩) (k := nr - 0) (a := (s, (-1 : Int32), (0 : Int32), (1 : Int32), (0 : Int32))) (a' := (s, (-1 : Int32), (0 : Int32), T0)) ⟨0, by omega, rfl, Or.inl ⟨rfl, rfl⟩⟩
      obtain ⟨b, b', g1, g2, v, rfl, rfl⟩ := key2
      exact ⟨v, g1, g2⟩
    obtain ⟨v, g1, g2⟩ := key
    exact pfp_ok hV g1 g2
  · refine pfp_bad (e := 1) (b := 0) (w := 1) hV ?_ ?_ rfl (by decide)
    · unfold sX9_bestRecipe
      rw [h1]
      rfl
    · unfold sX10_bestRecipe
      rw [olet_eq, h2 _ (gi_ne (by omega)), if_pos rfl]
      unfold sX10_bestRecipe_j19
      rw [e_thr1, olet_eq, if_neg one_ne]
end BEST
