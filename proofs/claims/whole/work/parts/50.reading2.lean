/-! ===== READING CALLS, THE SECOND ===== -/
/-- two loops that count alike -/
theorem loop2 {γ α α' β β' : Type} {f : α → Option (α ⊕ β)} {g : α' → Option (α' ⊕ β')} (n : Nat) (A : Nat → γ → α) (A' : Nat → γ → α') {P : β → β' → Prop} (hout : ∀ c, ∃ b b', f (A n c) = some (.inr b) ∧ g (A' n c) = some (.inr b') ∧ P b b') (hin : ∀ u c, u < n → ∃ c', f (A u c) = some (.inl (A (u + 1) c')) ∧ g (A' u c) = some (.inl (A' (u + 1) c'))) (c0 : γ) : ∃ b b', itw f (A 0 c0) = some b ∧ itw g (A' 0 c0) = some b' ∧ P b b' := by
  refine itw_two (J := fun k a a' => ∃ u c, u ≤ n ∧ k = n - u ∧ a = A u c ∧ a' = A' u c) (fun k a a' => ?_) (k := n - 0) ⟨0, c0, Nat.zero_le _, rfl, rfl, rfl⟩
  rintro ⟨u, c, h1, rfl, rfl, rfl⟩
  by_cases e : u = n
  · subst e; exact Or.inl (hout c)
  · obtain ⟨c', h2, h3⟩ := hin u c (by omega)
    exact Or.inr ⟨_, _, n - (u + 1), by omega, h2, h3, u + 1, c', by omega, rfl, rfl, rfl⟩
section RD2
variable {B m np nr ni : Nat} {S : XT} {T : Mem} {co : Nat → Option Int32}
theorem e_q {L T : Mem} {i : Nat} (h : Rel L T np nr ni) (hi : i < ni) : ∃ k, k ≤ 8 ∧ gi L 3 7 i = nI k ∧ sX10_of T (nI i) (3 : Int32) = some (nI k) ∧ ∀ j, j < k → ∃ r, r < nr ∧ r < 10 ∧ sX2_queuedAt L i (nI j) = some (nI r) ∧ sX10_of T (nI i) ((13 : Int32) + nI j) = some (nI r) := by
  have hni : ni ≤ 16 := h.1.1.2.2
  have hnr : nr ≤ 10 := h.1.1.2.1
  obtain ⟨q1, q2, ⟨k, k1, k2, k3⟩, -⟩ := h.2.2.2.2.2 i hi
  refine ⟨k, k1, k2, ?_, fun j hj => ?_⟩
  · rw [e_of_3 (by omega), ← q1.2.2.2.1, k2]
  · obtain ⟨j1, r, hr, j2⟩ := k3 j hj
    refine ⟨r, hr, by omega, ?_, ?_⟩
    · rw [e_queuedAt k1 hj k2, j2]
    · rw [n_lit 13, nI_add, e_of (by omega) (by omega), ← j1, j2]
theorem pfb_ok {v : Int32} {x : Option (Except Nat Int32)} {mo : Option (Int32 × Mem)} (hV : IVn B (m + 1) S T np nr ni) (hx : x = some (.ok v)) (hm : mo = some (v, si T 100 6 0 0)) : PFX (uB x S) (mZ mo) co (IV B m) := by
  subst hx; subst hm
  refine ⟨_, _, _, rfl, rfl, fun v hv => ?_, fun e he => by cases he⟩
  cases hv
  exact ⟨gi_eq2 ⟨rfl, rfl, rfl⟩, rfl, np, nr, ni, hV.th.mono (Nat.le_succ _)⟩
theorem pfb_bad {e : Nat} {b w : Int32} {x : Option (Except Nat Int32)} {mo : Option (Int32 × Mem)} (hV : IVn B (m + 1) S T np nr ni) (hx : x = some (.error e)) (hm : mo = some (b, si (si T 100 6 0 0) 100 6 0 w)) (hco : co e = some w) (hw : w ≠ 0) : PFX (uB x S) (mZ mo) co (IV B m) := by
  subst hx; subst hm
  refine ⟨_, _, _, rfl, rfl, fun v hv => (by cases hv), fun e' he => ?_⟩
  cases he
  rw [gi_eq2 ⟨rfl, rfl, rfl⟩]
  exact ⟨hco, hw, fun z hz _ => ⟨np, nr, ni, (hV.th.th).bump hz⟩⟩
theorem add_0 (x : Int32) : x + (0 : Int32) = x := by
  apply Int32.toBitVec_inj.1
  rw [Int32.toBitVec_add]
  exact BitVec.add_zero _
theorem call_scoreAfter (h : IV B (m + 1) S T) (p1 p2 : Int32) : PFX (uP (sX9_scoreAfter S B p1 p2) S) (mI (sX10_scoreAfter T p1 p2)) co1 (IV B m) := by
  obtain ⟨np, nr, ni, hV⟩ := h
  have hR : Rel S.2.2.2.2.2.1 (si T 100 6 0 0) np nr ni := hV.1.th
  have hni : ni ≤ 16 := hR.1.1.2.2
  have hnr : nr ≤ 10 := hR.1.1.2.1
  rcases e_item hV p1 with ⟨i, hi, rfl, h1, -, h2⟩ | ⟨h1, -, h2⟩
  · rcases e_reqR hV p2 with ⟨r, hr, rfl, g1, g2⟩ | ⟨g1, g2⟩
    · have key : ∃ v, sX9_scoreAfter S B (nI i) (nI r) = some (.ok v) ∧ sX10_scoreAfter T (nI i) (nI r) = some (v, si T 100 6 0 0) := by
        unfold sX9_scoreAfter sX10_scoreAfter
        rw [h1, g1, olet_eq, h2 _ (gi_ne (by omega)), if_neg one_ne, g2 _ (gi_ne (by omega)), if_neg one_ne]
        unfold sX10_scoreAfter_j27
        rw [e_thr0, olet_eq, if_pos rfl]
        dsimp only [oexc]
        clear h2 hV h1 g1 g2
        generalize si T 100 6 0 0 = T0 at hR ⊢
        generalize S.2.2.2.2.2.1 = L at hR ⊢
        rw [e_recipeAt (by omega), e_of_0 (by omega), obind_some, e_beh hR hr, obind_some, (hR.2.2.2.2.2 i hi).1.1]
        exact ⟨_, rfl, rfl⟩
      obtain ⟨v, g1, g2⟩ := key; exact pfp_ok hV g1 g2
    · refine pfp_bad (e := 1) (b := 0) (w := 1) hV ?_ ?_ rfl (by decide)
      · unfold sX9_scoreAfter
        rw [h1, g1]
        rfl
      · unfold sX10_scoreAfter
        rw [olet_eq, h2 _ (gi_ne (by omega)), if_neg one_ne, g2 _ (gi_ne (by omega)), if_pos rfl]
        unfold sX10_scoreAfter_j22 sX10_scoreAfter_j27
        rw [e_thr1, olet_eq, if_neg one_ne]
  · refine pfp_bad (e := 1) (b := 0) (w := 1) hV ?_ ?_ rfl (by decide)
    · unfold sX9_scoreAfter
      rw [h1]
      rfl
    · unfold sX10_scoreAfter
      rw [olet_eq, h2 _ (gi_ne (by omega)), if_pos rfl]
      unfold sX10_scoreAfter_j22 sX10_scoreAfter_j27
      rw [e_thr1, olet_eq, if_neg one_ne]
theorem call_needsApproval (h : IV B (m + 1) S T) (p1 p2 : Int32) : PFX (uB (sX9_needsApproval S B p1 p2) S) (mZ (sX10_needsApproval T p1 p2)) co1 (IV B m) := by
  obtain ⟨np, nr, ni, hV⟩ := h
  have hR : Rel S.2.2.2.2.2.1 (si T 100 6 0 0) np nr ni := hV.1.th
  have hni : ni ≤ 16 := hR.1.1.2.2
  have hnr : nr ≤ 10 := hR.1.1.2.1
  rcases e_item hV p1 with ⟨i, hi, rfl, h1, -, h2⟩ | ⟨h1, -, h2⟩
  · rcases e_reqR hV p2 with ⟨r, hr, rfl, g1, g2⟩ | ⟨g1, g2⟩
    · have key : ∃ v, sX9_needsApproval S B (nI i) (nI r) = some (.ok v) ∧ sX10_needsApproval T (nI i) (nI r) = some (v, si T 100 6 0 0) ∧ (v = 0 ∨ v = 1) := by
        unfold sX9_needsApproval sX10_needsApproval
        rw [h1, g1, olet_eq, h2 _ (gi_ne (by omega)), if_neg one_ne, g2 _ (gi_ne (by omega)), if_neg one_ne]
        unfold sX10_needsApproval_j27
        rw [e_thr0, olet_eq, if_pos rfl]
        dsimp only [oexc]
        clear h2 hV h1 g1 g2
        generalize si T 100 6 0 0 = T0 at hR ⊢
        generalize S.2.2.2.2.2.1 = L at hR ⊢
        rw [e_recipeAt (by omega), e_appr hR hi hr, obind_some]
        unfold sX5_asksApproval
        by_cases e : gi L 2 3 r + gi L 3 4 i < 4
        · rw [if_pos e, if_pos rfl]; exact ⟨_, rfl, rfl, Or.inl rfl⟩
        · rw [if_neg e, if_neg one_ne]; exact ⟨_, rfl, rfl, Or.inr rfl⟩
      obtain ⟨v, g1, g2, _⟩ := key; exact pfb_ok hV g1 g2
    · refine pfb_bad (e := 1) (b := 0) (w := 1) hV ?_ ?_ rfl (by decide)
      · unfold sX9_needsApproval
        rw [h1, g1]
        rfl
      · unfold sX10_needsApproval
        rw [olet_eq, h2 _ (gi_ne (by omega)), if_neg one_ne, g2 _ (gi_ne (by omega)), if_pos rfl]
        unfold sX10_needsApproval_j22 sX10_needsApproval_j27
        rw [e_thr1, olet_eq, if_neg one_ne]
  · refine pfb_bad (e := 1) (b := 0) (w := 1) hV ?_ ?_ rfl (by decide)
    · unfold sX9_needsApproval
      rw [h1]
      rfl
    · unfold sX10_needsApproval
      rw [olet_eq, h2 _ (gi_ne (by omega)), if_pos rfl]
      unfold sX10_needsApproval_j22 sX10_needsApproval_j27
      rw [e_thr1, olet_eq, if_neg one_ne]
theorem call_object (h : IV B (m + 1) S T) (p1 p2 : Int32) : PFX (uP (sX9_object S B p1 p2) S) (mI (sX10_object T p1 p2)) co1 (IV B m) := by
  obtain ⟨np, nr, ni, hV⟩ := h
  have hR : Rel S.2.2.2.2.2.1 (si T 100 6 0 0) np nr ni := hV.1.th
  have hni : ni ≤ 16 := hR.1.1.2.2
  have hnr : nr ≤ 10 := hR.1.1.2.1
  have hnp : np ≤ 6 := hR.1.1.1
  rcases e_item hV p1 with ⟨i, hi, rfl, h1, -, h2⟩ | ⟨h1, -, h2⟩
  · have key : ∃ v, sX9_object S B (nI i) p2 = some (.ok v) ∧ sX10_object T (nI i) p2 = some (v, si T 100 6 0 0) := by
      unfold sX9_object sX10_object
      rw [h1, olet_eq (si T 100 6 0 0), h2 _ (gi_ne (by omega)), if_neg one_ne]
      unfold sX10_object_j19
      rw [e_thr0, olet_eq ((0 : Int32), si T 100 6 0 0), if_pos rfl]
      dsimp only [oexc]
      clear h2 hV h1
      generalize si T 100 6 0 0 = T0 at hR ⊢
      generalize S.2.2.2.2.2.1 = L at hR ⊢
      obtain ⟨q1, q2, ⟨k, k1, k2, k3⟩, q4, q5⟩ := hR.2.2.2.2.2 i hi
      have c1 := hR.1.2.2.2.2.2.2 i hi
      obtain ⟨uu, u1, u2, u3⟩ := e_urgS hR hi
      have hl : i < 16 := by omega
      rcases n_cases p2 (n := 11) (by omega) with ⟨k, hk, rfl, -, -, -, -⟩ | ⟨-, c2⟩
      · have hk2 : k = 0 ∨ k = 1 ∨ k = 2 ∨ k = 3 ∨ k = 4 ∨ k = 5 ∨ k = 6 ∨ k = 7 ∨ k = 8 ∨ k = 9 ∨ k = 10 := by omega
        rcases hk2 with rfl | rfl | rfl | rfl | rfl | rfl | rfl | rfl | rfl | rfl | rfl
        · exact ⟨_, by rw [if_pos (show nI 0 = (0 : Int32) from rfl)], by rw [if_pos (show nI 0 = (0 : Int32) from rfl), e_th_0 hl, obind_some, ← c1.2.1]⟩
        · exact ⟨_, by rw [if_neg (show ¬ nI 1 = (0 : Int32) by decide), if_pos (show nI 1 = (1 : Int32) from rfl)], by rw [if_neg (show ¬ nI 1 = (0 : Int32) by decide), if_pos (show nI 1 = (1 : Int32) from rfl), e_of_0 hl, obind_some, ← q1.1]⟩
        · exact ⟨_, by rw [if_neg (show ¬ nI 2 = (0 : Int32) by decide), if_neg (show ¬ nI 2 = (1 : Int32) by decide), if_pos (show nI 2 = (2 : Int32) from rfl)], by rw [if_neg (show ¬ nI 2 = (0 : Int32) by decide), if_neg (show ¬ nI 2 = (1 : Int32) by decide), if_pos (show nI 2 = (2 : Int32) from rfl), e_th_1 hl, obind_some, ← c1.2.2.1]⟩
        · exact ⟨_, by rw [if_neg (show ¬ nI 3 = (0 : Int32) by decide), if_neg (show ¬ nI 3 = (1 : Int32) by decide), if_neg (show ¬ nI 3 = (2 : Int32) by decide), if_pos (show nI 3 = (3 : Int32) from rfl)], by rw [if_neg (show ¬ nI 3 = (0 : Int32) by decide), if_neg (show ¬ nI 3 = (1 : Int32) by decide), if_neg (show ¬ nI 3 = (2 : Int32) by decide), if_pos (show nI 3 = (3 : Int32) from rfl), e_of_1 hl, obind_some, ← q1.2.1]⟩
        · exact ⟨_, by rw [if_neg (show ¬ nI 4 = (0 : Int32) by decide), if_neg (show ¬ nI 4 = (1 : Int32) by decide), if_neg (show ¬ nI 4 = (2 : Int32) by decide), if_neg (show ¬ nI 4 = (3 : Int32) by decide), if_pos (show nI 4 = (4 : Int32) from rfl)], by rw [if_neg (show ¬ nI 4 = (0 : Int32) by decide), if_neg (show ¬ nI 4 = (1 : Int32) by decide), if_neg (show ¬ nI 4 = (2 : Int32) by decide), if_neg (show ¬ nI 4 = (3 : Int32) by decide), if_pos (show nI 4 = (4 : Int32) from rfl), e_of_2 hl, obind_some, ← q1.2.2.1]⟩
        · exact ⟨_, by rw [if_neg (show ¬ nI 5 = (0 : Int32) by decide), if_neg (show ¬ nI 5 = (1 : Int32) by decide), if_neg (show ¬ nI 5 = (2 : Int32) by decide), if_neg (show ¬ nI 5 = (3 : Int32) by decide), if_neg (show ¬ nI 5 = (4 : Int32) by decide), if_pos (show nI 5 = (5 : Int32) from rfl)], by rw [if_neg (show ¬ nI 5 = (0 : Int32) by decide), if_neg (show ¬ nI 5 = (1 : Int32) by decide), if_neg (show ¬ nI 5 = (2 : Int32) by decide), if_neg (show ¬ nI 5 = (3 : Int32) by decide), if_neg (show ¬ nI 5 = (4 : Int32) by decide), if_pos (show nI 5 = (5 : Int32) from rfl), e_of_3 hl, obind_some, ← q1.2.2.2.1]⟩
        · exact ⟨_, by rw [if_neg (show ¬ nI 6 = (0 : Int32) by decide), if_neg (show ¬ nI 6 = (1 : Int32) by decide), if_neg (show ¬ nI 6 = (2 : Int32) by decide), if_neg (show ¬ nI 6 = (3 : Int32) by decide), if_neg (show ¬ nI 6 = (4 : Int32) by decide), if_neg (show ¬ nI 6 = (5 : Int32) by decide), if_pos (show nI 6 = (6 : Int32) from rfl)], by rw [if_neg (show ¬ nI 6 = (0 : Int32) by decide), if_neg (show ¬ nI 6 = (1 : Int32) by decide), if_neg (show ¬ nI 6 = (2 : Int32) by decide), if_neg (show ¬ nI 6 = (3 : Int32) by decide), if_neg (show ¬ nI 6 = (4 : Int32) by decide), if_neg (show ¬ nI 6 = (5 : Int32) by decide), if_pos (show nI 6 = (6 : Int32) from rfl), e_of_4 hl, obind_some, ← q1.2.2.2.2.1]⟩
        · exact ⟨_, by rw [if_neg (show ¬ nI 7 = (0 : Int32) by decide), if_neg (show ¬ nI 7 = (1 : Int32) by decide), if_neg (show ¬ nI 7 = (2 : Int32) by decide), if_neg (show ¬ nI 7 = (3 : Int32) by decide), if_neg (show ¬ nI 7 = (4 : Int32) by decide), if_neg (show ¬ nI 7 = (5 : Int32) by decide), if_neg (show ¬ nI 7 = (6 : Int32) by decide), if_pos (show nI 7 = (7 : Int32) from rfl)], by rw [if_neg (show ¬ nI 7 = (0 : Int32) by decide), if_neg (show ¬ nI 7 = (1 : Int32) by decide), if_neg (show ¬ nI 7 = (2 : Int32) by decide), if_neg (show ¬ nI 7 = (3 : Int32) by decide), if_neg (show ¬ nI 7 = (4 : Int32) by decide), if_neg (show ¬ nI 7 = (5 : Int32) by decide), if_neg (show ¬ nI 7 = (6 : Int32) by decide), if_pos (show nI 7 = (7 : Int32) from rfl), e_of_5 hl, obind_some, ← q1.2.2.2.2.2.1]⟩
        · exact ⟨_, by rw [if_neg (show ¬ nI 8 = (0 : Int32) by decide), if_neg (show ¬ nI 8 = (1 : Int32) by decide), if_neg (show ¬ nI 8 = (2 : Int32) by decide), if_neg (show ¬ nI 8 = (3 : Int32) by decide), if_neg (show ¬ nI 8 = (4 : Int32) by decide), if_neg (show ¬ nI 8 = (5 : Int32) by decide), if_neg (show ¬ nI 8 = (6 : Int32) by decide), if_neg (show ¬ nI 8 = (7 : Int32) by decide), if_pos (show nI 8 = (8 : Int32) from rfl)], by rw [if_neg (show ¬ nI 8 = (0 : Int32) by decide), if_neg (show ¬ nI 8 = (1 : Int32) by decide), if_neg (show ¬ nI 8 = (2 : Int32) by decide), if_neg (show ¬ nI 8 = (3 : Int32) by decide), if_neg (show ¬ nI 8 = (4 : Int32) by decide), if_neg (show ¬ nI 8 = (5 : Int32) by decide), if_neg (show ¬ nI 8 = (6 : Int32) by decide), if_neg (show ¬ nI 8 = (7 : Int32) by decide), if_pos (show nI 8 = (8 : Int32) from rfl), e_of_6 hl, obind_some, ← q1.2.2.2.2.2.2.1]⟩
        · exact ⟨_, by rw [if_neg (show ¬ nI 9 = (0 : Int32) by decide), if_neg (show ¬ nI 9 = (1 : Int32) by decide), if_neg (show ¬ nI 9 = (2 : Int32) by decide), if_neg (show ¬ nI 9 = (3 : Int32) by decide), if_neg (show ¬ nI 9 = (4 : Int32) by decide), if_neg (show ¬ nI 9 = (5 : Int32) by decide), if_neg (show ¬ nI 9 = (6 : Int32) by decide), if_neg (show ¬ nI 9 = (7 : Int32) by decide), if_neg (show ¬ nI 9 = (8 : Int32) by decide), if_pos (show nI 9 = (9 : Int32) from rfl)], by rw [if_neg (show ¬ nI 9 = (0 : Int32) by decide), if_neg (show ¬ nI 9 = (1 : Int32) by decide), if_neg (show ¬ nI 9 = (2 : Int32) by decide), if_neg (show ¬ nI 9 = (3 : Int32) by decide), if_neg (show ¬ nI 9 = (4 : Int32) by decide), if_neg (show ¬ nI 9 = (5 : Int32) by decide), if_neg (show ¬ nI 9 = (6 : Int32) by decide), if_neg (show ¬ nI 9 = (7 : Int32) by decide), if_neg (show ¬ nI 9 = (8 : Int32) by decide), if_pos (show nI 9 = (9 : Int32) from rfl), e_of_7 hl, obind_some, ← q1.2.2.2.2.2.2.2]⟩
        · exact ⟨_, by rw [if_neg (show ¬ nI 10 = (0 : Int32) by decide), if_neg (show ¬ nI 10 = (1 : Int32) by decide), if_neg (show ¬ nI 10 = (2 : Int32) by decide), if_neg (show ¬ nI 10 = (3 : Int32) by decide), if_neg (show ¬ nI 10 = (4 : Int32) by decide), if_neg (show ¬ nI 10 = (5 : Int32) by decide), if_neg (show ¬ nI 10 = (6 : Int32) by decide), if_neg (show ¬ nI 10 = (7 : Int32) by decide), if_neg (show ¬ nI 10 = (8 : Int32) by decide), if_neg (show ¬ nI 10 = (9 : Int32) by decide), if_pos (show nI 10 = (10 : Int32) from rfl)], by rw [if_neg (show ¬ nI 10 = (0 : Int32) by decide), if_neg (show ¬ nI 10 = (1 : Int32) by decide), if_neg (show ¬ nI 10 = (2 : Int32) by decide), if_neg (show ¬ nI 10 = (3 : Int32) by decide), if_neg (show ¬ nI 10 = (4 : Int32) by decide), if_neg (show ¬ nI 10 = (5 : Int32) by decide), if_neg (show ¬ nI 10 = (6 : Int32) by decide), if_neg (show ¬ nI 10 = (7 : Int32) by decide), if_neg (show ¬ nI 10 = (8 : Int32) by decide), if_neg (show ¬ nI 10 = (9 : Int32) by decide), if_pos (show nI 10 = (10 : Int32) from rfl), u3, obind_some, ← u2]⟩
      · have e : ∀ w, w < 11 → ¬ p2 = nI w := fun w hw z => by
          subst z; rw [n_i64 (by omega)] at c2; omega
        exact ⟨_, by rw [if_neg (show ¬ p2 = (0 : Int32) from e 0 (by omega)), if_neg (show ¬ p2 = (1 : Int32) from e 1 (by omega)), if_neg (show ¬ p2 = (2 : Int32) from e 2 (by omega)), if_neg (show ¬ p2 = (3 : Int32) from e 3 (by omega)), if_neg (show ¬ p2 = (4 : Int32) from e 4 (by omega)), if_neg (show ¬ p2 = (5 : Int32) from e 5 (by omega)), if_neg (show ¬ p2 = (6 : Int32) from e 6 (by omega)), if_neg (show ¬ p2 = (7 : Int32) from e 7 (by omega)), if_neg (show ¬ p2 = (8 : Int32) from e 8 (by omega)), if_neg (show ¬ p2 = (9 : Int32) from e 9 (by omega)), if_neg (show ¬ p2 = (10 : Int32) from e 10 (by omega))], by rw [if_neg (show ¬ p2 = (0 : Int32) from e 0 (by omega)), if_neg (show ¬ p2 = (1 : Int32) from e 1 (by omega)), if_neg (show ¬ p2 = (2 : Int32) from e 2 (by omega)), if_neg (show ¬ p2 = (3 : Int32) from e 3 (by omega)), if_neg (show ¬ p2 = (4 : Int32) from e 4 (by omega)), if_neg (show ¬ p2 = (5 : Int32) from e 5 (by omega)), if_neg (show ¬ p2 = (6 : Int32) from e 6 (by omega)), if_neg (show ¬ p2 = (7 : Int32) from e 7 (by omega)), if_neg (show ¬ p2 = (8 : Int32) from e 8 (by omega)), if_neg (show ¬ p2 = (9 : Int32) from e 9 (by omega)), if_neg (show ¬ p2 = (10 : Int32) from e 10 (by omega))]⟩
    obtain ⟨v, g1, g2⟩ := key
    exact pfp_ok hV g1 g2
  · refine pfp_bad (e := 1) (b := 0) (w := 1) hV ?_ ?_ rfl (by decide)
    · unfold sX9_object
      rw [h1]
      rfl
    · unfold sX10_object
      rw [olet_eq, h2 _ (gi_ne (by omega)), if_pos rfl]
      unfold sX10_object_j19
      rw [e_thr1, olet_eq, if_neg one_ne]
theorem call_dryIn (h : IV B (m + 1) S T) (p1 : Int32) : PFX (uP (sX9_dryIn S B p1) S) (mI (sX10_dryIn T p1)) co1 (IV B m) := by
  obtain ⟨np, nr, ni, hV⟩ := h
  have hR : Rel S.2.2.2.2.2.1 (si T 100 6 0 0) np nr ni := hV.1.th
  have hni : ni ≤ 16 := hR.1.1.2.2
  have hnr : nr ≤ 10 := hR.1.1.2.1
  have hnp : np ≤ 6 := hR.1.1.1
  rcases e_reqP hV p1 with ⟨i, hi, rfl, h1, h2⟩ | ⟨h1, h2⟩
  · have key : ∃ v, sX9_dryIn S B (nI i) = some (.ok v) ∧ sX10_dryIn T (nI i) = some (v, si T 100 6 0 0) := by
      unfold sX9_dryIn sX10_dryIn
      rw [h1, olet_eq (si T 100 6 0 0), h2 _ (gi_ne (by omega)), if_neg one_ne]
      unfold sX10_dryIn_j19
      rw [e_thr0, olet_eq ((0 : Int32), si T 100 6 0 0), if_pos rfl]
      dsimp only [oexc]
      clear h2 hV h1
      generalize si T 100 6 0 0 = T0 at hR ⊢
      generalize S.2.2.2.2.2.1 = L at hR ⊢
      rw [e_pressAt (by omega), e_inPress hR.1 hR.2.2.2.2.1 hR.e10 hi, obind_some, obind_some, olet_eq]
      rcases hR.2.2.2.2.1.1 i hi with a | ⟨x, x1, x2, x3⟩
      · rw [a, if_pos rfl, if_pos rfl]
        exact ⟨_, rfl, rfl⟩
      · rw [x2, if_neg (n_m1 (by omega)), if_neg (n_m1 (by omega)), e_itemAt (by omega), e_of_2 (by omega), obind_some, (hR.2.2.2.2.2 x x1).1.2.2.1]
        exact ⟨_, rfl, rfl⟩
    obtain ⟨v, g1, g2⟩ := key
    exact pfp_ok hV g1 g2
  · refine pfp_bad (e := 1) (b := 0) (w := 1) hV ?_ ?_ rfl (by decide)
    · unfold sX9_dryIn
      rw [h1]
      rfl
    · unfold sX10_dryIn
      rw [olet_eq, h2 _ (gi_ne (by omega)), if_pos rfl]
      unfold sX10_dryIn_j19
      rw [e_thr1, olet_eq, if_neg one_ne]
end RD2
