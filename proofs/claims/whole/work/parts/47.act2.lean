/-! ===== THE ACTING CALLS, CONTINUED ===== -/
section ACT2
variable {B m np nr ni : Nat} {S : XT} {T : Mem} {co : Nat → Option Int32}
theorem do_cancel {i : Nat} (hV : IVn B (m + 1) S T np nr ni) (hi : i < ni) : ∃ v S' T', sX9_cancel S B (nI i) = some (.ok (v, S')) ∧ sX10_cancelNow T (nI i) = some (v, T') ∧ IVn B (m + 1) S' T' np nr ni ∧ gi T' 100 6 0 = gi T 100 6 0 := by
  have hni : ni ≤ 16 := hV.1.1.1.2.2
  have hl : i < 16 := by omega
  obtain ⟨k, k1, k2, k3⟩ := hV.q hi
  unfold sX9_cancel sX10_cancelNow
  rw [e_itemI hV hi, e_of_3 hl, obind_some, k3]
  dsimp only [oexc]
  rw [k2]
  by_cases e : k = 0
  · subst e
    rw [if_pos (show nI 0 = 0 from rfl), if_pos (show nI 0 = 0 from rfl)]
    exact ⟨_, _, _, rfl, rfl, hV, rfl⟩
  · have e0 : ¬ nI k = 0 := by rw [n_lit 0, n_eq (by omega) (by omega)]; exact e
    rw [if_neg e0, if_neg e0]
    obtain ⟨k', rfl⟩ : ∃ k', k = k' + 1 := ⟨k - 1, by omega⟩
    obtain ⟨z', X', P', W', T1, r1, r2, r3, r4, r5, r6⟩ := sim_keep hV
    obtain ⟨v, L', T', p1, p2, p3, p4, p5⟩ := rel_cancel r3.1 hi (by omega) k2
    dsimp only at p1 p2 p3 p5
    rw [r1, r2, obind_some, obind_some, p2]
    dsimp only
    rw [p1, obind_some]
    refine ⟨_, _, _, rfl, rfl, r3.live p3 (numR_of r3.2.2.2.2.2.2.2 p5) p4.P, ?_⟩
    rw [p4.2.2.1 100 6 0 (by decide) (by decide)]; exact r4
theorem do_clearQueue {i : Nat} (hV : IVn B (m + 1) S T np nr ni) (hi : i < ni) : ∃ v S' T', sX9_clearQueue S B (nI i) = some (.ok (v, S')) ∧ sX10_clearNow T (nI i) = some (v, T') ∧ IVn B (m + 1) S' T' np nr ni ∧ gi T' 100 6 0 = gi T 100 6 0 := by
  have hni : ni ≤ 16 := hV.1.1.1.2.2
  have hl : i < 16 := by omega
  obtain ⟨k, k1, k2, k3⟩ := hV.q hi
  unfold sX9_clearQueue sX10_clearNow
  rw [e_itemI hV hi, e_of_3 hl, obind_some, k3]
  dsimp only [oexc]
  rw [k2, olet_eq]
  by_cases e : k = 0
  · subst e
    rw [if_pos (show nI 0 = 0 from rfl), if_pos (show nI 0 = 0 from rfl)]
    exact ⟨_, _, _, rfl, rfl, hV, rfl⟩
  · have e0 : ¬ nI k = 0 := by rw [n_lit 0, n_eq (by omega) (by omega)]; exact e
    rw [if_neg e0, if_neg e0]
    obtain ⟨z', X', P', W', T1, r1, r2, r3, r4, r5, r6⟩ := sim_keep hV
    obtain ⟨L', T', p1, p2, p3, p4, p5⟩ := rel_clear r3.1 hi
    dsimp only at p1 p2 p3 p5
    rw [r1, r2, obind_some, obind_some]
    dsimp only
    rw [olet_eq, olet_eq, p1]
    have p6 : (obind (sX10_set T1 (nI i) (3 : Int32) (0 : Int32)) fun r8 => obind (sX10_set r8 (nI i) (4 : Int32) (-1 : Int32)) fun r11 => some ((nI k, r11))) = some (nI k, T') := by
      rw [e_set_3 hl, obind_some] at p2 ⊢
      rw [p2, obind_some]
    rw [p6]
    refine ⟨_, _, _, rfl, rfl, r3.live p3 (numR_of r3.2.2.2.2.2.2.2 p5) p4.P, ?_⟩
    rw [p4.2.2.1 100 6 0 (by decide) (by decide)]; exact r4
theorem do_recall {i : Nat} (hV : IVn B (m + 1) S T np nr ni) (hi : i < ni) : ∃ v S' T', sX9_recall S B (nI i) = some (.ok (v, S')) ∧ sX10_recallNow T (nI i) = some (v, T') ∧ IVn B (m + 1) S' T' np nr ni ∧ gi T' 100 6 0 = gi T 100 6 0 := by
  have hni : ni ≤ 16 := hV.1.1.1.2.2
  have hl : i < 16 := by omega
  have hL := (hV.1.2.2.2.2.2 i hi).2.2.2.1
  unfold sX9_recall sX10_recallNow
  rw [e_itemI hV hi, e_of_8 hl, obind_some]
  dsimp only [oexc]
  rcases hL with ⟨a, b⟩ | ⟨a, b, -, -, ⟨d, d1, d2⟩, -⟩
  · rw [a, b, if_pos (show bz 0 = 0 from rfl), if_pos rfl]
    exact ⟨_, _, _, rfl, rfl, hV, rfl⟩
  · have e8 : gi T 0 (6 + 21 * i + 8) 0 = nI d := b.symm.trans d2
    rw [if_neg (fun z => a (bz_0.mp z)), e8, if_neg (n_m1 (by omega))]
    obtain ⟨z', X', P', W', T1, r1, r2, r3, r4, r5, r6⟩ := sim_keep hV
    have p3 := rel_recall r3.1 hi
    dsimp only at p3
    rw [r1, r2, obind_some, obind_some, e_set_8 hl, obind_some]
    dsimp only
    rw [olet_eq, gi_ne (by omega), d2]
    refine ⟨_, _, _, rfl, rfl, r3.live p3 (numR_of r3.2.2.2.2.2.2.2 (fun x => gi_ne (by omega))) (FrP.set (by omega)), ?_⟩
    rw [gi_ne (by omega)]; exact r4
theorem do_approve {i : Nat} (hV : IVn B (m + 1) S T np nr ni) (hi : i < ni) : ∃ v S' T', sX9_approve S B (nI i) = some (.ok (v, S')) ∧ sX10_approveNow T (nI i) = some (v, T') ∧ IVn B (m + 1) S' T' np nr ni ∧ gi T' 100 6 0 = gi T 100 6 0 := by
  have hni : ni ≤ 16 := hV.1.1.1.2.2
  have hl : i < 16 := by omega
  obtain ⟨q1, q2, ⟨k, k1, k2, k3⟩, -⟩ := hV.1.2.2.2.2.2 i hi
  have t3 : gi T 0 (6 + 21 * i + 3) 0 = nI k := q1.2.2.2.1.symm.trans k2
  unfold sX9_approve sX10_approveNow
  rw [e_itemI hV hi, e_of_3 hl, obind_some, t3]
  dsimp only [oexc]
  rw [k2]
  by_cases e : k = 0
  · subst e
    rw [if_pos (show nI 0 = 0 from rfl), if_pos (show nI 0 = 0 from rfl)]
    exact ⟨_, _, _, rfl, rfl, hV, rfl⟩
  · have e0 : ¬ nI k = 0 := by rw [n_lit 0, n_eq (by omega) (by omega)]; exact e
    rw [if_neg e0, if_neg e0]
    obtain ⟨j1, r, hr, j2⟩ := k3 0 (by omega)
    have hr10 : r < 10 := by have := hV.1.1.1.2.1; omega
    have eF : sX2_firstQueued S.2.2.2.2.2.1 i = nI r := by
      unfold sX2_firstQueued
      rw [k2, if_neg (by rw [n_lit 0, n_le (by omega) (by omega)]; omega), if_neg (show ¬ (8 : Int32) ≤ 0 by decide)]
      exact j2
    have t13 : gi T 0 (6 + 21 * i + 13) 0 = nI r := j1.symm.trans j2
    have a3 : gi S.2.2.2.2.2.1 2 3 r = gi T 5 (11 + 7 * r + 3) 0 := (hV.1.1.2.2.2.2.2.1 r hr).1 3 (by omega)
    have a4 : gi S.2.2.2.2.2.1 3 4 i = gi T 5 (81 + 3 * i + 1) 0 := (hV.1.1.2.2.2.2.2.2 i hi).2.2.1
    rw [eF, e_recipeAt hr10, e_of_13 hl, obind_some, t13]
    unfold sX5_asksApproval sX10_isApprovable
    rw [e_re_3 hr10, obind_some, e_th_1 hl, obind_some, ← a3, ← a4]
    by_cases ea : gi S.2.2.2.2.2.1 2 3 r + gi S.2.2.2.2.2.1 3 4 i < 4
    · rw [if_pos ea, if_pos ea, obind_some, if_pos rfl, if_pos rfl]
      exact ⟨_, _, _, rfl, rfl, hV, rfl⟩
    · rw [if_neg ea, if_neg ea, obind_some, if_neg one_ne, if_neg one_ne]
      obtain ⟨z', X', P', W', T1, r1, r2, r3, r4, r5, r6⟩ := sim_keep hV
      have e12 : gi S.2.2.2.2.2.1 0 12 0 = gi T1 0 0 0 := r3.1.2.1.2.1.1
      have e11 : gi S.2.2.2.2.2.1 0 11 0 = gi T1 5 1 0 := r3.1.1.2.2.2.1.2.1
      have p3 := rel_approve (v := gi T1 0 0 0 + gi T1 5 1 0) r3.1 hi
      dsimp only at p3
      rw [r1, r2, obind_some, obind_some, e_set_4 hl, obind_some, e_of_4 hl, obind_some, gi_eq2 ⟨rfl, rfl, rfl⟩]
      dsimp only
      rw [olet_eq, gi_eq2 ⟨rfl, rfl, rfl⟩, e12, e11, show (0 : Int32).toNatClampNeg = 0 from rfl, show (1 : Int32).toNatClampNeg = 1 from rfl]
      refine ⟨_, _, _, rfl, rfl, r3.live p3 (numR_of r3.2.2.2.2.2.2.2 (fun x => gi_ne (by omega))) (FrP.set (by omega)), ?_⟩
      rw [gi_ne (by omega)]; exact r4
theorem do_lend {i d n l : Nat} (hV : IVn B (m + 1) S T np nr ni) (hi : i < ni) (hd : d ≤ 20000) (hn : n ≤ 1000) (hl1 : 1 ≤ l) (hl2 : l ≤ 500) (hb : ∀ {lo hi k : Nat}, lo ≤ k → k ≤ hi → hi < 1000000 → sX9_requireBetween S B (nI k) (nI lo) (nI hi) = some (.ok ())) : ∃ v S' T', sX9_lend S B (nI i) (nI d) (nI n) (nI l) = some (.ok (v, S')) ∧ sX10_lendNow T (nI i) (nI d) (nI n) (nI l) = some (v, T') ∧ IVn B (m + 1) S' T' np nr ni ∧ gi T' 100 6 0 = gi T 100 6 0 := by
  have hni : ni ≤ 16 := hV.1.1.1.2.2
  have hl : i < 16 := by omega
  have hL := (hV.1.2.2.2.2.2 i hi).2.2.2.1
  unfold sX9_lend sX10_lendNow
  rw [e_itemI hV hi, e_of_8 hl, obind_some]
  rw [show sX9_requireBetween S B (nI d) (0 : Int32) (20000 : Int32) = some (.ok ()) from hb (lo := 0) (hi := 20000) (Nat.zero_le _) hd (by omega), show sX9_requireBetween S B (nI n) (0 : Int32) (1000 : Int32) = some (.ok ()) from hb (lo := 0) (hi := 1000) (Nat.zero_le _) hn (by omega), show sX9_requireBetween S B (nI l) (1 : Int32) (500 : Int32) = some (.ok ()) from hb (lo := 1) (hi := 500) hl1 hl2 (by omega)]
  dsimp only [oexc]
  rcases hL with ⟨a, b⟩ | ⟨a, b, -, -, ⟨d', d1, d2⟩, -⟩
  · rw [a, b, if_pos (show bz 0 = 0 from rfl), if_pos rfl]
    obtain ⟨z', X', P', W', T1, r1, r2, r3, r4, r5, r6⟩ := sim_keep hV
    have p3 := rel_lend (n := n) r3.1 hi hd hl1 hl2
    dsimp only at p3
    rw [r1, r2, obind_some, obind_some, e_set_8 hl, obind_some, e_set_9 hl, obind_some, e_set_10 hl, obind_some]
    dsimp only
    rw [olet_eq]
    have e : sX2_urgency (sX2_awaitLoan S.2.2.2.2.2.1 i (nI d) (nI n) (nI l)) i = nI d := by
      rw [show sX2_awaitLoan S.2.2.2.2.2.1 i (nI d) (nI n) (nI l) = si (si (si (si S.2.2.2.2.2.1 3 15 i 1) 3 16 i (nI d)) 3 17 i (nI n)) 3 18 i (nI l) from rfl]
      unfold sX2_urgency
      repeat (first | rw [gi_ne (by omega)] | rw [gi_eq2 (by omega)])
      rw [if_neg (show ¬ bz 1 = 0 by decide)]
    rw [e]
    refine ⟨_, _, _, rfl, rfl, r3.live p3 (numR_of r3.2.2.2.2.2.2.2 (fun x => ?_)) (((FrP.set (by omega)).trans (FrP.set (by omega))).trans (FrP.set (by omega))), ?_⟩
    · unfold sX2_awaitLoan
      simp only [olet_eq]
      repeat (first | rw [gi_ne (by omega)] | rw [gi_eq2 (by omega)])
    · repeat (first | rw [gi_ne (by omega)] | rw [gi_eq2 (by omega)])
      exact r4
  · have e8 : gi T 0 (6 + 21 * i + 8) 0 = nI d' := b.symm.trans d2
    rw [if_neg (fun z => a (bz_0.mp z)), e8, if_neg (n_m1 (by omega))]
    exact ⟨_, _, _, rfl, rfl, hV, rfl⟩
theorem e_btwI {lo hi k : Nat} (hV : IVn B (m + 1) S T np nr ni) (h1 : lo ≤ k) (h2 : k ≤ hi) (hh : hi < 1000000) : sX9_requireBetween S B (nI k) (nI lo) (nI hi) = some (.ok ()) := by
  unfold sX9_requireBetween
  rw [if_neg (by rw [n_lt (by omega) (by omega)]; omega), if_pos (by rw [n_le (by omega) (by omega)]; exact h2)]
theorem do_tick {k : Nat} (hV : IVn B (m + 1) S T np nr ni) (h1 : 1 ≤ k) (h2 : k ≤ 1000) : ∃ v S' T', sX9_tick S B (nI k) = some (.ok (v, S')) ∧ sX10_tickNow T (nI k) = some (v, T') ∧ IVn B (m + 1) S' T' np nr ni ∧ gi T' 100 6 0 = gi T 100 6 0 := by
  unfold sX9_tick sX10_tickNow
  rw [show sX9_requireBetween S B (nI k) (1 : Int32) (1000 : Int32) = some (.ok ()) from e_btwI (lo := 1) (hi := 1000) hV h1 h2 (by omega), show (0 : Int32).toNatClampNeg = 0 from rfl, ← hV.1.2.1.2.1.1]
  dsimp only [oexc]
  by_cases e : gi S.2.2.2.2.2.1 0 12 0 + nI k ≤ 20000
  · rw [if_pos e, if_pos e]
    obtain ⟨z', X', P', W', T1, r1, r2, r3, r4, r5, r6⟩ := sim_keep hV
    obtain ⟨L', T', p1, p2, p3, p4⟩ := sim_hours (nI k) r3.1
    dsimp only at p1 p3
    rw [r1, r2, obind_some, obind_some, p2, obind_some]
    dsimp only
    rw [p1, obind_some, p3.2.1.2.1.1]
    refine ⟨_, _, _, rfl, rfl, r3.live p3 p3.1.2.2.2.1.2.2.2.2 p4.P, ?_⟩
    rw [p4.2.2.1 100 6 0 (by decide) (by decide)]; exact r4
  · rw [if_neg e, if_neg e]
    exact ⟨_, _, _, rfl, rfl, hV, rfl⟩
theorem call_cancel (h : IV B (m + 1) S T) (p1 : Int32) : PFX (uW (sX9_cancel S B p1)) (mI (sX10_cancel T p1)) co1 (IV B m) := by
  obtain ⟨np, nr, ni, hV⟩ := h
  rcases e_item hV p1 with ⟨i, hi, rfl, h1, -, h2⟩ | ⟨h1, -, h2⟩
  · obtain ⟨v, S', T', q1, q2, q3, q4⟩ := do_cancel hV.th (T := si T 100 6 0 0) hi
    refine pfx_do ⟨v, S', T', q1, ?_, q3, q4.trans (gi_eq2 ⟨rfl, rfl, rfl⟩)⟩
    unfold sX10_cancel
    rw [olet_eq, h2 _ (gi_ne (by omega)), if_neg one_ne]
    unfold sX10_cancel_j19
    rw [e_thr0, olet_eq, if_pos rfl, q2]
    rfl
  · refine pfx_bad (e := 1) (b := 0) (w := 1) hV ?_ ?_ rfl (by decide)
    · unfold sX9_cancel
      rw [h1]
      rfl
    · unfold sX10_cancel
      rw [olet_eq, h2 _ (gi_ne (by omega)), if_pos rfl]
      unfold sX10_cancel_j19
      rw [e_thr1, olet_eq, if_neg one_ne]
theorem call_recall (h : IV B (m + 1) S T) (p1 : Int32) : PFX (uW (sX9_recall S B p1)) (mI (sX10_recall T p1)) co1 (IV B m) := by
  obtain ⟨np, nr, ni, hV⟩ := h
  rcases e_item hV p1 with ⟨i, hi, rfl, h1, -, h2⟩ | ⟨h1, -, h2⟩
  · obtain ⟨v, S', T', q1, q2, q3, q4⟩ := do_recall hV.th (T := si T 100 6 0 0) hi
    refine pfx_do ⟨v, S', T', q1, ?_, q3, q4.trans (gi_eq2 ⟨rfl, rfl, rfl⟩)⟩
    unfold sX10_recall
    rw [olet_eq, h2 _ (gi_ne (by omega)), if_neg one_ne]
    unfold sX10_recall_j19
    rw [e_thr0, olet_eq, if_pos rfl, q2]
    rfl
  · refine pfx_bad (e := 1) (b := 0) (w := 1) hV ?_ ?_ rfl (by decide)
    · unfold sX9_recall
      rw [h1]
      rfl
    · unfold sX10_recall
      rw [olet_eq, h2 _ (gi_ne (by omega)), if_pos rfl]
      unfold sX10_recall_j19
      rw [e_thr1, olet_eq, if_neg one_ne]
theorem call_clearQueue (h : IV B (m + 1) S T) (p1 : Int32) : PFX (uW (sX9_clearQueue S B p1)) (mI (sX10_clearQueue T p1)) co1 (IV B m) := by
  obtain ⟨np, nr, ni, hV⟩ := h
  rcases e_item hV p1 with ⟨i, hi, rfl, h1, -, h2⟩ | ⟨h1, -, h2⟩
  · obtain ⟨v, S', T', q1, q2, q3, q4⟩ := do_clearQueue hV.th (T := si T 100 6 0 0) hi
    refine pfx_do ⟨v, S', T', q1, ?_, q3, q4.trans (gi_eq2 ⟨rfl, rfl, rfl⟩)⟩
    unfold sX10_clearQueue
    rw [olet_eq, h2 _ (gi_ne (by omega)), if_neg one_ne]
    unfold sX10_clearQueue_j19
    rw [e_thr0, olet_eq, if_pos rfl, q2]
    rfl
  · refine pfx_bad (e := 1) (b := 0) (w := 1) hV ?_ ?_ rfl (by decide)
    · unfold sX9_clearQueue
      rw [h1]
      rfl
    · unfold sX10_clearQueue
      rw [olet_eq, h2 _ (gi_ne (by omega)), if_pos rfl]
      unfold sX10_clearQueue_j19
      rw [e_thr1, olet_eq, if_neg one_ne]
theorem call_approve (h : IV B (m + 1) S T) (p1 : Int32) : PFX (uW (sX9_approve S B p1)) (mI (sX10_approve T p1)) co1 (IV B m) := by
  obtain ⟨np, nr, ni, hV⟩ := h
  rcases e_item hV p1 with ⟨i, hi, rfl, h1, -, h2⟩ | ⟨h1, -, h2⟩
  · obtain ⟨v, S', T', q1, q2, q3, q4⟩ := do_approve hV.th (T := si T 100 6 0 0) hi
    refine pfx_do ⟨v, S', T', q1, ?_, q3, q4.trans (gi_eq2 ⟨rfl, rfl, rfl⟩)⟩
    unfold sX10_approve
    rw [olet_eq, h2 _ (gi_ne (by omega)), if_neg one_ne]
    unfold sX10_approve_j19
    rw [e_thr0, olet_eq, if_pos rfl, q2]
    rfl
  · refine pfx_bad (e := 1) (b := 0) (w := 1) hV ?_ ?_ rfl (by decide)
    · unfold sX9_approve
      rw [h1]
      rfl
    · unfold sX10_approve
      rw [olet_eq, h2 _ (gi_ne (by omega)), if_pos rfl]
      unfold sX10_approve_j19
      rw [e_thr1, olet_eq, if_neg one_ne]
end ACT2
