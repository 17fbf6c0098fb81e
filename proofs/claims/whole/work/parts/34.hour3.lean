/-! ===== ONE OBJECT'S HOUR, 3: finish ===== -/
theorem c0 : (0 : Int32).toNatClampNeg = 0 := rfl
theorem c1 : (1 : Int32).toNatClampNeg = 1 := rfl
theorem c2 : (2 : Int32).toNatClampNeg = 2 := rfl
theorem c3 : (3 : Int32).toNatClampNeg = 3 := rfl
theorem c4 : (4 : Int32).toNatClampNeg = 4 := rfl
theorem c5 : (5 : Int32).toNatClampNeg = 5 := rfl
theorem sim_finish {S T : Mem} {np nr ni i r : Nat} (h : RelX S T np nr ni i) (hi : i < ni) (hI : InR S np ni) (h9 : gi S 3 9 i = nI r) (hr : r < nr) (h6 : gi S 3 6 i = 0) (h10 : gi S 3 10 i = -1) : ∃ S' T', sX7_finishStep S i = some S' ∧ sX10_finish T (nI i) = some T' ∧ Rel S' T' np nr ni ∧ FrT T T' := by
  have hl := h.lt hi
  obtain ⟨hr10, hw, ⟨wk, wk1, wk2, wk3⟩, ⟨cu, cu1, cu2⟩, ⟨ip, ip1, ip2⟩, -, ⟨b, b1, b2⟩, ⟨c, c1', c2'⟩, ⟨wg, wg1, wg2, wg3⟩⟩ := h.1.re hr
  obtain ⟨s, s1, s2⟩ : ItC S i := h.2.2.2.2.2.2.1
  have hE : ItE S T i := h.2.2.2.2.2.1
  have hnum : gi S 3 0 i = nI i := (h.1.2.2.2.2.2.2 i hi).1
  have htime : gi S 0 12 0 = gi T 0 0 0 := h.2.1.2.1.1
  have hX1 := h.set_3 (v := nI (bh b c s)) ⟨_, bh_le b c s, rfl⟩ hi
  obtain ⟨S1, T1, n1, n2, hX2, f1, f2, f3, f4⟩ := hX1.note (p2 := 0) (p3 := nI r) (p4 := gi T 0 0 0) (p5 := nI s) (p6 := nI (bh b c s)) hi (by repeat (first | rw [gi_ne (by omega)] | rw [gi_eq2 (by omega)])) (by repeat (first | rw [gi_ne (by omega)] | rw [gi_eq2 (by omega)]))
  have t5 : gi T 0 (6 + 21 * i + 5) 0 = nI r := hE.2.2.2.2.2.1.symm.trans h9
  have t0 : gi T 0 (6 + 21 * i + 0) 0 = nI s := hE.1.symm.trans s2
  have eO : gq S1 3 i = gq T1 1 i := hX2.2.2.2.1 i hi
  have e13 : gi S1 3 13 i = gi T1 0 (6 + 21 * i + 7) 0 := hX2.2.2.2.2.2.1.2.2.2.2.2.2.2
  have eU : gi S1 2 7 r = gi T1 0 (342 + r) 0 := hX2.2.1.2.2.1 r hr
  have eN : gi S1 0 13 0 = gi T1 0 1 0 := hX2.2.1.2.1.2.1
  have hX3 := hX2.done hi hr (x := gq T1 1 i + (nI wk).toInt64 * (nI wg).toInt64) (y := gi T1 0 (6 + 21 * i + 7) 0 + 1) (u := gi T1 0 (342 + r) 0 + 1) (w := gi T1 0 1 0 + 1)
  have k1 : ∀ w, gi S1 2 w r = gi S 2 w r := fun w => by
    rw [f1 2 w r (by omega) (by omega)]; rfl
  have k3 : ∀ w, w ≠ 3 → gi S1 3 w i = gi S 3 w i := fun w hw => by
    rw [f1 3 w i (by omega) (by omega), gi_ne (by omega)]
  have kT : ∀ w, gi T1 5 w 0 = gi T 5 w 0 := fun w => by
    rw [f3 5 w 0 (by omega)]; rfl
  -- the Studio's side
  have hS : sX7_finishStep S i = (if gi S 2 1 r = 0 then some (sX2_layOnShelf (si (si (si (sq S1 3 i (gq T1 1 i + (nI wk).toInt64 * (nI wg).toInt64)) 3 13 i (gi T1 0 (6 + 21 * i + 7) 0 + 1)) 2 7 r (gi T1 0 (342 + r) 0 + 1)) 0 13 0 (gi T1 0 1 0 + 1)) i) else if gi S 2 2 r = (1 : Int32) then some (sX2_waitForPress (si (si (si (sq S1 3 i (gq T1 1 i + (nI wk).toInt64 * (nI wg).toInt64)) 3 13 i (gi T1 0 (6 + 21 * i + 7) 0 + 1)) 2 7 r (gi T1 0 (342 + r) 0 + 1)) 0 13 0 (gi T1 0 1 0 + 1)) i (gi T 0 0 0)) else some (sX2_startCuring (si (si (si (sq S1 3 i (gq T1 1 i + (nI wk).toInt64 * (nI wg).toInt64)) 3 13 i (gi T1 0 (6 + 21 * i + 7) 0 + 1)) 2 7 r (gi T1 0 (342 + r) 0 + 1)) 0 13 0 (gi T1 0 1 0 + 1)) i (gi S 2 1 r))) := by
    unfold sX7_finishStep
    rw [h9, e_recipeAt hr10, s2, e_behindS b1 c1' s1 b2 c2', olet_eq]
    rw [gi_ne (c' := 3) (j' := 0) (by omega), hnum, gi_ne (c' := 3) (j' := 9) (by omega), h9, gi_ne (c' := 0) (j' := 12) (by omega), htime, gi_eq2 ⟨rfl, rfl, rfl⟩, n1, obind_some]
    simp only [olet_eq]
    have p1 : sX5_price S1 r = (nI wk).toInt64 * (nI wg).toInt64 := by
      unfold sX5_price
      rw [k1, k1, wk3, wg3]
    have g1 : ∀ x : Int64, gi (sq S1 3 i x) 3 13 i = gi T1 0 (6 + 21 * i + 7) 0 := fun x => e13
    rw [p1, eO, g1]
    have g2 : ∀ (x : Int64) (y : Int32), gi (si (sq S1 3 i x) 3 13 i y) 2 7 r = gi T1 0 (342 + r) 0 := fun x y => eU
    have g3 : ∀ (x : Int64) (y u : Int32), gi (si (si (sq S1 3 i x) 3 13 i y) 2 7 r u) 0 13 0 = gi T1 0 1 0 := fun x y u => eN
    rw [g2, g3]
    have g4 : ∀ (x : Int64) (y u w : Int32) (j : Nat), j < 7 → gi (si (si (si (sq S1 3 i x) 3 13 i y) 2 7 r u) 0 13 0 w) 2 j r = gi S 2 j r := fun x y u w j hj => by
      rw [gi_ne (by omega), gi_ne (by omega)]; exact k1 j
    have g5 : ∀ (x : Int64) (y u w : Int32), gi (si (si (si (sq S1 3 i x) 3 13 i y) 2 7 r u) 0 13 0 w) 0 12 0 = gi T 0 0 0 := fun x y u w => by
      rw [gi_ne (by omega), gi_ne (by omega), gi_ne (by omega)]
      exact (f1 0 12 0 (by omega) (by omega)).trans htime
    rw [g4 _ _ _ _ 1 (by omega), g4 _ _ _ _ 2 (by omega), g5]
  -- the Model's side, up to what follows
  have hT : sX10_finish T (nI i) = (if gi S 2 1 r = 0 then obind (sX10_shelve (sq (si (si (si T1 0 (6 + 21 * i + 7) 0 (gi T1 0 (6 + 21 * i + 7) 0 + 1)) 0 1 0 (gi T1 0 1 0 + 1)) 0 (342 + r) 0 (gi T1 0 (342 + r) 0 + 1)) 1 i (gq T1 1 i + (nI wk).toInt64 * (nI wg).toInt64)) (nI i)) (fun r => some r) else if gi S 2 2 r = (1 : Int32) then some (si (si (si (sq (si (si (si T1 0 (6 + 21 * i + 7) 0 (gi T1 0 (6 + 21 * i + 7) 0 + 1)) 0 1 0 (gi T1 0 1 0 + 1)) 0 (342 + r) 0 (gi T1 0 (342 + r) 0 + 1)) 1 i (gq T1 1 i + (nI wk).toInt64 * (nI wg).toInt64)) 0 (6 + 21 * i + 1) 0 2) 0 (6 + 21 * i + 11) 0 (gi T 0 0 0)) 0 (6 + 21 * i + 12) 0 0) else obind (sX10_cure (sq (si (si (si T1 0 (6 + 21 * i + 7) 0 (gi T1 0 (6 + 21 * i + 7) 0 + 1)) 0 1 0 (gi T1 0 1 0 + 1)) 0 (342 + r) 0 (gi T1 0 (342 + r) 0 + 1)) 1 i (gq T1 1 i + (nI wk).toInt64 * (nI wg).toInt64)) (nI i) (-1)) (fun r => some r)) := by
    unfold sX10_finish
    rw [e_of_5 hl, obind_some, e_of_0 hl, obind_some, t5, t0, e_behindT hr10 b1 c1' s1 ((hw 4 (by omega)).symm.trans b2) ((hw 5 (by omega)).symm.trans c2'), obind_some, e_set_0 hl, obind_some, n2, obind_some, e_add_7 hl, obind_some, olet_eq, c1]
    rw [n_lit 342, nI_add, n_inb (by omega) (by omega), oif_t rfl, oif_t rfl, olet_eq, n_cl (by omega), n_inb (show i < 224 by omega) (by omega), oif_t rfl, e_re_0 hr10, obind_some, e_re_6 hr10, obind_some, oif_t rfl, olet_eq, n_cl (by omega), e_re_1 hr10, obind_some]
    have q1 : ∀ (x : Int32), gi (si T1 0 (6 + 21 * i + 7) 0 x) 0 1 0 = gi T1 0 1 0 := fun x => gi_ne (by omega)
    rw [q1]
    have q2 : ∀ (x y : Int32), gi (si (si T1 0 (6 + 21 * i + 7) 0 x) 0 1 0 y) 0 (342 + r) 0 = gi T1 0 (342 + r) 0 := fun x y => by rw [gi_ne (by omega), gi_ne (by omega)]
    rw [q2]
    have q3 : ∀ (x y z : Int32) (w : Nat), gi (si (si (si T1 0 (6 + 21 * i + 7) 0 x) 0 1 0 y) 0 (342 + r) 0 z) 5 w 0 = gi T 5 w 0 := fun x y z w => kT w
    have q4 : ∀ (x y z : Int32) (v : Int64) (w : Nat), gi (sq (si (si (si T1 0 (6 + 21 * i + 7) 0 x) 0 1 0 y) 0 (342 + r) 0 z) 1 i v) 5 w 0 = gi T 5 w 0 := fun x y z v w => kT w
    have q5 : ∀ (x y z : Int32), gq (si (si (si T1 0 (6 + 21 * i + 7) 0 x) 0 1 0 y) 0 (342 + r) 0 z) 1 i = gq T1 1 i := fun x y z => rfl
    rw [q3, q3, q5, q4, ← hw 0 (by omega), ← hw 6 (by omega), ← hw 1 (by omega), wk3, wg3]
    rw [e_re_2 hr10, obind_some, q4, ← hw 2 (by omega)]
    rw [e_set_1 hl, obind_some, c0, e_set_11 hl, obind_some, e_set_12 hl, obind_some]
    have q6 : ∀ (x y z u : Int32) (v : Int64), gi (si (sq (si (si (si T1 0 (6 + 21 * i + 7) 0 x) 0 1 0 y) 0 (342 + r) 0 z) 1 i v) 0 (6 + 21 * i + 1) 0 u) 0 0 0 = gi T 0 0 0 := fun x y z u v => by
      rw [gi_ne (by omega)]
      show gi (si (si (si T1 0 (6 + 21 * i + 7) 0 x) 0 1 0 y) 0 (342 + r) 0 z) 0 0 0 = _
      rw [gi_ne (by omega), gi_ne (by omega), gi_ne (by omega)]
      rw [f3 0 0 0 (by omega), gi_ne (by omega)]
    rw [q6]
  have fr1 : FrT T (sq (si (si (si T1 0 (6 + 21 * i + 7) 0 (gi T1 0 (6 + 21 * i + 7) 0 + 1)) 0 1 0 (gi T1 0 1 0 + 1)) 0 (342 + r) 0 (gi T1 0 (342 + r) 0 + 1)) 1 i (gq T1 1 i + (nI wk).toInt64 * (nI wg).toInt64)) := by
    have a1 : FrT T T1 := (FrT.set (T := T) (j := 6 + 21 * i + 0) (v := nI (bh b c s)) (by omega)).trans ⟨⟨fun j hj => f3 0 j 0 (by omega), fun x _ => f4 1 x, fun c j x h0 _ => f3 c j x (by omega), fun c x _ => f4 c x⟩, f3 0 0 0 (by omega)⟩
    exact (((a1.trans (FrT.set (by omega))).trans (FrT.set (by omega))).trans (FrT.set (by omega))).trans (FrT.setq (by omega))
  rw [hS, hT]
  generalize hS5 : (si (si (si (sq S1 3 i (gq T1 1 i + (nI wk).toInt64 * (nI wg).toInt64)) 3 13 i (gi T1 0 (6 + 21 * i + 7) 0 + 1)) 2 7 r (gi T1 0 (342 + r) 0 + 1)) 0 13 0 (gi T1 0 1 0 + 1)) = S5 at hX3 ⊢
  generalize hT5 : (sq (si (si (si T1 0 (6 + 21 * i + 7) 0 (gi T1 0 (6 + 21 * i + 7) 0 + 1)) 0 1 0 (gi T1 0 1 0 + 1)) 0 (342 + r) 0 (gi T1 0 (342 + r) 0 + 1)) 1 i (gq T1 1 i + (nI wk).toInt64 * (nI wg).toInt64)) = T5 at hX3 fr1 ⊢
  have m3 : ∀ w, w ≠ 3 → w ≠ 13 → gi S5 3 w i = gi S 3 w i := fun w h3 h13 => by
    rw [← hS5, gi_ne (by omega), gi_ne (by omega), gi_ne (by omega)]
    exact k3 w h3
  have m2 : ∀ w x, w < 7 → gi S5 2 w x = gi S 2 w x := fun w x hw => by
    rw [← hS5, gi_ne (by omega), gi_ne (by omega)]
    exact (f1 2 w x (by omega) (by omega)).trans rfl
  have hI5 : InR S5 np ni := by
    refine hI.cg (fun p => ?_) (fun i' => ?_)
    · rw [← hS5]
      exact (f1 1 1 p (by omega) (by omega)).trans rfl
    · rw [← hS5, gi_ne (by omega), gi_ne (by omega), gi_ne (by omega)]
      exact (f1 3 10 i' (by omega) (by omega)).trans (gi_ne (by omega))
  have hE5 : ItE S5 T5 i := hX3.2.2.2.2.2.1
  by_cases hc0 : gi S 2 1 r = 0
  · rw [if_pos hc0, if_pos hc0]
    obtain ⟨T', e1, e2, e3⟩ := sim_shelve hX3 hi (hI5.shelf ((m3 10 (by omega) (by omega)).trans h10))
    rw [e1, obind_some]
    exact ⟨_, _, rfl, rfl, e2, fr1.trans e3⟩
  · rw [if_neg hc0, if_neg hc0]
    have cpos : 1 ≤ cu := by
      rcases Nat.eq_zero_or_pos cu with e | e
      · subst e; exact absurd cu2 hc0
      · exact e
    by_cases hp : gi S 2 2 r = (1 : Int32)
    · rw [if_pos hp, if_pos hp]
      have t2 : gi T5 0 (6 + 21 * i + 2) 0 = 0 := hE5.2.2.1.symm.trans ((m3 6 (by omega) (by omega)).trans h6)
      have hX4 := ((hX3.set_5 (v := 2) hi).set_6 (v := 0) hi).wait (x := gi T 0 0 0) (y := gi S5 3 3 i) (x' := gi T 0 0 0) (y' := 0) hi
      have es : si (si T5 0 (6 + 21 * i + 1) 0 2) 0 (6 + 21 * i + 2) 0 0 = si T5 0 (6 + 21 * i + 1) 0 2 := si_same (by rw [gi_ne (by omega)]; exact t2)
      rw [es] at hX4
      have ew : sX2_waitForPress S5 i (gi T 0 0 0) = si (si (si (si S5 3 5 i 2) 3 6 i 0) 3 11 i (gi T 0 0 0)) 3 12 i (gi S5 3 3 i) := by
        unfold sX2_waitForPress
        simp only [olet_eq]
        rw [gi_ne (j' := 3) (by omega), gi_ne (j' := 3) (by omega), gi_ne (j' := 3) (by omega)]
      refine ⟨_, _, rfl, rfl, ?_, ((fr1.trans (FrT.set (by omega))).trans (FrT.set (by omega))).trans (FrT.set (by omega))⟩
      rw [ew]
      refine hX4.all ?_ (Or.inr (Or.inr (Or.inl ⟨?_, ⟨r, hr, ?_, ?_⟩, ?_, ?_, ?_, ?_, ?_⟩)))
      · refine hI5.cg (fun _ => rfl) fun i' => ?_
        repeat (first | rw [gi_ne (by omega)] | rw [gi_eq2 (by omega)])
      · repeat (first | rw [gi_ne (by omega)] | rw [gi_eq2 (by omega)])
      · repeat (first | rw [gi_ne (by omega)] | rw [gi_eq2 (by omega)])
        exact (m3 9 (by omega) (by omega)).trans h9
      · show gi S5 2 1 r ≠ 0
        rw [m2 1 r (by omega)]; exact hc0
      · repeat (first | rw [gi_ne (by omega)] | rw [gi_eq2 (by omega)])
      · repeat (first | rw [gi_ne (by omega)] | rw [gi_eq2 (by omega)])
        exact (m3 10 (by omega) (by omega)).trans h10
      · repeat (first | rw [gi_ne (by omega)] | rw [gi_eq2 (by omega)])
      · repeat (first | rw [gi_ne (by omega)] | rw [gi_eq2 (by omega)])
        rw [Int32.add_zero]
      · obtain ⟨t, t1, t2⟩ := h.2.1.1
        refine ⟨t, t1, ?_⟩
        repeat (first | rw [gi_ne (by omega)] | rw [gi_eq2 (by omega)])
        exact htime.symm.trans t2
    · rw [if_neg hp, if_neg hp]
      have hX4 := ((hX3.set_5 (v := 3) hi).set_6 (v := gi S 2 1 r) hi).set_10 (v := -1) hi
      have es : si (si (si S5 3 5 i 3) 3 6 i (gi S 2 1 r)) 3 10 i (-1) = si (si S5 3 5 i 3) 3 6 i (gi S 2 1 r) := si_same (by
        repeat (first | rw [gi_ne (by omega)] | rw [gi_eq2 (by omega)])
        exact (m3 10 (by omega) (by omega)).trans h10)
      rw [es] at hX4
      have ec : sX10_cure T5 (nI i) (-1) = some (si (si (si T5 0 (6 + 21 * i + 1) 0 3) 0 (6 + 21 * i + 2) 0 (gi S 2 1 r)) 0 (6 + 21 * i + 6) 0 (-1)) := by
        unfold sX10_cure
        rw [e_set_1 hl, obind_some, e_of_5 hl, obind_some, gi_ne (by omega), ← hE5.2.2.2.2.2.1, m3 9 (by omega) (by omega), h9, e_re_1 hr10, obind_some, e_set_2 hl, obind_some, e_set_6 hl, obind_some]
        rw [show gi (si T5 0 (6 + 21 * i + 1) 0 3) 5 (11 + 7 * r + 1) 0 = gi S 2 1 r from ((hX3.1.re hr).2.1 1 (by omega)).symm.trans (m2 1 r (by omega))]
      rw [ec, obind_some]
      refine ⟨_, _, rfl, rfl, ?_, ((fr1.trans (FrT.set (by omega))).trans (FrT.set (by omega))).trans (FrT.set (by omega))⟩
      refine hX4.all ?_ (Or.inr (Or.inr (Or.inr (Or.inl ⟨?_, ⟨r, hr, ?_⟩, ⟨cu, cpos, by omega, ?_⟩, Or.inl ?_⟩))))
      · refine hI5.cg (fun _ => rfl) fun i' => ?_
        show gi (si (si S5 3 5 i 3) 3 6 i (gi S 2 1 r)) 3 10 i' = _
        repeat (first | rw [gi_ne (by omega)] | rw [gi_eq2 (by omega)])
      · show gi (si (si S5 3 5 i 3) 3 6 i (gi S 2 1 r)) 3 5 i = _
        repeat (first | rw [gi_ne (by omega)] | rw [gi_eq2 (by omega)])
      · show gi (si (si S5 3 5 i 3) 3 6 i (gi S 2 1 r)) 3 9 i = _
        repeat (first | rw [gi_ne (by omega)] | rw [gi_eq2 (by omega)])
        exact (m3 9 (by omega) (by omega)).trans h9
      · show gi (si (si S5 3 5 i 3) 3 6 i (gi S 2 1 r)) 3 6 i = _
        repeat (first | rw [gi_ne (by omega)] | rw [gi_eq2 (by omega)])
        exact cu2
      · show gi (si (si S5 3 5 i 3) 3 6 i (gi S 2 1 r)) 3 10 i = _
        repeat (first | rw [gi_ne (by omega)] | rw [gi_eq2 (by omega)])
        exact (m3 10 (by omega) (by omega)).trans h10
