/-! ===== ONE OBJECT'S HOUR, 4: age ===== -/
theorem RelX.inside {S T : Mem} {np nr ni i p : Nat} {v : Int32} (h : RelX S T np nr ni i) : RelX (si S 1 1 p v) T np nr ni i := by
  obtain ⟨h1, h2, h3, h4, h5, h6, h7, h8, h9⟩ := h
  have hb := h1.1
  exact ⟨h1.cg (fun _ _ => rfl) (fun _ => rfl) (fun _ _ _ => rfl) (fun _ _ _ => rfl) (fun _ => rfl), h2.cg (fun _ _ => rfl) (fun _ => rfl) (fun _ => rfl) (fun _ _ => rfl) hb.2.1 hb.1, h3.cg (fun _ => rfl) (fun _ => rfl) (fun _ _ => rfl), h4.cg (fun _ => rfl) (fun _ => rfl), fun i' hi' hn => (h5 i' hi' hn).cg (fun _ => rfl) (fun _ => rfl) (fun _ => rfl) (fun _ _ => rfl), h6, h7, h8, h9⟩
theorem max_dn {s d : Nat} (hs : s ≤ 1000) (hd : d ≤ 1000) : jmax (0 : Int32) (nI s - nI d) = nI (s - d) ∧ ∀ T : Mem, sX10_max T (0 : Int32) (nI s - nI d) = nI (s - d) := by
  unfold jmax sX10_max
  rcases Nat.lt_or_ge s d with h | h
  · have h1 : nI s - nI d < 0 := pk_sneg (by omega) h
    have e : s - d = 0 := by omega
    rw [e]
    have h2 : ¬ (0 : Int32) < nI s - nI d := Int32.not_lt.mpr (Int32.le_of_lt h1)
    have h3 : ¬ (0 : Int32) ≤ nI s - nI d := Int32.not_le.mpr h1
    exact ⟨if_neg h2, fun _ => if_neg h3⟩
  · rw [pk_sub h]
    refine ⟨?_, fun _ => ?_⟩
    · by_cases h4 : (0 : Int32) < nI (s - d)
      · exact if_pos h4
      · rw [if_neg h4]
        rw [n_lit 0, n_lt (by omega) (by omega)] at h4
        rw [show s - d = 0 by omega]; rfl
    · exact if_pos (n_0le (by omega))
theorem sim_loan {S T : Mem} {np nr ni i : Nat} (h : RelX S T np nr ni i) (hi : i < ni) (hI : InR S np ni) (h10 : gi S 3 10 i = -1) : ∃ S' T', sX7_finishLoan S i = some S' ∧ (obind (sX10_of T (nI i) (0 : Int32)) fun r16 => obind (sX10_set T (nI i) (0 : Int32) (sX10_max T (0 : Int32) (r16 - (20 : Int32)))) fun r21 => obind (sX10_note r21 (nI i) (2 : Int32) (-1 : Int32) r16) fun r24 => obind (sX10_shelve r24 (nI i)) fun r27 => some r27) = some T' ∧ Rel S' T' np nr ni ∧ FrT T T' := by
  have hl := h.lt hi
  obtain ⟨s, s1, s2⟩ : ItC S i := h.2.2.2.2.2.2.1
  have hE : ItE S T i := h.2.2.2.2.2.1
  have hnum : gi S 3 0 i = nI i := (h.1.2.2.2.2.2.2 i hi).1
  have htime : gi S 0 12 0 = gi T 0 0 0 := h.2.1.2.1.1
  have t0 : gi T 0 (6 + 21 * i + 0) 0 = nI s := hE.1.symm.trans s2
  have hmx := max_dn (s := s) (d := 20) s1 (by omega)
  have hX1 := h.set_3 (v := nI (s - 20)) ⟨s - 20, by omega, rfl⟩ hi
  obtain ⟨S1, T1, n1, n2, hX2, f1, f2, f3, f4⟩ := hX1.note (p2 := 2) (p3 := -1) (p4 := gi T 0 0 0) (p5 := nI s) (p6 := nI (s - 20)) hi (by repeat (first | rw [gi_ne (by omega)] | rw [gi_eq2 (by omega)])) (by repeat (first | rw [gi_ne (by omega)] | rw [gi_eq2 (by omega)]))
  have hI1 : InR S1 np ni := hI.cg (fun p => (f1 1 1 p (by omega) (by omega)).trans rfl) (fun i' => (f1 3 10 i' (by omega) (by omega)).trans (gi_ne (by omega)))
  obtain ⟨T2, q1, q2, q3⟩ := sim_shelve hX2 hi (hI1.shelf ((f1 3 10 i (by omega) (by omega)).trans ((gi_ne (by omega)).trans h10)))
  refine ⟨_, T2, ?_, ?_, q2, ?_⟩
  · unfold sX7_finishLoan
    rw [s2, n_lit 20, hmx.1, olet_eq, gi_ne (c' := 3) (j' := 0) (by omega), hnum, gi_ne (c' := 0) (j' := 12) (by omega), htime, gi_eq2 ⟨rfl, rfl, rfl⟩, n1, obind_some]
    rfl
  · rw [e_of_0 hl, obind_some, t0, n_lit 20, hmx.2, e_set_0 hl, obind_some, n2, obind_some, q1, obind_some]
  · have a1 : FrT T T1 := (FrT.set (T := T) (j := 6 + 21 * i + 0) (v := nI (s - 20)) (by omega)).trans ⟨⟨fun j hj => f3 0 j 0 (by omega), fun x _ => f4 1 x, fun c j x h0 _ => f3 c j x (by omega), fun c x _ => f4 c x⟩, f3 0 0 0 (by omega)⟩
    exact a1.trans q3
theorem sim_curing {S T : Mem} {np nr ni i : Nat} (h : RelX S T np nr ni i) (hi : i < ni) (hI : InR S np ni) (h10 : gi S 3 10 i = -1 ∨ ∃ p, p < np ∧ gi S 3 10 i = nI p) : ∃ T', sX10_shelve T (nI i) = some T' ∧ Rel (sX7_finishCuring S i) T' np nr ni ∧ FrT T T' := by
  have hnp : np ≤ 6 := h.1.1.1
  have hni : ni ≤ 16 := h.1.1.2.2
  rcases h10 with h10 | ⟨p, hp, h10⟩
  · have e : sX7_finishCuring S i = sX2_layOnShelf S i := by
      unfold sX7_finishCuring
      rw [if_pos h10]
      rfl
    rw [e]
    exact sim_shelve h hi (hI.shelf h10)
  · have e : sX7_finishCuring S i = sX2_layOnShelf (si S 1 1 p (-1)) i := by
      unfold sX7_finishCuring
      rw [h10, if_neg (n_m1 (by omega)), e_pressAt (by omega)]
      rfl
    rw [e]
    refine sim_shelve h.inside hi ⟨fun p' hp' => ?_, fun i' hi' p' hp' ha => ?_⟩
    · by_cases ep : p' = p
      · subst ep
        refine Or.inl ?_
        show gi (si (si (si (si (si S 1 1 p' (-1)) 3 5 i 0) 3 6 i 0) 3 9 i (-1)) 3 10 i (-1)) 1 1 p' = _
        repeat (first | rw [gi_ne (by omega)] | rw [gi_eq2 (by omega)])
      · rcases hI.1 p' hp' with q | ⟨i', q1, q2, q3⟩
        · refine Or.inl ?_
          show gi (si (si (si (si (si S 1 1 p (-1)) 3 5 i 0) 3 6 i 0) 3 9 i (-1)) 3 10 i (-1)) 1 1 p' = _
          repeat (first | rw [gi_ne (by omega)] | rw [gi_eq2 (by omega)])
          exact q
        · have en : i' ≠ i := fun z => by
            subst z
            rw [h10, n_eq (by omega) (by omega)] at q3
            omega
          refine Or.inr ⟨i', q1, ?_, ?_⟩
          · show gi (si (si (si (si (si S 1 1 p (-1)) 3 5 i 0) 3 6 i 0) 3 9 i (-1)) 3 10 i (-1)) 1 1 p' = _
            repeat (first | rw [gi_ne (by omega)] | rw [gi_eq2 (by omega)])
            exact q2
          · show gi (si (si (si (si (si S 1 1 p (-1)) 3 5 i 0) 3 6 i 0) 3 9 i (-1)) 3 10 i (-1)) 3 10 i' = _
            repeat (first | rw [gi_ne (by omega)] | rw [gi_eq2 (by omega)])
            exact q3
    · have en : i' ≠ i := fun z => by
        subst z
        have ha2 : gi (si (si (si (si (si S 1 1 p (-1)) 3 5 i' 0) 3 6 i' 0) 3 9 i' (-1)) 3 10 i' (-1)) 3 10 i' = nI p' := ha
        rw [gi_eq2 ⟨rfl, rfl, rfl⟩] at ha2
        exact n_m1' (by omega) ha2
      have ha2 : gi S 3 10 i' = nI p' := by
        have ha3 : gi (si (si (si (si (si S 1 1 p (-1)) 3 5 i 0) 3 6 i 0) 3 9 i (-1)) 3 10 i (-1)) 3 10 i' = nI p' := ha
        rw [gi_ne (by omega), gi_ne (by omega), gi_ne (by omega), gi_ne (by omega), gi_ne (by omega)] at ha3
        exact ha3
      have q1 := hI.2 i' hi' p' hp' ha2
      have ep : p' ≠ p := fun z => by
        subst z
        have q2 := hI.2 i hi p' hp' h10
        rw [q1, n_eq (by omega) (by omega)] at q2
        exact en q2
      show gi (si (si (si (si (si S 1 1 p (-1)) 3 5 i 0) 3 6 i 0) 3 9 i (-1)) 3 10 i (-1)) 1 1 p' = _
      repeat (first | rw [gi_ne (by omega)] | rw [gi_eq2 (by omega)])
      exact q1
theorem InR.f6 {S : Mem} {np ni i : Nat} {v : Int32} (h : InR S np ni) : InR (si S 3 6 i v) np ni := h.cg (fun _ => rfl) (fun _ => rfl)
theorem sim_goOn {S T : Mem} {np nr ni i : Nat} (h : Rel S T np nr ni) (hi : i < ni) : ∃ S' T', sX7_goOn S i = some S' ∧ sX10_age T (nI i) = some T' ∧ Rel S' T' np nr ni ∧ FrT T T' := by
  have hX := h.X hi
  have hl := hX.lt hi
  have hI : InR S np ni := h.2.2.2.2.1
  have hE : ItE S T i := hX.2.2.2.2.2.1
  obtain ⟨s, s1, s2⟩ : ItC S i := hX.2.2.2.2.2.2.1
  have t0 : gi T 0 (6 + 21 * i + 0) 0 = nI s := hE.1.symm.trans s2
  have hS : ItS S T np nr i := (h.2.2.2.2.2 i hi).2.2.2.2
  have t1 : gi T 0 (6 + 21 * i + 1) 0 = gi S 3 5 i := hE.2.1.symm
  have t2 : gi T 0 (6 + 21 * i + 2) 0 = gi S 3 6 i := hE.2.2.1.symm
  rcases hS with ⟨a5, a6, a9, a10⟩ | ⟨a5, ⟨r, hr, a9⟩, ⟨k, k1, k2, a6⟩, a10⟩ | ⟨a5, ⟨r, hr, a9, acu⟩, a6, a10, a11, a12, ⟨sn, sn1, sn2⟩⟩ | ⟨a5, ⟨r, hr, a9⟩, ⟨k, k1, k2, a6⟩, a10⟩ | ⟨a5, a9, ⟨k, k1, k2, a6⟩, a10⟩
  · refine ⟨S, T, ?_, ?_, h, FrT.refl⟩
    · unfold sX7_goOn
      rw [a5, if_neg (by decide), if_neg (by decide), if_neg (by decide), if_neg (by decide)]
    · unfold sX10_age
      rw [e_of_1 hl, obind_some, t1, a5, if_pos rfl]
  · obtain ⟨m, rfl⟩ : ∃ m, k = m + 1 := ⟨k - 1, by omega⟩
    have hX2 := hX.set_6 (v := nI m) hi
    have eS : sX7_goOn S i = (if nI m = 0 then obind (sX7_finishStep (si S 3 6 i (nI m)) i) fun r4 => some r4 else some (si S 3 6 i (nI m))) := by
      unfold sX7_goOn
      rw [a5, if_pos rfl, a6, n_pred, olet_eq, gi_eq2 ⟨rfl, rfl, rfl⟩]
    have eT : sX10_age T (nI i) = (if nI m ≤ 0 then obind (sX10_finish (si T 0 (6 + 21 * i + 2) 0 (nI m)) (nI i)) fun r33 => sX10_age_j72 r33 (nI i) 1 else some (si T 0 (6 + 21 * i + 2) 0 (nI m))) := by
      unfold sX10_age
      rw [e_of_1 hl, obind_some, t1, a5, if_neg (by decide), if_neg (by decide), e_add_2 hl, obind_some, t2, a6, n_predm, e_of_2 hl, obind_some, gi_eq2 ⟨rfl, rfl, rfl⟩, if_pos rfl]
    rw [eS, eT]
    by_cases hm : m = 0
    · subst hm
      rw [if_pos (show nI 0 = 0 from rfl), if_pos (show nI 0 ≤ 0 by decide)]
      obtain ⟨S', T', e1, e2, e3, e4⟩ := sim_finish hX2 hi hI.f6 ((gi_ne (by omega)).trans a9) hr ((gi_eq2 ⟨rfl, rfl, rfl⟩).trans rfl) ((gi_ne (by omega)).trans a10)
      rw [e1, e2, obind_some, obind_some]
      refine ⟨S', T', rfl, ?_, e3, (FrT.set (by omega)).trans e4⟩
      unfold sX10_age_j72 sX10_age_j82
      rw [if_neg (by decide), if_neg (by decide)]
    · rw [if_neg (fun z => hm (by rw [n_lit 0, n_eq (by omega) (by omega)] at z; exact z)), if_neg (by rw [n_lit 0, n_le (by omega) (by omega)]; omega)]
      refine ⟨_, _, rfl, rfl, hX2.all hI.f6 (Or.inr (Or.inl ⟨?_, ⟨r, hr, ?_⟩, ⟨m, by omega, by omega, ?_⟩, ?_⟩)), FrT.set (by omega)⟩
      · repeat (first | rw [gi_ne (by omega)] | rw [gi_eq2 (by omega)])
        exact a5
      · repeat (first | rw [gi_ne (by omega)] | rw [gi_eq2 (by omega)])
        exact a9
      · repeat (first | rw [gi_ne (by omega)] | rw [gi_eq2 (by omega)])
      · repeat (first | rw [gi_ne (by omega)] | rw [gi_eq2 (by omega)])
        exact a10
  · have hmx := max_dn (s := s) (d := 1) s1 (by omega)
    have eS : sX7_goOn S i = some (si S 3 3 i (nI (s - 1))) := by
      unfold sX7_goOn
      rw [a5, if_neg (by decide), if_pos rfl, s2]
      rw [show jmax (0 : Int32) (nI s - (1 : Int32)) = nI (s - 1) from hmx.1]
      rfl
    have hmin : sX10_min T (1 : Int32) (nI s) = nI (s - (s - 1)) := by
      unfold sX10_min
      rcases Nat.lt_or_ge 1 s with q | q
      · rw [if_neg (by rw [n_lit 1, n_le (by omega) (by omega)]; omega), show s - (s - 1) = 1 by omega]; rfl
      · rw [if_pos (by rw [n_lit 1, n_le (by omega) (by omega)]; omega), show s - (s - 1) = s by omega]
    have hneg : nI s + -nI (s - (s - 1)) = nI (s - 1) := by
      rw [← Int32.sub_eq_add_neg, pk_sub (by omega), show s - (s - (s - 1)) = s - 1 by omega]
    have eT : sX10_age T (nI i) = some (si (si T 0 (6 + 21 * i + 0) 0 (nI (s - 1))) 0 (6 + 21 * i + 12) 0 (gi T 0 (6 + 21 * i + 12) 0 + nI (s - (s - 1)))) := by
      unfold sX10_age
      rw [e_of_1 hl, obind_some, t1, a5, if_neg (by decide), if_pos rfl, e_of_0 hl, obind_some, t0, hmin, olet_eq, e_add_0 hl, obind_some, t0, hneg, e_add_12 hl, obind_some]
      rw [gi_ne (by omega)]
    rw [eS, eT]
    have hX2 := (hX.set_3 (v := nI (s - 1)) ⟨s - 1, by omega, rfl⟩ hi).wait (x := gi S 3 11 i) (y := gi S 3 12 i) (x' := gi T 0 (6 + 21 * i + 11) 0) (y' := gi T 0 (6 + 21 * i + 12) 0 + nI (s - (s - 1))) hi
    rw [si_same (S := si S 3 3 i (nI (s - 1))) (c := 3) (j := 11) (by repeat (first | rw [gi_ne (by omega)] | rw [gi_eq2 (by omega)])), si_same (S := si S 3 3 i (nI (s - 1))) (c := 3) (j := 12) (by repeat (first | rw [gi_ne (by omega)] | rw [gi_eq2 (by omega)])), si_same (S := si T 0 (6 + 21 * i + 0) 0 (nI (s - 1))) (c := 0) (j := 6 + 21 * i + 11) (by repeat (first | rw [gi_ne (by omega)] | rw [gi_eq2 (by omega)]))] at hX2
    refine ⟨_, _, rfl, rfl, hX2.all (hI.cg (fun _ => rfl) (fun _ => rfl)) (Or.inr (Or.inr (Or.inl ⟨?_, ⟨r, hr, ?_, acu⟩, ?_, ?_, ?_, ?_, sn, sn1, ?_⟩))), (FrT.set (by omega)).trans (FrT.set (by omega))⟩
    · repeat (first | rw [gi_ne (by omega)] | rw [gi_eq2 (by omega)])
      exact a5
    · repeat (first | rw [gi_ne (by omega)] | rw [gi_eq2 (by omega)])
      exact a9
    · repeat (first | rw [gi_ne (by omega)] | rw [gi_eq2 (by omega)])
      exact a6
    · repeat (first | rw [gi_ne (by omega)] | rw [gi_eq2 (by omega)])
      exact a10
    · repeat (first | rw [gi_ne (by omega)] | rw [gi_eq2 (by omega)])
      exact a11
    · repeat (first | rw [gi_ne (by omega)] | rw [gi_eq2 (by omega)])
      rw [a12, s2, Int32.add_comm (gi T 0 (6 + 21 * i + 12) 0), ← Int32.add_assoc, nI_add, show s - 1 + (s - (s - 1)) = s by omega]
    · repeat (first | rw [gi_ne (by omega)] | rw [gi_eq2 (by omega)])
      exact sn2
  · obtain ⟨m, rfl⟩ : ∃ m, k = m + 1 := ⟨k - 1, by omega⟩
    have hX2 := hX.set_6 (v := nI m) hi
    have eS : sX7_goOn S i = (if nI m = 0 then some (sX7_finishCuring (si S 3 6 i (nI m)) i) else some (si S 3 6 i (nI m))) := by
      unfold sX7_goOn
      rw [a5, if_neg (by decide), if_neg (by decide), if_pos rfl, a6, n_pred, olet_eq, gi_eq2 ⟨rfl, rfl, rfl⟩]
      rfl
    have eT : sX10_age T (nI i) = (if nI m ≤ 0 then sX10_age_j72 (si T 0 (6 + 21 * i + 2) 0 (nI m)) (nI i) 3 else some (si T 0 (6 + 21 * i + 2) 0 (nI m))) := by
      unfold sX10_age
      rw [e_of_1 hl, obind_some, t1, a5, if_neg (by decide), if_neg (by decide), e_add_2 hl, obind_some, t2, a6, n_predm, e_of_2 hl, obind_some, gi_eq2 ⟨rfl, rfl, rfl⟩, if_neg (show ¬ (3 : Int32) = 1 by decide)]
    rw [eS, eT]
    by_cases hm : m = 0
    · subst hm
      rw [if_pos (show nI 0 = 0 from rfl), if_pos (show nI 0 ≤ 0 by decide)]
      obtain ⟨T', e1, e2, e3⟩ := sim_curing hX2 hi hI.f6 (by
        rw [gi_ne (by omega)]; exact a10)
      refine ⟨_, T', rfl, ?_, e2, (FrT.set (by omega)).trans e3⟩
      unfold sX10_age_j72 sX10_age_j82
      rw [if_pos rfl, e1, obind_some, if_neg (by decide)]
    · rw [if_neg (fun z => hm (by rw [n_lit 0, n_eq (by omega) (by omega)] at z; exact z)), if_neg (by rw [n_lit 0, n_le (by omega) (by omega)]; omega)]
      refine ⟨_, _, rfl, rfl, hX2.all hI.f6 (Or.inr (Or.inr (Or.inr (Or.inl ⟨?_, ⟨r, hr, ?_⟩, ⟨m, by omega, by omega, ?_⟩, ?_⟩)))), FrT.set (by omega)⟩
      · repeat (first | rw [gi_ne (by omega)] | rw [gi_eq2 (by omega)])
        exact a5
      · repeat (first | rw [gi_ne (by omega)] | rw [gi_eq2 (by omega)])
        exact a9
      · repeat (first | rw [gi_ne (by omega)] | rw [gi_eq2 (by omega)])
      · rw [gi_ne (by omega)]; exact a10
  · obtain ⟨m, rfl⟩ : ∃ m, k = m + 1 := ⟨k - 1, by omega⟩
    have hX2 := hX.set_6 (v := nI m) hi
    have eS : sX7_goOn S i = (if nI m = 0 then obind (sX7_finishLoan (si S 3 6 i (nI m)) i) fun r4 => some r4 else some (si S 3 6 i (nI m))) := by
      unfold sX7_goOn
      rw [a5, if_neg (by decide), if_neg (by decide), if_neg (by decide), if_pos rfl, a6, n_pred, olet_eq, gi_eq2 ⟨rfl, rfl, rfl⟩]
    have eT : sX10_age T (nI i) = (if nI m ≤ 0 then sX10_age_j72 (si T 0 (6 + 21 * i + 2) 0 (nI m)) (nI i) 4 else some (si T 0 (6 + 21 * i + 2) 0 (nI m))) := by
      unfold sX10_age
      rw [e_of_1 hl, obind_some, t1, a5, if_neg (by decide), if_neg (by decide), e_add_2 hl, obind_some, t2, a6, n_predm, e_of_2 hl, obind_some, gi_eq2 ⟨rfl, rfl, rfl⟩, if_neg (show ¬ (4 : Int32) = 1 by decide)]
    rw [eS, eT]
    by_cases hm : m = 0
    · subst hm
      rw [if_pos (show nI 0 = 0 from rfl), if_pos (show nI 0 ≤ 0 by decide)]
      obtain ⟨S', T', e1, e2, e3, e4⟩ := sim_loan hX2 hi hI.f6 ((gi_ne (by omega)).trans a10)
      rw [e1, obind_some]
      refine ⟨S', T', rfl, ?_, e3, (FrT.set (by omega)).trans e4⟩
      unfold sX10_age_j72 sX10_age_j82
      rw [if_neg (by decide), if_pos rfl]
      exact e2
    · rw [if_neg (fun z => hm (by rw [n_lit 0, n_eq (by omega) (by omega)] at z; exact z)), if_neg (by rw [n_lit 0, n_le (by omega) (by omega)]; omega)]
      refine ⟨_, _, rfl, rfl, hX2.all hI.f6 (Or.inr (Or.inr (Or.inr (Or.inr ⟨?_, ?_, ⟨m, by omega, by omega, ?_⟩, ?_⟩)))), FrT.set (by omega)⟩
      · repeat (first | rw [gi_ne (by omega)] | rw [gi_eq2 (by omega)])
        exact a5
      · repeat (first | rw [gi_ne (by omega)] | rw [gi_eq2 (by omega)])
        exact a9
      · repeat (first | rw [gi_ne (by omega)] | rw [gi_eq2 (by omega)])
      · repeat (first | rw [gi_ne (by omega)] | rw [gi_eq2 (by omega)])
        exact a10
