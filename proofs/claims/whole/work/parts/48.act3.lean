/-! ===== EXCHANGE, LEND, TICK ===== -/
section ACT3
variable {B m np nr ni : Nat} {S : XT} {T : Mem} {co : Nat → Option Int32}
theorem do_exchange {i : Nat} (hV : IVn B (m + 1) S T np nr ni) (hi : i < ni) (p2 p3 : Int32) : ∃ v S' T', sX9_exchange S B (nI i) p2 p3 = some (.ok (v, S')) ∧ sX10_exchangeNow T (nI i) p2 p3 = some (v, T') ∧ IVn B (m + 1) S' T' np nr ni ∧ gi T' 100 6 0 = gi T 100 6 0 := by
  have hni : ni ≤ 16 := hV.1.1.1.2.2
  have hl : i < 16 := by omega
  obtain ⟨k, k1, k2, k3⟩ := hV.q hi
  unfold sX9_exchange sX10_exchangeNow
  rw [e_itemI hV hi, e_of_3 hl, obind_some, obind_some, k3]
  dsimp only [oexc]
  have no : ∃ v S' T', some (Except.ok ((-4 : Int32), S)) = (some (.ok (v, S')) : Option (Except (Nat × XT) (Int32 × XT))) ∧ some ((-4 : Int32), T) = some (v, T') ∧ IVn B (m + 1) S' T' np nr ni ∧ gi T' 100 6 0 = gi T 100 6 0 := ⟨_, _, _, rfl, rfl, hV, rfl⟩
  rcases e_place k1 k2 p2 with ⟨a, ha, rfl, a1, a2⟩ | ⟨a1, a2⟩
  · rcases e_place k1 k2 p3 with ⟨b, hb, rfl, b1, b2⟩ | ⟨b1, b2⟩
    · rw [a2, b2, a1, b1, if_neg one_ne, if_neg one_ne, if_neg one_ne, if_neg one_ne]
      by_cases hab : a = b
      · subst hab
        rw [if_pos rfl, if_pos rfl]; exact no
      · have hne : ¬ nI a = nI b := by rw [n_eq (by omega) (by omega)]; exact hab
        rw [if_neg hne, if_neg hne]
        obtain ⟨z', X', P', W', T1, r1, r2, r3, r4, r5, r6⟩ := sim_keep hV
        have p1 := rel_swap r3.1 hi k2 k1 ha hb hab
        have p2 := rel_approve (v := (-1 : Int32)) p1 hi
        dsimp only at p1 p2
        have hk3 := (r3.1.2.2.2.2.2 i hi).2.2.1
        obtain ⟨k', k1', k2', k3'⟩ := hk3
        have ek : k' = k := by
          have := k2'.symm.trans k2
          rw [n_eq (by omega) (by omega)] at this; exact this
        subst ek
        have tb : gi T1 0 (6 + 21 * i + (13 + b)) 0 = gi S.2.2.2.2.2.1 4 b i := (k3' b hb).1.symm
        have ta : gi T1 0 (6 + 21 * i + (13 + a)) 0 = gi S.2.2.2.2.2.1 4 a i := (k3' a ha).1.symm
        rw [r1, r2, obind_some, obind_some, n_lit 13, nI_add, nI_add, e_of hl (by omega), obind_some, e_of hl (by omega), obind_some, e_set hl (by omega), obind_some, e_set hl (by omega), obind_some]
        dsimp only
        rw [e_swap k2 k1 ha hb hab, obind_some]
        have hq : sX2_queuedAt (if a = 0 ∨ b = 0 then si (si (si S.2.2.2.2.2.1 4 a i (gi S.2.2.2.2.2.1 4 b i)) 4 b i (gi S.2.2.2.2.2.1 4 a i)) 3 8 i (-1) else si (si S.2.2.2.2.2.1 4 a i (gi S.2.2.2.2.2.1 4 b i)) 4 b i (gi S.2.2.2.2.2.1 4 a i)) i (nI a) = some (gi S.2.2.2.2.2.1 4 b i) := by
          by_cases hz : a = 0 ∨ b = 0
          · rw [if_pos hz, e_queuedAt k1 ha (by repeat (first | rw [gi_ne (by omega)] | rw [gi_eq2 (by omega)]); exact k2)]
            repeat (first | rw [gi_ne (by omega)] | rw [gi_eq2 (by omega)])
          · rw [if_neg hz, e_queuedAt k1 ha (by repeat (first | rw [gi_ne (by omega)] | rw [gi_eq2 (by omega)]); exact k2)]
            repeat (first | rw [gi_ne (by omega)] | rw [gi_eq2 (by omega)])
        rw [hq, obind_some]
        have fin : ∀ L' T', Rel L' T' np nr ni → NumR L' → FrP T1 T' → gi T' 100 6 0 = gi T1 100 6 0 → ∃ v S' T'', (some (Except.ok (gi S.2.2.2.2.2.1 4 b i, (z', X', P', S.2.2.2.1, S.2.2.2.2.1, L', W'))) : Option (Except (Nat × XT) (Int32 × XT))) = some (.ok (v, S')) ∧ some (gi T1 0 (6 + 21 * i + (13 + b)) 0, T') = some (v, T'') ∧ IVn B (m + 1) S' T'' np nr ni ∧ gi T'' 100 6 0 = gi T 100 6 0 := fun L' T' g1 g2 g3 g4 => ⟨_, _, _, rfl, by rw [tb], r3.live g1 g2 g3, g4.trans r4⟩
        have hN := r3.2.2.2.2.2.2.2
        by_cases a0 : a = 0
        · subst a0
          rw [if_pos (show nI 0 = 0 from rfl), if_pos (Or.inl rfl), e_set_4 hl, obind_some]
          exact fin _ _ p2 (numR_of hN (fun x => by repeat (first | rw [gi_ne (by omega)] | rw [gi_eq2 (by omega)]))) ((FrP.set (by omega)).trans ((FrP.set (by omega)).trans (FrP.set (by omega)))) (by repeat (first | rw [gi_ne (by omega)] | rw [gi_eq2 (by omega)]))
        · rw [if_neg (show ¬ nI a = 0 by rw [n_lit 0, n_eq (by omega) (by omega)]; exact a0)]
          by_cases b0 : b = 0
          · subst b0
            rw [if_pos (show nI 0 = 0 from rfl), if_pos (Or.inr rfl), e_set_4 hl, obind_some]
            exact fin _ _ p2 (numR_of hN (fun x => by repeat (first | rw [gi_ne (by omega)] | rw [gi_eq2 (by omega)]))) ((FrP.set (by omega)).trans ((FrP.set (by omega)).trans (FrP.set (by omega)))) (by repeat (first | rw [gi_ne (by omega)] | rw [gi_eq2 (by omega)]))
          · rw [if_neg (show ¬ nI b = 0 by rw [n_lit 0, n_eq (by omega) (by omega)]; exact b0), if_neg (by omega)]
            exact fin _ _ p1 (numR_of hN (fun x => by repeat (first | rw [gi_ne (by omega)] | rw [gi_eq2 (by omega)]))) ((FrP.set (by omega)).trans (FrP.set (by omega))) (by repeat (first | rw [gi_ne (by omega)] | rw [gi_eq2 (by omega)]))
    · rw [a2, b2, a1, b1, if_neg one_ne, if_pos rfl, if_neg one_ne, if_pos rfl]
      by_cases hab : nI a = p3
      · rw [if_pos hab]; exact no
      · rw [if_neg hab]; exact no
  · rw [a2, a1, if_pos rfl, if_pos rfl]
    by_cases hab : p2 = p3
    · rw [if_pos hab]; exact no
    · rw [if_neg hab]; exact no
theorem call_exchange (h : IV B (m + 1) S T) (p1 p2 p3 : Int32) : PFX (uW (sX9_exchange S B p1 p2 p3)) (mI (sX10_exchange T p1 p2 p3)) co1 (IV B m) := by
  obtain ⟨np, nr, ni, hV⟩ := h
  rcases e_item hV p1 with ⟨i, hi, rfl, h1, -, h2⟩ | ⟨h1, -, h2⟩
  · obtain ⟨v, S', T', q1, q2, q3, q4⟩ := do_exchange hV.th (T := si T 100 6 0 0) hi p2 p3
    refine pfx_do ⟨v, S', T', q1, ?_, q3, q4.trans (gi_eq2 ⟨rfl, rfl, rfl⟩)⟩
    unfold sX10_exchange
    rw [olet_eq, h2 _ (gi_ne (by omega)), if_neg one_ne]
    unfold sX10_exchange_j19
    rw [e_thr0, olet_eq, if_pos rfl, q2]
    rfl
  · refine pfx_bad (e := 1) (b := 0) (w := 1) hV ?_ ?_ rfl (by decide)
    · unfold sX9_exchange
      rw [h1]
      rfl
    · unfold sX10_exchange
      rw [olet_eq, h2 _ (gi_ne (by omega)), if_pos rfl]
      unfold sX10_exchange_j19
      rw [e_thr1, olet_eq, if_neg one_ne]
theorem call_tick (h : IV B (m + 1) S T) (p1 : Int32) : PFX (uW (sX9_tick S B p1)) (mI (sX10_tick T p1)) co2 (IV B m) := by
  obtain ⟨np, nr, ni, hV⟩ := h
  rcases e_btw (B := B) (lo := 1) (hi := 1000) hV.2.2.2.1.xr (by omega) (by omega) p1 with ⟨k, k1, k2, rfl, h1, h2⟩ | ⟨h1, h2⟩
  · obtain ⟨v, S', T', q1, q2, q3, q4⟩ := do_tick hV.th (T := si T 100 6 0 0) k1 k2
    refine pfx_do ⟨v, S', T', q1, ?_, q3, q4.trans (gi_eq2 ⟨rfl, rfl, rfl⟩)⟩
    unfold sX10_tick
    rw [olet_eq, h2 _ _ _ (by decide) (by decide), if_neg one_ne]
    unfold sX10_tick_j23
    rw [e_thr0, olet_eq, if_pos rfl, q2]
    rfl
  · refine pfx_bad (e := 2) (b := 0) (w := 1) hV ?_ ?_ rfl (by decide)
    · unfold sX9_tick
      rw [show sX9_requireBetween S B p1 (1 : Int32) (1000 : Int32) = some (.error 2) from h1]
      rfl
    · unfold sX10_tick
      rw [olet_eq, h2 _ _ _ (by decide) (by decide), if_pos rfl]
      unfold sX10_tick_j23
      rw [e_thr1, olet_eq, if_neg one_ne]
theorem call_lend (h : IV B (m + 1) S T) (p1 p2 p3 p4 : Int32) : PFX (uW (sX9_lend S B p1 p2 p3 p4)) (mI (sX10_lend T p1 p2 p3 p4)) co12 (IV B m) := by
  obtain ⟨np, nr, ni, hV⟩ := h
  have hx := hV.2.2.2.1.xr
  have bad2 : ∀ {x : Option (Except (Nat × XT) (Int32 × XT))} {mo : Option (Int32 × Mem)}, x = some (.error (2, S)) → mo = some ((0 : Int32), si (si T 100 6 0 0) 100 6 0 2) → PFX (uW x) (mI mo) co12 (IV B m) := fun hx hm => pfx_bad hV hx hm rfl (by decide)
  have tbad : ∀ {T : Mem} {p1 p2 p3 p4 : Int32}, sX10_lend_j64 T p1 p2 p3 p4 = some ((0 : Int32), si T 100 6 0 2) := fun {T p1 p2 p3 p4} => by
    unfold sX10_lend_j64 sX10_lend_j69
    rw [e_thr1, olet_eq, if_neg one_ne]
  rcases e_item hV p1 with ⟨i, hi, rfl, h1, -, h2⟩ | ⟨h1, -, h2⟩
  · have eT : sX10_lend T (nI i) p2 p3 p4 = (if (sX10_inRange (si T 100 6 0 0) p2.toInt64 (0 : Int64) (20000 : Int64)) = 0 then
      sX10_lend_j64 (si T 100 6 0 0) (nI i) p2 p3 p4
    else
      if (sX10_inRange (si T 100 6 0 0) p3.toInt64 (0 : Int64) (1000 : Int64)) = 0 then
        sX10_lend_j64 (si T 100 6 0 0) (nI i) p2 p3 p4
      else
        if (sX10_inRange (si T 100 6 0 0) p4.toInt64 (1 : Int64) (500 : Int64)) = 0 then
          sX10_lend_j64 (si T 100 6 0 0) (nI i) p2 p3 p4
        else
          sX10_lend_j69 (si T 100 6 0 0) (nI i) p2 p3 p4 (0 : Int32)) := by
      unfold sX10_lend
      rw [olet_eq, h2 _ (gi_ne (by omega)), if_neg one_ne]
      unfold sX10_lend_j19
      rw [e_thr0, olet_eq, if_pos rfl]
    rcases e_btw (B := B) (lo := 0) (hi := 20000) hx (by omega) (by omega) p2 with ⟨d, d1, d2, rfl, d3, d4⟩ | ⟨d3, d4⟩
    · rcases e_btw (B := B) (lo := 0) (hi := 1000) hx (by omega) (by omega) p3 with ⟨n, n1, n2, rfl, n3, n4⟩ | ⟨n3, n4⟩
      · rcases e_btw (B := B) (lo := 1) (hi := 500) hx (by omega) (by omega) p4 with ⟨l, l1, l2, rfl, l3, l4⟩ | ⟨l3, l4⟩
        · obtain ⟨v, S', T', q1, q2, q3, q4⟩ := do_lend (n := n) hV.th (T := si T 100 6 0 0) hi d2 n2 l1 l2 (fun {lo hi k} a b c => e_btwI hV a b c)
          refine pfx_do ⟨v, S', T', q1, ?_, q3, q4.trans (gi_eq2 ⟨rfl, rfl, rfl⟩)⟩
          rw [eT, d4 _ _ _ (by decide) (by decide), n4 _ _ _ (by decide) (by decide), l4 _ _ _ (by decide) (by decide), if_neg one_ne, if_neg one_ne, if_neg one_ne]
          unfold sX10_lend_j69
          rw [e_thr0, olet_eq, if_pos rfl, q2]
          rfl
        · refine bad2 ?_ ?_
          · unfold sX9_lend
            rw [h1, show sX9_requireBetween S B (nI d) (0 : Int32) (20000 : Int32) = some (.ok ()) from d3, show sX9_requireBetween S B (nI n) (0 : Int32) (1000 : Int32) = some (.ok ()) from n3, show sX9_requireBetween S B p4 (1 : Int32) (500 : Int32) = some (.error 2) from l3]
            rfl
          · rw [eT, d4 _ _ _ (by decide) (by decide), n4 _ _ _ (by decide) (by decide), l4 _ _ _ (by decide) (by decide), if_neg one_ne, if_neg one_ne, if_pos rfl, tbad]
      · refine bad2 ?_ ?_
        · unfold sX9_lend
          rw [h1, show sX9_requireBetween S B (nI d) (0 : Int32) (20000 : Int32) = some (.ok ()) from d3, show sX9_requireBetween S B p3 (0 : Int32) (1000 : Int32) = some (.error 2) from n3]
          rfl
        · rw [eT, d4 _ _ _ (by decide) (by decide), n4 _ _ _ (by decide) (by decide), if_neg one_ne, if_pos rfl, tbad]
    · refine bad2 ?_ ?_
      · unfold sX9_lend
        rw [h1, show sX9_requireBetween S B p2 (0 : Int32) (20000 : Int32) = some (.error 2) from d3]
        rfl
      · rw [eT, d4 _ _ _ (by decide) (by decide), if_pos rfl, tbad]
  · refine pfx_bad (e := 1) (b := 0) (w := 1) hV ?_ ?_ rfl (by decide)
    · unfold sX9_lend
      rw [h1]
      rfl
    · unfold sX10_lend
      rw [olet_eq, h2 _ (gi_ne (by omega)), if_pos rfl]
      unfold sX10_lend_j19
      rw [e_thr1, olet_eq, if_neg one_ne]
end ACT3
