/-! ===== READY, QUIET ===== -/
section READY
variable {B m np nr ni : Nat} {S : XT} {T : Mem} {co : Nat → Option Int32}
theorem sim_hour1 {L T : Mem} {t : Nat} (h : Rel L T np nr ni) (ht : gi L 0 12 0 = nI t) (ht2 : t < 20000) : ∃ L' T', sX7_passHours L (1 : Int32) = some L' ∧ sX10_hour T = some T' ∧ Rel L' T' np nr ni ∧ FrH T T' ∧ gi L' 0 12 0 = nI (t + 1) := by
  obtain ⟨L', T', h1, h2, h3, h4, h5⟩ := sim_hour (1 : Int32) (0 : Int32) h ht ht2
  refine ⟨L', T', ?_, h2, h3, h4, h5⟩
  unfold sX7_passHours sX7_passHours_l2
  refine (itw_in (a' := ((0 : Int32) + 1, L')) ?_).trans (itw_out ?_)
  · unfold sX7_passHours_l2_step
    dsimp only
    rw [if_neg (show ¬ (1 : Int32) ≤ 0 by decide), ht, if_neg (by rw [n_lit 20000, n_le (by omega) (by omega)]; omega)]
    exact h1
  · unfold sX7_passHours_l2_step
    dsimp only
    rw [if_pos (show (1 : Int32) ≤ (0 : Int32) + 1 by decide)]
    rfl
theorem e_ready {L T : Mem} {i : Nat} (h : Rel L T np nr ni) (hi : i < ni) : ∃ r, sX10_isReady T (nI i) = some r ∧ ((r = 1 ∧ gi L 3 5 i = 0 ∧ gi L 3 7 i = 0) ∨ (r = 0 ∧ ¬ (gi L 3 5 i = 0 ∧ gi L 3 7 i = 0))) := by
  have hni : ni ≤ 16 := h.1.1.2.2
  have q := (h.2.2.2.2.2 i hi).1
  unfold sX10_isReady
  rw [e_of_1 (by omega), obind_some, e_of_3 (by omega), obind_some, ← q.2.1, ← q.2.2.2.1]
  by_cases c1 : gi L 3 5 i = 0
  · rw [if_pos c1]
    by_cases c2 : gi L 3 7 i = 0
    · rw [if_pos c2]; exact ⟨_, rfl, Or.inl ⟨rfl, c1, c2⟩⟩
    · rw [if_neg c2]; exact ⟨_, rfl, Or.inr ⟨rfl, fun z => c2 z.2⟩⟩
  · rw [if_neg c1]; exact ⟨_, rfl, Or.inr ⟨rfl, fun z => c1 z.1⟩⟩
/-- the Model's end of a forecast -/
theorem e_fend {T : Mem} {p1 p2 y : Int32} : sX10_foresee_j78 T p1 p2 y = some (if y = 0 then -1 else gi T 0 0 0, cpB T 13 0) := by
  have hc : sX10_copyBlock T (13 : Int32) (0 : Int32) = some (cpB T 13 0) := e_copyB (a := 13) (b := 0) (by omega) (by omega) (by omega)
  unfold sX10_foresee_j78
  rw [hc]
  by_cases h : y = 0
  · rw [if_pos h, if_pos h]; rfl
  · rw [if_neg h, if_neg h]; rfl
theorem ready_go {i many : Nat} {z : Nat × Nat × Nat} {X R L : Mem} {P : Rows} {W : Nat → Mem} {T1 : Mem} (hi : i < ni) (hni : ni ≤ 16) (hm : many ≤ 500) : ∀ q h (C T2 : Mem), q = many - h → h ≤ many → Rel C T2 np nr ni → FrH T1 T2 → ∃ v C' T3 r, itw (sX9_readyAt_l28_step B (nI i) (nI many)) (i, nI h, (z, X, P, R, C, L, W)) = some (.ok (v, (z, X, P, R, C', L, W))) ∧ sX10_isReady T2 (nI i) = some r ∧ itw (sX10_foresee_l28_step (nI i) (nI many)) (nI q, r, T2) = some (v, cpB T3 13 0) ∧ NumR C' ∧ FrH T1 T3 := by
  intro q
  induction q with
  | zero =>
    intro h C T2 hq hh hR hF
    have e : h = many := by omega
    subst e
    have e1 : ¬ nI h < nI h := Int32.lt_irrefl
    obtain ⟨r, r1, r2⟩ := e_ready hR hi
    obtain ⟨t, t1, t2⟩ := hR.2.1.1
    have tT : gi T2 0 0 0 = gi C 0 12 0 := hR.2.1.2.1.1.symm
    rcases r2 with ⟨rfl, c1, c2⟩ | ⟨rfl, c⟩
    · refine ⟨gi C 0 12 0, C, T2, 1, itw_out ?_, r1, itw_out ?_, hR.num, hF⟩
      · unfold sX9_readyAt_l28_step
        dsimp only
        rw [if_neg e1, if_pos c1, if_pos c2]
        rfl
      · unfold sX10_foresee_l28_step
        dsimp only
        rw [if_neg one_ne, e_fend, if_neg one_ne, tT]
        rfl
    · have hp : sX9_readyAt_l28_step B (nI i) (nI h) (i, nI h, (z, X, P, R, C, L, W)) = sX9_readyAt_j55 (z, X, P, R, C, L, W) B (nI i) (nI h) i (nI h) := by
        unfold sX9_readyAt_l28_step
        dsimp only
        rw [if_neg e1]
        by_cases c1 : gi C 3 5 i = 0
        · rw [if_pos c1, if_neg (fun c2 => c ⟨c1, c2⟩)]
        · rw [if_neg c1]
      have hmod : itw (sX10_foresee_l28_step (nI i) (nI h)) (nI 0, 0, T2) = some (-1, cpB T2 13 0) := by
        refine itw_out ?_
        unfold sX10_foresee_l28_step
        dsimp only
        rw [if_pos rfl, if_pos (show nI 0 ≤ 0 by decide), e_fend, if_pos rfl]
        rfl
      unfold sX9_readyAt_j55 at hp
      dsimp only at hp
      by_cases et : t < 20000
      · obtain ⟨C', T', g1, g2, g3, g4, g5⟩ := sim_hour1 hR t2 et
        rw [if_pos (show gi C 0 12 0 < (20000 : Int32) by rw [t2, n_lit 20000, n_lt (by omega) (by omega)]; exact et), g1, obind_some, olet_eq, n_suc] at hp
        refine ⟨-1, C', T2, 0, (itw_in hp).trans (itw_out ?_), r1, hmod, g3.num, hF⟩
        unfold sX9_readyAt_l28_step
        dsimp only
        rw [if_pos (by rw [n_lt (by omega) (by omega)]; omega)]
        rfl
      · rw [if_neg (show ¬ gi C 0 12 0 < (20000 : Int32) by rw [t2, n_lit 20000, n_lt (by omega) (by omega)]; exact et)] at hp
        exact ⟨-1, C, T2, 0, itw_out hp, r1, hmod, hR.num, hF⟩
  | succ q ih =>
    intro h C T2 hq hh hR hF
    have e1 : ¬ nI many < nI h := by rw [n_lt (by omega) (by omega)]; omega
    obtain ⟨r, r1, r2⟩ := e_ready hR hi
    obtain ⟨t, t1, t2⟩ := hR.2.1.1
    have tT : gi T2 0 0 0 = gi C 0 12 0 := hR.2.1.2.1.1.symm
    rcases r2 with ⟨rfl, c1, c2⟩ | ⟨rfl, c⟩
    · refine ⟨gi C 0 12 0, C, T2, 1, itw_out ?_, r1, itw_out ?_, hR.num, hF⟩
      · unfold sX9_readyAt_l28_step
        dsimp only
        rw [if_neg e1, if_pos c1, if_pos c2]
        rfl
      · unfold sX10_foresee_l28_step
        dsimp only
        rw [if_neg one_ne, e_fend, if_neg one_ne, tT]
        rfl
    · have hp : sX9_readyAt_l28_step B (nI i) (nI many) (i, nI h, (z, X, P, R, C, L, W)) = sX9_readyAt_j55 (z, X, P, R, C, L, W) B (nI i) (nI many) i (nI h) := by
        unfold sX9_readyAt_l28_step
        dsimp only
        rw [if_neg e1]
        by_cases c1 : gi C 3 5 i = 0
        · rw [if_pos c1, if_neg (fun c2 => c ⟨c1, c2⟩)]
        · rw [if_neg c1]
      have hq0 : ¬ nI (q + 1) ≤ 0 := by rw [n_lit 0, n_le (by omega) (by omega)]; omega
      unfold sX9_readyAt_j55 at hp
      dsimp only at hp
      by_cases et : t < 20000
      · obtain ⟨C', T', g1, g2, g3, g4, g5⟩ := sim_hour1 hR t2 et
        rw [if_pos (show gi C 0 12 0 < (20000 : Int32) by rw [t2, n_lit 20000, n_lt (by omega) (by omega)]; exact et), g1, obind_some, olet_eq, n_suc] at hp
        obtain ⟨v, C3, T3, r', k1, k2, k3, k4, k5⟩ := ih (h + 1) C' T' (by omega) (by omega) g3 (hF.trans g4)
        refine ⟨v, C3, T3, 0, (itw_in hp).trans k1, r1, (itw_in ?_).trans k3, k4, k5⟩
        unfold sX10_foresee_l28_step
        dsimp only
        rw [if_pos rfl, if_neg hq0, show (0 : Int32).toNatClampNeg = 0 from rfl, tT, t2, if_neg (show ¬ (20000 : Int32) ≤ nI t by rw [n_lit 20000, n_le (by omega) (by omega)]; omega), g2, obind_some, if_neg (n_m1 (by omega)), k2, obind_some, n_predm]
      · rw [if_neg (show ¬ gi C 0 12 0 < (20000 : Int32) by rw [t2, n_lit 20000, n_lt (by omega) (by omega)]; exact et)] at hp
        refine ⟨-1, C, T2, 0, itw_out hp, r1, itw_out ?_, hR.num, hF⟩
        unfold sX10_foresee_l28_step
        dsimp only
        rw [if_pos rfl, if_neg hq0, show (0 : Int32).toNatClampNeg = 0 from rfl, tT, t2, if_pos (show (20000 : Int32) ≤ nI t by rw [n_lit 20000, n_le (by omega) (by omega)]; omega), e_fend, if_pos rfl]
        rfl
theorem call_readyAt (h : IV B (m + 1) S T) (p1 p2 : Int32) : PFX (uW (sX9_readyAt S B p1 p2)) (mI (sX10_readyAt T p1 p2)) co12 (IV B m) := by
  obtain ⟨np, nr, ni, hV⟩ := h
  have hni : ni ≤ 16 := hV.1.1.1.2.2
  rcases e_item hV p1 with ⟨i, hi, rfl, -, h1, h2⟩ | ⟨-, h1, h2⟩
  · rcases e_btw (B := B) (lo := 1) (hi := 500) hV.2.2.2.1.xr (by omega) (by omega) p2 with ⟨k, k1, k2, rfl, d3, d4⟩ | ⟨d3, d4⟩
    · refine pfx_do (np := np) (nr := nr) (ni := ni) ?_
      have hW := hV.th (v := 0)
      obtain ⟨C1, a1, a2, a3⟩ := fore hW
      obtain ⟨v, C2, T3, r, b1, b2, b3, b4, b5⟩ := ready_go (B := B) (z := S.1) (X := S.2.1) (P := S.2.2.1) (R := S.2.2.2.1) (L := S.2.2.2.2.2.1) (W := S.2.2.2.2.2.2) hi hni k2 (k - 0) 0 C1 _ rfl (Nat.zero_le _) a3 FrH.refl
      obtain ⟨c1, c2, c3⟩ := fore_end hW b5 b4
      unfold sX9_readyAt sX9_startForecast sX10_readyAt
      rw [h1, show sX9_requireBetween S B (nI k) (1 : Int32) (500 : Int32) = some (.ok ()) from d3, olet_eq, h2 _ (gi_ne (by omega)), if_neg one_ne]
      unfold sX10_readyAt_j19
      rw [e_thr0, olet_eq, if_pos rfl, d4 _ _ _ (by decide) (by decide), if_neg one_ne]
      unfold sX10_readyAt_j44 sX10_foresee sX9_readyAt_l28 sX10_foresee_l28
      rw [e_thr0, olet_eq, if_pos rfl]
      dsimp only [oexc]
      rw [a1, obind_some, obind_some, a2, obind_some, if_neg (n_m1 (by omega)), b2, obind_some]
      dsimp only
      rw [e_itemAt (by omega)]
      refine ⟨_, _, _, b1, ?_, c2, c3.trans (gi_eq2 ⟨rfl, rfl, rfl⟩)⟩
      have b3' : itw (sX10_foresee_l28_step (nI i) (nI k)) (nI k, r, cpB (si T 100 6 0 0) 0 13) = some (v, cpB T3 13 0) := b3
      rw [b3', obind_some]
    · refine pfx_bad (e := 2) (b := 0) (w := 2) hV ?_ ?_ rfl (by decide)
      · unfold sX9_readyAt
        rw [h1, show sX9_requireBetween S B p2 (1 : Int32) (500 : Int32) = some (.error 2) from d3]
        rfl
      · unfold sX10_readyAt
        rw [olet_eq, h2 _ (gi_ne (by omega)), if_neg one_ne]
        unfold sX10_readyAt_j19
        rw [e_thr0, olet_eq, if_pos rfl, d4 _ _ _ (by decide) (by decide), if_pos rfl]
        unfold sX10_readyAt_j44
        rw [e_thr1, olet_eq, if_neg one_ne]
  · refine pfx_bad (e := 1) (b := 0) (w := 1) hV ?_ ?_ rfl (by decide)
    · unfold sX9_readyAt
      rw [h1]
      rfl
    · unfold sX10_readyAt
      rw [olet_eq, h2 _ (gi_ne (by omega)), if_pos rfl]
      unfold sX10_readyAt_j19
      rw [e_thr1, olet_eq, if_neg one_ne]
end READY
