/-! ===== QUIET AT ===== -/
section QUIETAT
variable {B m np nr ni : Nat} {S : XT} {T : Mem} {co : Nat → Option Int32}
theorem quiet_go {many : Nat} {z : Nat × Nat × Nat} {X R L : Mem} {P : Rows} {W : Nat → Mem} {T1 : Mem} (hm : many ≤ 500) : ∀ q h (C T2 : Mem), q = many - h → h ≤ many → Rel C T2 np nr ni → FrH T1 T2 → ∃ v C' T3 r, itw (sX9_quietAt_l15_step B (nI many)) (nI h, (z, X, P, R, C, L, W)) = some (.ok (v, (z, X, P, R, C', L, W))) ∧ sX10_isQuiet T2 = some r ∧ itw (sX10_foresee_l28_step (-1) (nI many)) (nI q, r, T2) = some (v, cpB T3 13 0) ∧ NumR C' ∧ FrH T1 T3 := by
  intro q
  induction q with
  | zero =>
    intro h C T2 hq hh hR hF
    have e : h = many := by omega
    subst e
    have e1 : ¬ nI h < nI h := Int32.lt_irrefl
    obtain ⟨r, r0, r1, r2⟩ := e_quiet hR
    obtain ⟨t, t1, t2⟩ := hR.2.1.1
    have tT : gi T2 0 0 0 = gi C 0 12 0 := hR.2.1.2.1.1.symm
    rcases r2 with rfl | rfl
    · have hp : sX9_quietAt_l15_step B (nI h) (nI h, (z, X, P, R, C, L, W)) = if (gi C 0 12 0) < (20000 : Int32) then obind (sX7_passHours C (1 : Int32)) fun r17 => some (.inl (nI h + (1 : Int32), (z, X, P, R, r17, L, W))) else some (.inr (.ok ((-1 : Int32), (z, X, P, R, C, L, W)))) := by
        unfold sX9_quietAt_l15_step
        dsimp only
        rw [if_neg e1, r0, obind_some, if_pos rfl]
        rfl
      have hmod : itw (sX10_foresee_l28_step (-1) (nI h)) (nI 0, 0, T2) = some (-1, cpB T2 13 0) := by
        refine itw_out ?_
        unfold sX10_foresee_l28_step
        dsimp only
        rw [if_pos rfl, if_pos (show nI 0 ≤ 0 by decide), e_fend, if_pos rfl]
        rfl
      by_cases et : t < 20000
      · obtain ⟨C', T', g1, g2, g3, g4, g5⟩ := sim_hour1 hR t2 et
        rw [if_pos (show gi C 0 12 0 < (20000 : Int32) by rw [t2, n_lit 20000, n_lt (by omega) (by omega)]; exact et), g1, obind_some, n_suc] at hp
        refine ⟨-1, C', T2, 0, (itw_in hp).trans (itw_out ?_), r1, hmod, g3.num, hF⟩
        unfold sX9_quietAt_l15_step
        dsimp only
        rw [if_pos (by rw [n_lt (by omega) (by omega)]; omega)]
        rfl
      · rw [if_neg (show ¬ gi C 0 12 0 < (20000 : Int32) by rw [t2, n_lit 20000, n_lt (by omega) (by omega)]; exact et)] at hp
        exact ⟨-1, C, T2, 0, itw_out hp, r1, hmod, hR.num, hF⟩
    · refine ⟨gi C 0 12 0, C, T2, 1, itw_out ?_, r1, itw_out ?_, hR.num, hF⟩
      · unfold sX9_quietAt_l15_step
        dsimp only
        rw [if_neg e1, r0, obind_some, if_neg one_ne]
        rfl
      · unfold sX10_foresee_l28_step
        dsimp only
        rw [if_neg one_ne, e_fend, if_neg one_ne, tT]
        rfl
  | succ q ih =>
    intro h C T2 hq hh hR hF
    have e1 : ¬ nI many < nI h := by rw [n_lt (by omega) (by omega)]; omega
    obtain ⟨r, r0, r1, r2⟩ := e_quiet hR
    obtain ⟨t, t1, t2⟩ := hR.2.1.1
    have tT : gi T2 0 0 0 = gi C 0 12 0 := hR.2.1.2.1.1.symm
    rcases r2 with rfl | rfl
    · have hp : sX9_quietAt_l15_step B (nI many) (nI h, (z, X, P, R, C, L, W)) = if (gi C 0 12 0) < (20000 : Int32) then obind (sX7_passHours C (1 : Int32)) fun r17 => some (.inl (nI h + (1 : Int32), (z, X, P, R, r17, L, W))) else some (.inr (.ok ((-1 : Int32), (z, X, P, R, C, L, W)))) := by
        unfold sX9_quietAt_l15_step
        dsimp only
        rw [if_neg e1, r0, obind_some, if_pos rfl]
        rfl
      have hq0 : ¬ nI (q + 1) ≤ 0 := by rw [n_lit 0, n_le (by omega) (by omega)]; omega
      by_cases et : t < 20000
      · obtain ⟨C', T', g1, g2, g3, g4, g5⟩ := sim_hour1 hR t2 et
        rw [if_pos (show gi C 0 12 0 < (20000 : Int32) by rw [t2, n_lit 20000, n_lt (by omega) (by omega)]; exact et), g1, obind_some, n_suc] at hp
        obtain ⟨v, C3, T3, r', k1, k2, k3, k4, k5⟩ := ih (h + 1) C' T' (by omega) (by omega) g3 (hF.trans g4)
        refine ⟨v, C3, T3, 0, (itw_in hp).trans k1, r1, (itw_in ?_).trans k3, k4, k5⟩
        unfold sX10_foresee_l28_step
        dsimp only
        rw [if_pos rfl, if_neg hq0, show (0 : Int32).toNatClampNeg = 0 from rfl, tT, t2, if_neg (show ¬ (20000 : Int32) ≤ nI t by rw [n_lit 20000, n_le (by omega) (by omega)]; omega), g2, obind_some, if_pos rfl, k2, obind_some, n_predm]
      · rw [if_neg (show ¬ gi C 0 12 0 < (20000 : Int32) by rw [t2, n_lit 20000, n_lt (by omega) (by omega)]; exact et)] at hp
        refine ⟨-1, C, T2, 0, itw_out hp, r1, itw_out ?_, hR.num, hF⟩
        unfold sX10_foresee_l28_step
        dsimp only
        rw [if_pos rfl, if_neg hq0, show (0 : Int32).toNatClampNeg = 0 from rfl, tT, t2, if_pos (show (20000 : Int32) ≤ nI t by rw [n_lit 20000, n_le (by omega) (by omega)]; omega), e_fend, if_pos rfl]
        rfl
    · refine ⟨gi C 0 12 0, C, T2, 1, itw_out ?_, r1, itw_out ?_, hR.num, hF⟩
      · unfold sX9_quietAt_l15_step
        dsimp only
        rw [if_neg e1, r0, obind_some, if_neg one_ne]
        rfl
      · unfold sX10_foresee_l28_step
        dsimp only
        rw [if_neg one_ne, e_fend, if_neg one_ne, tT]
        rfl
theorem call_quietAt (h : IV B (m + 1) S T) (p1 : Int32) : PFX (uW (sX9_quietAt S B p1)) (mI (sX10_quietAt T p1)) co2 (IV B m) := by
  obtain ⟨np, nr, ni, hV⟩ := h
  rcases e_btw (B := B) (lo := 1) (hi := 500) hV.2.2.2.1.xr (by omega) (by omega) p1 with ⟨k, k1, k2, rfl, h1, h2⟩ | ⟨h1, h2⟩
  · refine pfx_do (np := np) (nr := nr) (ni := ni) ?_
    have hW := hV.th (v := 0)
    obtain ⟨C1, a1, a2, a3⟩ := fore hW
    obtain ⟨v, C2, T3, r, b1, b2, b3, b4, b5⟩ := quiet_go (B := B) (z := S.1) (X := S.2.1) (P := S.2.2.1) (R := S.2.2.2.1) (L := S.2.2.2.2.2.1) (W := S.2.2.2.2.2.2) k2 (k - 0) 0 C1 _ rfl (Nat.zero_le _) a3 FrH.refl
    obtain ⟨c1, c2, c3⟩ := fore_end hW b5 b4
    unfold sX9_quietAt sX9_startForecast sX10_quietAt
    rw [show sX9_requireBetween S B (nI k) (1 : Int32) (500 : Int32) = some (.ok ()) from h1, olet_eq, h2 _ _ _ (by decide) (by decide), if_neg one_ne]
    unfold sX10_quietAt_j23 sX10_foresee sX9_quietAt_l15 sX10_foresee_l28
    rw [e_thr0, olet_eq, if_pos rfl]
    dsimp only [oexc]
    rw [a1, obind_some, obind_some, a2, obind_some, if_pos rfl, b2, obind_some]
    refine ⟨_, _, _, b1, ?_, c2, c3.trans (gi_eq2 ⟨rfl, rfl, rfl⟩)⟩
    have b3' : itw (sX10_foresee_l28_step (-1) (nI k)) (nI k, r, cpB (si T 100 6 0 0) 0 13) = some (v, cpB T3 13 0) := b3
    rw [b3', obind_some]
  · refine pfx_bad (e := 2) (b := 0) (w := 1) hV ?_ ?_ rfl (by decide)
    · unfold sX9_quietAt
      rw [show sX9_requireBetween S B p1 (1 : Int32) (500 : Int32) = some (.error 2) from h1]
      rfl
    · unfold sX10_quietAt
      rw [olet_eq, h2 _ _ _ (by decide) (by decide), if_pos rfl]
      unfold sX10_quietAt_j23
      rw [e_thr1, olet_eq, if_neg one_ne]
end QUIETAT
