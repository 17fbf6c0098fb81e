/-! ===== FORECASTS ===== -/
section FORE
variable {B m np nr ni : Nat} {S : XT} {T : Mem} {co : Nat → Option Int32}
theorem fore (hV : IVn B m S T np nr ni) : ∃ C1, sX7_copyFrom S.2.2.2.2.1 S.2.2.2.2.2.1 = some C1 ∧ sX10_copyBlock T (0 : Int32) (13 : Int32) = some (cpB T 0 13) ∧ Rel C1 (cpB T 0 13) np nr ni := by
  obtain ⟨C1, h1, h2, h3⟩ := sim_copy hV.1 hV.2.2.2.2.2.2.1
  obtain ⟨c1, c2, c3⟩ := FrP.cpB_ (T := T) 0 13 (by omega)
  exact ⟨C1, h1, e_copyB (a := 0) (b := 13) (by omega) (by omega) (by omega), h2.tcg c1 (fun j _ => c2 _ _ _ (by decide)) c3⟩
/-- the present comes back -/
theorem fore_end {C2 T2 : Mem} (hV : IVn B m S T np nr ni) (hF : FrH (cpB T 0 13) T2) (hN : NumR C2) : sX10_copyBlock T2 (13 : Int32) (0 : Int32) = some (cpB T2 13 0) ∧ IVn B m (S.1, S.2.1, S.2.2.1, S.2.2.2.1, C2, S.2.2.2.2.2.1, S.2.2.2.2.2.2) (cpB T2 13 0) np nr ni ∧ gi (cpB T2 13 0) 100 6 0 = gi T 100 6 0 := by
  have g0 : ∀ c j i, c ≠ 0 → c ≠ 7 → gi (cpB T2 13 0) c j i = gi T c j i := fun c j i hc h7 => by
    rw [gi_cpB, if_neg (by omega), hF.2.2.1 c j i hc h7, gi_cpB, if_neg (by omega)]
  have hP : FrP T (cpB T2 13 0) := ⟨fun j hj hk => by
      rw [gi_cpB, if_neg (by omega), hF.1 j hj, gi_cpB, if_neg (by omega)], fun i hi hk => by
      rw [gq_cpB, if_neg (by omega), hF.2.1 i hi, gq_cpB, if_neg (by omega)], fun j _ => g0 _ _ _ (by decide) (by decide), fun j => g0 _ _ _ (by decide) (by decide), fun j => g0 _ _ _ (by decide) (by decide), fun j => g0 _ _ _ (by decide) (by decide), fun j _ => g0 _ _ _ (by decide) (by decide)⟩
  refine ⟨e_copyB (a := 13) (b := 0) (by omega) (by omega) (by omega), ⟨?_, ?_⟩, g0 _ _ _ (by decide) (by decide)⟩
  · refine hV.1.tcg (fun j hj => ?_) (fun j _ => g0 _ _ _ (by decide) (by decide)) (fun i hi => ?_)
    · rw [gi_cpB, if_pos (by omega), hF.1 _ (by omega), gi_cpB, if_pos (by omega), show 958 * 0 + (958 * 13 + (j - 958 * 0) - 958 * 13) = j by omega]
    · rw [gq_cpB, if_pos (by omega), hF.2.1 _ (by omega), gq_cpB, if_pos (by omega), show 16 * 0 + (16 * 13 + (i - 16 * 0) - 16 * 13) = i by omega]
  · obtain ⟨a, b, c, d, e, f, g⟩ := hV.2
    exact ⟨a.frp hP, b.frp hP, c, d.frp hP, e.frp hP, hN, g⟩
theorem Rel.num {L T : Mem} (h : Rel L T np nr ni) : NumR L := h.1.2.2.2.1.2.2.2.2
theorem call_lentIn (h : IV B (m + 1) S T) (p1 : Int32) : PFX (uW (sX9_lentIn S B p1)) (mI (sX10_lentIn T p1)) co2 (IV B m) := by
  obtain ⟨np, nr, ni, hV⟩ := h
  rcases e_btw (B := B) (lo := 1) (hi := 500) hV.2.2.2.1.xr (by omega) (by omega) p1 with ⟨k, k1, k2, rfl, h1, h2⟩ | ⟨h1, h2⟩
  · refine pfx_do (np := np) (nr := nr) (ni := ni) ?_
    have hW := hV.th (v := 0)
    obtain ⟨C1, a1, a2, a3⟩ := fore hW
    obtain ⟨C2, T2, b1, b2, b3, b4⟩ := sim_hours (nI k) a3
    obtain ⟨c1, c2, c3⟩ := fore_end hW b4 b3.num
    unfold sX9_lentIn sX9_startForecast sX10_lentIn
    rw [show sX9_requireBetween S B (nI k) (1 : Int32) (500 : Int32) = some (.ok ()) from h1, olet_eq, h2 _ _ _ (by decide) (by decide), if_neg one_ne]
    unfold sX10_lentIn_j23
    rw [e_thr0, olet_eq, if_pos rfl]
    dsimp only [oexc]
    rw [a1, obind_some, obind_some, a2, obind_some, b2, obind_some, e_objectsAt b3.1 b3.e5, obind_some, c1, obind_some]
    dsimp only
    rw [b1, obind_some, e_itemsIn b3.1, obind_some]
    exact ⟨_, _, _, rfl, rfl, c2, c3.trans (gi_eq2 ⟨rfl, rfl, rfl⟩)⟩
  · refine pfx_bad (e := 2) (b := 0) (w := 1) hV ?_ ?_ rfl (by decide)
    · unfold sX9_lentIn
      rw [show sX9_requireBetween S B p1 (1 : Int32) (500 : Int32) = some (.error 2) from h1]
      rfl
    · unfold sX10_lentIn
      rw [olet_eq, h2 _ _ _ (by decide) (by decide), if_pos rfl]
      unfold sX10_lentIn_j23
      rw [e_thr1, olet_eq, if_neg one_ne]
theorem call_scoreIn (h : IV B (m + 1) S T) (p1 p2 : Int32) : PFX (uW (sX9_scoreIn S B p1 p2)) (mI (sX10_scoreIn T p1 p2)) co12 (IV B m) := by
  obtain ⟨np, nr, ni, hV⟩ := h
  have hni : ni ≤ 16 := hV.1.1.1.2.2
  rcases e_item hV p1 with ⟨i, hi, rfl, -, h1, h2⟩ | ⟨-, h1, h2⟩
  · rcases e_btw (B := B) (lo := 1) (hi := 500) hV.2.2.2.1.xr (by omega) (by omega) p2 with ⟨k, k1, k2, rfl, d3, d4⟩ | ⟨d3, d4⟩
    · refine pfx_do (np := np) (nr := nr) (ni := ni) ?_
      have hW := hV.th (v := 0)
      obtain ⟨C1, a1, a2, a3⟩ := fore hW
      obtain ⟨C2, T2, b1, b2, b3, b4⟩ := sim_hours (nI k) a3
      obtain ⟨c1, c2, c3⟩ := fore_end hW b4 b3.num
      unfold sX9_scoreIn sX9_startForecast sX10_scoreIn
      rw [h1, show sX9_requireBetween S B (nI k) (1 : Int32) (500 : Int32) = some (.ok ()) from d3, olet_eq, h2 _ (gi_ne (by omega)), if_neg one_ne]
      unfold sX10_scoreIn_j19
      rw [e_thr0, olet_eq, if_pos rfl, d4 _ _ _ (by decide) (by decide), if_neg one_ne]
      unfold sX10_scoreIn_j44 sX10_scoreBehind
      rw [e_thr0, olet_eq, if_pos rfl]
      dsimp only [oexc]
      rw [a1, obind_some, obind_some, a2, obind_some, b2, obind_some, e_of_0 (by omega), obind_some, c1, obind_some]
      dsimp only
      rw [b1, obind_some, e_itemAt (by omega), (b3.2.2.2.2.2 i hi).1.1]
      exact ⟨_, _, _, rfl, rfl, c2, c3.trans (gi_eq2 ⟨rfl, rfl, rfl⟩)⟩
    · refine pfx_bad (e := 2) (b := 0) (w := 2) hV ?_ ?_ rfl (by decide)
      · unfold sX9_scoreIn
        rw [h1, show sX9_requireBetween S B p2 (1 : Int32) (500 : Int32) = some (.error 2) from d3]
        rfl
      · unfold sX10_scoreIn
        rw [olet_eq, h2 _ (gi_ne (by omega)), if_neg one_ne]
        unfold sX10_scoreIn_j19
        rw [e_thr0, olet_eq, if_pos rfl, d4 _ _ _ (by decide) (by decide), if_pos rfl]
        unfold sX10_scoreIn_j44
        rw [e_thr1, olet_eq, if_neg one_ne]
  · refine pfx_bad (e := 1) (b := 0) (w := 1) hV ?_ ?_ rfl (by decide)
    · unfold sX9_scoreIn
      rw [h1]
      rfl
    · unfold sX10_scoreIn
      rw [olet_eq, h2 _ (gi_ne (by omega)), if_pos rfl]
      unfold sX10_scoreIn_j19
      rw [e_thr1, olet_eq, if_neg one_ne]
end FORE
