/-! ===== THE BEST NUMBER OF BENCHES ===== -/
section BBN
variable {B m np nr ni : Nat} {S : XT} {T : Mem} {co : Nat → Option Int32}
/-- as many benches, on both sides -/
theorem Rel.benches {L T : Mem} {b : Nat} (h : Rel L T np nr ni) (hb : 1 ≤ b ∧ b ≤ 4) : Rel (si L 0 10 0 (nI b)) (si T 5 0 0 (nI b)) np nr ni := by
  obtain ⟨⟨c1, c2, c3, ⟨d1, d2, d3, d4, d5⟩, e, f, g⟩, hSa, hB, hO, hI, hIt⟩ := h
  have hni : ni ≤ 16 := c1.2.2
  refine ⟨⟨c1, ?_, ?_, ⟨?_, ?_, ⟨b, hb.1, hb.2, gi_eq2 ⟨rfl, rfl, rfl⟩⟩, ?_, ?_⟩, fun p hp => ?_, fun r hr => ?_, fun i hi => ?_⟩, ?_, ?_, ?_, ?_, fun i hi => ?_⟩
  · rw [gi_ne (by omega), gi_ne (by omega), gi_ne (by omega)]; exact c2
  · rw [gi_ne (by omega), gi_ne (by omega), gi_ne (by omega)]; exact c3
  · rw [gi_eq2 ⟨rfl, rfl, rfl⟩, gi_eq2 ⟨rfl, rfl, rfl⟩]
  · rw [gi_ne (by omega), gi_ne (by omega)]; exact d2
  · rw [gi_ne (by omega)]; exact d4
  · intro i hi
    rw [gi_ne (by omega)]; exact d5 i hi
  · rw [gi_ne (by omega), gi_ne (by omega)]; exact e p hp
  · obtain ⟨f1, f2⟩ := f r hr
    refine ⟨fun w hw => by rw [gi_ne (by omega), gi_ne (by omega)]; exact f1 w hw, ?_⟩
    rw [gi_ne (by omega), gi_ne (by omega), gi_ne (by omega), gi_ne (by omega), gi_ne (by omega), gi_ne (by omega), gi_ne (by omega)]
    exact f2
  · rw [gi_ne (by omega), gi_ne (by omega), gi_ne (by omega), gi_ne (by omega), gi_ne (by omega)]; exact g i hi
  · exact hSa.cg (fun j hj => gi_ne (by omega)) (fun _ => gi_ne (by omega)) (fun _ => gi_ne (by omega)) (fun j hj => gi_ne (by omega)) c1.2.1 c1.1
  · exact hB.cg (fun _ => gi_ne (by omega)) (fun _ => gi_ne (by omega)) (fun j hj => gi_ne (by omega))
  · exact hO
  · exact hI.cg (fun _ => gi_ne (by omega)) (fun _ => gi_ne (by omega))
  · exact (hIt i hi).cg (fun _ => gi_ne (by omega)) (fun _ => gi_ne (by omega)) (fun _ => gi_ne (by omega)) (fun j hj => gi_ne (by omega))
/-- the Model's memory between two of the forecasts -/
def BBM (T0 T : Mem) : Prop := (∀ c j i, c ≠ 0 → c ≠ 7 → (c ≠ 5 ∨ j ≠ 0) → gi T c j i = gi T0 c j i) ∧ (∀ j, j < 12454 → gi T 0 j 0 = gi T0 0 j 0) ∧ (∀ j, j < 958 → gi T 0 (12454 + j) 0 = gi T0 0 j 0) ∧ (∀ i, i < 208 → gq T 1 i = gq T0 1 i) ∧ ∀ i, i < 16 → gq T 1 (208 + i) = gq T0 1 i
theorem BBM.start {T0 : Mem} : BBM T0 (cpB T0 0 13) := by
  refine ⟨fun c j i hc _ _ => by rw [gi_cpB, if_neg (by omega)], fun j hj => by rw [gi_cpB, if_neg (by omega)], fun j hj => ?_, fun i hi => by rw [gq_cpB, if_neg (by omega)], fun i hi => ?_⟩
  · rw [gi_cpB, if_pos (by omega), show 958 * 0 + (12454 + j - 958 * 13) = j by omega]
  · rw [gq_cpB, if_pos (by omega), show 16 * 0 + (208 + i - 16 * 13) = i by omega]
theorem BBM.turn {T0 T T2 : Mem} {v : Int32} (h : BBM T0 T) (hF : FrH (si T 5 0 0 v) T2) : BBM T0 (cpB T2 13 0) := by
  obtain ⟨h1, h2, h3, h4, h5⟩ := h
  obtain ⟨f1, f2, f3, f4⟩ := hF
  have g0 : ∀ j, 958 ≤ j → gi T2 0 j 0 = gi T 0 j 0 := fun j hj => (f1 j hj).trans (gi_ne (by omega))
  have g1 : ∀ i, 16 ≤ i → gq T2 1 i = gq T 1 i := fun i hi => f2 i hi
  refine ⟨fun c j i hc h7 hj => ?_, fun j hj => ?_, fun j hj => ?_, fun i hi => ?_, fun i hi => ?_⟩
  · rw [gi_cpB, if_neg (by omega), f3 c j i hc h7, gi_ne (by omega)]
    exact h1 c j i hc h7 hj
  · rw [gi_cpB]
    by_cases e : j < 958
    · rw [if_pos (by omega), show 958 * 13 + (j - 958 * 0) = 12454 + j by omega, g0 _ (by omega)]
      exact h3 j e
    · rw [if_neg (by omega), g0 _ (by omega)]
      exact h2 j hj
  · rw [gi_cpB, if_neg (by omega), g0 _ (by omega)]
    exact h3 j hj
  · rw [gq_cpB]
    by_cases e : i < 16
    · rw [if_pos (by omega), show 16 * 13 + (i - 16 * 0) = 208 + i by omega, g1 _ (by omega)]
      exact h5 i e
    · rw [if_neg (by omega), g1 _ (by omega)]
      exact h4 i hi
  · rw [gq_cpB, if_neg (by omega), g1 _ (by omega)]
    exact h5 i hi
theorem BBM.rel {L T0 T : Mem} {b : Nat} (h : BBM T0 T) (hR : Rel L T0 np nr ni) (hb : 1 ≤ b ∧ b ≤ 4) : Rel (si L 0 10 0 (nI b)) (si T 5 0 0 (nI b)) np nr ni := by
  refine (hR.benches hb).tcg (fun j hj => ?_) (fun j hj => ?_) (fun i hi => h.2.2.2.1 i (by omega))
  · rw [gi_ne (by omega), gi_ne (by omega)]; exact h.2.1 j (by omega)
  · by_cases e : j = 0
    · subst e; rw [gi_eq2 ⟨rfl, rfl, rfl⟩, gi_eq2 ⟨rfl, rfl, rfl⟩]
    · rw [gi_ne (by omega), gi_ne (by omega)]; exact h.1 _ _ _ (by decide) (by decide) (Or.inr e)
theorem BBM.end_ {T0 T : Mem} (h : BBM T0 T) : FrP T0 (si T 5 0 0 (gi T0 5 0 0)) ∧ (∀ j, j < 958 → gi (si T 5 0 0 (gi T0 5 0 0)) 0 j 0 = gi T0 0 j 0) ∧ (∀ i, i < 16 → gq (si T 5 0 0 (gi T0 5 0 0)) 1 i = gq T0 1 i) := by
  obtain ⟨h1, h2, h3, h4, h5⟩ := h
  have h6 : ∀ j, gi (si T 5 0 0 (gi T0 5 0 0)) 5 j 0 = gi T0 5 j 0 := fun j => by
    by_cases e : j = 0
    · subst e; rw [gi_eq2 ⟨rfl, rfl, rfl⟩]
    · rw [gi_ne (by omega)]; exact h1 _ _ _ (by decide) (by decide) (Or.inr e)
  refine ⟨⟨fun j hj hk => ?_, fun i hi hk => h4 i hk, fun j _ => h6 j, fun j => ?_, fun j => ?_, fun j => ?_, fun j _ => ?_⟩, fun j hj => ?_, fun i hi => h4 i (by omega)⟩
  · rw [gi_ne (by omega)]; exact h2 j hk
  · rw [gi_ne (by omega)]; exact h1 _ _ _ (by decide) (by decide) (Or.inl (by decide))
  · rw [gi_ne (by omega)]; exact h1 _ _ _ (by decide) (by decide) (Or.inl (by decide))
  · rw [gi_ne (by omega)]; exact h1 _ _ _ (by decide) (by decide) (Or.inl (by decide))
  · rw [gi_ne (by omega)]; exact h1 _ _ _ (by decide) (by decide) (Or.inl (by decide))
  · rw [gi_ne (by omega)]; exact h2 j (by omega)
theorem call_bestBenches (h : IV B (m + 1) S T) (hst : StI S) (p1 : Int32) : PFX (uW (sX9_bestBenches S B p1)) (mI (sX10_bestBenches T p1)) co2 (IV B m) := by
  obtain ⟨np, nr, ni, hV⟩ := h
  rcases e_btw (B := B) (lo := 1) (hi := 200) hV.2.2.2.1.xr (by omega) (by omega) p1 with ⟨k, k1, k2, rfl, h1, h2⟩ | ⟨h1, h2⟩
  · refine pfx_do (np := np) (nr := nr) (ni := ni) ?_
    have hW := hV.th (v := 0)
    have hR := hW.1
    have hni : ni ≤ 16 := hR.1.1.2.2
    unfold sX9_bestBenches sX10_bestBenches
    rw [show sX9_requireBetween S B (nI k) (1 : Int32) (200 : Int32) = some (.ok ()) from h1, olet_eq (si T 100 6 0 0), h2 _ _ _ (by decide) (by decide), if_neg one_ne]
    unfold sX10_bestBenches_j23
    rw [e_thr0, olet_eq ((0 : Int32), si T 100 6 0 0), if_pos rfl]
    dsimp only [oexc]
    have h6 : gi (si T 100 6 0 0) 100 6 0 = 0 := gi_eq2 ⟨rfl, rfl, rfl⟩
    clear h1 h2
    generalize si T 100 6 0 0 = T0 at hW hR h6 ⊢
    rw [show sX10_copyBlock T0 (0 : Int32) (13 : Int32) = some (cpB T0 0 13) from e_copyB (a := 0) (b := 13) (by omega) (by omega) (by omega), obind_some, olet_eq, show gi (cpB T0 0 13) 5 (0 : Int32).toNatClampNeg 0 = gi T0 5 0 0 by rw [gi_cpB, if_neg (by omega)]; rfl]
    unfold sX9_bestBenches_l15 sX10_bestBenches_l54
    obtain ⟨b, b', g1, g2, v, C, T', rfl, rfl, hC, hT⟩ := itw_two (f := sX9_bestBenches_l15_step B (nI k)) (g := sX10_bestBenches_l54_step (nI k)) (J := fun q a a' => ∃ u x y C T', 1 ≤ u ∧ u ≤ 5 ∧ q = 5 - u ∧ a = (x, y, nI u, (S.1, S.2.1, S.2.2.1, S.2.2.2.1, C, S.2.2.2.2.2.1, S.2.2.2.2.2.2)) ∧ ((2 ≤ u ∧ a' = (gi T0 5 0 0, x, y, nI u, T')) ∨ (u = 1 ∧ x = 1 ∧ y = -1 ∧ a' = (gi T0 5 0 0, 0, -1, nI u, T'))) ∧ NumR C ∧ BBM T0 T') (P := fun b b' => ∃ v C T', b = .ok (v, (S.1, S.2.1, S.2.2.1, S.2.2.2.1, C, S.2.2.2.2.2.1, S.2.2.2.2.2.2)) ∧ b' = (v, si T' 5 0 0 (gi T0 5 0 0)) ∧ NumR C ∧ BBM T0 T') (fun q a a' => by
      rintro ⟨u, x, y, C, T', u1, u5, rfl, rfl, ha', hC, hT⟩
      by_cases e : u = 5
      · subst e
        rcases ha' with ⟨-, rfl⟩ | ⟨e1, -⟩
        · unfold sX9_bestBenches_l15_step sX10_bestBenches_l54_step
          dsimp only
          rw [if_pos (show (4 : Int32) < nI 5 by decide), if_pos (show (4 : Int32) < nI 5 by decide)]
          exact Or.inl ⟨_, _, rfl, rfl, x, C, T', rfl, rfl, hC, hT⟩
        · omega
      · have hlt : ¬ (4 : Int32) < nI u := by rw [n_lit 4, n_lt (by omega) (by omega)]; omega
        obtain ⟨C1, q1, q2, q3⟩ := sim_copy hR hC
        obtain ⟨C2, T2, b1, b2, b3, b4⟩ := sim_hours (nI k) (hT.rel q2 ⟨u1, by omega⟩)
        have hs0 : StB (si C1 0 10 0 (nI u)) := (hst.1.of (ts_copy _ q1)).of (ts_si (Or.inr ⟨by decide, by decide, by decide⟩))
        have h9 : gi (si C1 0 10 0 (nI u)) 0 9 0 = nI ni := by rw [gi_ne (by omega)]; exact q2.1.2.1.2.2
        obtain ⟨t, ks, t1, t2, t3⟩ := (st_hours hs0 h9 hni _ b1).1
        have s13 : gi C2 0 13 0 = nI ks := congrArg Prod.snd t3
        have s1 : gi T2 0 (1 : Int32).toNatClampNeg 0 = nI ks := b3.2.1.2.1.2.1.symm.trans s13
        have hE : sX10_copyBlock T2 (13 : Int32) (0 : Int32) = some (cpB T2 13 0) := e_copyB (a := 13) (b := 0) (by omega) (by omega) (by omega)
        have hmx : ∀ z : Int32, sX10_max T2 z (nI ks) = if nI ks ≤ z then z else nI ks := fun z => by
          rw [e_max]; unfold jmax
          by_cases c : nI ks ≤ z
          · rw [if_pos c, if_neg (Int32.not_lt.mpr c)]
          · rw [if_neg c, if_pos (Int32.not_le.mp c)]
        unfold sX9_bestBenches_l15_step sX10_bestBenches_l54_step sX9_startForecast
        rcases ha' with ⟨u2, rfl⟩ | ⟨rfl, rfl, rfl, rfl⟩
        · dsimp only
          rw [if_neg hlt, if_neg hlt, q1, obind_some, obind_some]
          simp only [olet_eq]
          rw [b1, obind_some, s13, show sX10_hours (si T' 5 (0 : Int32).toNatClampNeg 0 (nI u)) (nI k) = some T2 from b2, obind_some, s1]
          unfold sX10_bestBenches_j87
          simp only [olet_eq]
          rw [show gi T2 0 (1 : Int32).toNatClampNeg 0 = nI ks from s1, hmx, hE, obind_some, n_suc]
          by_cases c : nI ks ≤ y
          · rw [if_pos c, if_pos c, if_pos c]
            exact Or.inr ⟨_, _, 5 - (u + 1), by omega, rfl, rfl, u + 1, x, y, C2, cpB T2 13 0, by omega, by omega, rfl, rfl, Or.inl ⟨by omega, rfl⟩, b3.num, hT.turn b4⟩
          · rw [if_neg c, if_neg c, if_neg c]
            exact Or.inr ⟨_, _, 5 - (u + 1), by omega, rfl, rfl, u + 1, nI u, nI ks, C2, cpB T2 13 0, by omega, by omega, rfl, rfl, Or.inl ⟨by omega, rfl⟩, b3.num, hT.turn b4⟩
        · have c : ¬ nI ks ≤ (-1 : Int32) := by
            rw [Int32.le_iff_toInt_le, n_int (by omega)]
            have e1 : (-1 : Int32).toInt = -1 := rfl
            omega
          dsimp only
          rw [if_neg hlt, if_neg hlt, q1, obind_some, obind_some]
          simp only [olet_eq]
          rw [b1, obind_some, s13, show sX10_hours (si T' 5 (0 : Int32).toNatClampNeg 0 (nI 1)) (nI k) = some T2 from b2, obind_some, s1]
          unfold sX10_bestBenches_j87
          simp only [olet_eq]
          rw [show gi T2 0 (1 : Int32).toNatClampNeg 0 = nI ks from s1, hmx, hE, obind_some, n_suc, if_neg c, if_neg c, if_neg c]
          exact Or.inr ⟨_, _, 5 - (1 + 1), by omega, rfl, rfl, 1 + 1, nI 1, nI ks, C2, cpB T2 13 0, by omega, by omega, rfl, rfl, Or.inl ⟨by omega, rfl⟩, b3.num, hT.turn b4⟩) (k := 5 - 1) (a := ((1 : Int32), (-1 : Int32), (1 : Int32), S)) (a' := (gi T0 5 0 0, (0 : Int32), (-1 : Int32), (1 : Int32), cpB T0 0 13)) ⟨1, 1, -1, S.2.2.2.2.1, cpB T0 0 13, by omega, by omega, rfl, rfl, Or.inr ⟨rfl, rfl, rfl, rfl⟩, hW.2.2.2.2.2.2.1, BBM.start⟩
    obtain ⟨f1, f2, f3⟩ := hT.end_
    refine ⟨v, _, _, g1, g2, ⟨hR.tcg f2 (fun j hj => f1.2.2.1 j hj) f3, ?_⟩, ?_⟩
    · obtain ⟨a, b, c, d, e, f, g⟩ := hW.2
      exact ⟨a.frp f1, b.frp f1, c, d.frp f1, e.frp f1, hC, g⟩
    · rw [gi_ne (by omega), hT.1 100 6 0 (by decide) (by decide) (Or.inl (by decide))]; exact h6
  · refine pfx_bad (e := 2) (b := 0) (w := 1) hV ?_ ?_ rfl (by decide)
    · unfold sX9_bestBenches
      rw [show sX9_requireBetween S B p1 (1 : Int32) (200 : Int32) = some (.error 2) from h1]
      rfl
    · unfold sX10_bestBenches
      rw [olet_eq, h2 _ _ _ (by decide) (by decide), if_pos rfl]
      unfold sX10_bestBenches_j23
      rw [e_thr1, olet_eq, if_neg one_ne]
end BBN
