/-! ===== PLAY ===== -/
section PLA
variable {B m np nr ni : Nat} {S : XT} {T : Mem}
theorem e_part {R : Mem} {c x : Nat} (h : 5 * c + x < 200) : sX4_commandPart R (nI c) (nI x) = gi R 4 (5 * c + x) 0 := by
  unfold sX4_commandPart
  rw [n_lit 5, pk_mul, nI_add, olet_eq, if_neg (n_nn (by omega)), if_neg (by rw [n_lit 200, n_le (by omega) (by omega)]; omega), n_cl (by omega), show c * 5 + x = 5 * c + x by omega]
theorem e_isO {v : Nat} (h : gi T 5 4 0 = nI ni) (hn : ni ≤ 16) (hv : v < 2147483648) : sX10_isObject T (nI v) = if v < ni then 1 else 0 := by
  unfold sX10_isObject
  rw [show (4 : Int32).toNatClampNeg = 4 from rfl, h, e_inR, i64_0, n_i64 hv, n_sub1 (by omega)]
  by_cases e : v < ni
  · rw [if_pos e, if_pos (show (0 : Int) ≤ (v : Int) ∧ (v : Int) ≤ (ni : Int) - 1 by omega)]
  · rw [if_neg e, if_neg (show ¬ ((0 : Int) ≤ (v : Int) ∧ (v : Int) ≤ (ni : Int) - 1) by omega)]
theorem e_isR {v : Nat} (h : gi T 5 3 0 = nI nr) (hn : nr ≤ 10) (hv : v < 2147483648) : sX10_isRecipe T (nI v) = if v < nr then 1 else 0 := by
  unfold sX10_isRecipe
  rw [show (3 : Int32).toNatClampNeg = 3 from rfl, h, e_inR, i64_0, n_i64 hv, n_sub1 (by omega)]
  by_cases e : v < nr
  · rw [if_pos e, if_pos (show (0 : Int) ≤ (v : Int) ∧ (v : Int) ≤ (nr : Int) - 1 by omega)]
  · rw [if_neg e, if_neg (show ¬ ((0 : Int) ≤ (v : Int) ∧ (v : Int) ≤ (nr : Int) - 1) by omega)]
theorem e_btwR {lo hi k : Nat} (h1 : lo ≤ k) (h2 : k ≤ hi) (h3 : hi < 1000000) : sX9_requireBetween S B (nI k) (nI lo) (nI hi) = some (.ok ()) := by
  unfold sX9_requireBetween
  rw [if_neg (by rw [n_lt (by omega) (by omega)]; omega), if_pos (by rw [n_le (by omega) (by omega)]; exact h2)]
/-- what a command of a script comes to -/
def PfG (B m np nr ni : Nat) (S : XT) (T : Mem) (x : Option (Except (Nat × XT) (Int32 × XT))) (y : Option (Int32 × Mem)) : Prop := ∃ v S' T', x = some (.ok (v, S')) ∧ y = some (if v < 0 then 0 else 1, T') ∧ IVn B (m + 1) S' T' np nr ni ∧ StI S' ∧ S'.2.2.2.1 = S.2.2.2.1 ∧ KC T' = KC T
/-- an act, done -/
theorem pf_act {x : Option (Except (Nat × XT) (Int32 × XT))} {y : Option (Int32 × Mem)} (hx : ∃ v S' T', x = some (.ok (v, S')) ∧ y = some (v, T') ∧ IVn B (m + 1) S' T' np nr ni ∧ gi T' 100 6 0 = gi T 100 6 0) (hs : PO XW x) (hr : PO (RK S.2.2.2.1) x) (hk : PO (fun r : Int32 × Mem => KC r.2 = KC T) y) : PfG B m np nr ni S T (oexc x (fun e => (e.1, e.2)) fun w => some (.ok ((w.1, w.2)))) (obind y fun r => if r.1 < 0 then some (((0 : Int32), r.2)) else some (((1 : Int32), r.2))) := by
  obtain ⟨v, S', T', rfl, rfl, h3, -⟩ := hx
  refine ⟨v, S', T', rfl, ?_, h3, hs _ rfl, hr _ rfl, hk _ rfl⟩
  rw [obind_some]
  by_cases e : v < 0
  · rw [if_pos e, if_pos e]
  · rw [if_neg e, if_neg e]
theorem pf_no (hV : IVn B (m + 1) S T np nr ni) (hst : StI S) : PfG B m np nr ni S T (some (.ok (((-4 : Int32), S)))) (some (((0 : Int32), T))) := ⟨-4, S, T, rfl, by rw [if_pos (by decide)], hV, hst, rfl, rfl⟩
theorem e_perf {c k : Nat} (hV : IVn B (m + 1) S T np nr ni) (hst : StI S) (hk : k ≤ 40) (hc : c < k) (hD : CmD S.2.2.2.1 T c) : PfG B m np nr ni S T (sX9_perform S B (nI c)) (sX10_isDone T ((5 : Int32) * nI c)) := by
  obtain ⟨w, v, hw, r0, t0, hv⟩ := hD
  have hR := hV.1
  have hni : ni ≤ 16 := hR.1.1.2.2
  have hnr : nr ≤ 10 := hR.1.1.2.1
  have e9 : gi S.2.2.2.2.2.1 0 9 0 = nI ni := hR.1.2.1.2.2
  have e8 : gi S.2.2.2.2.2.1 0 8 0 = nI nr := hR.1.2.1.2.1
  have t4 : gi T 5 4 0 = nI ni := hR.1.2.2.1.2.2
  have t3 : gi T 5 3 0 = nI nr := hR.1.2.2.1.2.1
  have hcc := ccn_le hw
  obtain ⟨q1, q2, q3, q4⟩ := hv 0 (by omega)
  have p0 : sX4_commandPart S.2.2.2.1 (nI c) (0 : Int32) = nI (5 + w) := (e_part (x := 0) (by omega)).trans r0
  have p1 : sX4_commandPart S.2.2.2.1 (nI c) (1 : Int32) = nI (v 0) := (e_part (x := 1) (by omega)).trans q1
  have i0 : (5 : Int32) * nI c = nI (5 * c) := by rw [n_lit 5, pk_mul]
  have i1 : nI (5 * c) + (1 : Int32) = nI (5 * c + 1) := n_suc _
  have i2 : nI (5 * c) + (2 : Int32) = nI (5 * c + 1 + 1) := by rw [n_lit 2, nI_add]
  have i3 : nI (5 * c) + (3 : Int32) = nI (5 * c + 1 + 2) := by rw [n_lit 3, nI_add]
  have i4 : nI (5 * c) + (4 : Int32) = nI (5 * c + 1 + 3) := by rw [n_lit 4, nI_add]
  have q2' : gi T 22 (5 * c + 1) 0 = nI (v 0) := q2
  unfold sX9_perform
  rw [olet_eq, olet_eq, olet_eq, p0, p1]
  unfold sX10_isDone
  rw [i0, i1, n_inb (by omega) (by omega), oif_t rfl, olet_eq, n_cl (n := 5 * c + 1) (by omega), q2', n_inb (by omega) (by omega), oif_t rfl, n_cl (n := 5 * c) (by omega), t0]
  by_cases w5 : w = 5
  · subst w5
    have b1 : 1 ≤ v 0 := q3
    have b2 : v 0 ≤ 1000 := q4
    rw [if_pos (show nI (5 + 5) = (10 : Int32) from rfl), if_pos (show nI 5 = (5 : Int32) from rfl)]
    exact pf_act (do_tick hV b1 b2) (st_tick hst e9 hni) rk_tick (kc_tickNow rfl)
  · have b15 : v 0 ≤ 15 := by
      have : w = 0 ∨ w = 1 ∨ w = 2 ∨ w = 3 ∨ w = 4 := by omega
      rcases this with rfl | rfl | rfl | rfl | rfl <;> exact q4
    rw [if_neg (show ¬ nI (5 + w) = (10 : Int32) by rw [n_lit 10, n_eq (by omega) (by omega)]; omega), if_neg (show ¬ nI w = (5 : Int32) by rw [n_lit 5, n_eq (by omega) (by omega)]; exact w5), e9, e_isO t4 hni (by omega)]
    by_cases ho : v 0 < ni
    · rw [if_neg (show ¬ nI ni ≤ nI (v 0) by rw [n_le (by omega) (by omega)]; omega), if_pos ho, if_neg one_ne, oif_t rfl]
      have : w = 0 ∨ w = 1 ∨ w = 2 ∨ w = 3 ∨ w = 4 := by omega
      rcases this with rfl | rfl | rfl | rfl | rfl
      · obtain ⟨s1, s2, s3, s4⟩ := hv 1 (by decide)
        have s4' : v 1 ≤ 9 := s4
        have p2 : sX4_commandPart S.2.2.2.1 (nI c) (2 : Int32) = nI (v 1) := (e_part (x := 2) (by omega)).trans s1
        rw [p2, if_pos (show nI (5 + 0) = (5 : Int32) from rfl), e8, if_pos (show nI 0 = (0 : Int32) from rfl), i2, n_inb (by omega) (by omega), oif_t rfl, oif_t rfl, n_cl (by omega), s2, e_isR t3 hnr (by omega)]
        by_cases hr : v 1 < nr
        · rw [if_pos (show nI (v 1) < nI nr by rw [n_lt (by omega) (by omega)]; exact hr), if_pos hr, if_neg one_ne]
          unfold sX9_perform_j74
          rw [if_pos (show nI (5 + 0) = (5 : Int32) from rfl)]
          exact pf_act (do_plan hV ho hr) (st_plan hst) rk_plan (kc_planNow rfl)
        · rw [if_neg (show ¬ nI (v 1) < nI nr by rw [n_lt (by omega) (by omega)]; exact hr), if_neg hr, if_pos rfl]
          exact pf_no hV hst
      · rw [if_neg (show ¬ nI (5 + 1) = (5 : Int32) by decide), if_neg (show ¬ nI 1 = (0 : Int32) by decide), if_pos (show nI 1 = (1 : Int32) from rfl)]
        unfold sX9_perform_j74
        rw [if_neg (show ¬ nI (5 + 1) = (5 : Int32) by decide), if_pos (show nI (5 + 1) = (6 : Int32) from rfl)]
        exact pf_act (do_cancel hV ho) (st_cancel hst) rk_cancel (kc_cancelNow rfl)
      · rw [if_neg (show ¬ nI (5 + 2) = (5 : Int32) by decide), if_neg (show ¬ nI 2 = (0 : Int32) by decide), if_neg (show ¬ nI 2 = (1 : Int32) by decide), if_pos (show nI 2 = (2 : Int32) from rfl)]
        unfold sX9_perform_j74
        rw [if_neg (show ¬ nI (5 + 2) = (5 : Int32) by decide), if_neg (show ¬ nI (5 + 2) = (6 : Int32) by decide), if_pos (show nI (5 + 2) = (7 : Int32) from rfl)]
        exact pf_act (do_approve hV ho) (st_approve hst) rk_approve (kc_approveNow rfl)
      · obtain ⟨s1, s2, s3, s4⟩ := hv 1 (by decide)
        obtain ⟨u1, u2, u3, u4⟩ := hv 2 (by decide)
        obtain ⟨y1, y2, y3, y4⟩ := hv 3 (by decide)
        have s4' : v 1 ≤ 20000 := s4
        have u4' : v 2 ≤ 1000 := u4
        have y3' : 1 ≤ v 3 := y3
        have y4' : v 3 ≤ 500 := y4
        have p2 : sX4_commandPart S.2.2.2.1 (nI c) (2 : Int32) = nI (v 1) := (e_part (x := 2) (by omega)).trans s1
        have p3 : sX4_commandPart S.2.2.2.1 (nI c) (3 : Int32) = nI (v 2) := (e_part (x := 3) (by omega)).trans u1
        have p4 : sX4_commandPart S.2.2.2.1 (nI c) (4 : Int32) = nI (v 3) := (e_part (x := 4) (by omega)).trans y1
        rw [p2, if_neg (show ¬ nI (5 + 3) = (5 : Int32) by decide), if_neg (show ¬ nI 3 = (0 : Int32) by decide), if_neg (show ¬ nI 3 = (1 : Int32) by decide), if_neg (show ¬ nI 3 = (2 : Int32) by decide), if_pos (show nI 3 = (3 : Int32) from rfl), i2, i3, i4, n_inb (by omega) (by omega), oif_t rfl, n_inb (by omega) (by omega), oif_t rfl, n_inb (by omega) (by omega), oif_t rfl, n_cl (by omega), n_cl (by omega), n_cl (by omega), s2, u2, y2]
        unfold sX9_perform_j74
        rw [if_neg (show ¬ nI (5 + 3) = (5 : Int32) by decide), if_neg (show ¬ nI (5 + 3) = (6 : Int32) by decide), if_neg (show ¬ nI (5 + 3) = (7 : Int32) by decide), if_pos (show nI (5 + 3) = (8 : Int32) from rfl), p3, p4]
        exact pf_act (do_lend hV ho s4' u4' y3' y4' e_btwR) (st_lend hst) rk_lend (kc_lendNow rfl)
      · rw [if_neg (show ¬ nI (5 + 4) = (5 : Int32) by decide), if_neg (show ¬ nI 4 = (0 : Int32) by decide), if_neg (show ¬ nI 4 = (1 : Int32) by decide), if_neg (show ¬ nI 4 = (2 : Int32) by decide), if_neg (show ¬ nI 4 = (3 : Int32) by decide)]
        unfold sX9_perform_j74
        rw [if_neg (show ¬ nI (5 + 4) = (5 : Int32) by decide), if_neg (show ¬ nI (5 + 4) = (6 : Int32) by decide), if_neg (show ¬ nI (5 + 4) = (7 : Int32) by decide), if_neg (show ¬ nI (5 + 4) = (8 : Int32) by decide), if_pos (show nI (5 + 4) = (9 : Int32) from rfl)]
        exact pf_act (do_recall hV ho) (st_recall hst) rk_recall (kc_recallNow rfl)
    · rw [if_pos (show nI ni ≤ nI (v 0) by rw [n_le (by omega) (by omega)]; omega), if_neg ho, if_pos rfl]
      exact pf_no hV hst
theorem CmR.kc {R T T' : Mem} {k : Nat} (h : CmR R T k) (hK : KC T' = KC T) : CmR R T' k := by
  have h1 : ∀ j, gi T' 22 j 0 = gi T 22 j 0 := fun j => congrFun (congrArg Prod.fst hK) j
  have h2 : gi T' 100 23 0 = gi T 100 23 0 := congrArg Prod.snd hK
  obtain ⟨c1, c2, c3, c4⟩ := h
  exact ⟨c1, h2.trans c2, c3, fun c hc => (c4 c hc).cg (fun _ _ => rfl) (fun _ _ => h1 _)⟩
/-- the commands are done, as far as they go -/
theorem sim_run {k : Nat} (hV : IVn B (m + 1) S T np nr ni) (hst : StI S) (hC : CmR S.2.2.2.1 T k) : ∃ v S' T', sX9_play_l15 B ((0 : Int32), S) = some (.ok (v, S')) ∧ sX10_play_l49 ((0 : Int32), T) = some (v, T') ∧ IVn B (m + 1) S' T' np nr ni ∧ StI S' := by
  unfold sX9_play_l15 sX10_play_l49
  obtain ⟨b, b', g1, g2, v, S', T', rfl, rfl, g3⟩ := itw_two (f := sX9_play_l15_step B) (g := sX10_play_l49_step) (J := fun q a a' => ∃ c S' T', c ≤ k ∧ q = k - c ∧ a = (nI c, S') ∧ a' = (nI c, T') ∧ IVn B (m + 1) S' T' np nr ni ∧ StI S' ∧ CmR S'.2.2.2.1 T' k) (P := fun b b' => ∃ v S' T', b = .ok (v, S') ∧ b' = (v, T') ∧ IVn B (m + 1) S' T' np nr ni ∧ StI S') (fun q a a' => by
    rintro ⟨c, S', T', c1, rfl, rfl, rfl, h1, h2, h3⟩
    have h3' := h3
    obtain ⟨k1, k2, k3, k4⟩ := h3'
    unfold sX9_play_l15_step sX10_play_l49_step
    dsimp only
    rw [k1, k2]
    by_cases e : k ≤ c
    · have hle : nI k ≤ nI c := by rw [n_le (by omega) (by omega)]; exact e
      have ek : k = c := by omega
      subst ek
      rw [if_pos hle, if_pos hle]
      exact Or.inl ⟨_, _, rfl, rfl, nI k, S', T', rfl, rfl, h1, h2⟩
    · have hle : ¬ nI k ≤ nI c := by rw [n_le (by omega) (by omega)]; exact e
      rw [if_neg hle, if_neg hle]
      obtain ⟨v, S2, T2, p1, p2, p3, p4, p5, p6⟩ := e_perf h1 h2 k3 (by omega) (k4 c (by omega))
      rw [p1, p2, obind_some]
      dsimp only [oexcl]
      by_cases hv : v < 0
      · rw [if_neg (Int32.not_le.mpr hv), if_pos hv, if_pos rfl]
        exact Or.inl ⟨_, _, rfl, rfl, nI c, S2, T2, rfl, rfl, p3, p4⟩
      · rw [if_pos (Int32.not_lt.mp hv), if_neg hv, if_neg one_ne, olet_eq, n_suc]
        refine Or.inr ⟨_, _, k - (c + 1), by omega, rfl, rfl, c + 1, S2, T2, by omega, rfl, rfl, rfl, p3, p4, ?_⟩
        rw [p5]
        exact h3.kc p6) (k := k - 0) (a := ((0 : Int32), S)) (a' := ((0 : Int32), T)) ⟨0, S, T, by omega, rfl, rfl, rfl, hV, hst, hC⟩
  exact ⟨v, S', T', g1, g2, g3⟩
theorem call_play (h : IV B (m + 1) S T) (hst : StI S) : PFA (uE (sX9_play S B)) (sX10_play T) (fun S' T' => IV B m S' T' ∧ StI S') := by
  obtain ⟨np, nr, ni, hV⟩ := h
  obtain ⟨⟨n, n1, n2, n3, n4⟩, -, -⟩ := hV.2.2.2.2.1
  have hT0 : FrQ T (si (si (si (si (si T 100 6 0 0) 100 23 0 0) 100 14 0 0) 100 15 0 (-1)) 100 13 0 0) := ((((FrQ.set (by omega)).trans (FrQ.set (by omega))).trans (FrQ.set (by omega))).trans (FrQ.set (by omega))).trans (FrQ.set (by omega))
  have hM : sX10_play T = obind (sX10_advance (si (si (si (si (si T 100 6 0 0) 100 23 0 0) 100 14 0 0) 100 15 0 (-1)) 100 13 0 0)) fun r7 => sX10_play_l16 ((1 : Int32), r7) := by
    unfold sX10_play
    rw [olet_eq]
    simp only [olet_eq]
    unfold sX10_beginText
    simp only [olet_eq]
    cases sX10_advance (si (si (si (si (si T 100 6 0 0) 100 23 0 0) 100 14 0 0) 100 15 0 (-1)) 100 13 0 0) with
    | none => rfl
    | some r => rfl
  have m12 : gi (si (si (si (si (si T 100 6 0 0) 100 23 0 0) 100 14 0 0) 100 15 0 (-1)) 100 13 0 0) 100 12 0 = nI n := by
    repeat (first | rw [gi_ne (by omega)] | rw [gi_eq2 (by omega)])
    exact n3
  have m11 : ∀ j, gi (si (si (si (si (si T 100 6 0 0) 100 23 0 0) 100 14 0 0) 100 15 0 (-1)) 100 13 0 0) 11 j 0 = gi T 11 j 0 := fun j => by
    repeat (first | rw [gi_ne (by omega)] | rw [gi_eq2 (by omega)])
  have m23 : gi (si (si (si (si (si T 100 6 0 0) 100 23 0 0) 100 14 0 0) 100 15 0 (-1)) 100 13 0 0) 100 23 0 = 0 := by
    repeat (first | rw [gi_ne (by omega)] | rw [gi_eq2 (by omega)])
  have m14 : gi (si (si (si (si (si T 100 6 0 0) 100 23 0 0) 100 14 0 0) 100 15 0 (-1)) 100 13 0 0) 100 14 0 = 0 := by
    repeat (first | rw [gi_ne (by omega)] | rw [gi_eq2 (by omega)])
  have m15 : gi (si (si (si (si (si T 100 6 0 0) 100 23 0 0) 100 14 0 0) 100 15 0 (-1)) 100 13 0 0) 100 15 0 = -1 := by
    repeat (first | rw [gi_ne (by omega)] | rw [gi_eq2 (by omega)])
  have m13 : gi (si (si (si (si (si T 100 6 0 0) 100 23 0 0) 100 14 0 0) 100 15 0 (-1)) 100 13 0 0) 100 13 0 = nI 0 := gi_eq2 ⟨rfl, rfl, rfl⟩
  rw [hM]
  generalize si (si (si (si (si T 100 6 0 0) 100 23 0 0) 100 14 0 0) 100 15 0 (-1)) 100 13 0 0 = T0 at hT0 m12 m11 m23 m14 m15 m13
  have b0 : ∀ c j i, (c ≠ 1 ∨ j < 2) → (c ≠ 0 ∨ j < 3) → gi (sX4_begin S.2.2.2.1) c j i = gi S.2.2.2.1 c j i := fun c j i h1 h2 => by
    unfold sX4_begin sX8_rewind
    simp only [olet_eq]
    repeat (first | rw [gi_ne (by omega)] | rw [gi_eq2 (by omega)])
  have b14 : gi (sX4_begin S.2.2.2.1) 1 4 0 = nI 0 := by
    unfold sX4_begin sX8_rewind
    simp only [olet_eq]
    repeat (first | rw [gi_ne (by omega)] | rw [gi_eq2 (by omega)])
    rfl
  have b03 : gi (sX4_begin S.2.2.2.1) 0 3 0 = 0 := by
    unfold sX4_begin sX8_rewind
    simp only [olet_eq]
    repeat (first | rw [gi_ne (by omega)] | rw [gi_eq2 (by omega)])
  have b04 : gi (sX4_begin S.2.2.2.1) 0 4 0 = 0 := by
    unfold sX4_begin sX8_rewind
    simp only [olet_eq]
    repeat (first | rw [gi_ne (by omega)] | rw [gi_eq2 (by omega)])
  have b05 : gi (sX4_begin S.2.2.2.1) 0 5 0 = -1 := by
    unfold sX4_begin sX8_rewind
    simp only [olet_eq]
    repeat (first | rw [gi_ne (by omega)] | rw [gi_eq2 (by omega)])
  have hTx : TxN (sX4_begin S.2.2.2.1) T0 n := ⟨(b0 1 1 0 (Or.inr (by omega)) (Or.inl (by decide))).trans n2, m12, fun j hj => by rw [b0 2 j 0 (Or.inl (by decide)) (Or.inl (by decide)), m11]; exact n4 j hj⟩
  obtain ⟨R9, T1, s, e, kd, -, s2, -, -, -, s6⟩ := sim_step hTx n1 b14 m13 (Nat.zero_le _)
  have hA : Ahd (sX4_begin S.2.2.2.1) T1 n 0 := ⟨hTx.frA s6, n1, b14, Nat.zero_le _, T0, T1, m13, fun j => (s6.1 11 j 0 (Or.inl (by decide))).symm, m12, s2, fun _ _ => rfl, rfl⟩
  have t100 : ∀ j, j = 14 ∨ j = 15 ∨ j = 23 → gi T1 100 j 0 = gi T0 100 j 0 := fun j hj => s6.1 100 j 0 (Or.inr (by omega))
  have hE : ErR (sX4_begin S.2.2.2.1) T1 := ⟨by rw [b04, t100 14 (by omega), m14], by rw [b05, t100 15 (by omega), m15]⟩
  have hC : CmR (sX4_begin S.2.2.2.1) T1 0 := ⟨b03, (t100 23 (by omega)).trans m23, by omega, fun c hc => by omega⟩
  have hT1 : FrQ T T1 := hT0.trans s6.Q
  rw [s2, obind_some]
  have hRS : sX4_readScript S.2.2.2.1 = sX4_readScript_l8 ((1 : Int32), nI 0, sX4_begin S.2.2.2.1) := by
    unfold sX4_readScript
    rw [olet_eq]
    rfl
  unfold sX9_play
  rw [hRS]
  rcases sim_script (n - 0) 0 0 _ _ (by omega) hA hT1 hC hE with ⟨R', T', g1, g2, g3, g4, g5, g6⟩ | ⟨R1, T2, k', g1, g2, g3, g4, g5⟩
  · rw [g1, g2, obind_some, if_pos rfl]
    exact ⟨_, _, _, rfl, rfl, ⟨np, nr, ni, (hV.mono (Nat.le_succ _)).text (R' := R') g6 ⟨⟨0, by omega, g3, g4, fun j hj => by omega⟩, g5.1, g5.2⟩⟩, hst⟩
  · have hW : IVn B (m + 1) (S.1, S.2.1, S.2.2.1, si R1 1 1 0 0, S.2.2.2.2.1, S.2.2.2.2.2.1, S.2.2.2.2.2.2) (si T2 100 12 0 0) np nr ni := hV.text (g5.trans (FrQ.set (by omega))) ⟨⟨0, by omega, gi_eq2 ⟨rfl, rfl, rfl⟩, gi_eq2 ⟨rfl, rfl, rfl⟩, fun j hj => by omega⟩, by rw [gi_ne (by omega), gi_ne (by omega)]; exact g4.1, by rw [gi_ne (by omega), gi_ne (by omega)]; exact g4.2⟩
    have hC2 : CmR (si R1 1 1 0 0) (si T2 100 12 0 0) k' := by
      obtain ⟨c1, c2, c3, c4⟩ := g3
      exact ⟨(gi_ne (by omega)).trans c1, (gi_ne (by omega)).trans c2, c3, fun c hc => (c4 c hc).cg (fun _ _ => gi_ne (by omega)) (fun _ _ => gi_ne (by omega))⟩
    obtain ⟨v, S', T', r1, r2, r3, r4⟩ := sim_run (S := (S.1, S.2.1, S.2.2.1, si R1 1 1 0 0, S.2.2.2.2.1, S.2.2.2.2.2.1, S.2.2.2.2.2.2)) hW hst hC2
    rw [g1, g2, obind_some, if_neg one_ne]
    dsimp only
    rw [r1, r2]
    exact ⟨v, S', T', rfl, rfl, ⟨np, nr, ni, r3.mono (Nat.le_succ _)⟩, r4⟩
end PLA
