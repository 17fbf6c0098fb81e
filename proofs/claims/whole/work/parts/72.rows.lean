/-! ===== PRESSES, OBJECTS, RECIPES; LOAD ===== -/
section LOA
variable {R T R1 T1 R' T' D D' : Mem} {n np nr ni np' nr' ni' : Nat}
theorem DrH.up (h : DrH R D T np nr ni) (hR : ∀ j, gi R' 0 j 0 = gi R 0 j 0) (h100 : ∀ j, j = 14 ∨ j = 15 ∨ j = 20 ∨ j = 21 → gi T' 100 j 0 = gi T 100 j 0) (hD0 : ∀ j, 10 ≤ j → gi D' 0 j 0 = gi D 0 j 0) (hD5 : ∀ j, gi D' 5 j 0 = gi D 5 j 0) (hN : ∀ i, gi D' 3 0 i = gi D 3 0 i) (h129 : ∀ j, j = 129 ∨ j = 130 → gi T' 5 j 0 = gi T 5 j 0) (hc : np' ≤ 6 ∧ nr' ≤ 10 ∧ ni' ≤ 16) (hDc : gi D' 0 7 0 = nI np' ∧ gi D' 0 8 0 = nI nr' ∧ gi D' 0 9 0 = nI ni') (hTc : gi T' 5 131 0 = nI np' ∧ gi T' 5 132 0 = nI nr' ∧ gi T' 5 133 0 = nI ni') : DrH R' D' T' np' nr' ni' := by
  obtain ⟨⟨a1, a2⟩, ⟨b1, b2⟩, -, -, -, ⟨x, e1⟩, ⟨y, e2⟩, f, g, k⟩ := h
  refine ⟨⟨?_, ?_⟩, ⟨?_, ?_⟩, hc, hDc, hTc, ⟨x, ?_⟩, ⟨y, ?_⟩, fun i hi => (hN i).trans (f i hi), ?_, ?_⟩
  · rw [hR, h100 14 (by omega)]; exact a1
  · rw [hR, h100 15 (by omega)]; exact a2
  · rw [hR, h100 20 (by omega)]; exact b1
  · rw [hR, h100 21 (by omega)]; exact b2
  · rw [hD0 10 (by omega), h129 129 (by omega)]; exact e1
  · rw [hD0 11 (by omega), h129 130 (by omega)]; exact e2
  · rw [hD0 12 (by omega), hD0 13 (by omega), hD0 14 (by omega), hD0 15 (by omega)]; exact g
  · rw [hD5, hD5]; exact k
/-- what the Model's memory is behind the numbers of a row -/
theorem row_fr {e p' q c cnt : Nat} {a lo hi v : Nat → Nat} (hc : 2 ≤ c ∧ c ≤ 4) (hF : FrA T T1) (hN : NS R (si T1 5 (129 + c) 0 (nI (cnt + 1))) n 5 a lo hi q p' v R' T') (ha : ∀ x, x < q → 134 ≤ a x) : (∀ j, j ≠ 129 + c → (∀ x, x < q → j ≠ a x) → gi T' 5 j 0 = gi T 5 j 0) ∧ gi T' 5 (129 + c) 0 = nI (cnt + 1) ∧ (∀ j, j = 14 ∨ j = 15 ∨ j = 20 ∨ j = 21 → gi T' 100 j 0 = gi T 100 j 0) ∧ (∀ j, gi R' 0 j 0 = gi R 0 j 0) ∧ FrQ T T' := by
  obtain ⟨n1, n2, n3, n4, n5⟩ := hN
  refine ⟨fun j hj hx => ?_, ?_, fun j hj => ?_, fun j => n4 0 j 0 (by decide) (Or.inl (by decide)), (hF.Q.trans (FrQ.set (by omega))).trans n2⟩
  · rw [n5 5 j (Or.inl (by decide)) (Or.inr hx), gi_ne (by omega), hF.1 5 j 0 (Or.inl (by decide))]
  · rw [n5 5 (129 + c) (Or.inl (by decide)) (Or.inr fun x hx => by have := ha x hx; omega), gi_eq2 ⟨rfl, rfl, rfl⟩]
  · rw [n5 100 j (Or.inr (by omega)) (Or.inl (by decide)), gi_ne (by omega), hF.1 100 j 0 (Or.inr (by omega))]
/-- the shape of a row's reading in the program -/
noncomputable def RDX (R D : Mem) (w : Int32) : Option (Int32 × (Mem × Mem)) := sX4_readStatement_j45 (R, D) w
theorem rdx_full {w : Int32} (h : sX4_isFull D w = 1) : RDX R D w = some ((sX4_failed R 4).1, ((sX4_failed R 4).2, D)) := by
  unfold RDX sX4_readStatement_j45
  dsimp only
  rw [h, if_neg one_ne, olet_eq]
theorem rdx_room {w : Int32} (h : sX4_isFull D w = 0) : RDX R D w = obind (sX4_readNumbers R w) fun r10 => if r10.1 = 0 then some (((0 : Int32), (r10.2, D))) else olet (sX4_addTo (r10.2, D) w) fun S16 => some (((1 : Int32), S16)) := by
  unfold RDX sX4_readStatement_j45
  dsimp only
  rw [h, if_pos rfl]
theorem st_press {s e kd : Nat} (h : TkR R T n s e kd) (hD : DrR R D T np nr ni) : StG T n e (RDX R D 2) (olet ((5 : Int32) + (gi T 5 (131 : Int32).toNatClampNeg 0)) fun v54 => obind (sX10_beginRow T (2 : Int32) (6 : Int32)) fun r55 => if r55.1 = 0 then some (((0 : Int32), r55.2)) else obind (sX10_readInto r55.2 v54 (1 : Int32) (100 : Int32)) fun r59 => if r59.1 = 0 then some (((0 : Int32), r59.2)) else obind (sX10_readEnd r59.2) fun r63 => if r63.1 = 0 then some (((0 : Int32), r63.2)) else some (((1 : Int32), r63.2))) D := by
  obtain ⟨hH, dP, dR, dI⟩ := hD
  have hH2 := hH
  obtain ⟨-, -, ⟨c1, c2, c3⟩, ⟨D7, D8, D9⟩, ⟨t1, t2, t3⟩, -⟩ := hH2
  rw [olet_eq]
  rcases st_begin (C := 2) (M := 6) (c := 2) (mx := 6) rfl rfl (by omega) h t1 c1 (by omega) with ⟨q, b⟩ | ⟨q, T1, b, b2, b3⟩
  · subst q
    refine st_fail (c := 4) h FrQ.refl (rdx_full ?_) ?_
    · unfold sX4_isFull
      rw [if_pos rfl, D7, if_neg (by decide)]
    · rw [b, obind_some, if_pos (show (sX10_fail T 4).1 = 0 from rfl)]; rfl
  · have hfull : sX4_isFull D 2 = 0 := by
      unfold sX4_isFull
      rw [if_pos rfl, D7, if_pos (by rw [n_lit 6, n_lt (by omega) (by omega)]; exact q)]
    rw [b, obind_some, if_neg one_ne, rdx_room hfull]
    dsimp only
    have hA : Ahd R (si T1 5 131 0 (nI (np + 1))) n e := b2.cg rfl rfl (fun _ => rfl) (fun j => gi_ne (by omega)) (fun j hj => gi_ne (by omega)) rfl
    have h54 : (5 : Int32) + gi T 5 (131 : Int32).toNatClampNeg 0 = nI (5 + np) := by
      rw [show (131 : Int32).toNatClampNeg = 131 from rfl, t1, n_lit 5, nI_add]
    refine st_end (k := 2) (G := fun R' T' => ∃ v p', e < p' ∧ NS R (si T1 5 131 0 (nI (np + 1))) n 5 (fun _ => 134 + np) (fun _ => 1) (fun _ => 100) 1 p' v R' T') rfl ?_ (b3.Q.trans (FrQ.set (c := 5) (j := 131) (i := 0) (v := nI (np + 1)) (by omega))) (fun R' T' hG => ?_)
    · exact c_into (k := 2) (at_ := 5 + np) (K := fun r59 => obind (sX10_readEnd r59.2) fun r63 => if r63.1 = 0 then some (((0 : Int32), r63.2)) else some (((1 : Int32), r63.2))) (NS.start (cc := 5) (a := fun _ => 134 + np) (lo := fun _ => 1) (hi := fun _ => 100) (v := fun _ => 0) hA) h54 rfl rfl (show 134 + np = 129 + (5 + np) by omega) (by omega) (fun j hj => by omega) (by decide) (by decide) rfl rfl (by decide) (by decide) (fun R' T' v' p' hp hN => c_end (K := fun r63 => some (((1 : Int32), r63.2))) hN (Or.inl rfl) rfl (by decide) (fun T' => rfl) (fun R'' T'' p'' hp2 hN2 => ⟨v', p'', by omega, hN2⟩))
    · obtain ⟨v, p', pe, hN⟩ := hG
      obtain ⟨g5, g131, g100, gR, gQ⟩ := row_fr (e := e) (c := 2) (by omega) b3 hN (fun x hx => by omega)
      obtain ⟨n1, n2, n3, n4, n5⟩ := hN
      obtain ⟨m1, m2, m3, m4⟩ := n3 0 (by omega)
      have g5' : ∀ j, j ≠ 131 → j ≠ 134 + np → gi T' 5 j 0 = gi T 5 j 0 := fun j h1 h2 => g5 j h1 (fun _ _ => h2)
      have hadd : sX4_addTo (R', D) 2 = (R', si (si (si (si D 1 0 np (nI (v 0))) 1 1 np (-1)) 1 2 np 0) 0 7 0 (nI (np + 1))) := by
        have q0 : sX4_number R' (0 : Int32) = nI (v 0) := (e_num (q := 0) (by omega)).trans m1
        unfold sX4_addTo sX7_addPress sX3_clear
        simp only [olet_eq]
        rw [if_neg (show ¬ (2 : Int32) = 0 by decide), if_neg (show ¬ (2 : Int32) = 1 by decide), if_pos True.intro, D7, e_pressAt (by omega), q0]
        repeat (first | rw [gi_ne (by omega)] | rw [gi_eq2 (by omega)])
        rw [D7, n_suc]
      rw [hadd]
      dsimp only
      refine ⟨p', np + 1, nr, ni, n1, pe, gQ, hH.up gR g100 (fun j hj => ?_) (fun j => ?_) (fun i => ?_) (fun j hj => g5' j (by omega) (by omega)) ⟨by omega, c2, c3⟩ ⟨gi_eq2 ⟨rfl, rfl, rfl⟩, ?_, ?_⟩ ⟨g131, (g5' _ (by omega) (by omega)).trans t2, (g5' _ (by omega) (by omega)).trans t3⟩, fun p hp => ?_, fun r hr => (dR r hr).cg (fun w => ?_) (fun w hw => g5' _ (by omega) (by omega)), fun i hi => (dI i hi).cg (fun w => ?_) rfl (fun w hw => g5' _ (by omega) (by omega))⟩
      · repeat (first | rw [gi_ne (by omega)] | rw [gi_eq2 (by omega)])
      · repeat (first | rw [gi_ne (by omega)] | rw [gi_eq2 (by omega)])
      · repeat (first | rw [gi_ne (by omega)] | rw [gi_eq2 (by omega)])
      · repeat (first | rw [gi_ne (by omega)] | rw [gi_eq2 (by omega)])
        exact D8
      · repeat (first | rw [gi_ne (by omega)] | rw [gi_eq2 (by omega)])
        exact D9
      · by_cases ep : p = np
        · subst ep
          refine ⟨?_, ?_, v 0, m3, m4, ?_, m2⟩
          · repeat (first | rw [gi_ne (by omega)] | rw [gi_eq2 (by omega)])
          · repeat (first | rw [gi_ne (by omega)] | rw [gi_eq2 (by omega)])
          · repeat (first | rw [gi_ne (by omega)] | rw [gi_eq2 (by omega)])
        · refine (dP p (by omega)).cg (fun w => ?_) (g5' _ (by omega) (by omega))
          repeat (first | rw [gi_ne (by omega)] | rw [gi_eq2 (by omega)])
      · repeat (first | rw [gi_ne (by omega)] | rw [gi_eq2 (by omega)])
      · repeat (first | rw [gi_ne (by omega)] | rw [gi_eq2 (by omega)])
theorem st_object {s e kd : Nat} (h : TkR R T n s e kd) (hD : DrR R D T np nr ni) : StG T n e (RDX R D 4) (olet ((81 : Int32) + ((3 : Int32) * (gi T 5 (133 : Int32).toNatClampNeg 0))) fun v33 => obind (sX10_beginRow T (4 : Int32) (16 : Int32)) fun r34 => if r34.1 = 0 then some (((0 : Int32), r34.2)) else obind (sX10_readInto r34.2 (v33 + (0 : Int32)) (1 : Int32) (100 : Int32)) fun r38 => if r38.1 = 0 then some (((0 : Int32), r38.2)) else obind (sX10_readInto r38.2 (v33 + (2 : Int32)) (0 : Int32) (1000 : Int32)) fun r42 => if r42.1 = 0 then some (((0 : Int32), r42.2)) else obind (sX10_readInto r42.2 (v33 + (1 : Int32)) (0 : Int32) (3 : Int32)) fun r46 => if r46.1 = 0 then some (((0 : Int32), r46.2)) else obind (sX10_readEnd r46.2) fun r50 => if r50.1 = 0 then some (((0 : Int32), r50.2)) else some (((1 : Int32), r50.2))) D := by
  obtain ⟨hH, dP, dR, dI⟩ := hD
  have hH2 := hH
  obtain ⟨-, -, ⟨c1, c2, c3⟩, ⟨D7, D8, D9⟩, ⟨t1, t2, t3⟩, -⟩ := hH2
  rw [olet_eq]
  rcases st_begin (C := 4) (M := 16) (c := 4) (mx := 16) rfl rfl (by omega) h t3 c3 (by omega) with ⟨q, b⟩ | ⟨q, T1, b, b2, b3⟩
  · subst q
    refine st_fail (c := 4) h FrQ.refl (rdx_full ?_) ?_
    · unfold sX4_isFull
      rw [if_neg (by decide), if_neg (by decide), if_pos rfl, D9, if_neg (by decide)]
    · rw [b, obind_some, if_pos (show (sX10_fail T 4).1 = 0 from rfl)]; rfl
  · have hfull : sX4_isFull D 4 = 0 := by
      unfold sX4_isFull
      rw [if_neg (by decide), if_neg (by decide), if_pos rfl, D9, if_pos (by rw [n_lit 16, n_lt (by omega) (by omega)]; exact q)]
    rw [b, obind_some, if_neg one_ne, rdx_room hfull]
    dsimp only
    have hA : Ahd R (si T1 5 133 0 (nI (ni + 1))) n e := b2.cg rfl rfl (fun _ => rfl) (fun j => gi_ne (by omega)) (fun j hj => gi_ne (by omega)) rfl
    have h33 : (81 : Int32) + (3 : Int32) * gi T 5 (133 : Int32).toNatClampNeg 0 = nI (81 + 3 * ni) := by
      rw [show (133 : Int32).toNatClampNeg = 133 from rfl, t3, n_lit 81, n_lit 3, pk_mul, nI_add]
    rw [h33]
    refine st_end (k := 4) (G := fun R' T' => ∃ v p', e < p' ∧ NS R (si T1 5 133 0 (nI (ni + 1))) n 5 (fun x => 210 + 3 * ni + [0, 2, 1].getD x 0) (fun x => [1, 0, 0].getD x 0) (fun x => [100, 1000, 3].getD x 0) 3 p' v R' T') rfl ?_ (b3.Q.trans (FrQ.set (c := 5) (j := 133) (i := 0) (v := nI (ni + 1)) (by omega))) (fun R' T' hG => ?_)
    · exact c_into (k := 4) (at_ := 81 + 3 * ni + 0) (K := fun r38 => obind (sX10_readInto r38.2 (nI (81 + 3 * ni) + (2 : Int32)) (0 : Int32) (1000 : Int32)) fun r42 => if r42.1 = 0 then some (((0 : Int32), r42.2)) else obind (sX10_readInto r42.2 (nI (81 + 3 * ni) + (1 : Int32)) (0 : Int32) (3 : Int32)) fun r46 => if r46.1 = 0 then some (((0 : Int32), r46.2)) else obind (sX10_readEnd r46.2) fun r50 => if r50.1 = 0 then some (((0 : Int32), r50.2)) else some (((1 : Int32), r50.2))) (NS.start (cc := 5) (a := fun x => 210 + 3 * ni + [0, 2, 1].getD x 0) (lo := fun x => [1, 0, 0].getD x 0) (hi := fun x => [100, 1000, 3].getD x 0) (v := fun _ => 0) hA) (nI_add _ _) rfl rfl (show 210 + 3 * ni + 0 = 129 + (81 + 3 * ni + 0) by omega) (by omega) (fun j hj => by omega) (by decide) (by decide) rfl rfl (by decide) (by decide) (fun R1 T1 v1 p1 hp1 hN1 =>
        c_into (k := 4) (at_ := 81 + 3 * ni + 2) (K := fun r42 => obind (sX10_readInto r42.2 (nI (81 + 3 * ni) + (1 : Int32)) (0 : Int32) (3 : Int32)) fun r46 => if r46.1 = 0 then some (((0 : Int32), r46.2)) else obind (sX10_readEnd r46.2) fun r50 => if r50.1 = 0 then some (((0 : Int32), r50.2)) else some (((1 : Int32), r50.2))) hN1 (nI_add _ _) rfl rfl (show 210 + 3 * ni + 2 = 129 + (81 + 3 * ni + 2) by omega) (by omega) (fun j hj => by rw [show j = 0 by omega]; show 210 + 3 * ni + 0 ≠ 210 + 3 * ni + 2; omega) (by decide) (by decide) rfl rfl (by decide) (by decide) (fun R2 T2 v2 p2 hp2 hN2 =>
          c_into (k := 4) (at_ := 81 + 3 * ni + 1) (K := fun r46 => obind (sX10_readEnd r46.2) fun r50 => if r50.1 = 0 then some (((0 : Int32), r50.2)) else some (((1 : Int32), r50.2))) hN2 (nI_add _ _) rfl rfl (show 210 + 3 * ni + 1 = 129 + (81 + 3 * ni + 1) by omega) (by omega) (fun j hj => by
            have : j = 0 ∨ j = 1 := by omega
            rcases this with rfl | rfl
            · show 210 + 3 * ni + 0 ≠ 210 + 3 * ni + 1; omega
            · show 210 + 3 * ni + 2 ≠ 210 + 3 * ni + 1; omega) (by decide) (by decide) rfl rfl (by decide) (by decide) (fun R3 T3 v3 p3 hp3 hN3 => c_end (K := fun r50 => some (((1 : Int32), r50.2))) hN3 (Or.inl rfl) rfl (by decide) (fun T' => rfl) (fun R'' T'' p'' hp4 hN4 => ⟨v3, p'', by omega, hN4⟩))))
    · obtain ⟨v, p', pe, hN⟩ := hG
      have hax : ∀ x, x < 3 → 210 + 3 * ni ≤ 210 + 3 * ni + [0, 2, 1].getD x 0 ∧ 210 + 3 * ni + [0, 2, 1].getD x 0 < 210 + 3 * ni + 3 := fun x hx => by
        have : x = 0 ∨ x = 1 ∨ x = 2 := by omega
        rcases this with rfl | rfl | rfl
        · show 210 + 3 * ni ≤ 210 + 3 * ni + 0 ∧ 210 + 3 * ni + 0 < 210 + 3 * ni + 3; omega
        · show 210 + 3 * ni ≤ 210 + 3 * ni + 2 ∧ 210 + 3 * ni + 2 < 210 + 3 * ni + 3; omega
        · show 210 + 3 * ni ≤ 210 + 3 * ni + 1 ∧ 210 + 3 * ni + 1 < 210 + 3 * ni + 3; omega
      obtain ⟨g5, g133, g100, gR, gQ⟩ := row_fr (e := e) (c := 4) (by omega) b3 hN (fun x hx => by have := hax x hx; omega)
      obtain ⟨n1, n2, n3, n4, n5⟩ := hN
      obtain ⟨m1, m2, m3, m4⟩ := n3 0 (by omega)
      obtain ⟨k1, k2, k3, k4⟩ := n3 1 (by omega)
      obtain ⟨l1, l2, l3, l4⟩ := n3 2 (by omega)
      have g5' : ∀ j, j ≠ 133 → (j < 210 + 3 * ni ∨ 210 + 3 * ni + 3 ≤ j) → gi T' 5 j 0 = gi T 5 j 0 := fun j h1 h2 => g5 j h1 (fun x hx => by have := hax x hx; omega)
      have hadd : sX4_addTo (R', D) 4 = (R', si (sX2_clear D ni (nI (v 0)) (nI (v 1)) (nI (v 2))) 0 9 0 (nI (ni + 1))) := by
        have q0 : sX4_number R' (0 : Int32) = nI (v 0) := (e_num (q := 0) (by omega)).trans m1
        have q1 : sX4_number R' (1 : Int32) = nI (v 1) := (e_num (q := 1) (by omega)).trans k1
        have q2 : sX4_number R' (2 : Int32) = nI (v 2) := (e_num (q := 2) (by omega)).trans l1
        unfold sX4_addTo sX7_addItem
        simp only [olet_eq]
        rw [if_neg (show ¬ (4 : Int32) = 0 by decide), if_neg (show ¬ (4 : Int32) = 1 by decide), if_neg (show ¬ (4 : Int32) = 2 by decide), if_neg (show ¬ (4 : Int32) = 3 by decide), D9, e_itemAt (by omega), q0, q1, q2]
        have : gi (sX2_clear D ni (nI (v 0)) (nI (v 1)) (nI (v 2))) 0 9 0 = nI ni := by
          unfold sX2_clear sX2_layOnShelf
          simp only [olet_eq, gi_sq]
          repeat (first | rw [gi_ne (by omega)] | rw [gi_sq])
          exact D9
        rw [this, n_suc]
      have hD' : ∀ c j i, (c ≠ 3 ∨ i ≠ ni) → (c ≠ 0 ∨ j ≠ 9) → gi (si (sX2_clear D ni (nI (v 0)) (nI (v 1)) (nI (v 2))) 0 9 0 (nI (ni + 1))) c j i = gi D c j i := fun c j i h1 h2 => by
        unfold sX2_clear sX2_layOnShelf
        simp only [olet_eq]
        repeat (first | rw [gi_ne (by omega)] | rw [gi_sq])
      rw [hadd]
      dsimp only
      refine ⟨p', np, nr, ni + 1, n1, pe, gQ, hH.up gR g100 (fun j hj => hD' _ _ _ (by omega) (by omega)) (fun j => hD' _ _ _ (by omega) (by omega)) (fun i => ?_) (fun j hj => g5' j (by omega) (by omega)) ⟨c1, c2, by omega⟩ ⟨(hD' _ _ _ (by omega) (by omega)).trans D7, (hD' _ _ _ (by omega) (by omega)).trans D8, gi_eq2 ⟨rfl, rfl, rfl⟩⟩ ⟨(g5' _ (by omega) (by omega)).trans t1, (g5' _ (by omega) (by omega)).trans t2, g133⟩, fun p hp => (dP p hp).cg (fun w => hD' _ _ _ (by omega) (by omega)) (g5' _ (by omega) (by omega)), fun r hr => (dR r hr).cg (fun w => hD' _ _ _ (by omega) (by omega)) (fun w hw => g5' _ (by omega) (by omega)), fun i hi => ?_⟩
      · unfold sX2_clear sX2_layOnShelf
        simp only [olet_eq]
        repeat (first | rw [gi_ne (by omega)] | rw [gi_sq])
      · by_cases ei : i = ni
        · subst ei
          refine ⟨⟨?_, ?_, ?_, ?_, ?_, ?_, ?_, ?_, ?_⟩, ⟨v 0, m3, m4, ?_, m2⟩, ⟨v 1, k4, ?_, k2⟩, v 2, l4, ?_, l2⟩
          all_goals unfold sX2_clear sX2_layOnShelf
          all_goals simp only [olet_eq]
          all_goals repeat (first | rw [gi_ne (by omega)] | rw [gi_eq2 (by omega)] | rw [gi_sq])
          all_goals first | rfl | (show gq (sq _ 3 i 0) 3 i = 0; rw [gq_sq, if_pos ⟨rfl, rfl⟩])
        · refine (dI i (by omega)).cg (fun w => hD' _ _ _ (by omega) (by omega)) ?_ (fun w hw => g5' _ (by omega) (by omega))
          unfold sX2_clear sX2_layOnShelf
          simp only [olet_eq]
          show gq (sq _ 3 ni 0) 3 i = _
          rw [gq_sq, if_neg (by omega)]
          rfl
theorem st_recipe {s e kd : Nat} (h : TkR R T n s e kd) (hD : DrR R D T np nr ni) : StG T n e (RDX R D 3) (sX10_readRecipe T) D := by
  obtain ⟨hH, dP, dR, dI⟩ := hD
  have hH2 := hH
  obtain ⟨-, -, ⟨c1, c2, c3⟩, ⟨D7, D8, D9⟩, ⟨t1, t2, t3⟩, -⟩ := hH2
  unfold sX10_readRecipe
  rw [olet_eq]
  rcases st_begin (C := 3) (M := 10) (c := 3) (mx := 10) rfl rfl (by omega) h t2 c2 (by omega) with ⟨q, b⟩ | ⟨q, T1, b, b2, b3⟩
  · subst q
    refine st_fail (c := 4) h FrQ.refl (rdx_full ?_) ?_
    · unfold sX4_isFull
      rw [if_neg (by decide), if_pos rfl, D8, if_neg (by decide)]
    · rw [b, obind_some, if_pos (show (sX10_fail T 4).1 = 0 from rfl)]; rfl
  · have hfull : sX4_isFull D 3 = 0 := by
      unfold sX4_isFull
      rw [if_neg (by decide), if_pos rfl, D8, if_pos (by rw [n_lit 10, n_lt (by omega) (by omega)]; exact q)]
    rw [b, obind_some, if_neg one_ne, rdx_room hfull]
    dsimp only
    have hA : Ahd R (si T1 5 132 0 (nI (nr + 1))) n e := b2.cg rfl rfl (fun _ => rfl) (fun j => gi_ne (by omega)) (fun j hj => gi_ne (by omega)) rfl
    have h33 : (11 : Int32) + (7 : Int32) * gi T 5 (132 : Int32).toNatClampNeg 0 = nI (11 + 7 * nr) := by
      rw [show (132 : Int32).toNatClampNeg = 132 from rfl, t2, n_lit 11, n_lit 7, pk_mul, nI_add]
    rw [h33]
    refine st_end (k := 3) (G := fun R' T' => ∃ v p', e < p' ∧ NS R (si T1 5 132 0 (nI (nr + 1))) n 5 (fun x => 140 + 7 * nr + x) rlo rhi 7 p' v R' T') rfl ?_ (b3.Q.trans (FrQ.set (c := 5) (j := 132) (i := 0) (v := nI (nr + 1)) (by omega))) (fun R' T' hG => ?_)
    · exact c_into (k := 3) (at_ := 11 + 7 * nr + 0) (K := fun r6 => obind (sX10_readInto r6.2 (nI (11 + 7 * nr) + (1 : Int32)) (0 : Int32) (200 : Int32)) fun r10 => if r10.1 = 0 then some (((0 : Int32), r10.2)) else obind (sX10_readInto r10.2 (nI (11 + 7 * nr) + (2 : Int32)) (0 : Int32) (1 : Int32)) fun r14 => if r14.1 = 0 then some (((0 : Int32), r14.2)) else obind (sX10_readInto r14.2 (nI (11 + 7 * nr) + (3 : Int32)) (0 : Int32) (3 : Int32)) fun r18 => if r18.1 = 0 then some (((0 : Int32), r18.2)) else obind (sX10_readInto r18.2 (nI (11 + 7 * nr) + (4 : Int32)) (0 : Int32) (500 : Int32)) fun r22 => if r22.1 = 0 then some (((0 : Int32), r22.2)) else obind (sX10_readInto r22.2 (nI (11 + 7 * nr) + (5 : Int32)) (0 : Int32) (100 : Int32)) fun r26 => if r26.1 = 0 then some (((0 : Int32), r26.2)) else obind (sX10_readInto r26.2 (nI (11 + 7 * nr) + (6 : Int32)) (1 : Int32) (100000000 : Int32)) fun r30 => if r30.1 = 0 then some (((0 : Int32), r30.2)) else obind (sX10_readEnd r30.2) fun r34 => if r34.1 = 0 then some (((0 : Int32), r34.2)) else some (((1 : Int32), r34.2))) (NS.start (cc := 5) (a := fun x => 140 + 7 * nr + x) (lo := rlo) (hi := rhi) (v := fun _ => 0) hA) (nI_add _ _) rfl rfl (show 140 + 7 * nr + 0 = 129 + (11 + 7 * nr + 0) by omega) (by omega) (fun j hj => by omega) (by decide) (by decide) rfl rfl (by decide) (by decide) (fun R1 T1 v1 p1 hp1 hN1 => c_into (k := 3) (at_ := 11 + 7 * nr + 1) (K := fun r10 => obind (sX10_readInto r10.2 (nI (11 + 7 * nr) + (2 : Int32)) (0 : Int32) (1 : Int32)) fun r14 => if r14.1 = 0 then some (((0 : Int32), r14.2)) else obind (sX10_readInto r14.2 (nI (11 + 7 * nr) + (3 : Int32)) (0 : Int32) (3 : Int32)) fun r18 => if r18.1 = 0 then some (((0 : Int32), r18.2)) else obind (sX10_readInto r18.2 (nI (11 + 7 * nr) + (4 : Int32)) (0 : Int32) (500 : Int32)) fun r22 => if r22.1 = 0 then some (((0 : Int32), r22.2)) else obind (sX10_readInto r22.2 (nI (11 + 7 * nr) + (5 : Int32)) (0 : Int32) (100 : Int32)) fun r26 => if r26.1 = 0 then some (((0 : Int32), r26.2)) else obind (sX10_readInto r26.2 (nI (11 + 7 * nr) + (6 : Int32)) (1 : Int32) (100000000 : Int32)) fun r30 => if r30.1 = 0 then some (((0 : Int32), r30.2)) else obind (sX10_readEnd r30.2) fun r34 => if r34.1 = 0 then some (((0 : Int32), r34.2)) else some (((1 : Int32), r34.2))) hN1 (nI_add _ _) rfl rfl (show 140 + 7 * nr + 1 = 129 + (11 + 7 * nr + 1) by omega) (by omega) (fun j hj => by omega) (by decide) (by decide) rfl rfl (by decide) (by decide) (fun R2 T2 v2 p2 hp2 hN2 => c_into (k := 3) (at_ := 11 + 7 * nr + 2) (K := fun r14 => obind (sX10_readInto r14.2 (nI (11 + 7 * nr) + (3 : Int32)) (0 : Int32) (3 : Int32)) fun r18 => if r18.1 = 0 then some (((0 : Int32), r18.2)) else obind (sX10_readInto r18.2 (nI (11 + 7 * nr) + (4 : Int32)) (0 : Int32) (500 : Int32)) fun r22 => if r22.1 = 0 then some (((0 : Int32), r22.2)) else obind (sX10_readInto r22.2 (nI (11 + 7 * nr) + (5 : Int32)) (0 : Int32) (100 : Int32)) fun r26 => if r26.1 = 0 then some (((0 : Int32), r26.2)) else obind (sX10_readInto r26.2 (nI (11 + 7 * nr) + (6 : Int32)) (1 : Int32) (100000000 : Int32)) fun r30 => if r30.1 = 0 then some (((0 : Int32), r30.2)) else obind (sX10_readEnd r30.2) fun r34 => if r34.1 = 0 then some (((0 : Int32), r34.2)) else some (((1 : Int32), r34.2))) hN2 (nI_add _ _) rfl rfl (show 140 + 7 * nr + 2 = 129 + (11 + 7 * nr + 2) by omega) (by omega) (fun j hj => by omega) (by decide) (by decide) rfl rfl (by decide) (by decide) (fun R3 T3 v3 p3 hp3 hN3 => c_into (k := 3) (at_ := 11 + 7 * nr + 3) (K := fun r18 => obind (sX10_readInto r18.2 (nI (11 + 7 * nr) + (4 : Int32)) (0 : Int32) (500 : Int32)) fun r22 => if r22.1 = 0 then some (((0 : Int32), r22.2)) else obind (sX10_readInto r22.2 (nI (11 + 7 * nr) + (5 : Int32)) (0 : Int32) (100 : Int32)) fun r26 => if r26.1 = 0 then some (((0 : Int32), r26.2)) else obind (sX10_readInto r26.2 (nI (11 + 7 * nr) + (6 : Int32)) (1 : Int32) (100000000 : Int32)) fun r30 => if r30.1 = 0 then some (((0 : Int32), r30.2)) else obind (sX10_readEnd r30.2) fun r34 => if r34.1 = 0 then some (((0 : Int32), r34.2)) else some (((1 : Int32), r34.2))) hN3 (nI_add _ _) rfl rfl (show 140 + 7 * nr + 3 = 129 + (11 + 7 * nr + 3) by omega) (by omega) (fun j hj => by omega) (by decide) (by decide) rfl rfl (by decide) (by decide) (fun R4 T4 v4 p4 hp4 hN4 => c_into (k := 3) (at_ := 11 + 7 * nr + 4) (K := fun r22 => obind (sX10_readInto r22.2 (nI (11 + 7 * nr) + (5 : Int32)) (0 : Int32) (100 : Int32)) fun r26 => if r26.1 = 0 then some (((0 : Int32), r26.2)) else obind (sX10_readInto r26.2 (nI (11 + 7 * nr) + (6 : Int32)) (1 : Int32) (100000000 : Int32)) fun r30 => if r30.1 = 0 then some (((0 : Int32), r30.2)) else obind (sX10_readEnd r30.2) fun r34 => if r34.1 = 0 then some (((0 : Int32), r34.2)) else some (((1 : Int32), r34.2))) hN4 (nI_add _ _) rfl rfl (show 140 + 7 * nr + 4 = 129 + (11 + 7 * nr + 4) by omega) (by omega) (fun j hj => by omega) (by decide) (by decide) rfl rfl (by decide) (by decide) (fun R5 T5 v5 p5 hp5 hN5 => c_into (k := 3) (at_ := 11 + 7 * nr + 5) (K := fun r26 => obind (sX10_readInto r26.2 (nI (11 + 7 * nr) + (6 : Int32)) (1 : Int32) (100000000 : Int32)) fun r30 => if r30.1 = 0 then some (((0 : Int32), r30.2)) else obind (sX10_readEnd r30.2) fun r34 => if r34.1 = 0 then some (((0 : Int32), r34.2)) else some (((1 : Int32), r34.2))) hN5 (nI_add _ _) rfl rfl (show 140 + 7 * nr + 5 = 129 + (11 + 7 * nr + 5) by omega) (by omega) (fun j hj => by omega) (by decide) (by decide) rfl rfl (by decide) (by decide) (fun R6 T6 v6 p6 hp6 hN6 => c_into (k := 3) (at_ := 11 + 7 * nr + 6) (K := fun r30 => obind (sX10_readEnd r30.2) fun r34 => if r34.1 = 0 then some (((0 : Int32), r34.2)) else some (((1 : Int32), r34.2))) hN6 (nI_add _ _) rfl rfl (show 140 + 7 * nr + 6 = 129 + (11 + 7 * nr + 6) by omega) (by omega) (fun j hj => by omega) (by decide) (by decide) rfl rfl (by decide) (by decide) (fun R7 T7 v7 p7 hp7 hN7 => c_end (K := fun r34 => some (((1 : Int32), r34.2))) hN7 (Or.inl rfl) rfl (by decide) (fun T' => rfl) (fun R'' T'' p'' hp8 hN8 => ⟨v7, p'', by omega, hN8⟩))))))))
    · obtain ⟨v, p', pe, hN⟩ := hG
      obtain ⟨g5, g132, g100, gR, gQ⟩ := row_fr (e := e) (c := 3) (by omega) b3 hN (fun x hx => by omega)
      obtain ⟨n1, n2, n3, n4, n5⟩ := hN
      have g5' : ∀ j, j ≠ 132 → (j < 140 + 7 * nr ∨ 140 + 7 * nr + 7 ≤ j) → gi T' 5 j 0 = gi T 5 j 0 := fun j h1 h2 => g5 j h1 (fun x hx => by omega)
      have qn : ∀ x, x < 7 → sX4_number R' (nI x) = nI (v x) := fun x hx => (e_num hx).trans (n3 x hx).1
      have hadd : sX4_addTo (R', D) 3 = (R', si (si (si (si (si (si (si (si (si D 2 7 nr 0) 0 8 0 (nI (nr + 1))) 2 0 nr (nI (v 0))) 2 1 nr (nI (v 1))) 2 2 nr (nI (v 2))) 2 3 nr (nI (v 3))) 2 4 nr (nI (v 4))) 2 5 nr (nI (v 5))) 2 6 nr (nI (v 6))) := by
        have q0 : sX4_number R' (0 : Int32) = nI (v 0) := qn 0 (by omega)
        have q1 : sX4_number R' (1 : Int32) = nI (v 1) := qn 1 (by omega)
        have q2 : sX4_number R' (2 : Int32) = nI (v 2) := qn 2 (by omega)
        have q3 : sX4_number R' (3 : Int32) = nI (v 3) := qn 3 (by omega)
        have q4 : sX4_number R' (4 : Int32) = nI (v 4) := qn 4 (by omega)
        have q5 : sX4_number R' (5 : Int32) = nI (v 5) := qn 5 (by omega)
        have q6 : sX4_number R' (6 : Int32) = nI (v 6) := qn 6 (by omega)
        unfold sX4_addTo sX7_addRecipe sX4_fill
        simp only [olet_eq]
        rw [if_neg (show ¬ (3 : Int32) = 0 by decide), if_neg (show ¬ (3 : Int32) = 1 by decide), if_neg (show ¬ (3 : Int32) = 2 by decide), if_pos True.intro, D8, e_recipeAt (by omega), q0, q1, q2, q3, q4, q5, q6]
        rw [show gi (si D 2 7 nr 0) 0 8 0 = nI nr from (gi_ne (by omega)).trans D8, n_suc]
      rw [hadd]
      dsimp only
      refine ⟨p', np, nr + 1, ni, n1, pe, gQ, hH.up gR g100 (fun j hj => ?_) (fun j => ?_) (fun i => ?_) (fun j hj => g5' j (by omega) (by omega)) ⟨c1, by omega, c3⟩ ⟨?_, ?_, ?_⟩ ⟨(g5' _ (by omega) (by omega)).trans t1, g132, (g5' _ (by omega) (by omega)).trans t3⟩, fun p hp => (dP p hp).cg (fun w => ?_) (g5' _ (by omega) (by omega)), fun r hr => ?_, fun i hi => (dI i hi).cg (fun w => ?_) rfl (fun w hw => g5' _ (by omega) (by omega))⟩
      · repeat (first | rw [gi_ne (by omega)] | rw [gi_eq2 (by omega)])
      · repeat (first | rw [gi_ne (by omega)] | rw [gi_eq2 (by omega)])
      · repeat (first | rw [gi_ne (by omega)] | rw [gi_eq2 (by omega)])
      · repeat (first | rw [gi_ne (by omega)] | rw [gi_eq2 (by omega)])
        exact D7
      · repeat (first | rw [gi_ne (by omega)] | rw [gi_eq2 (by omega)])
      · repeat (first | rw [gi_ne (by omega)] | rw [gi_eq2 (by omega)])
        exact D9
      · repeat (first | rw [gi_ne (by omega)] | rw [gi_eq2 (by omega)])
      · by_cases er : r = nr
        · subst er
          refine ⟨?_, v, fun w hw => ⟨?_, (n3 w hw).2.1, (n3 w hw).2.2⟩⟩
          · repeat (first | rw [gi_ne (by omega)] | rw [gi_eq2 (by omega)])
          · have : w = 0 ∨ w = 1 ∨ w = 2 ∨ w = 3 ∨ w = 4 ∨ w = 5 ∨ w = 6 := by omega
            rcases this with rfl | rfl | rfl | rfl | rfl | rfl | rfl <;> repeat (first | rw [gi_ne (by omega)] | rw [gi_eq2 (by omega)])
        · refine (dR r (by omega)).cg (fun w => ?_) (fun w hw => g5' _ (by omega) (by omega))
          repeat (first | rw [gi_ne (by omega)] | rw [gi_eq2 (by omega)])
      · repeat (first | rw [gi_ne (by omega)] | rw [gi_eq2 (by omega)])
/-- a statement -/
theorem sim_stmt {s e kd : Nat} (h : TkR R T n s e kd) (hD : DrR R D T np nr ni) : StG T n e (sX4_readStatement (R, D)) (sX10_readStatement T) D := by
  have w4 := e_wr h (k := 4) (by omega)
  have w5 := e_wr h (k := 5) (by omega)
  have w6 := e_wr h (k := 6) (by omega)
  have w7 := e_wr h (k := 7) (by omega)
  have w8 := e_wr h (k := 8) (by omega)
  have u4 := e_wt h (k := 4) (by omega) (pk_4 T)
  have u5 := e_wt h (k := 5) (by omega) (pk_5 T)
  have u6 := e_wt h (k := 6) (by omega) (pk_6 T)
  have u7 := e_wt h (k := 7) (by omega) (pk_7 T)
  have u8 := e_wt h (k := 8) (by omega) (pk_8 T)
  obtain ⟨-, ⟨f1, f2⟩, -⟩ := hD.1
  have full0 : ∀ w : Int32, w = 0 ∨ w = 1 → sX4_isFull D w = 0 := fun w hw => by
    rcases hw with rfl | rfl
    · unfold sX4_isFull
      rw [if_neg (by decide), if_neg (by decide), if_neg (by decide)]
    · unfold sX4_isFull
      rw [if_neg (by decide), if_neg (by decide), if_neg (by decide)]
  by_cases c4 : WD T n s e kd 4
  · have sw : sX4_statementWord R = 0 := by
      unfold sX4_statementWord
      rw [w4.1 c4, if_neg one_ne]
    unfold sX4_readStatement sX10_readStatement
    dsimp only
    rw [sw, olet_eq, if_neg (show ¬ (0 : Int32) = -1 by decide), if_pos rfl, u4.1 c4, if_neg one_ne, olet_eq, ← f1]
    by_cases q : gi R 0 6 0 = 0
    · rw [if_pos q, q]
      unfold sX4_readStatement_j27
      rw [if_neg (show ¬ (0 : Int32) = 1 by decide)]
      show StG T n e (RDX R D 0) _ D
      rw [rdx_room (full0 0 (Or.inl rfl))]
      exact st_set (u := 0) (hi := 4) (by omega) rfl h hD q (by omega) (fun _ => by omega) rfl rfl
    · rw [if_neg q, olet_eq]
      refine st_fail (T1 := si T 100 20 0 1) (c := 3) (h.tcg (fun j => gi_ne (by omega)) (fun j hj => gi_ne (by omega)) rfl) (FrQ.set (by omega)) rfl ?_
      unfold sX10_readSetting
      rw [if_neg q, olet_eq, obind_some]
  · by_cases c5 : WD T n s e kd 5
    · have sw : sX4_statementWord R = 1 := by
        unfold sX4_statementWord
        rw [w4.2 c4, if_pos rfl, w5.1 c5, if_neg one_ne]
      unfold sX4_readStatement sX10_readStatement
      dsimp only
      rw [sw, olet_eq, if_neg (show ¬ (1 : Int32) = -1 by decide), if_neg (show ¬ (1 : Int32) = 0 by decide), u4.2 c4, if_pos rfl, u5.1 c5, if_neg one_ne, olet_eq, ← f2]
      unfold sX4_readStatement_j27
      rw [if_pos rfl]
      dsimp only
      by_cases q : gi R 0 7 0 = 0
      · rw [if_pos q, q]
        show StG T n e (RDX R D 1) _ D
        rw [rdx_room (full0 1 (Or.inr rfl))]
        exact st_set (u := 1) (hi := 500) (by omega) rfl h hD q (by omega) (fun z => by omega) rfl rfl
      · rw [if_neg q, olet_eq]
        refine st_fail (T1 := si T 100 21 0 1) (c := 3) (h.tcg (fun j => gi_ne (by omega)) (fun j hj => gi_ne (by omega)) rfl) (FrQ.set (by omega)) rfl ?_
        unfold sX10_readSetting
        rw [if_neg q, olet_eq, obind_some]
    · by_cases c6 : WD T n s e kd 6
      · have sw : sX4_statementWord R = 2 := by
          unfold sX4_statementWord
          rw [w4.2 c4, if_pos rfl, w5.2 c5, if_pos rfl, w6.1 c6, if_neg one_ne]
        unfold sX4_readStatement sX10_readStatement
        dsimp only
        rw [sw, olet_eq, if_neg (show ¬ (2 : Int32) = -1 by decide), if_neg (show ¬ (2 : Int32) = 0 by decide), u4.2 c4, if_pos rfl, u5.2 c5, if_pos rfl, u6.1 c6, if_neg one_ne]
        unfold sX4_readStatement_j27
        rw [if_neg (show ¬ (2 : Int32) = 1 by decide)]
        exact st_press h hD
      · by_cases c8 : WD T n s e kd 8
        · have c7 : ¬ WD T n s e kd 7 := c8.ne (pkc_ne 8 (by omega) 7 (by omega) (by omega) (by omega) (by omega))
          have sw : sX4_statementWord R = 4 := by
            unfold sX4_statementWord
            rw [w4.2 c4, if_pos rfl, w5.2 c5, if_pos rfl, w6.2 c6, if_pos rfl, w7.2 c7, if_pos rfl, w8.1 c8, if_neg one_ne]
          unfold sX4_readStatement sX10_readStatement
          dsimp only
          rw [sw, olet_eq, if_neg (show ¬ (4 : Int32) = -1 by decide), if_neg (show ¬ (4 : Int32) = 0 by decide), u4.2 c4, if_pos rfl, u5.2 c5, if_pos rfl, u6.2 c6, if_pos rfl, u8.1 c8, if_neg one_ne]
          unfold sX4_readStatement_j27
          rw [if_neg (show ¬ (4 : Int32) = 1 by decide)]
          exact st_object h hD
        · by_cases c7 : WD T n s e kd 7
          · have sw : sX4_statementWord R = 3 := by
              unfold sX4_statementWord
              rw [w4.2 c4, if_pos rfl, w5.2 c5, if_pos rfl, w6.2 c6, if_pos rfl, w7.1 c7, if_neg one_ne]
            unfold sX4_readStatement sX10_readStatement
            dsimp only
            rw [sw, olet_eq, if_neg (show ¬ (3 : Int32) = -1 by decide), if_neg (show ¬ (3 : Int32) = 0 by decide), u4.2 c4, if_pos rfl, u5.2 c5, if_pos rfl, u6.2 c6, if_pos rfl, u8.2 c8, if_pos rfl, u7.1 c7, if_neg one_ne]
            unfold sX4_readStatement_j27
            rw [if_neg (show ¬ (3 : Int32) = 1 by decide)]
            have hs := st_recipe h hD
            rcases hs with ⟨R', T', a1, a2, a3⟩ | ⟨R', D', T', e', np', nr', ni', a1, a2, a3⟩
            · exact Or.inl ⟨R', T', a1, by rw [a2, obind_some], a3⟩
            · exact Or.inr ⟨R', D', T', e', np', nr', ni', a1, by rw [a2, obind_some], a3⟩
          · have sw : sX4_statementWord R = -1 := by
              unfold sX4_statementWord
              rw [w4.2 c4, if_pos rfl, w5.2 c5, if_pos rfl, w6.2 c6, if_pos rfl, w7.2 c7, if_pos rfl, w8.2 c8, if_pos rfl]
            unfold sX4_readStatement sX10_readStatement
            dsimp only
            rw [sw, olet_eq, if_pos rfl, u4.2 c4, if_pos rfl, u5.2 c5, if_pos rfl, u6.2 c6, if_pos rfl, u8.2 c8, if_pos rfl, u7.2 c7, if_pos rfl]
            exact st_fail (c := 1) h FrQ.refl rfl rfl
end LOA
