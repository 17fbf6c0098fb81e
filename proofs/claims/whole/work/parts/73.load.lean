/-! ===== LOAD ===== -/
section LOD
variable {B m np nr ni : Nat} {S : XT} {T : Mem}
theorem e_l114 {A : Mem} (h0 : ∀ j, j < 958 → gi A 0 j 0 = 0) : ∃ T', sX10_load_l114 ((0 : Int32), A) = some (gi A 5 4 0, T') ∧ (∀ c j i, c ≠ 0 → (c ≠ 100 ∨ j ≠ 4) → (c ≠ 2 ∨ 2 ≤ j) → gi T' c j i = gi A c j i) ∧ (gi T' 100 4 0 = 0 ∧ gi T' 2 0 0 = 0 ∧ gi T' 2 1 0 = 0) ∧ (∀ i, i < 16 → gq T' 1 i = 0) ∧ (∀ i, i < 16 → gi T' 0 (6 + 21 * i + 0) 0 = gi A 5 (81 + 3 * i + 2) 0 ∧ gi T' 0 (6 + 21 * i + 1) 0 = 0 ∧ gi T' 0 (6 + 21 * i + 2) 0 = 0 ∧ gi T' 0 (6 + 21 * i + 3) 0 = 0 ∧ gi T' 0 (6 + 21 * i + 4) 0 = -1 ∧ gi T' 0 (6 + 21 * i + 5) 0 = -1 ∧ gi T' 0 (6 + 21 * i + 6) 0 = -1 ∧ gi T' 0 (6 + 21 * i + 7) 0 = 0 ∧ gi T' 0 (6 + 21 * i + 8) 0 = -1) ∧ ∀ j, j < 958 → (j < 6 ∨ 342 ≤ j) → gi T' 0 j 0 = 0 := by
  unfold sX10_load_l114
  obtain ⟨b, g1, T', rfl, g2⟩ := itw_one (f := sX10_load_l114_step) (J := fun k a => ∃ u X, u ≤ 16 ∧ k = 16 - u ∧ a = (nI u, X) ∧ (∀ c j i, c ≠ 0 → gi X c j i = gi A c j i) ∧ (∀ i, i < u → gq X 1 i = 0) ∧ (∀ i, i < u → gi X 0 (6 + 21 * i + 0) 0 = gi A 5 (81 + 3 * i + 2) 0 ∧ gi X 0 (6 + 21 * i + 1) 0 = 0 ∧ gi X 0 (6 + 21 * i + 2) 0 = 0 ∧ gi X 0 (6 + 21 * i + 3) 0 = 0 ∧ gi X 0 (6 + 21 * i + 4) 0 = -1 ∧ gi X 0 (6 + 21 * i + 5) 0 = -1 ∧ gi X 0 (6 + 21 * i + 6) 0 = -1 ∧ gi X 0 (6 + 21 * i + 7) 0 = 0 ∧ gi X 0 (6 + 21 * i + 8) 0 = -1) ∧ ∀ j, j < 958 → (j < 6 ∨ 6 + 21 * u ≤ j) → gi X 0 j 0 = 0) (P := fun b => ∃ T', b = (gi A 5 4 0, T') ∧ (∀ c j i, c ≠ 0 → (c ≠ 100 ∨ j ≠ 4) → (c ≠ 2 ∨ 2 ≤ j) → gi T' c j i = gi A c j i) ∧ (gi T' 100 4 0 = 0 ∧ gi T' 2 0 0 = 0 ∧ gi T' 2 1 0 = 0) ∧ (∀ i, i < 16 → gq T' 1 i = 0) ∧ (∀ i, i < 16 → gi T' 0 (6 + 21 * i + 0) 0 = gi A 5 (81 + 3 * i + 2) 0 ∧ gi T' 0 (6 + 21 * i + 1) 0 = 0 ∧ gi T' 0 (6 + 21 * i + 2) 0 = 0 ∧ gi T' 0 (6 + 21 * i + 3) 0 = 0 ∧ gi T' 0 (6 + 21 * i + 4) 0 = -1 ∧ gi T' 0 (6 + 21 * i + 5) 0 = -1 ∧ gi T' 0 (6 + 21 * i + 6) 0 = -1 ∧ gi T' 0 (6 + 21 * i + 7) 0 = 0 ∧ gi T' 0 (6 + 21 * i + 8) 0 = -1) ∧ ∀ j, j < 958 → (j < 6 ∨ 342 ≤ j) → gi T' 0 j 0 = 0) (fun k a => by
    rintro ⟨u, X, u1, rfl, rfl, x1, x2, x3, x4⟩
    unfold sX10_load_l114_step
    dsimp only
    by_cases e : u = 16
    · subst e
      rw [if_pos (show (16 : Int32) ≤ nI 16 by decide)]
      simp only [olet_eq]
      rw [show (0 : Int32).toNatClampNeg = 0 from rfl, show (1 : Int32).toNatClampNeg = 1 from rfl, show (4 : Int32).toNatClampNeg = 4 from rfl]
      refine Or.inl ⟨_, rfl, si (si (si X 100 4 0 0) 2 0 0 0) 2 1 0 0, ?_, fun c j i hc h4 h2 => ?_, ⟨?_, ?_, ?_⟩, fun i hi => x2 i hi, fun i hi => ?_, fun j hj h => ?_⟩
      · rw [gi_ne (by omega), gi_ne (by omega), gi_ne (by omega), x1 5 4 0 (by decide)]
      · rw [gi_ne (by omega), gi_ne (by omega), gi_ne (by omega)]; exact x1 c j i hc
      · rw [gi_ne (by omega), gi_ne (by omega), gi_eq2 ⟨rfl, rfl, rfl⟩]
      · rw [gi_ne (by omega), gi_eq2 ⟨rfl, rfl, rfl⟩]
      · rw [gi_eq2 ⟨rfl, rfl, rfl⟩]
      · have hs : ∀ j, gi (si (si (si X 100 4 0 0) 2 0 0 0) 2 1 0 0) 0 j 0 = gi X 0 j 0 := fun j => by
          rw [gi_ne (by omega), gi_ne (by omega), gi_ne (by omega)]
        rw [hs, hs, hs, hs, hs, hs, hs, hs, hs]
        exact x3 i hi
      · rw [gi_ne (by omega), gi_ne (by omega), gi_ne (by omega)]
        exact x4 j hj (by omega)
    · have hle : ¬ (16 : Int32) ≤ nI u := by rw [n_lit 16, n_le (by omega) (by omega)]; omega
      rw [if_neg hle, n_inb (by omega) (by omega), oif_t rfl, n_cl (by omega), olet_eq, e_th_2 (by omega), obind_some, e_set_0 (by omega), obind_some, e_set_4 (by omega), obind_some, e_set_8 (by omega), obind_some]
      unfold sX10_shelve
      rw [e_set_1 (by omega), obind_some, e_set_2 (by omega), obind_some, e_set_5 (by omega), obind_some, e_set_6 (by omega), obind_some, obind_some, n_suc]
      refine Or.inr ⟨_, 16 - (u + 1), by omega, rfl, u + 1, _, by omega, rfl, rfl, fun c j i hc => ?_, fun i hi => ?_, fun i hi => ?_, fun j hj h => ?_⟩
      · repeat (first | rw [gi_ne (by omega)])
        exact x1 c j i hc
      · show gq (sq X 1 u 0) 1 i = 0
        rw [gq_sq]
        by_cases q : i = u
        · rw [if_pos ⟨rfl, q⟩]
        · rw [if_neg (by omega)]; exact x2 i (by omega)
      · by_cases q : i = u
        · subst q
          refine ⟨?_, ?_, ?_, ?_, ?_, ?_, ?_, ?_, ?_⟩
          all_goals repeat (first | rw [gi_ne (by omega)] | rw [gi_eq2 (by omega)])
          · exact x1 5 _ 0 (by decide)
          · exact x4 _ (by omega) (by omega)
          · exact x4 _ (by omega) (by omega)
        · obtain ⟨y0, y1, y2, y3, y4, y5, y6, y7, y8⟩ := x3 i (by omega)
          refine ⟨?_, ?_, ?_, ?_, ?_, ?_, ?_, ?_, ?_⟩
          all_goals repeat (first | rw [gi_ne (by omega)])
          all_goals assumption
      · repeat (first | rw [gi_ne (by omega)])
        exact x4 j hj (by omega)) (k := 16 - 0) (a := ((0 : Int32), A)) ⟨0, A, by omega, rfl, rfl, fun _ _ _ _ => rfl, fun i hi => by omega, fun i hi => by omega, fun j hj _ => h0 j hj⟩
  exact ⟨T', g1, g2⟩
theorem e_l92 {A : Mem} : ∃ Z, sX10_load_l92 ((0 : Int32), A) = sX10_load_l114 ((0 : Int32), Z) ∧ (∀ c j i, c ≠ 0 → gi Z c j i = gi A c j i) ∧ ∀ j, j < 958 → gi Z 0 j 0 = 0 := by
  unfold sX10_load_l92
  have key : ∀ k u X, k + u = 958 → (∀ c j i, c ≠ 0 → gi X c j i = gi A c j i) → (∀ j, j < u → gi X 0 j 0 = 0) → ∃ Z, itw sX10_load_l92_step (nI u, X) = itw sX10_load_l92_step (nI 958, Z) ∧ (∀ c j i, c ≠ 0 → gi Z c j i = gi A c j i) ∧ ∀ j, j < 958 → gi Z 0 j 0 = 0 := by
    intro k
    induction k with
    | zero =>
      intro u X hu h1 h2
      rw [Nat.zero_add] at hu
      subst hu
      exact ⟨X, rfl, h1, h2⟩
    | succ k ih =>
      intro u X hu h1 h2
      have hle : ¬ (958 : Int32) ≤ nI u := by rw [n_lit 958, n_le (by omega) (by omega)]; omega
      obtain ⟨Z, z1, z2⟩ := ih (u + 1) (si X 0 u 0 0) (by omega) (fun c j i hc => by rw [gi_ne (by omega)]; exact h1 c j i hc) (fun j hj => by
        by_cases q : j = u
        · subst q; rw [gi_eq2 ⟨rfl, rfl, rfl⟩]
        · rw [gi_ne (by omega)]; exact h2 j (by omega))
      refine ⟨Z, (itw_in ?_).trans z1, z2⟩
      unfold sX10_load_l92_step
      dsimp only
      rw [if_neg hle, n_inb (by omega) (by omega), oif_t rfl, olet_eq, n_cl (by omega), n_suc]
  obtain ⟨Z, z1, z2, z3⟩ := key 958 0 A (by omega) (fun _ _ _ _ => rfl) (fun j hj => by omega)
  refine ⟨Z, z1.trans ?_, z2, z3⟩
  have hst : sX10_load_l92_step (nI 958, Z) = oinr (sX10_load_l114 ((0 : Int32), Z)) := by
    unfold sX10_load_l92_step
    dsimp only
    rw [if_pos (show (958 : Int32) ≤ nI 958 by decide)]
  obtain ⟨T', t1, -⟩ := e_l114 (A := Z) z3
  rw [t1] at hst ⊢
  exact itw_out hst
theorem e_l61 {A : Mem} : ∃ Z, sX10_load_l61 ((0 : Int32), A) = sX10_load_l92 ((0 : Int32), Z) ∧ (∀ c j i, c ≠ 5 → gi Z c j i = gi A c j i) ∧ ∀ j, j < 129 → gi Z 5 j 0 = gi A 5 (129 + j) 0 := by
  unfold sX10_load_l61
  have key : ∀ k u X, k + u = 129 → (∀ c j i, c ≠ 5 → gi X c j i = gi A c j i) → (∀ j, 129 ≤ j → gi X 5 j 0 = gi A 5 j 0) → (∀ j, j < u → gi X 5 j 0 = gi A 5 (129 + j) 0) → ∃ Z, itw sX10_load_l61_step (nI u, X) = itw sX10_load_l61_step (nI 129, Z) ∧ (∀ c j i, c ≠ 5 → gi Z c j i = gi A c j i) ∧ ∀ j, j < 129 → gi Z 5 j 0 = gi A 5 (129 + j) 0 := by
    intro k
    induction k with
    | zero =>
      intro u X hu h1 h2 h3
      rw [Nat.zero_add] at hu
      subst hu
      exact ⟨X, rfl, h1, h3⟩
    | succ k ih =>
      intro u X hu h1 h2 h3
      have hle : ¬ (129 : Int32) ≤ nI u := by rw [n_lit 129, n_le (by omega) (by omega)]; omega
      obtain ⟨Z, z1, z2⟩ := ih (u + 1) (si X 5 u 0 (gi X 5 (129 + u) 0)) (by omega) (fun c j i hc => by rw [gi_ne (by omega)]; exact h1 c j i hc) (fun j hj => by rw [gi_ne (by omega)]; exact h2 j hj) (fun j hj => by
        by_cases q : j = u
        · subst q; rw [gi_eq2 ⟨rfl, rfl, rfl⟩]; exact h2 _ (by omega)
        · rw [gi_ne (by omega)]; exact h3 j (by omega))
      refine ⟨Z, (itw_in ?_).trans z1, z2⟩
      unfold sX10_load_l61_step
      dsimp only
      rw [if_neg hle, n_lit 129, nI_add, n_inb (by omega) (by omega), oif_t rfl, n_inb (by omega) (by omega), oif_t rfl, olet_eq, n_cl (by omega), n_cl (by omega), n_suc]
  obtain ⟨Z, z1, z2, z3⟩ := key 129 0 A (by omega) (fun _ _ _ _ => rfl) (fun _ _ => rfl) (fun j hj => by omega)
  refine ⟨Z, z1.trans ?_, z2, z3⟩
  have hst : sX10_load_l61_step (nI 129, Z) = oinr (sX10_load_l92 ((0 : Int32), Z)) := by
    unfold sX10_load_l61_step
    dsimp only
    rw [if_pos (show (129 : Int32) ≤ nI 129 by decide)]
  obtain ⟨Z2, t1, -, t3⟩ := e_l92 (A := Z)
  obtain ⟨T', t4, -⟩ := e_l114 (A := Z2) t3
  rw [t1, t4] at hst
  rw [t1, t4]
  exact itw_out hst
/-- what stands behind a good text -/
theorem load_fin {R D : Mem} (h : DrR R D T np nr ni) : ∃ T', sX10_load_l61 ((0 : Int32), si T 100 12 0 0) = some (nI ni, T') ∧ Rel D T' np nr ni ∧ (∀ j, gi T' 9 j 0 = gi T 9 j 0) ∧ (∀ j, j = 3 ∨ j = 10 ∨ j = 14 ∨ j = 15 → gi T' 100 j 0 = gi T 100 j 0) ∧ gi T' 100 12 0 = 0 ∧ gi T' 100 4 0 = 0 ∧ gi T' 2 0 0 = 0 ∧ gi T' 2 1 0 = 0 := by
  obtain ⟨⟨-, -, ⟨c1, c2, c3⟩, ⟨d1, d2, d3⟩, ⟨t1, t2, t3⟩, ⟨b, b1, b2, b3, b4⟩, ⟨l, l1, l2, l3, l4⟩, hN, ⟨k1, k2, k3, k4⟩, k5, k6⟩, dP, dR, dI⟩ := h
  obtain ⟨Z1, z1, z2, z3⟩ := e_l61 (A := si T 100 12 0 0)
  obtain ⟨Z2, y1, y2, y3⟩ := e_l92 (A := Z1)
  obtain ⟨T', x1, x2, ⟨x3, x4, x5⟩, x6, x7, x8⟩ := e_l114 (A := Z2) y3
  have g5 : ∀ j, j < 129 → gi T' 5 j 0 = gi T 5 (129 + j) 0 := fun j hj => by
    rw [x2 5 j 0 (by decide) (Or.inl (by decide)) (Or.inl (by decide)), y2 5 j 0 (by decide), z3 j hj, gi_ne (by omega)]
  have gc : ∀ c j, c ≠ 0 → c ≠ 5 → (c ≠ 100 ∨ (j ≠ 4 ∧ j ≠ 12)) → (c ≠ 2 ∨ 2 ≤ j) → gi T' c j 0 = gi T c j 0 := fun c j h0 h5 h1 h2 => by
    rw [x2 c j 0 h0 (by omega) h2, y2 c j 0 h0, z2 c j 0 h5, gi_ne (by omega)]
  have gz5 : ∀ j, j < 129 → gi Z2 5 j 0 = gi T 5 (129 + j) 0 := fun j hj => by
    rw [y2 5 j 0 (by decide), z3 j hj, gi_ne (by omega)]
  refine ⟨T', ?_, ⟨⟨⟨c1, c2, c3⟩, ⟨d1, d2, d3⟩, ⟨?_, ?_, ?_⟩, ⟨?_, ?_, ⟨b, b1, b2, ?_⟩, ⟨l, l1, l2, ?_⟩, hN⟩, fun p hp => ?_, fun r hr => ?_, fun i hi => ?_⟩, ⟨⟨0, by omega, k1⟩, ⟨?_, ?_, ?_, ?_⟩, fun r hr => ?_, fun p hp => ?_⟩, ⟨0, 0, by omega, by omega, Or.inl rfl, ⟨k5, k6⟩, ⟨?_, ?_⟩, fun j hj => by omega⟩, fun i hi => ?_, ⟨fun p hp => Or.inl (dP p hp).1, fun i hi p hp z => ?_⟩, fun i hi => ?_⟩, fun j => gc 9 j (by decide) (by decide) (Or.inl (by decide)) (Or.inl (by decide)), fun j hj => gc 100 j (by decide) (by decide) (Or.inr (by omega)) (Or.inl (by decide)), ?_, x3, x4, x5⟩
  · rw [z1, y1, x1, gz5 4 (by omega), t3]
  · rw [g5 2 (by omega)]; exact t1
  · rw [g5 3 (by omega)]; exact t2
  · rw [g5 4 (by omega)]; exact t3
  · rw [g5 0 (by omega), b3]; exact b4.symm
  · rw [g5 1 (by omega), l3]; exact l4.symm
  · rw [g5 0 (by omega)]; exact b4
  · rw [g5 1 (by omega)]; exact l4
  · obtain ⟨-, -, k, q1, q2, q3, q4⟩ := dP p hp
    refine ⟨?_, k, q1, q2, q3⟩
    rw [g5 _ (by omega), show 129 + (5 + p) = 134 + p by omega, q3, q4]
  · obtain ⟨-, v, hv⟩ := dR r hr
    refine ⟨fun w hw => ?_, ⟨v 0, (hv 0 (by omega)).2.2.1, (hv 0 (by omega)).2.2.2, (hv 0 (by omega)).1⟩, ⟨v 1, (hv 1 (by omega)).2.2.2, (hv 1 (by omega)).1⟩, ⟨v 2, (hv 2 (by omega)).2.2.2, (hv 2 (by omega)).1⟩, ⟨v 3, (hv 3 (by omega)).2.2.2, (hv 3 (by omega)).1⟩, ⟨v 4, (hv 4 (by omega)).2.2.2, (hv 4 (by omega)).1⟩, ⟨v 5, (hv 5 (by omega)).2.2.2, (hv 5 (by omega)).1⟩, v 6, (hv 6 (by omega)).2.2.1, (hv 6 (by omega)).2.2.2, (hv 6 (by omega)).1⟩
    rw [g5 _ (by omega), show 129 + (11 + 7 * r + w) = 140 + 7 * r + w by omega, (hv w hw).1, (hv w hw).2.1]
  · obtain ⟨-, ⟨z, z1, z2, z3, z4⟩, -, ⟨g, q1, q2, q3⟩⟩ := dI i hi
    refine ⟨hN i (by omega), ?_, ?_, ⟨z, z1, z2, z3⟩, ⟨g, q1, q2⟩⟩
    · rw [g5 _ (by omega), show 129 + (81 + 3 * i + 0) = 210 + 3 * i + 0 by omega, z3, z4]
    · rw [g5 _ (by omega), show 129 + (81 + 3 * i + 1) = 210 + 3 * i + 1 by omega, q2, q3]
  · rw [k1, x8 0 (by omega) (by omega)]
  · rw [k2, x8 1 (by omega) (by omega)]
  · rw [k3, x8 2 (by omega) (by omega)]
  · rw [k4, x8 3 (by omega) (by omega)]
  · rw [(dR r hr).1, x8 _ (by omega) (by omega)]
  · rw [(dP p hp).2.1, x8 _ (by omega) (by omega)]
  · exact x8 5 (by omega) (by omega)
  · exact x8 4 (by omega) (by omega)
  · rw [(dI i hi).1.2.2.2.2.2.2.2.2, x6 i (by omega)]
  · rw [(dI i hi).1.2.2.2.2.2.1] at z
    exact absurd z (n_m1' (by omega))
  · obtain ⟨⟨i5, i6, i7, i8, i9, i10, i13, i15, -⟩, -, ⟨s, s1, s2, s3⟩, -⟩ := dI i hi
    obtain ⟨y0, y1, y2, y3, y4, y5, y6, y7, y8⟩ := x7 i (by omega)
    refine ⟨⟨?_, ?_, ?_, ?_, ?_, ?_, ?_, ?_⟩, ⟨s, s1, s2⟩, ⟨0, by omega, i7, fun j hj => by omega⟩, Or.inl ⟨i15, y8⟩, Or.inl ⟨i5, i6, i9, i10⟩⟩
    · rw [y0, gz5 _ (by omega), show 129 + (81 + 3 * i + 2) = 210 + 3 * i + 2 by omega, s2, s3]
    · rw [y1]; exact i5
    · rw [y2]; exact i6
    · rw [y3]; exact i7
    · rw [y4]; exact i8
    · rw [y5]; exact i9
    · rw [y6]; exact i10
    · rw [y7]; exact i13
  · rw [x2 100 12 0 (by decide) (Or.inr (by decide)) (Or.inl (by decide)), y2 100 12 0 (by decide), z2 100 12 0 (by decide), gi_eq2 ⟨rfl, rfl, rfl⟩]
theorem e_clearS : ∃ Z, sX10_clearStudio T (129 : Int32) = some Z ∧ (∀ c j i, (c ≠ 5 ∨ j < 129) → gi Z c j i = gi T c j i) ∧ (∀ c i, gq Z c i = gq T c i) ∧ gi Z 5 129 0 = 1 ∧ gi Z 5 130 0 = 72 ∧ ∀ j, 131 ≤ j → j < 258 → gi Z 5 j 0 = 0 := by
  unfold sX10_clearStudio sX10_clearStudio_l2
  obtain ⟨b, h1, h2⟩ := itw_one (f := sX10_clearStudio_l2_step (129 : Int32)) (J := fun k a => ∃ u X, u ≤ 129 ∧ k = 129 - u ∧ a = (nI u, X) ∧ (∀ c j i, (c ≠ 5 ∨ j < 129) → gi X c j i = gi T c j i) ∧ (∀ c i, gq X c i = gq T c i) ∧ ∀ j, 129 ≤ j → j < 129 + u → gi X 5 j 0 = 0) (P := fun Z => (∀ c j i, (c ≠ 5 ∨ j < 129) → gi Z c j i = gi T c j i) ∧ (∀ c i, gq Z c i = gq T c i) ∧ gi Z 5 129 0 = 1 ∧ gi Z 5 130 0 = 72 ∧ ∀ j, 131 ≤ j → j < 258 → gi Z 5 j 0 = 0) (fun k a => by
    rintro ⟨u, X, u1, rfl, rfl, x1, x2, x3⟩
    unfold sX10_clearStudio_l2_step
    dsimp only
    by_cases e : u = 129
    · subst e
      rw [if_pos (show (129 : Int32) ≤ nI 129 by decide), show (129 : Int32) + 0 = nI 129 by decide, show (129 : Int32) + 1 = nI 130 by decide, n_inb (by omega) (by omega), oif_t rfl, olet_eq, n_inb (by omega) (by omega), oif_t rfl, olet_eq, n_cl (by omega), n_cl (by omega)]
      refine Or.inl ⟨_, rfl, fun c j i h => ?_, fun c i => x2 c i, ?_, ?_, fun j h1 h2 => ?_⟩
      · rw [gi_ne (by omega), gi_ne (by omega)]; exact x1 c j i h
      · rw [gi_ne (by omega), gi_eq2 ⟨rfl, rfl, rfl⟩]
      · rw [gi_eq2 ⟨rfl, rfl, rfl⟩]
      · rw [gi_ne (by omega), gi_ne (by omega)]; exact x3 j (by omega) (by omega)
    · have hle : ¬ (129 : Int32) ≤ nI u := by rw [n_lit 129, n_le (by omega) (by omega)]; omega
      rw [if_neg hle, n_lit 129, nI_add, n_inb (by omega) (by omega), oif_t rfl, olet_eq, n_cl (by omega), n_suc]
      refine Or.inr ⟨_, 129 - (u + 1), by omega, rfl, u + 1, _, by omega, rfl, rfl, fun c j i h => ?_, fun c i => x2 c i, fun j h1 h2 => ?_⟩
      · rw [gi_ne (by omega)]; exact x1 c j i h
      · by_cases q : j = 129 + u
        · subst q; rw [gi_eq2 ⟨rfl, rfl, rfl⟩]
        · rw [gi_ne (by omega)]; exact x3 j h1 (by omega)) (k := 129 - 0) (a := ((0 : Int32), T)) ⟨0, T, by omega, rfl, rfl, fun _ _ _ _ => rfl, fun _ _ => rfl, fun j h1 h2 => by omega⟩
  exact ⟨b, h1, h2⟩
/-- the text is read -/
theorem sim_read {R D : Mem} {n : Nat} (hA : Ahd R T n 0) (hD : DrR R D T 0 0 0) : (∃ R' D' T', sX4_readStudio_l12 ((1 : Int32), (0 : Int32), (R, D)) = some (0, (R', D')) ∧ sX10_load_l28 ((1 : Int32), T) = some (-3, T') ∧ gi R' 1 1 0 = 0 ∧ gi T' 100 12 0 = 0 ∧ ErR R' T' ∧ FrQ T T' ∧ NumR D') ∨ ∃ R' D' T1 np nr ni, sX4_readStudio_l12 ((1 : Int32), (0 : Int32), (R, D)) = some (1, (R', D')) ∧ sX10_load_l28 ((1 : Int32), T) = sX10_load_l61 ((0 : Int32), si T1 100 12 0 0) ∧ gi R' 1 1 0 = 0 ∧ FrQ T T1 ∧ (∃ R1, ErR R1 T1 ∧ gi R' 0 4 0 = gi R1 0 4 0 ∧ gi R' 0 5 0 = gi R1 0 5 0 ∧ DrR R1 D' T1 np nr ni) := by
  unfold sX4_readStudio_l12 sX10_load_l28
  obtain ⟨b, b', g1, g2, g3⟩ := itw_two (f := sX4_readStudio_l12_step) (g := sX10_load_l28_step) (J := fun k a a' => (∃ u R1 D1 T1 p np nr ni, k = n - p + 1 ∧ u ≤ p ∧ a = (1, nI u, (R1, D1)) ∧ a' = (1, T1) ∧ Ahd R1 T1 n p ∧ FrQ T T1 ∧ DrR R1 D1 T1 np nr ni) ∨ (k = 0 ∧ ∃ u R1 D1 T1, a = (0, u, (R1, D1)) ∧ a' = (0, T1) ∧ ErR R1 T1 ∧ FrQ T T1 ∧ NumR D1)) (P := fun b b' => (∃ R' D' T', b = (0, (R', D')) ∧ b' = (-3, T') ∧ gi R' 1 1 0 = 0 ∧ gi T' 100 12 0 = 0 ∧ ErR R' T' ∧ FrQ T T' ∧ NumR D') ∨ ∃ R' D' T1 np nr ni, b = (1, (R', D')) ∧ some b' = sX10_load_l61 ((0 : Int32), si T1 100 12 0 0) ∧ gi R' 1 1 0 = 0 ∧ FrQ T T1 ∧ (∃ R1, ErR R1 T1 ∧ gi R' 0 4 0 = gi R1 0 4 0 ∧ gi R' 0 5 0 = gi R1 0 5 0 ∧ DrR R1 D' T1 np nr ni)) (fun k a a' => by
    rintro (⟨u, R1, D1, T1, p, np, nr, ni, rfl, u1, rfl, rfl, q1, q2, q3⟩ | ⟨rfl, u, R1, D1, T1, rfl, rfl, q1, q2, q3⟩)
    · obtain ⟨R2, s, e, kd, s1, s2, s3, s4⟩ := q1.step
      have q3' : DrR R2 D1 T1 np nr ni := by
        obtain ⟨hH, x, y, z⟩ := q3
        exact ⟨hH.up (fun j => s4 0 j 0 (Or.inl (by decide))) (fun _ _ => rfl) (fun _ _ => rfl) (fun _ => rfl) (fun _ => rfl) (fun _ _ => rfl) hH.2.2.1 hH.2.2.2.1 hH.2.2.2.2.1, x, y, z⟩
      have s2' := s2
      obtain ⟨-, hn, -, -, ⟨r2, t16⟩, se, en, k4, kse, -⟩ := s2'
      have hpn : p ≤ n := q1.2.2.2.1
      unfold sX4_readStudio_l12_step sX10_load_l28_step
      dsimp only
      rw [if_neg one_ne, if_neg one_ne, if_neg (show ¬ (1000 : Int32) < nI u by rw [n_lit 1000, n_lt (by omega) (by omega)]; omega), s1, obind_some, r2, t16]
      by_cases e0 : kd = 0
      · subst e0
        rw [if_pos (show nI 0 = (0 : Int32) from rfl), if_pos (show nI 0 = (0 : Int32) from rfl), olet_eq]
        obtain ⟨T', f1, -⟩ := load_fin q3'
        unfold sX10_load_j47
        rw [olet_eq, if_neg one_ne, f1]
        refine Or.inl ⟨_, _, rfl, rfl, Or.inr ⟨_, D1, T1, np, nr, ni, rfl, f1.symm, gi_eq2 ⟨rfl, rfl, rfl⟩, q2, R2, q3'.1.1, gi_ne (by omega), gi_ne (by omega), q3'⟩⟩
      · rw [if_neg (show ¬ nI kd = (0 : Int32) by rw [n_lit 0, n_eq (by omega) (by omega)]; exact e0), if_neg (show ¬ nI kd = (0 : Int32) by rw [n_lit 0, n_eq (by omega) (by omega)]; exact e0), n_suc]
        have hse := kse e0
        rcases sim_stmt s2 q3' with ⟨R', T', x1, x2, x3, x4⟩ | ⟨R', D', T', e', np', nr', ni', x1, x2, x3, x4, x5, x6⟩
        · rw [x1, x2, obind_some, obind_some]
          exact Or.inr ⟨_, _, 0, by omega, rfl, rfl, Or.inr ⟨rfl, _, R', D1, T', rfl, rfl, x3, q2.trans x4, q3.1.2.2.2.2.2.2.2.1⟩⟩
        · have he' : e' ≤ n := x3.2.2.2.1
          rw [x1, x2, obind_some, obind_some]
          exact Or.inr ⟨_, _, n - e' + 1, by omega, rfl, rfl, Or.inl ⟨u + 1, R', D', T', e', np', nr', ni', rfl, by omega, rfl, rfl, x3, q2.trans x5, x6⟩⟩
    · unfold sX4_readStudio_l12_step sX10_load_l28_step sX10_load_j47
      dsimp only
      rw [if_pos rfl, if_pos rfl, olet_eq, olet_eq, if_pos rfl]
      refine Or.inl ⟨_, _, rfl, rfl, Or.inl ⟨_, D1, _, rfl, rfl, gi_eq2 ⟨rfl, rfl, rfl⟩, gi_eq2 ⟨rfl, rfl, rfl⟩, ⟨?_, ?_⟩, q2.trans (FrQ.set (by omega)), q3⟩⟩
      · rw [gi_ne (by omega), gi_ne (by omega)]; exact q1.1
      · rw [gi_ne (by omega), gi_ne (by omega)]; exact q1.2) (k := n - 0 + 1) (a := ((1 : Int32), (0 : Int32), (R, D))) (a' := ((1 : Int32), T)) (Or.inl ⟨0, R, D, T, 0, 0, 0, 0, rfl, by omega, rfl, rfl, hA, FrQ.refl, hD⟩)
  rcases g3 with ⟨R', D', T', rfl, rfl, h⟩ | ⟨R', D', T1, np, nr, ni, rfl, h1, h2⟩
  · exact Or.inl ⟨R', D', T', g1, g2, h⟩
  · exact Or.inr ⟨R', D', T1, np, nr, ni, g1, g2.trans h1, h2⟩
theorem e_l37 {B : Nat} {S : XT} : ∃ X', sX9_load_l37 B ((0 : Int32), S) = some (gi S.2.2.2.2.2.1 0 9 0, (S.1, X', S.2.2)) ∧ (∀ c j i, c ≠ 2 → gi X' c j i = gi S.2.1 c j i) ∧ gi X' 2 0 0 = 0 ∧ gi X' 2 1 0 = 0 := by
  have st : ∀ {S : XT} {u : Nat}, u < 2 → sX9_load_l37_step B (nI u, S) = some (.inl (nI (u + 1), (S.1, si S.2.1 2 u 0 0, S.2.2))) := fun {S u} hu => by
    unfold sX9_load_l37_step
    dsimp only
    rw [if_neg (show ¬ (2 : Int32) ≤ nI u by rw [n_lit 2, n_le (by omega) (by omega)]; omega), n_inb (by omega) (by omega), oif_t rfl, olet_eq, olet_eq, n_cl (by omega), n_suc]
  refine ⟨si (si S.2.1 2 0 0 0) 2 1 0 0, ?_, fun c j i hc => by rw [gi_ne (by omega), gi_ne (by omega)], by rw [gi_ne (by omega), gi_eq2 ⟨rfl, rfl, rfl⟩], gi_eq2 ⟨rfl, rfl, rfl⟩⟩
  unfold sX9_load_l37
  refine (itw_in (st (u := 0) (by omega))).trans ((itw_in (st (u := 1) (by omega))).trans (itw_out ?_))
  unfold sX9_load_l37_step
  dsimp only
  rw [if_pos (show (2 : Int32) ≤ nI (1 + 1) by decide)]
  rfl
theorem call_load (h : IV B (m + 1) S T) (hst : StI S) : PFA (sX9_load S B) (sX10_load T) (fun S' T' => IV B m S' T' ∧ StI S') := by
  obtain ⟨np, nr, ni, hV⟩ := h
  obtain ⟨⟨n, n1, n2, n3, n4⟩, -, -⟩ := hV.2.2.2.2.1
  have hNC : NumR S.2.2.2.2.1 := hV.2.2.2.2.2.2.1
  obtain ⟨Z, z1, z2, z3, z4, z5, z6⟩ := e_clearS (T := si T 100 6 0 0)
  -- the Model, before its first token
  have hT0 : FrQ T (si (si (si (si (si Z 100 20 0 0) 100 21 0 0) 100 14 0 0) 100 15 0 (-1)) 100 13 0 0) := by
    refine FrQ.trans ?_ ((FrQ.set (by omega)).trans ((FrQ.set (by omega)).trans ((FrQ.set (by omega)).trans ((FrQ.set (by omega)).trans (FrQ.set (by omega))))))
    refine (FrQ.set (T := T) (c := 100) (j := 6) (i := 0) (v := 0) (by omega)).trans ⟨fun j _ => z2 _ _ _ (Or.inl (by decide)), fun i _ => z3 _ _, fun j hj => z2 _ _ _ (Or.inr hj), fun j => z2 _ _ _ (Or.inl (by decide)), fun j => z2 _ _ _ (Or.inl (by decide)), fun j _ => z2 _ _ _ (Or.inl (by decide))⟩
  have hM : sX10_load T = obind (sX10_advance (si (si (si (si (si Z 100 20 0 0) 100 21 0 0) 100 14 0 0) 100 15 0 (-1)) 100 13 0 0)) fun r7 => sX10_load_l28 ((1 : Int32), r7) := by
    unfold sX10_load
    rw [olet_eq, z1, obind_some]
    simp only [olet_eq]
    unfold sX10_beginText
    simp only [olet_eq]
    cases sX10_advance (si (si (si (si (si Z 100 20 0 0) 100 21 0 0) 100 14 0 0) 100 15 0 (-1)) 100 13 0 0) with
    | none => rfl
    | some r => rfl
  have m12 : gi (si (si (si (si (si Z 100 20 0 0) 100 21 0 0) 100 14 0 0) 100 15 0 (-1)) 100 13 0 0) 100 12 0 = nI n := by
    rw [gi_ne (by omega), gi_ne (by omega), gi_ne (by omega), gi_ne (by omega), gi_ne (by omega), z2 _ _ _ (Or.inl (by decide)), gi_ne (by omega)]; exact n3
  have m11 : ∀ j, gi (si (si (si (si (si Z 100 20 0 0) 100 21 0 0) 100 14 0 0) 100 15 0 (-1)) 100 13 0 0) 11 j 0 = gi T 11 j 0 := fun j => by
    rw [gi_ne (by omega), gi_ne (by omega), gi_ne (by omega), gi_ne (by omega), gi_ne (by omega), z2 _ _ _ (Or.inl (by decide)), gi_ne (by omega)]
  have m20 : gi (si (si (si (si (si Z 100 20 0 0) 100 21 0 0) 100 14 0 0) 100 15 0 (-1)) 100 13 0 0) 100 20 0 = 0 := by
    repeat (first | rw [gi_ne (by omega)] | rw [gi_eq2 (by omega)])
  have m21 : gi (si (si (si (si (si Z 100 20 0 0) 100 21 0 0) 100 14 0 0) 100 15 0 (-1)) 100 13 0 0) 100 21 0 = 0 := by
    repeat (first | rw [gi_ne (by omega)] | rw [gi_eq2 (by omega)])
  have m14 : gi (si (si (si (si (si Z 100 20 0 0) 100 21 0 0) 100 14 0 0) 100 15 0 (-1)) 100 13 0 0) 100 14 0 = 0 := by
    repeat (first | rw [gi_ne (by omega)] | rw [gi_eq2 (by omega)])
  have m15 : gi (si (si (si (si (si Z 100 20 0 0) 100 21 0 0) 100 14 0 0) 100 15 0 (-1)) 100 13 0 0) 100 15 0 = -1 := by
    repeat (first | rw [gi_ne (by omega)] | rw [gi_eq2 (by omega)])
  have m13 : gi (si (si (si (si (si Z 100 20 0 0) 100 21 0 0) 100 14 0 0) 100 15 0 (-1)) 100 13 0 0) 100 13 0 = nI 0 := gi_eq2 ⟨rfl, rfl, rfl⟩
  have m5 : ∀ j, gi (si (si (si (si (si Z 100 20 0 0) 100 21 0 0) 100 14 0 0) 100 15 0 (-1)) 100 13 0 0) 5 j 0 = gi Z 5 j 0 := fun j => by
    repeat (first | rw [gi_ne (by omega)] | rw [gi_eq2 (by omega)])
  rw [hM]
  generalize si (si (si (si (si Z 100 20 0 0) 100 21 0 0) 100 14 0 0) 100 15 0 (-1)) 100 13 0 0 = T0 at hT0 m12 m11 m20 m21 m14 m15 m13 m5
  -- the program, before its first token
  have b0 : ∀ c j i, (c ≠ 1 ∨ j < 2) → (c ≠ 0 ∨ j < 3) → gi (sX4_begin S.2.2.2.1) c j i = gi S.2.2.2.1 c j i := fun c j i h1 h2 => by
    unfold sX4_begin sX8_rewind
    simp only [olet_eq]
    repeat (first | rw [gi_ne (by omega)] | rw [gi_eq2 (by omega)])
  have b14 : gi (sX4_begin S.2.2.2.1) 1 4 0 = nI 0 := by
    unfold sX4_begin sX8_rewind
    simp only [olet_eq]
    repeat (first | rw [gi_ne (by omega)] | rw [gi_eq2 (by omega)])
    rfl
  have b04 : gi (sX4_begin S.2.2.2.1) 0 4 0 = 0 := by
    unfold sX4_begin sX8_rewind
    simp only [olet_eq]
    repeat (first | rw [gi_ne (by omega)] | rw [gi_eq2 (by omega)])
  have b05 : gi (sX4_begin S.2.2.2.1) 0 5 0 = -1 := by
    unfold sX4_begin sX8_rewind
    simp only [olet_eq]
    repeat (first | rw [gi_ne (by omega)] | rw [gi_eq2 (by omega)])
  have b06 : gi (sX4_begin S.2.2.2.1) 0 6 0 = 0 := by
    unfold sX4_begin sX8_rewind
    simp only [olet_eq]
    repeat (first | rw [gi_ne (by omega)] | rw [gi_eq2 (by omega)])
  have b07 : gi (sX4_begin S.2.2.2.1) 0 7 0 = 0 := by
    unfold sX4_begin sX8_rewind
    simp only [olet_eq]
    repeat (first | rw [gi_ne (by omega)] | rw [gi_eq2 (by omega)])
  have hTx : TxN (sX4_begin S.2.2.2.1) T0 n := ⟨(b0 1 1 0 (Or.inr (by omega)) (Or.inl (by decide))).trans n2, m12, fun j hj => by rw [b0 2 j 0 (Or.inl (by decide)) (Or.inl (by decide)), m11]; exact n4 j hj⟩
  obtain ⟨R9, T1, s, e, kd, -, s2, -, -, -, s6⟩ := sim_step hTx n1 b14 m13 (Nat.zero_le _)
  have hA : Ahd (sX4_begin S.2.2.2.1) T1 n 0 := ⟨hTx.frA s6, n1, b14, Nat.zero_le _, T0, T1, m13, fun j => (s6.1 11 j 0 (Or.inl (by decide))).symm, m12, s2, fun _ _ => rfl, rfl⟩
  have d0 : ∀ j, 7 ≤ j → j ≤ 15 → gi (sX7_clear S.2.2.2.2.1) 0 j 0 = if j = 10 then 1 else if j = 11 then 72 else 0 := fun j h1 h2 => by
    have : j = 7 ∨ j = 8 ∨ j = 9 ∨ j = 10 ∨ j = 11 ∨ j = 12 ∨ j = 13 ∨ j = 14 ∨ j = 15 := by omega
    unfold sX7_clear sX0_clear
    simp only [olet_eq]
    rcases this with rfl | rfl | rfl | rfl | rfl | rfl | rfl | rfl | rfl <;> (repeat (first | rw [gi_ne (by omega)] | rw [gi_eq2 (by omega)])) <;> rfl
  have d5 : gi (sX7_clear S.2.2.2.2.1) 5 1 0 = 0 ∧ gi (sX7_clear S.2.2.2.2.1) 5 2 0 = 0 := by
    unfold sX7_clear sX0_clear
    simp only [olet_eq]
    refine ⟨?_, ?_⟩
    · repeat (first | rw [gi_ne (by omega)] | rw [gi_eq2 (by omega)])
    · repeat (first | rw [gi_ne (by omega)] | rw [gi_eq2 (by omega)])
  have dN : NumR (sX7_clear S.2.2.2.2.1) := fun i hi => by
    unfold sX7_clear sX0_clear
    simp only [olet_eq]
    repeat (first | rw [gi_ne (by omega)] | rw [gi_eq2 (by omega)])
    exact hNC i hi
  have t5 : ∀ j, gi T1 5 j 0 = gi Z 5 j 0 := fun j => (s6.1 5 j 0 (Or.inl (by decide))).trans (m5 j)
  have t100 : ∀ j, j = 14 ∨ j = 15 ∨ j = 20 ∨ j = 21 → gi T1 100 j 0 = gi T0 100 j 0 := fun j hj => s6.1 100 j 0 (Or.inr (by omega))
  have hD : DrR (sX4_begin S.2.2.2.1) (sX7_clear S.2.2.2.2.1) T1 0 0 0 := by
    refine ⟨⟨⟨?_, ?_⟩, ⟨?_, ?_⟩, ⟨by omega, by omega, by omega⟩, ⟨d0 7 (by omega) (by omega), d0 8 (by omega) (by omega), d0 9 (by omega) (by omega)⟩, ⟨?_, ?_, ?_⟩, ⟨1, by omega, by omega, d0 10 (by omega) (by omega), ?_⟩, ⟨72, by omega, by omega, d0 11 (by omega) (by omega), ?_⟩, dN, ⟨d0 12 (by omega) (by omega), d0 13 (by omega) (by omega), d0 14 (by omega) (by omega), d0 15 (by omega) (by omega)⟩, d5⟩, fun p hp => by omega, fun r hr => by omega, fun i hi => by omega⟩
    · rw [b04, t100 14 (by omega), m14]
    · rw [b05, t100 15 (by omega), m15]
    · rw [b06, t100 20 (by omega), m20]
    · rw [b07, t100 21 (by omega), m21]
    · rw [t5, z6 131 (by omega) (by omega)]; rfl
    · rw [t5, z6 132 (by omega) (by omega)]; rfl
    · rw [t5, z6 133 (by omega) (by omega)]; rfl
    · rw [t5, z4]; rfl
    · rw [t5, z5]; rfl
  have hT1 : FrQ T T1 := hT0.trans s6.Q
  rw [s2, obind_some]
  have hRS : sX4_readStudio (S.2.2.2.1, S.2.2.2.2.1) = sX4_readStudio_l12 ((1 : Int32), (0 : Int32), (sX4_begin S.2.2.2.1, sX7_clear S.2.2.2.2.1)) := by
    unfold sX4_readStudio
    simp only [olet_eq]
  unfold sX9_load
  rw [hRS]
  rcases sim_read hA hD with ⟨R', D', T', g1, g2, g3, g4, g5, g6, g7⟩ | ⟨R', D', T2, np', nr', ni', g1, g2, g3, g4, R1, g5, g6, g7, g8⟩
  · rw [g1, g2, obind_some, if_pos rfl]
    have hQ : FrQ T T' := hT1.trans g6
    refine ⟨_, _, _, rfl, rfl, ⟨np, nr, ni, ?_⟩, hst⟩
    have hI := (hV.mono (Nat.le_succ _)).text (R' := R') hQ ⟨⟨0, by omega, g3, g4, fun j hj => by omega⟩, g5.1, g5.2⟩
    obtain ⟨i1, i2, i3, i4, i5, i6, i7, i8⟩ := hI
    exact ⟨i1, i2, i3, i4, i5, i6, g7, i8⟩
  · obtain ⟨T', f1, f2, f3, f4, f5, f6, f7, f8⟩ := load_fin g8
    obtain ⟨L', l1, l2, l3⟩ := sim_copy (A := S.2.2.2.2.2.1) f2 hV.2.2.2.2.2.2.2
    obtain ⟨X', x1, x2, x3, x4⟩ := e_l37 (B := B) (S := (S.1, si S.2.1 1 2 0 0, S.2.2.1, R', D', L', S.2.2.2.2.2.2))
    have hL9 : gi L' 0 9 0 = nI ni' := l2.1.2.1.2.2
    have hQ : FrQ T T2 := hT1.trans g4
    refine ⟨nI ni', (S.1, X', S.2.2.1, R', D', L', S.2.2.2.2.2.2), T', ?_, g2.trans f1, ⟨np', nr', ni', l2, ?_, ?_, ?_, ?_, ?_, f2.num, l3⟩, ⟨?_, hst.2⟩⟩
    · rw [g1, obind_some]
      dsimp only
      rw [if_neg one_ne, l1, obind_some]
      unfold sX1_forget
      rw [olet_eq, obind_some]
      dsimp only at x1 ⊢
      rw [x1, hL9]
    · obtain ⟨e, k, f, h1, h2, h3, h4, h5, h6, h7, h8⟩ := hV.2.1
      refine ⟨e, 0, f, h1, by omega, h3, ?_, ?_, ?_, f6, fun j hj => by omega⟩
      · show gi X' 1 1 0 = nI e
        rw [x2 1 1 0 (by decide), gi_ne (by omega)]; exact h4
      · show gi X' 1 2 0 = nI 0
        rw [x2 1 2 0 (by decide), gi_eq2 ⟨rfl, rfl, rfl⟩]; rfl
      · rw [f4 3 (by omega), hQ.2.2.2.2.2 3 (by omega)]; exact h6
    · intro k hk
      have hx : gi X' 2 k 0 = 0 ∧ gi T' 2 k 0 = 0 := by
        have : k = 0 ∨ k = 1 := by omega
        rcases this with rfl | rfl
        · exact ⟨x3, f7⟩
        · exact ⟨x4, f8⟩
      exact ⟨⟨fun _ => hx.2, fun _ => hx.1⟩, fun hz => absurd hx.2 hz⟩
    · exact hV.2.2.2.1.mono (Nat.le_succ _)
    · refine ⟨⟨0, by omega, g3, f5, fun j hj => by omega⟩, ?_, ?_⟩
      · show gi R' 0 4 0 = gi T' 100 14 0
        rw [f4 14 (by omega), g6, g5.1]
      · show gi R' 0 5 0 = gi T' 100 15 0
        rw [f4 15 (by omega), g7, g5.2]
    · obtain ⟨k, h1, h2, h3, h4⟩ := hV.2.2.2.2.2.1
      refine ⟨k, h1, ?_, ?_, fun j hj => ?_⟩
      · show gi X' 0 8 0 = nI k
        rw [x2 0 8 0 (by decide), gi_ne (by omega)]; exact h2
      · rw [f4 10 (by omega), hQ.2.2.2.2.2 10 (by omega)]; exact h3
      · show gi X' 3 j 0 = gi T' 9 j 0
        rw [x2 3 j 0 (by decide), gi_ne (by omega), f3, hQ.2.2.2.2.1]; exact h4 j hj
    · have := ts_copy _ l1
      obtain ⟨-, -, -, -, -, -, -, -, ⟨k1, k2, -, -⟩, -⟩ := g8.1
      refine ⟨0, 0, by omega, by omega, ?_⟩
      show (TS L').2 = _
      rw [this]
      unfold TS
      dsimp only
      rw [k1, k2]
      rfl
end LOD
