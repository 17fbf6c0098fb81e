/-! ===== COPIES ===== -/
def AgP (A O : Mem) (u : Nat) : Prop := ∀ p, p < u → ∀ w, w < 3 → gi A 1 w p = gi O 1 w p
def AgR (A O : Mem) (u : Nat) : Prop := ∀ r, r < u → ∀ w, w < 8 → gi A 2 w r = gi O 2 w r
def AgI (A O : Mem) (u : Nat) : Prop := ∀ i, i < u → (∀ w, 2 ≤ w → w ≤ 13 → gi A 3 w i = gi O 3 w i) ∧ gi A 3 15 i = bz (gi O 3 15 i) ∧ (∀ w, 16 ≤ w → w ≤ 18 → gi A 3 w i = gi O 3 w i) ∧ gq A 3 i = gq O 3 i ∧ ∀ j, j < 8 → gi A 4 j i = gi O 4 j i
def AgB (A O : Mem) : Prop := (∀ j, 7 ≤ j → j ≤ 15 → gi A 0 j 0 = gi O 0 j 0) ∧ gi A 5 1 0 = gi O 5 1 0 ∧ gi A 5 2 0 = gi O 5 2 0 ∧ ∀ j, j < 600 → gi A 6 j 0 = gi O 6 j 0
theorem cp3_ne {A O : Mem} {p c j x : Nat} (h : c ≠ 1 ∨ x ≠ p) : gi (sX3_copyFrom A O p p) c j x = gi A c j x := by
  simp only [sX3_copyFrom, olet_eq]
  rw [gi_ne (by omega), gi_ne (by omega), gi_ne (by omega)]
theorem cp3_eq {A O : Mem} {p w : Nat} (h : w < 3) : gi (sX3_copyFrom A O p p) 1 w p = gi O 1 w p := by
  have hw : w = 0 ∨ w = 1 ∨ w = 2 := by omega
  rcases hw with rfl | rfl | rfl <;> (simp only [sX3_copyFrom, olet_eq]; repeat (first | rw [gi_ne (by omega)] | rw [gi_eq2 (by omega)]))
theorem cp5_ne {A O : Mem} {p c j x : Nat} (h : c ≠ 2 ∨ x ≠ p) : gi (sX5_copyFrom A O p p) c j x = gi A c j x := by
  simp only [sX5_copyFrom, olet_eq]
  rw [gi_ne (by omega), gi_ne (by omega), gi_ne (by omega), gi_ne (by omega), gi_ne (by omega), gi_ne (by omega), gi_ne (by omega), gi_ne (by omega)]
theorem cp5_eq {A O : Mem} {p w : Nat} (h : w < 8) : gi (sX5_copyFrom A O p p) 2 w p = gi O 2 w p := by
  have hw : w = 0 ∨ w = 1 ∨ w = 2 ∨ w = 3 ∨ w = 4 ∨ w = 5 ∨ w = 6 ∨ w = 7 := by omega
  rcases hw with rfl | rfl | rfl | rfl | rfl | rfl | rfl | rfl <;> (simp only [sX5_copyFrom, olet_eq]; repeat (first | rw [gi_ne (by omega)] | rw [gi_eq2 (by omega)]))
theorem gi_srn {S : Mem} {c i c' j i' : Nat} {f : Nat → Int32} (h : c' ≠ c ∨ i' ≠ i) : gi (sr S c i f) c' j i' = gi S c' j i' := by
  rw [gi_sr, if_neg (by omega)]
theorem gi_sre {S : Mem} {c i j : Nat} {f : Nat → Int32} : gi (sr S c i f) c j i = f j := by
  rw [gi_sr, if_pos ⟨rfl, rfl⟩]
theorem cp2_ne {A O : Mem} {p c j x : Nat} (h : (c ≠ 3 ∧ c ≠ 4) ∨ x ≠ p ∨ (c = 3 ∧ j = 0)) : gi (sX2_copyFrom A O p p) c j x = gi A c j x := by
  simp only [sX2_copyFrom, olet_eq]
  rw [gi_srn (by omega)]
  repeat (first | rw [gi_ne (by omega)] | rw [gi_sq])
theorem cp2_w {A O : Mem} {p w : Nat} (h : (2 ≤ w ∧ w ≤ 13) ∨ (16 ≤ w ∧ w ≤ 18)) : gi (sX2_copyFrom A O p p) 3 w p = gi O 3 w p := by
  have hw : w = 2 ∨ w = 3 ∨ w = 4 ∨ w = 5 ∨ w = 6 ∨ w = 7 ∨ w = 8 ∨ w = 9 ∨ w = 10 ∨ w = 11 ∨ w = 12 ∨ w = 13 ∨ w = 16 ∨ w = 17 ∨ w = 18 := by omega
  rcases hw with rfl | rfl | rfl | rfl | rfl | rfl | rfl | rfl | rfl | rfl | rfl | rfl | rfl | rfl | rfl <;> (simp only [sX2_copyFrom, olet_eq]; rw [gi_srn (by omega)]; repeat (first | rw [gi_ne (by omega)] | rw [gi_eq2 (by omega)] | rw [gi_sq]))
theorem cp2_15 {A O : Mem} {p : Nat} : gi (sX2_copyFrom A O p p) 3 15 p = bz (gi O 3 15 p) := by
  simp only [sX2_copyFrom, olet_eq]
  rw [gi_srn (by omega)]
  repeat (first | rw [gi_ne (by omega)] | rw [gi_eq2 (by omega)])
theorem cp2_q {A O : Mem} {p : Nat} : gq (sX2_copyFrom A O p p) 3 p = gq O 3 p := by
  simp only [sX2_copyFrom, olet_eq, gq_sr, gq_si]
  rw [gq_sq, if_pos ⟨rfl, rfl⟩]
theorem cp2_qn {A O : Mem} {p c x : Nat} (h : c ≠ 3 ∨ x ≠ p) : gq (sX2_copyFrom A O p p) c x = gq A c x := by
  simp only [sX2_copyFrom, olet_eq, gq_sr, gq_si]
  rw [gq_ne (by omega)]
  simp only [gq_si]
theorem cp2_4 {A O : Mem} {p j : Nat} (h : j < 8) : gi (sX2_copyFrom A O p p) 4 j p = gi O 4 j p := by
  simp only [sX2_copyFrom, olet_eq]
  rw [gi_sre]
  unfold va_cpy
  rw [if_pos (by
    have e1 : (0 : Int32).toNatClampNeg = 0 := rfl
    have e2 : (jmin (8 : Int32) (8 : Int32)).toNatClampNeg = 8 := by decide
    rw [e1, e2]; omega)]
  dsimp only
  rw [show (0 : Int32).toNatClampNeg + (j - (0 : Int32).toNatClampNeg) = j from by
    have e1 : (0 : Int32).toNatClampNeg = 0 := rfl
    rw [e1]; omega]
theorem cp0 {A O : Mem} : AgB (sX0_copyFrom A O) A → True := fun _ => trivial
theorem cp_items {A O : Mem} {np nr ni : Nat} (hb : np ≤ 6 ∧ nr ≤ 10 ∧ ni ≤ 16) (h9 : gi O 0 9 0 = nI ni) (h1 : AgB A O) (h2 : AgP A O np) (h3 : AgR A O nr) (h4 : NumR A) : ∃ S', sX7_copyFrom_l143 O ((0 : Int32), A) = some S' ∧ AgB S' O ∧ AgP S' O np ∧ AgR S' O nr ∧ AgI S' O ni ∧ NumR S' := by
  unfold sX7_copyFrom_l143
  refine itw_one (f := sX7_copyFrom_l143_step O) (J := fun k a => ∃ u, u ≤ ni ∧ k = ni - u ∧ a.1 = nI u ∧ AgB a.2 O ∧ AgP a.2 O np ∧ AgR a.2 O nr ∧ AgI a.2 O u ∧ NumR a.2) (P := fun S' => AgB S' O ∧ AgP S' O np ∧ AgR S' O nr ∧ AgI S' O ni ∧ NumR S') (fun k a => ?_) (k := ni - 0) (a := ((0 : Int32), A)) ⟨0, by omega, rfl, rfl, h1, h2, h3, fun i hi => absurd hi (Nat.not_lt_zero _), h4⟩
  obtain ⟨z, A⟩ := a
  rintro ⟨u, q1, rfl, q2, h1, h2, h3, h5, h4⟩
  dsimp only at q2 h1 h2 h3 h4 h5
  subst q2
  unfold sX7_copyFrom_l143_step
  dsimp only
  rw [h1.1 9 (by omega) (by omega), h9]
  by_cases e : ni ≤ u
  · have hle : nI ni ≤ nI u := by rw [n_le (by omega) (by omega)]; exact e
    have e2 : u = ni := by omega
    subst e2
    rw [if_pos hle]
    exact Or.inl ⟨_, rfl, h1, h2, h3, h5, h4⟩
  · have hle : ¬ nI ni ≤ nI u := by rw [n_le (by omega) (by omega)]; exact e
    rw [if_neg hle, e_itemAt (by omega), e_itemAt (by omega), olet_eq, n_suc]
    refine Or.inr ⟨_, ni - (u + 1), by omega, rfl, u + 1, by omega, rfl, rfl, ⟨fun j a b => ?_, ?_, ?_, fun j hj => ?_⟩, fun p hp w hw => ?_, fun p hp w hw => ?_, fun i hi => ?_, fun i hi => ?_⟩
    · rw [cp2_ne (by omega)]; exact h1.1 j a b
    · rw [cp2_ne (by omega)]; exact h1.2.1
    · rw [cp2_ne (by omega)]; exact h1.2.2.1
    · rw [cp2_ne (by omega)]; exact h1.2.2.2 j hj
    · rw [cp2_ne (by omega)]; exact h2 p hp w hw
    · rw [cp2_ne (by omega)]; exact h3 p hp w hw
    · by_cases ei : i = u
      · subst ei
        exact ⟨fun w a b => cp2_w (by omega), cp2_15, fun w a b => cp2_w (by omega), cp2_q, fun j hj => cp2_4 hj⟩
      · obtain ⟨g1, g2, g3, g4, g5⟩ := h5 i (by omega)
        exact ⟨fun w a b => by rw [cp2_ne (by omega)]; exact g1 w a b, by rw [cp2_ne (by omega)]; exact g2, fun w a b => by rw [cp2_ne (by omega)]; exact g3 w a b, by rw [cp2_qn (by omega)]; exact g4, fun j hj => by rw [cp2_ne (by omega)]; exact g5 j hj⟩
    · rw [cp2_ne (by omega)]; exact h4 i hi
theorem cp_recipes {A O : Mem} {np nr ni : Nat} (hb : np ≤ 6 ∧ nr ≤ 10 ∧ ni ≤ 16) (h8 : gi O 0 8 0 = nI nr) (h9 : gi O 0 9 0 = nI ni) (h1 : AgB A O) (h2 : AgP A O np) (h4 : NumR A) : ∃ S', sX7_copyFrom_l114 O ((0 : Int32), A) = some S' ∧ AgB S' O ∧ AgP S' O np ∧ AgR S' O nr ∧ AgI S' O ni ∧ NumR S' := by
  unfold sX7_copyFrom_l114
  refine itw_one (f := sX7_copyFrom_l114_step O) (J := fun k a => ∃ u, u ≤ nr ∧ k = nr - u ∧ a.1 = nI u ∧ AgB a.2 O ∧ AgP a.2 O np ∧ AgR a.2 O u ∧ NumR a.2) (P := fun S' => AgB S' O ∧ AgP S' O np ∧ AgR S' O nr ∧ AgI S' O ni ∧ NumR S') (fun k a => ?_) (k := nr - 0) (a := ((0 : Int32), A)) ⟨0, by omega, rfl, rfl, h1, h2, fun i hi => absurd hi (Nat.not_lt_zero _), h4⟩
  obtain ⟨z, A⟩ := a
  rintro ⟨u, q1, rfl, q2, h1, h2, h3, h4⟩
  dsimp only at q2 h1 h2 h3 h4
  subst q2
  unfold sX7_copyFrom_l114_step
  dsimp only
  rw [h1.1 8 (by omega) (by omega), h8]
  by_cases e : nr ≤ u
  · have hle : nI nr ≤ nI u := by rw [n_le (by omega) (by omega)]; exact e
    have e2 : u = nr := by omega
    subst e2
    obtain ⟨S', g1, g2⟩ := cp_items hb h9 h1 h2 h3 h4
    rw [if_pos hle, g1]
    exact Or.inl ⟨_, rfl, g2⟩
  · have hle : ¬ nI nr ≤ nI u := by rw [n_le (by omega) (by omega)]; exact e
    rw [if_neg hle, e_recipeAt (by omega), e_recipeAt (by omega), olet_eq, n_suc]
    refine Or.inr ⟨_, nr - (u + 1), by omega, rfl, u + 1, by omega, rfl, rfl, ⟨fun j a b => ?_, ?_, ?_, fun j hj => ?_⟩, fun p hp w hw => ?_, fun p hp w hw => ?_, fun i hi => ?_⟩
    · rw [cp5_ne (by omega)]; exact h1.1 j a b
    · rw [cp5_ne (by omega)]; exact h1.2.1
    · rw [cp5_ne (by omega)]; exact h1.2.2.1
    · rw [cp5_ne (by omega)]; exact h1.2.2.2 j hj
    · rw [cp5_ne (by omega)]; exact h2 p hp w hw
    · by_cases ei : p = u
      · subst ei; exact cp5_eq hw
      · rw [cp5_ne (by omega)]; exact h3 p (by omega) w hw
    · rw [cp5_ne (by omega)]; exact h4 i hi
theorem cp_presses {A O : Mem} {np nr ni : Nat} (hb : np ≤ 6 ∧ nr ≤ 10 ∧ ni ≤ 16) (h7 : gi O 0 7 0 = nI np) (h8 : gi O 0 8 0 = nI nr) (h9 : gi O 0 9 0 = nI ni) (h1 : AgB A O) (h4 : NumR A) : ∃ S', sX7_copyFrom_l85 O ((0 : Int32), A) = some S' ∧ AgB S' O ∧ AgP S' O np ∧ AgR S' O nr ∧ AgI S' O ni ∧ NumR S' := by
  unfold sX7_copyFrom_l85
  refine itw_one (f := sX7_copyFrom_l85_step O) (J := fun k a => ∃ u, u ≤ np ∧ k = np - u ∧ a.1 = nI u ∧ AgB a.2 O ∧ AgP a.2 O u ∧ NumR a.2) (P := fun S' => AgB S' O ∧ AgP S' O np ∧ AgR S' O nr ∧ AgI S' O ni ∧ NumR S') (fun k a => ?_) (k := np - 0) (a := ((0 : Int32), A)) ⟨0, by omega, rfl, rfl, h1, fun i hi => absurd hi (Nat.not_lt_zero _), h4⟩
  obtain ⟨z, A⟩ := a
  rintro ⟨u, q1, rfl, q2, h1, h2, h4⟩
  dsimp only at q2 h1 h2 h4
  subst q2
  unfold sX7_copyFrom_l85_step
  dsimp only
  rw [h1.1 7 (by omega) (by omega), h7]
  by_cases e : np ≤ u
  · have hle : nI np ≤ nI u := by rw [n_le (by omega) (by omega)]; exact e
    have e2 : u = np := by omega
    subst e2
    obtain ⟨S', g1, g2⟩ := cp_recipes hb h8 h9 h1 h2 h4
    rw [if_pos hle, g1]
    exact Or.inl ⟨_, rfl, g2⟩
  · have hle : ¬ nI np ≤ nI u := by rw [n_le (by omega) (by omega)]; exact e
    rw [if_neg hle, e_pressAt (by omega), e_pressAt (by omega), olet_eq, n_suc]
    refine Or.inr ⟨_, np - (u + 1), by omega, rfl, u + 1, by omega, rfl, rfl, ⟨fun j a b => ?_, ?_, ?_, fun j hj => ?_⟩, fun p hp w hw => ?_, fun i hi => ?_⟩
    · rw [cp3_ne (by omega)]; exact h1.1 j a b
    · rw [cp3_ne (by omega)]; exact h1.2.1
    · rw [cp3_ne (by omega)]; exact h1.2.2.1
    · rw [cp3_ne (by omega)]; exact h1.2.2.2 j hj
    · by_cases ei : p = u
      · subst ei; exact cp3_eq hw
      · rw [cp3_ne (by omega)]; exact h2 p (by omega) w hw
    · rw [cp3_ne (by omega)]; exact h4 i hi
theorem cp_all {A O : Mem} {np nr ni : Nat} (hb : np ≤ 6 ∧ nr ≤ 10 ∧ ni ≤ 16) (h7 : gi O 0 7 0 = nI np) (h8 : gi O 0 8 0 = nI nr) (h9 : gi O 0 9 0 = nI ni) (h4 : NumR A) : ∃ S', sX7_copyFrom A O = some S' ∧ AgB S' O ∧ AgP S' O np ∧ AgR S' O nr ∧ AgI S' O ni ∧ NumR S' := by
  unfold sX7_copyFrom
  simp only [olet_eq]
  refine cp_presses hb h7 h8 h9 ⟨fun j a b => ?_, ?_, ?_, fun j hj => ?_⟩ (fun i hi => ?_)
  · have hj : j = 7 ∨ j = 8 ∨ j = 9 ∨ j = 10 ∨ j = 11 ∨ j = 12 ∨ j = 13 ∨ j = 14 ∨ j = 15 := by omega
    simp only [sX0_copyFrom, olet_eq]
    rcases hj with rfl | rfl | rfl | rfl | rfl | rfl | rfl | rfl | rfl <;> (rw [gi_srn (by omega)]; repeat (first | rw [gi_ne (by omega)] | rw [gi_eq2 (by omega)]))
  · simp only [sX0_copyFrom, olet_eq]
    rw [gi_srn (by omega)]
    repeat (first | rw [gi_ne (by omega)] | rw [gi_eq2 (by omega)])
  · simp only [sX0_copyFrom, olet_eq]
    rw [gi_srn (by omega)]
    repeat (first | rw [gi_ne (by omega)] | rw [gi_eq2 (by omega)])
  · simp only [sX0_copyFrom, olet_eq]
    rw [gi_sre]
    unfold va_cpy
    rw [if_pos (by
      have e1 : (0 : Int32).toNatClampNeg = 0 := rfl
      have e2 : (jmin (600 : Int32) (600 : Int32)).toNatClampNeg = 600 := by decide
      rw [e1, e2]; omega)]
    dsimp only
    rw [show (0 : Int32).toNatClampNeg + (j - (0 : Int32).toNatClampNeg) = j from by
      have e1 : (0 : Int32).toNatClampNeg = 0 := rfl
      rw [e1]; omega]
  · simp only [sX0_copyFrom, olet_eq]
    rw [gi_srn (by omega)]
    repeat (first | rw [gi_ne (by omega)] | rw [gi_eq2 (by omega)])
    exact h4 i hi
theorem bz_0 {x : Int32} : bz x = 0 ↔ x = 0 := by
  unfold bz
  by_cases h : x = 0
  · rw [if_pos h]; exact ⟨fun _ => h, fun _ => rfl⟩
  · rw [if_neg h]; exact ⟨fun z => absurd z (by decide), fun z => absurd z h⟩
/-- a copy stands to the Model as what was copied -/
theorem Rel.ag {A O T : Mem} {np nr ni : Nat} (h : Rel O T np nr ni) (h1 : AgB A O) (h2 : AgP A O np) (h3 : AgR A O nr) (h4 : AgI A O ni) (h5 : NumR A) : Rel A T np nr ni := by
  obtain ⟨⟨a, b, c, d, e, f, g⟩, ⟨s1, s2, s3, s4⟩, ⟨bf, bk, b1, b2, b3, b4, b5, b6⟩, hO, hI, hIt⟩ := h
  have hni : ni ≤ 16 := a.2.2
  refine ⟨⟨a, ?_, c, ?_, fun p hp => ?_, fun r hr => ?_, fun i hi => ?_⟩, ⟨?_, ?_, fun r hr => ?_, fun p hp => ?_⟩, ⟨bf, bk, b1, b2, b3, ?_, b5, fun j hj => ?_⟩, fun i hi => ?_, ⟨fun p hp => ?_, fun i hi p hp => ?_⟩, fun i hi => ?_⟩
  · rw [h1.1 7 (by omega) (by omega), h1.1 8 (by omega) (by omega), h1.1 9 (by omega) (by omega)]; exact b
  · rw [h1.1 10 (by omega) (by omega), h1.1 11 (by omega) (by omega)]; exact ⟨d.1, d.2.1, d.2.2.1, d.2.2.2.1, h5⟩
  · rw [h2 p hp 0 (by omega)]; exact e p hp
  · obtain ⟨f1, f2⟩ := f r hr
    rw [h3 r hr 0 (by omega), h3 r hr 1 (by omega), h3 r hr 2 (by omega), h3 r hr 3 (by omega), h3 r hr 4 (by omega), h3 r hr 5 (by omega), h3 r hr 6 (by omega)]
    exact ⟨fun w hw => by rw [h3 r hr w (by omega)]; exact f1 w hw, f2⟩
  · obtain ⟨g1, g2⟩ := g i hi
    rw [(h4 i hi).1 2 (by omega) (by omega), (h4 i hi).1 4 (by omega) (by omega)]
    exact ⟨h5 i (by omega), g2⟩
  · rw [h1.1 12 (by omega) (by omega)]; exact s1
  · rw [h1.1 12 (by omega) (by omega), h1.1 13 (by omega) (by omega), h1.1 14 (by omega) (by omega), h1.1 15 (by omega) (by omega)]; exact s2
  · rw [h3 r hr 7 (by omega)]; exact s3 r hr
  · rw [h2 p hp 2 (by omega)]; exact s4 p hp
  · rw [h1.2.1, h1.2.2.1]; exact b4
  · rw [h1.2.2.2 j (by omega)]; exact b6 j hj
  · rw [(h4 i hi).2.2.2.1]; exact hO i hi
  · rw [h2 p hp 1 (by omega)]
    rcases hI.1 p hp with q | ⟨i, q1, q2, q3⟩
    · exact Or.inl q
    · exact Or.inr ⟨i, q1, q2, by rw [(h4 i q1).1 10 (by omega) (by omega)]; exact q3⟩
  · rw [h2 p hp 1 (by omega), (h4 i hi).1 10 (by omega) (by omega)]; exact hI.2 i hi p hp
  · obtain ⟨w, w15, w16, -, w4⟩ := h4 i hi
    obtain ⟨q1, q2, ⟨k, k1, k2, k3⟩, q4, q5⟩ := hIt i hi
    refine ⟨?_, ?_, ⟨k, k1, ?_, fun j hj => ?_⟩, ?_, ?_⟩
    · unfold ItE
      rw [w 3 (by omega) (by omega), w 5 (by omega) (by omega), w 6 (by omega) (by omega), w 7 (by omega) (by omega), w 8 (by omega) (by omega), w 9 (by omega) (by omega), w 10 (by omega) (by omega), w 13 (by omega) (by omega)]
      exact q1
    · unfold ItC
      rw [w 3 (by omega) (by omega)]; exact q2
    · rw [w 7 (by omega) (by omega)]; exact k2
    · rw [w4 j (by omega)]; exact k3 j hj
    · unfold ItL
      rw [w16 16 (by omega) (by omega), w16 17 (by omega) (by omega), w16 18 (by omega) (by omega), w15]
      rcases q4 with ⟨z1, z2⟩ | ⟨z1, z2⟩
      · exact Or.inl ⟨bz_0.mpr z1, z2⟩
      · exact Or.inr ⟨fun z => z1 (bz_0.mp z), z2⟩
    · unfold ItS at q5 ⊢
      rw [w 5 (by omega) (by omega), w 6 (by omega) (by omega), w 9 (by omega) (by omega), w 10 (by omega) (by omega), w 11 (by omega) (by omega), w 12 (by omega) (by omega), w 3 (by omega) (by omega)]
      rcases q5 with z | z | ⟨z1, ⟨r, r1, r2, r3⟩, z3⟩ | z | z
      · exact Or.inl z
      · exact Or.inr (Or.inl z)
      · exact Or.inr (Or.inr (Or.inl ⟨z1, ⟨r, r1, r2, by rw [h3 r r1 1 (by omega)]; exact r3⟩, z3⟩))
      · exact Or.inr (Or.inr (Or.inr (Or.inl z)))
      · exact Or.inr (Or.inr (Or.inr (Or.inr z)))
theorem sim_copy {A O T : Mem} {np nr ni : Nat} (h : Rel O T np nr ni) (h5 : NumR A) : ∃ S', sX7_copyFrom A O = some S' ∧ Rel S' T np nr ni ∧ NumR S' := by
  obtain ⟨S', g1, g2, g3, g4, g5, g6⟩ := cp_all h.1.1 h.1.2.1.1 h.1.2.1.2.1 h.1.2.1.2.2 h5
  exact ⟨S', g1, h.ag g2 g3 g4 g5 g6, g6⟩
