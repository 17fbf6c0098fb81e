/-! ===== BENCHES, REASONS, WHO BEGINS NEXT ===== -/
theorem msk_t {f : Nat → Bool} {n : Nat} (h : f n = true) : msk f (n + 1) = msk f n + 2 ^ n := by
  show msk f n + (if f n = true then 2 ^ n else 0) = _
  rw [if_pos h]
theorem msk_f {f : Nat → Bool} {n : Nat} (h : ¬ f n = true) : msk f (n + 1) = msk f n := by
  show msk f n + (if f n = true then 2 ^ n else 0) = _
  rw [if_neg h, Nat.add_zero]
theorem ctn_t {f : Nat → Bool} {n : Nat} (h : f n = true) : ctn f (n + 1) = ctn f n + 1 := by
  show ctn f n + (if f n = true then 1 else 0) = _
  rw [if_pos h]
theorem ctn_f {f : Nat → Bool} {n : Nat} (h : ¬ f n = true) : ctn f (n + 1) = ctn f n := by
  show ctn f n + (if f n = true then 1 else 0) = _
  rw [if_neg h, Nat.add_zero]
def inst (S : Mem) (w : Int32) : Nat → Bool := fun o => decide (gi S 3 5 o = w)
section RD2
variable {S T : Mem} {np nr ni : Nat}
theorem e_objectsAt (hC : CfR S T np nr ni) (hE : ∀ i, i < ni → gi S 3 5 i = gi T 0 (6 + 21 * i + 1) 0) {w : Int32} : sX10_objectsAt T w = some (nI (msk (inst S w) ni)) := by
  have hni : ni ≤ 16 := hC.1.2.2
  have c4' : gi T 5 (4 : Int32).toNatClampNeg 0 = nI ni := hC.2.2.1.2.2
  unfold sX10_objectsAt sX10_objectsAt_l4
  obtain ⟨b, h1, h2⟩ := itw_one (f := sX10_objectsAt_l4_step T w) (J := fun k a => ∃ o, o ≤ ni ∧ k = ni - o ∧ a = (nI (msk (inst S w) o), nI o)) (P := fun b => b = nI (msk (inst S w) ni)) (fun k a => by
    rintro ⟨o, h1, rfl, rfl⟩
    unfold sX10_objectsAt_l4_step
    dsimp only
    rw [c4']
    by_cases e : ni ≤ o
    · have hle : nI ni ≤ nI o := by rw [n_le (by omega) (by omega)]; exact e
      have e2 : o = ni := by omega
      subst e2
      exact Or.inl ⟨_, by rw [if_pos hle]; rfl, rfl⟩
    · have hle : ¬ nI ni ≤ nI o := by rw [n_le (by omega) (by omega)]; exact e
      rw [if_neg hle, e_of_1 (by omega), obind_some, ← hE o (by omega), n_suc]
      by_cases e2 : gi S 3 5 o = w
      · refine Or.inr ⟨_, ni - (o + 1), by omega, by rw [if_pos e2, msk_or (by omega), olet_eq], o + 1, by omega, rfl, ?_⟩
        rw [msk_t (show inst S w o = true from decide_eq_true e2)]
      · refine Or.inr ⟨_, ni - (o + 1), by omega, by rw [if_neg e2, or_0, olet_eq], o + 1, by omega, rfl, ?_⟩
        rw [msk_f (show ¬ inst S w o = true by unfold inst; rw [decide_eq_false e2]; exact Bool.false_ne_true)]) (k := ni - 0) (a := ((0 : Int32), (0 : Int32))) ⟨0, by omega, rfl, rfl⟩
  rw [h1, h2]
theorem e_itemsIn (hC : CfR S T np nr ni) {w : Int32} : sX7_itemsIn S w = some (nI (msk (inst S w) ni)) := by
  have hni : ni ≤ 16 := hC.1.2.2
  have c4' : gi S 0 9 0 = nI ni := hC.2.1.2.2
  unfold sX7_itemsIn sX7_itemsIn_l4
  obtain ⟨b, h1, h2⟩ := itw_one (f := sX7_itemsIn_l4_step S w) (J := fun k a => ∃ o, o ≤ ni ∧ k = ni - o ∧ a = (nI (msk (inst S w) o), nI o)) (P := fun b => b = nI (msk (inst S w) ni)) (fun k a => by
    rintro ⟨o, h1, rfl, rfl⟩
    unfold sX7_itemsIn_l4_step
    dsimp only
    rw [c4']
    by_cases e : ni ≤ o
    · have hle : nI ni ≤ nI o := by rw [n_le (by omega) (by omega)]; exact e
      have e2 : o = ni := by omega
      subst e2
      exact Or.inl ⟨_, by rw [if_pos hle]; rfl, rfl⟩
    · have hle : ¬ nI ni ≤ nI o := by rw [n_le (by omega) (by omega)]; exact e
      rw [if_neg hle, e_itemAt (by omega), n_suc]
      by_cases e2 : gi S 3 5 o = w
      · refine Or.inr ⟨_, ni - (o + 1), by omega, by rw [if_pos e2, msk_or (by omega), olet_eq], o + 1, by omega, rfl, ?_⟩
        rw [msk_t (show inst S w o = true from decide_eq_true e2)]
      · refine Or.inr ⟨_, ni - (o + 1), by omega, by rw [if_neg e2], o + 1, by omega, rfl, ?_⟩
        rw [msk_f (show ¬ inst S w o = true by unfold inst; rw [decide_eq_false e2]; exact Bool.false_ne_true)]) (k := ni - 0) (a := ((0 : Int32), (0 : Int32))) ⟨0, by omega, rfl, rfl⟩
  rw [h1, h2]
theorem sub_m1 {b c : Nat} : nI b - nI c + (-1 : Int32) = nI b - nI (c + 1) := by
  rw [← n_suc]
  apply Int32.toBitVec_inj.1
  simp only [Int32.toBitVec_add, Int32.toBitVec_sub]
  show (nI b).toBitVec - (nI c).toBitVec + (-1 : BitVec 32) = (nI b).toBitVec - ((nI c).toBitVec + 1)
  generalize (nI b).toBitVec = x
  generalize (nI c).toBitVec = y
  rw [BitVec.sub_eq_add_neg, BitVec.sub_eq_add_neg, BitVec.neg_add, BitVec.sub_eq_add_neg, BitVec.add_assoc]
/-- how many benches are free -/
theorem sim_free (hC : CfR S T np nr ni) (hE : ∀ i, i < ni → gi S 3 5 i = gi T 0 (6 + 21 * i + 1) 0) : ∃ b, 1 ≤ b ∧ b ≤ 4 ∧ sX7_freeBenches S = some (nI b - nI (ctn (inst S 1) ni)) ∧ sX10_freeBenches T = some (nI b - nI (ctn (inst S 1) ni)) := by
  have hni : ni ≤ 16 := hC.1.2.2
  have e9 : gi S 0 9 0 = nI ni := hC.2.1.2.2
  obtain ⟨h10, _, ⟨b, b1, b2, b3⟩, _⟩ := hC.2.2.2.1
  refine ⟨b, b1, b2, ?_, ?_⟩
  · unfold sX7_freeBenches sX7_freeBenches_l7
    obtain ⟨v, h1, h2⟩ := itw_one (f := sX7_freeBenches_l7_step S) (J := fun k a => ∃ o, o ≤ ni ∧ k = ni - o ∧ a = (nI b - nI (ctn (inst S 1) o), nI o)) (P := fun v => v = nI b - nI (ctn (inst S 1) ni)) (fun k a => by
      rintro ⟨o, h1, rfl, rfl⟩
      unfold sX7_freeBenches_l7_step
      dsimp only
      rw [e9]
      by_cases e : ni ≤ o
      · have hle : nI ni ≤ nI o := by rw [n_le (by omega) (by omega)]; exact e
        have e2 : o = ni := by omega
        subst e2
        exact Or.inl ⟨_, by rw [if_pos hle]; rfl, rfl⟩
      · have hle : ¬ nI ni ≤ nI o := by rw [n_le (by omega) (by omega)]; exact e
        have hl2 : ¬ (16 : Int32) ≤ nI o := by rw [n_lit 16, n_le (by omega) (by omega)]; omega
        rw [if_neg hle, if_neg hl2, n_inb (by omega) (by omega), oif_t rfl, n_cl (by omega), n_suc]
        by_cases e2 : gi S 3 5 o = 1
        · refine Or.inr ⟨_, ni - (o + 1), by omega, by rw [if_pos e2, sub_m1], o + 1, by omega, rfl, ?_⟩
          rw [ctn_t (show inst S 1 o = true from decide_eq_true e2)]
        · refine Or.inr ⟨_, ni - (o + 1), by omega, by rw [if_neg e2], o + 1, by omega, rfl, ?_⟩
          rw [ctn_f (show ¬ inst S 1 o = true by unfold inst; rw [decide_eq_false e2]; exact Bool.false_ne_true)]) (k := ni - 0) (a := (gi S 0 10 0, (0 : Int32))) ⟨0, by omega, rfl, by
        rw [h10, b3]
        have : nI b - nI (ctn (inst S 1) 0) = nI b := by show nI b - nI 0 = nI b; exact pk_sub (Nat.zero_le _)
        rw [this]; rfl⟩
    rw [h1, h2]
  · unfold sX10_freeBenches
    have hm : msk (inst S 1) ni < 2 ^ 16 := Nat.lt_of_lt_of_le (msk_lt _ _) (Nat.pow_le_pow_right (by omega) hni)
    rw [e_objectsAt hC hE, obind_some, e_bits hm, obind_some, pcn_msk _ _ hni, c0, b3]
/-- the greatest press -/
theorem e_greatest (hC : CfR S T np nr ni) : ∃ G, G ≤ 100 ∧ sX7_greatestPress S = some (nI G) ∧ (∀ p, p < np → ∃ k, k ≤ G ∧ gi S 1 0 p = nI k) ∧ (G = 0 ∨ ∃ p, p < np ∧ gi S 1 0 p = nI G) := by
  have hnp : np ≤ 6 := hC.1.1
  have e7 : gi S 0 7 0 = nI np := hC.2.1.1
  unfold sX7_greatestPress sX7_greatestPress_l4
  obtain ⟨v, h1, G, g1, h2, h3, h4⟩ := itw_one (f := sX7_greatestPress_l4_step S) (J := fun k a => ∃ p G, p ≤ np ∧ k = np - p ∧ a = (nI G, nI p) ∧ G ≤ 100 ∧ (∀ p', p' < p → ∃ k, k ≤ G ∧ gi S 1 0 p' = nI k) ∧ (G = 0 ∨ ∃ p', p' < np ∧ gi S 1 0 p' = nI G)) (P := fun v => ∃ G, G ≤ 100 ∧ v = nI G ∧ (∀ p, p < np → ∃ k, k ≤ G ∧ gi S 1 0 p = nI k) ∧ (G = 0 ∨ ∃ p, p < np ∧ gi S 1 0 p = nI G)) (fun k a => by
    rintro ⟨p, G, h1, rfl, rfl, hG, h2, h3⟩
    unfold sX7_greatestPress_l4_step
    dsimp only
    rw [e7]
    by_cases e : np ≤ p
    · have hle : nI np ≤ nI p := by rw [n_le (by omega) (by omega)]; exact e
      exact Or.inl ⟨_, by rw [if_pos hle]; rfl, G, hG, rfl, fun p' hp' => h2 p' (by omega), h3⟩
    · have hle : ¬ nI np ≤ nI p := by rw [n_le (by omega) (by omega)]; exact e
      have hl2 : ¬ (6 : Int32) ≤ nI p := by rw [n_lit 6, n_le (by omega) (by omega)]; omega
      obtain ⟨_, s, s1, s2, s3⟩ := hC.2.2.2.2.1 p (by omega)
      rw [if_neg hle, if_neg hl2, n_inb (by omega) (by omega), oif_t rfl, n_cl (by omega), s3, n_suc]
      by_cases e2 : s ≤ G
      · have hl3 : nI s ≤ nI G := by rw [n_le (by omega) (by omega)]; exact e2
        refine Or.inr ⟨_, np - (p + 1), by omega, by rw [if_pos hl3], p + 1, G, by omega, rfl, rfl, hG, fun p' hp' => ?_, h3⟩
        by_cases e3 : p' = p
        · subst e3; exact ⟨s, e2, s3⟩
        · exact h2 p' (by omega)
      · have hl3 : ¬ nI s ≤ nI G := by rw [n_le (by omega) (by omega)]; exact e2
        refine Or.inr ⟨_, np - (p + 1), by omega, by rw [if_neg hl3, oif_t rfl, olet_eq], p + 1, s, by omega, rfl, rfl, s2, fun p' hp' => ?_, Or.inr ⟨p, by omega, s3⟩⟩
        by_cases e3 : p' = p
        · subst e3; exact ⟨s, Nat.le_refl _, s3⟩
        · obtain ⟨q, q1, q2⟩ := h2 p' (by omega)
          exact ⟨q, by omega, q2⟩) (k := np - 0) (a := ((0 : Int32), (0 : Int32))) ⟨0, 0, by omega, rfl, rfl, by omega, fun p' h => absurd h (Nat.not_lt_zero _), Or.inl rfl⟩
  subst h2
  exact ⟨G, g1, h1, h3, h4⟩
/-- why a step cannot begin -/
theorem sim_reason (h : Rel S T np nr ni) {i : Nat} (hi : i < ni) : ∃ v, sX7_reasonOf S i = some v ∧ sX10_reasonOf T (nI i) = some v ∧ (v = 0 → gi S 3 5 i = 0 ∧ gi S 3 7 i ≠ 0 ∧ ∃ b, b ≤ 4 ∧ sX7_freeBenches S = some (nI b - nI (ctn (inst S 1) ni)) ∧ ctn (inst S 1) ni < b) := by
  obtain ⟨hC, hSa, hB, hO, hI, hIt⟩ := h
  have hni : ni ≤ 16 := hC.1.2.2
  have hnr : nr ≤ 10 := hC.1.2.1
  have hl : i < 16 := by omega
  obtain ⟨hE, hCx, ⟨k, k1, k2, k3⟩, hL, hSt⟩ := hIt i hi
  have hE1 : ∀ i, i < ni → gi S 3 5 i = gi T 0 (6 + 21 * i + 1) 0 := fun i hi => (hIt i hi).1.2.1
  have hE6 : ∀ i, i < ni → gi S 3 10 i = gi T 0 (6 + 21 * i + 6) 0 := fun i hi => (hIt i hi).1.2.2.2.2.2.2.1
  have t1 : gi T 0 (6 + 21 * i + 1) 0 = gi S 3 5 i := hE.2.1.symm
  have t3 : gi T 0 (6 + 21 * i + 3) 0 = gi S 3 7 i := hE.2.2.2.1.symm
  have t4 : gi T 0 (6 + 21 * i + 4) 0 = gi S 3 8 i := hE.2.2.2.2.1.symm
  have htm : gi T 0 (0 : Int32).toNatClampNeg 0 = gi S 0 12 0 := hSa.2.1.1.symm
  unfold sX7_reasonOf sX10_reasonOf
  rw [e_of_1 hl, obind_some, t1]
  by_cases e0 : gi S 3 5 i = 0
  · rw [if_pos e0, if_pos e0, e_of_3 hl, obind_some, t3]
    by_cases e1 : gi S 3 7 i = 0
    · rw [if_pos e1, if_pos e1]
      exact ⟨_, rfl, rfl, fun z => absurd z (by decide)⟩
    · rw [if_neg e1, if_neg e1]
      have kpos : 1 ≤ k := by
        rcases Nat.eq_zero_or_pos k with z | z
        · subst z; exact absurd k2 e1
        · exact z
      obtain ⟨q1, r, q2, q3⟩ := k3 0 kpos
      have q1' : gi T 0 (6 + 21 * i + 13) 0 = gi S 4 0 i := q1.symm
      have hr10 : r < 10 := by omega
      obtain ⟨_, hw, -, -, -, -, -, -, -⟩ := hC.re q2
      have eF : sX2_firstQueued S i = nI r := by
        unfold sX2_firstQueued
        rw [k2, if_neg (show ¬ nI k ≤ 0 by rw [n_lit 0, n_le (by omega) (by omega)]; omega), if_neg (show ¬ (8 : Int32) ≤ 0 by decide), c0, q3]
      rw [eF, e_recipeAt hr10, e_of_13 hl, obind_some, q1', q3, e_re_2 hr10, obind_some, ← hw 2 (by omega)]
      -- the rest, alike on both sides
      have key : ∃ v, sX7_reasonOf_j48 S i r = some v ∧ sX10_reasonOf_j52 T (nI i) (nI r) = some v ∧ (v = 0 → gi S 3 5 i = 0 ∧ gi S 3 7 i ≠ 0 ∧ ∃ b, b ≤ 4 ∧ sX7_freeBenches S = some (nI b - nI (ctn (inst S 1) ni)) ∧ ctn (inst S 1) ni < b) := by
        obtain ⟨b, b1, b2, f1, f2⟩ := sim_free hC hE1
        have hct := ctn_le (inst S 1) ni
        have fin : ∃ v, sX7_reasonOf_j82 S i = some v ∧ sX10_reasonOf_j96 T (nI i) = some v ∧ (v = 0 → gi S 3 5 i = 0 ∧ gi S 3 7 i ≠ 0 ∧ ∃ b, b ≤ 4 ∧ sX7_freeBenches S = some (nI b - nI (ctn (inst S 1) ni)) ∧ ctn (inst S 1) ni < b) := by
          unfold sX7_reasonOf_j82 sX10_reasonOf_j96
          rw [f1, f2, obind_some]
          by_cases e5 : nI b - nI (ctn (inst S 1) ni) ≤ 0
          · rw [if_pos e5]
            exact ⟨_, rfl, rfl, fun z => absurd z (by decide)⟩
          · rw [if_neg e5]
            refine ⟨_, rfl, rfl, fun _ => ⟨e0, e1, b, b2, rfl, ?_⟩⟩
            rw [Int32.le_iff_toInt_le, pk_sub_toInt (by omega) (by omega)] at e5
            have z0 : (0 : Int32).toInt = 0 := rfl
            omega
        unfold sX7_reasonOf_j48 sX10_reasonOf_j52 sX10_isApprovable
        rw [e_re_3 hr10, obind_some, e_th_1 hl, obind_some, ← hw 3 (by omega), ← (hC.2.2.2.2.2.2 i hi).2.2.1]
        unfold sX5_asksApproval
        by_cases e2 : gi S 2 3 r + gi S 3 4 i < (4 : Int32)
        · rw [if_pos e2, if_pos e2, if_pos rfl, obind_some, if_pos rfl]
          unfold sX10_reasonOf_j75
          rw [if_pos rfl]
          exact fin
        · rw [if_neg e2, if_neg e2, if_neg (show ¬ (1 : Int32) = 0 by decide), obind_some, if_neg (show ¬ (1 : Int32) = 0 by decide), e_of_4 hl, obind_some, t4]
          by_cases e3 : gi S 3 8 i = -1
          · rw [if_pos e3, if_pos e3]
            exact ⟨_, rfl, rfl, fun z => absurd z (by decide)⟩
          · rw [if_neg e3, if_neg e3]
            unfold sX10_reasonOf_j75
            rw [if_neg (show ¬ (1 : Int32) = 0 by decide), e_of_4 hl, obind_some, t4, htm]
            by_cases e4 : gi S 0 12 0 < gi S 3 8 i
            · rw [if_pos e4, if_pos e4]; exact fin
            · rw [if_neg e4, if_neg e4]
              exact ⟨_, rfl, rfl, fun z => absurd z (by decide)⟩
      by_cases e2 : gi S 2 2 r = 1
      · rw [if_pos e2, if_pos e2]
        obtain ⟨G, g1, g2, g3, g4⟩ := e_greatest hC
        obtain ⟨v, v1, v2, v3⟩ := sim_fit hC hI hE6 hi (fl := 0)
        obtain ⟨_, _, _, ⟨n, n1, n2, n3⟩, _⟩ := hC.2.2.2.2.2.2 i hi
        rw [g2, obind_some, v2, obind_some, n3]
        rcases v3 with ⟨rfl, v4⟩ | ⟨p, p1, rfl, p2, p3⟩
        · have hlt : G < n := by
            rcases g4 with z | ⟨p, p1, p2⟩
            · omega
            · rcases v4 p p1 with z | z
              · rw [p2, n3, n_lt (by omega) (by omega)] at z; exact z
              · exact absurd rfl z.1
          rw [if_neg (show ¬ nI n ≤ nI G by rw [n_le (by omega) (by omega)]; omega), if_pos rfl]
          exact ⟨_, rfl, rfl, fun z => absurd z (by decide)⟩
        · have hle : n ≤ G := by
            obtain ⟨s, s1, s2⟩ := g3 p p1
            rw [s2, n3, n_lt (by omega) (by omega)] at p2
            omega
          have hnp : np ≤ 6 := hC.1.1
          rw [if_pos (show nI n ≤ nI G by rw [n_le (by omega) (by omega)]; exact hle), if_neg (n_m1 (by omega))]
          exact key
      · rw [if_neg e2, if_neg e2]
        exact key
  · rw [if_neg e0, if_neg e0]
    exact ⟨_, rfl, rfl, fun z => absurd z (by decide)⟩
theorem e_urgS (h : Rel S T np nr ni) {i : Nat} (hi : i < ni) : ∃ u, u ≤ 30000 ∧ sX2_urgency S i = nI u ∧ sX10_urgency T (nI i) = some (nI u) := by
  obtain ⟨hC, hSa, hB, hO, hI, hIt⟩ := h
  have hni : ni ≤ 16 := hC.1.2.2
  obtain ⟨hE, hCx, hQ, hL, hSt⟩ := hIt i hi
  unfold sX2_urgency sX10_urgency
  rw [e_of_8 (by omega), obind_some]
  rcases hL with ⟨a, b⟩ | ⟨a, b, c, d, ⟨u, u1, u2⟩, e⟩
  · refine ⟨30000, by omega, ?_, ?_⟩
    · rw [a, show bz 0 = 0 from rfl, if_pos rfl]; rfl
    · rw [b, if_pos rfl]; rfl
  · refine ⟨u, by omega, ?_, ?_⟩
    · have : bz (gi S 3 15 i) = 1 := by unfold bz; rw [if_neg a]
      rw [this, if_neg (show ¬ (1 : Int32) = 0 by decide), u2]
    · rw [← b, u2, if_neg (n_m1 (by omega)), obind_some]
/-- who begins next -/
theorem sim_next (h : Rel S T np nr ni) : ∃ v, sX7_firstToBegin S = some v ∧ sX10_nextObject T = some v ∧ ((v = -1 ∧ ∀ i, i < ni → ∃ w, sX7_reasonOf S i = some w ∧ w ≠ 0) ∨ ∃ i, i < ni ∧ v = nI i ∧ sX7_reasonOf S i = some 0) := by
  have hC := h.1
  have hni : ni ≤ 16 := hC.1.2.2
  have e9 : gi S 0 9 0 = nI ni := hC.2.1.2.2
  have c4' : gi T 5 (4 : Int32).toNatClampNeg 0 = nI ni := hC.2.2.1.2.2
  unfold sX7_firstToBegin sX7_firstToBegin_l8 sX10_nextObject sX10_nextObject_l4
  rw [olet_eq]
  obtain ⟨b, b', h1, h2, h3⟩ := itw_two (f := sX7_firstToBegin_l8_step S) (g := sX10_nextObject_l4_step T)
    (J := fun k a a' => ∃ o, o ≤ ni ∧ k = ni - o ∧ a.2.2 = nI o ∧ a'.2 = nI o ∧ a.1 = a'.1 ∧ ((a.1 = -1 ∧ a.2.1 = nI 30001 ∧ ∀ i, i < o → ∃ w, sX7_reasonOf S i = some w ∧ w ≠ 0) ∨ ∃ i, i < ni ∧ a.1 = nI i ∧ sX7_reasonOf S i = some 0 ∧ a.2.1 = sX2_urgency S i))
    (P := fun b b' => b = b' ∧ ((b = -1 ∧ ∀ i, i < ni → ∃ w, sX7_reasonOf S i = some w ∧ w ≠ 0) ∨ ∃ i, i < ni ∧ b = nI i ∧ sX7_reasonOf S i = some 0))
    (fun k a a' => by
      obtain ⟨x, y, z⟩ := a
      obtain ⟨x', z'⟩ := a'
      rintro ⟨o, h1, rfl, h2, h3, h4, h5⟩
      dsimp only at h2 h3 h4 h5
      subst h2; subst h3; subst h4
      unfold sX7_firstToBegin_l8_step sX10_nextObject_l4_step
      dsimp only
      rw [e9, c4']
      by_cases e : ni ≤ o
      · have hle : nI ni ≤ nI o := by rw [n_le (by omega) (by omega)]; exact e
        rw [if_pos hle, if_pos hle]
        refine Or.inl ⟨x, x, rfl, rfl, rfl, ?_⟩
        rcases h5 with ⟨q1, q2, q3⟩ | ⟨i, q1, q2, q3, q4⟩
        · exact Or.inl ⟨q1, fun i hi => q3 i (by omega)⟩
        · exact Or.inr ⟨i, q1, q2, q3⟩
      · have hle : ¬ nI ni ≤ nI o := by rw [n_le (by omega) (by omega)]; exact e
        rw [if_neg hle, if_neg hle, e_itemAt (by omega), n_suc]
        have ho : o < ni := by omega
        obtain ⟨w, w1, w2, w3⟩ := sim_reason h ho
        obtain ⟨u, u1, u2, u3⟩ := e_urgS h ho
        rw [w2, obind_some, w1, u2, obind_some]
        by_cases e0 : w = 0
        · subst e0
          rw [if_pos rfl]
          rcases h5 with ⟨q1, q2, q3⟩ | ⟨i, q1, q2, q3, q4⟩
          · subst q1; subst q2
            rw [if_neg (show ¬ nI 30001 ≤ nI u by rw [n_le (by omega) (by omega)]; omega), if_pos rfl, if_pos rfl, olet_eq]
            exact Or.inr ⟨_, _, ni - (o + 1), by omega, rfl, rfl, o + 1, by omega, rfl, rfl, rfl, rfl, Or.inr ⟨o, ho, rfl, w1, u2.symm⟩⟩
          · subst q2; subst q4
            obtain ⟨u', u1', u2', u3'⟩ := e_urgS h q1
            rw [if_neg (n_m1 (show i < 2147483648 by omega)), u3, obind_some, u3', obind_some, u2']
            by_cases e1 : u' ≤ u
            · have hl2 : nI u' ≤ nI u := by rw [n_le (by omega) (by omega)]; exact e1
              rw [if_pos hl2, if_pos hl2]
              exact Or.inr ⟨_, _, ni - (o + 1), by omega, rfl, rfl, o + 1, by omega, rfl, rfl, rfl, rfl, Or.inr ⟨i, q1, rfl, q3, u2'.symm⟩⟩
            · have hl2 : ¬ nI u' ≤ nI u := by rw [n_le (by omega) (by omega)]; exact e1
              rw [if_neg hl2, if_neg hl2, if_pos rfl, olet_eq]
              exact Or.inr ⟨_, _, ni - (o + 1), by omega, rfl, rfl, o + 1, by omega, rfl, rfl, rfl, rfl, Or.inr ⟨o, ho, rfl, w1, u2.symm⟩⟩
        · rw [if_neg e0, if_neg e0]
          have hJ : ∃ p1, p1 ≤ ni ∧ ni - (o + 1) = ni - p1 ∧ nI (o + 1) = nI p1 ∧ nI (o + 1) = nI p1 ∧ x = x ∧ ((x = -1 ∧ y = nI 30001 ∧ ∀ i, i < p1 → ∃ w, sX7_reasonOf S i = some w ∧ w ≠ 0) ∨ ∃ i, i < ni ∧ x = nI i ∧ sX7_reasonOf S i = some 0 ∧ y = sX2_urgency S i) := by
            refine ⟨o + 1, by omega, rfl, rfl, rfl, rfl, ?_⟩
            rcases h5 with ⟨q1, q2, q3⟩ | hq
            · refine Or.inl ⟨q1, q2, fun i hi => ?_⟩
              by_cases e3 : i = o
              · subst e3; exact ⟨w, w1, e0⟩
              · exact q3 i (by omega)
            · exact Or.inr hq
          by_cases e1 : y ≤ nI u
          · rw [if_pos e1]
            exact Or.inr ⟨_, _, ni - (o + 1), by omega, rfl, rfl, hJ⟩
          · rw [if_neg e1]
            exact Or.inr ⟨_, _, ni - (o + 1), by omega, rfl, rfl, hJ⟩) (k := ni - 0) (a := ((-1 : Int32), (30001 : Int32), (0 : Int32))) (a' := ((-1 : Int32), (0 : Int32))) ⟨0, by omega, rfl, rfl, rfl, rfl, Or.inl ⟨rfl, rfl, fun i hi => absurd hi (Nat.not_lt_zero _)⟩⟩
  obtain ⟨h3, h4⟩ := h3
  subst h3
  exact ⟨b, h1, h2, h4⟩
end RD2
