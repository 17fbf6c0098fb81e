/-! ===== WHAT CAN BE DONE ===== -/
section DO
variable {S T S' T' : Mem} {np nr ni i : Nat}
/-- one item's own cells change -/
theorem Rel.itm (h : Rel S T np nr ni) (hi : i < ni) (f1 : ∀ c j x, (c ≠ 3 ∨ x ≠ i ∨ j = 0 ∨ j = 2 ∨ j = 4 ∨ j = 10) → (c ≠ 4 ∨ x ≠ i) → gi S' c j x = gi S c j x) (f2 : ∀ c x, gq S' c x = gq S c x) (f3 : ∀ j, j < 6 + 21 * i ∨ 6 + 21 * i + 21 ≤ j → gi T' 0 j 0 = gi T 0 j 0) (f4 : ∀ j, gi T' 5 j 0 = gi T 5 j 0) (f5 : ∀ c x, gq T' c x = gq T c x) (hIt : ItR S' T' np nr i) : Rel S' T' np nr ni := by
  obtain ⟨hC, hSa, hB, hO, hI, hT⟩ := h
  have hnr : nr ≤ 10 := hC.1.2.1
  have hnp : np ≤ 6 := hC.1.1
  have hni : ni ≤ 16 := hC.1.2.2
  refine ⟨hC.cg (fun j _ => f1 _ _ _ (by omega) (by omega)) (fun _ => f1 _ _ _ (by omega) (by omega)) (fun _ _ _ => f1 _ _ _ (by omega) (by omega)) (fun _ _ _ => f1 _ _ _ (by omega) (by omega)) f4, hSa.cg (fun _ _ => f1 _ _ _ (by omega) (by omega)) (fun _ => f1 _ _ _ (by omega) (by omega)) (fun _ => f1 _ _ _ (by omega) (by omega)) (fun j hj => f3 j (by omega)) hnr hnp, hB.cg (fun _ => f1 _ _ _ (by omega) (by omega)) (fun _ => f1 _ _ _ (by omega) (by omega)) (fun j hj => f3 j (by omega)), hO.cg (fun _ => f2 _ _) (fun _ => f5 _ _), hI.cg (fun _ => f1 _ _ _ (by omega) (by omega)) (fun _ => f1 _ _ _ (by omega) (by omega)), fun i' hi' => ?_⟩
  by_cases e : i' = i
  · subst e; exact hIt
  · exact (hT i' hi').cg (fun _ => f1 _ _ _ (by omega) (by omega)) (fun _ => f1 _ _ _ (by omega) (by omega)) (fun _ => f1 _ _ _ (by omega) (by omega)) (fun j hj => f3 _ (by omega))
theorem rel_plan {r k : Nat} (h : Rel S T np nr ni) (hi : i < ni) (hr : r < nr) (hk : k < 8) (h7 : gi S 3 7 i = nI k) : ∃ S' T', sX2_enqueue S i (nI r) = S' ∧ (obind (sX10_of T (nI i) (3 : Int32)) fun r8 => obind (sX10_set T (nI i) ((13 : Int32) + r8) (nI r)) fun r11 => obind (sX10_add r11 (nI i) (3 : Int32) (1 : Int32)) fun r14 => obind (sX10_of r14 (nI i) (3 : Int32)) fun r17 => some ((r17, r14))) = some (gi S' 3 7 i, T') ∧ Rel S' T' np nr ni ∧ FrH T T' ∧ ∀ x, gi S' 3 0 x = gi S 3 0 x := by
  have hni : ni ≤ 16 := h.1.1.2.2
  have hl : i < 16 := by omega
  obtain ⟨q1, q2, ⟨k', k1, k2, k3⟩, q4, q5⟩ := h.2.2.2.2.2 i hi
  have ek : k' = k := by
    have := k2.symm.trans h7
    rw [n_eq (by omega) (by omega)] at this; exact this
  subst ek
  have t3 : gi T 0 (6 + 21 * i + 3) 0 = nI k' := q1.2.2.2.1.symm.trans h7
  refine ⟨si (si S 4 k' i (nI r)) 3 7 i (nI (k' + 1)), si (si T 0 (6 + 21 * i + (13 + k')) 0 (nI r)) 0 (6 + 21 * i + 3) 0 (nI (k' + 1)), ?_, ?_, h.itm hi (fun c j x h1 h2 => by repeat (first | rw [gi_ne (by omega)] | rw [gi_eq2 (by omega)])) (fun _ _ => rfl) (fun j hj => by repeat (first | rw [gi_ne (by omega)] | rw [gi_eq2 (by omega)])) (fun j => by repeat (first | rw [gi_ne (by omega)] | rw [gi_eq2 (by omega)])) (fun _ _ => rfl) ⟨?_, ?_, ?_, ?_, ?_⟩, (FrH.set (by omega)).trans (FrH.set (by omega)), fun x => by repeat (first | rw [gi_ne (by omega)] | rw [gi_eq2 (by omega)])⟩
  · unfold sX2_enqueue
    rw [h7, if_neg (n_nn (by omega)), if_neg (by rw [n_lit 8, n_le (by omega) (by omega)]; omega), n_cl (by omega), olet_eq, gi_ne (by omega), h7, n_suc]
    rfl
  · rw [e_of_3 hl, obind_some, t3, n_lit 13, nI_add, e_set hl (by omega), obind_some, e_add_3 hl, obind_some, gi_ne (by omega), t3, n_suc, e_of_3 hl, obind_some]
    repeat (first | rw [gi_ne (by omega)] | rw [gi_eq2 (by omega)])
  · unfold ItE at q1 ⊢
    repeat (first | rw [gi_ne (by omega)] | rw [gi_eq2 (by omega)])
    exact ⟨q1.1, q1.2.1, q1.2.2.1, by first | rfl | trivial, q1.2.2.2.2.1, q1.2.2.2.2.2.1, q1.2.2.2.2.2.2.1, q1.2.2.2.2.2.2.2⟩
  · unfold ItC at q2 ⊢
    repeat (first | rw [gi_ne (by omega)] | rw [gi_eq2 (by omega)])
    exact q2
  · refine ⟨k' + 1, by omega, ?_, fun j hj => ?_⟩
    · repeat (first | rw [gi_ne (by omega)] | rw [gi_eq2 (by omega)])
    · by_cases ej : j = k'
      · subst ej
        repeat (first | rw [gi_ne (by omega)] | rw [gi_eq2 (by omega)])
        exact ⟨rfl, r, hr, rfl⟩
      · repeat (first | rw [gi_ne (by omega)] | rw [gi_eq2 (by omega)])
        exact k3 j (by omega)
  · unfold ItL at q4 ⊢
    repeat (first | rw [gi_ne (by omega)] | rw [gi_eq2 (by omega)])
    exact q4
  · unfold ItS at q5 ⊢
    repeat (first | rw [gi_ne (by omega)] | rw [gi_eq2 (by omega)])
    exact q5
theorem n_sub1 {n : Nat} (h : n < 1000000) : ((nI n - (1 : Int32)).toInt64).toInt = (n : Int) - 1 := by
  rw [n_lit 1, Int32.toInt_toInt64, pk_sub_toInt (by omega) (by omega)]
  omega
theorem e_place {k : Nat} (hk : k ≤ 8) (h7 : gi S 3 7 i = nI k) (p : Int32) : (∃ j, j < k ∧ p = nI j ∧ sX2_hasPlace S i p = 1 ∧ ∀ T, sX10_inRange T p.toInt64 (0 : Int64) ((nI k - (1 : Int32)).toInt64) = 1) ∨ (sX2_hasPlace S i p = 0 ∧ ∀ T, sX10_inRange T p.toInt64 (0 : Int64) ((nI k - (1 : Int32)).toInt64) = 0) := by
  unfold sX2_hasPlace
  rw [h7]
  rcases n_cases p (n := k) (by omega) with ⟨j, hj, rfl, c1, c2, c3, c4⟩ | ⟨c1, c2⟩
  · refine Or.inl ⟨j, hj, rfl, ?_, fun T => ?_⟩
    · rw [if_neg c1, if_neg c3, if_neg (by rw [n_lit 8, n_le (by omega) (by omega)]; omega)]
    · rw [e_inR, i64_0, n_sub1 (by omega), c4, if_pos (by omega)]
  · refine Or.inr ⟨?_, fun T => ?_⟩
    · rcases c1 with c1 | ⟨c1, c3, c4⟩
      · rw [if_pos c1]
      · rw [if_neg c1, if_pos c4]
    · rw [e_inR, i64_0, n_sub1 (by omega), if_neg (by omega)]
theorem e_queuedAt {k j : Nat} (hk : k ≤ 8) (hj : j < k) (h7 : gi S 3 7 i = nI k) : sX2_queuedAt S i (nI j) = some (gi S 4 j i) := by
  unfold sX2_queuedAt
  rcases e_place hk h7 (nI j) with ⟨j', h1, h2, h3, h4⟩ | ⟨h3, h4⟩
  · rw [h3, if_neg (by decide), n_inb (by omega) (by omega), oif_t rfl, n_cl (by omega)]
  · exfalso
    unfold sX2_hasPlace at h3
    rw [if_neg (n_nn (by omega)), h7, if_neg (by rw [n_le (by omega) (by omega)]; omega), if_neg (by rw [n_lit 8, n_le (by omega) (by omega)]; omega)] at h3
    exact absurd h3 (by decide)
theorem rel_cancel {m : Nat} (h : Rel S T np nr ni) (hi : i < ni) (hm : m < 8) (h7 : gi S 3 7 i = nI (m + 1)) : ∃ v S' T', sX2_dropLast S i = some (v, S') ∧ (obind (sX10_add T (nI i) (3 : Int32) (-1 : Int32)) fun r8 => obind (sX10_of r8 (nI i) (3 : Int32)) fun r11 => if r11 = 0 then obind (sX10_set r8 (nI i) (4 : Int32) (-1 : Int32)) fun r21 => sX10_cancelNow_j39 r21 (nI i) else sX10_cancelNow_j39 r8 (nI i)) = some (v, T') ∧ Rel S' T' np nr ni ∧ FrH T T' ∧ ∀ x, gi S' 3 0 x = gi S 3 0 x := by
  have hni : ni ≤ 16 := h.1.1.2.2
  have hl : i < 16 := by omega
  obtain ⟨q1, q2, ⟨k', k1, k2, k3⟩, q4, q5⟩ := h.2.2.2.2.2 i hi
  have ek : k' = m + 1 := by
    have := k2.symm.trans h7
    rw [n_eq (by omega) (by omega)] at this; exact this
  subst ek
  have t3 : gi T 0 (6 + 21 * i + 3) 0 = nI (m + 1) := q1.2.2.2.1.symm.trans h7
  have tv : gi T 0 (6 + 21 * i + (13 + m)) 0 = gi S 4 m i := (k3 m (by omega)).1.symm
  have eq : sX2_queuedAt S i (gi S 3 7 i - (1 : Int32)) = some (gi S 4 m i) := by
    rw [h7, n_pred]; exact e_queuedAt k1 (by omega) h7
  have e1 : ¬ nI (m + 1) ≤ 0 := by rw [n_lit 0, n_le (by omega) (by omega)]; omega
  by_cases em : m = 0
  · subst em
    refine ⟨gi S 4 0 i, si (si S 3 7 i (nI 0)) 3 8 i (-1), si (si T 0 (6 + 21 * i + 3) 0 (nI 0)) 0 (6 + 21 * i + 4) 0 (-1), ?_, ?_, h.itm hi (fun c j x h1 h2 => by repeat (first | rw [gi_ne (by omega)] | rw [gi_eq2 (by omega)])) (fun _ _ => rfl) (fun j hj => by repeat (first | rw [gi_ne (by omega)] | rw [gi_eq2 (by omega)])) (fun j => by repeat (first | rw [gi_ne (by omega)] | rw [gi_eq2 (by omega)])) (fun _ _ => rfl) ⟨?_, ?_, ?_, ?_, ?_⟩, (FrH.set (by omega)).trans (FrH.set (by omega)), fun x => by repeat (first | rw [gi_ne (by omega)] | rw [gi_eq2 (by omega)])⟩
    · unfold sX2_dropLast
      rw [eq, obind_some, h7, if_neg e1, n_pred, olet_eq]
      unfold sX2_dropLast_j28
      rw [gi_eq2 ⟨rfl, rfl, rfl⟩, if_pos (show nI 0 = 0 from rfl), olet_eq]
    · rw [e_add_3 hl, obind_some, e_of_3 hl, obind_some, gi_eq2 ⟨rfl, rfl, rfl⟩, t3, n_predm, if_pos (show nI 0 = 0 from rfl), e_set_4 hl, obind_some]
      unfold sX10_cancelNow_j39
      rw [e_of_3 hl, obind_some, gi_ne (by omega), gi_eq2 ⟨rfl, rfl, rfl⟩, n_lit 13, nI_add, e_of hl (by omega), obind_some, gi_ne (by omega), gi_ne (by omega), tv]
    · unfold ItE at q1 ⊢
      repeat (first | rw [gi_ne (by omega)] | rw [gi_eq2 (by omega)])
      exact ⟨q1.1, q1.2.1, q1.2.2.1, by first | rfl | trivial, by first | rfl | trivial, q1.2.2.2.2.2.1, q1.2.2.2.2.2.2.1, q1.2.2.2.2.2.2.2⟩
    · unfold ItC at q2 ⊢
      repeat (first | rw [gi_ne (by omega)] | rw [gi_eq2 (by omega)])
      exact q2
    · refine ⟨0, by omega, ?_, fun j hj => absurd hj (Nat.not_lt_zero _)⟩
      repeat (first | rw [gi_ne (by omega)] | rw [gi_eq2 (by omega)])
    · unfold ItL at q4 ⊢
      repeat (first | rw [gi_ne (by omega)] | rw [gi_eq2 (by omega)])
      exact q4
    · unfold ItS at q5 ⊢
      repeat (first | rw [gi_ne (by omega)] | rw [gi_eq2 (by omega)])
      exact q5
  · refine ⟨gi S 4 m i, si S 3 7 i (nI m), si T 0 (6 + 21 * i + 3) 0 (nI m), ?_, ?_, h.itm hi (fun c j x h1 h2 => by repeat (first | rw [gi_ne (by omega)] | rw [gi_eq2 (by omega)])) (fun _ _ => rfl) (fun j hj => by repeat (first | rw [gi_ne (by omega)] | rw [gi_eq2 (by omega)])) (fun j => by repeat (first | rw [gi_ne (by omega)] | rw [gi_eq2 (by omega)])) (fun _ _ => rfl) ⟨?_, ?_, ?_, ?_, ?_⟩, FrH.set (by omega), fun x => by repeat (first | rw [gi_ne (by omega)] | rw [gi_eq2 (by omega)])⟩
    · unfold sX2_dropLast
      rw [eq, obind_some, h7, if_neg e1, n_pred, olet_eq]
      unfold sX2_dropLast_j28
      rw [gi_eq2 ⟨rfl, rfl, rfl⟩, if_neg (by rw [n_lit 0, n_eq (by omega) (by omega)]; exact em)]
    · rw [e_add_3 hl, obind_some, e_of_3 hl, obind_some, gi_eq2 ⟨rfl, rfl, rfl⟩, t3, n_predm, if_neg (by rw [n_lit 0, n_eq (by omega) (by omega)]; exact em)]
      unfold sX10_cancelNow_j39
      rw [e_of_3 hl, obind_some, gi_eq2 ⟨rfl, rfl, rfl⟩, n_lit 13, nI_add, e_of hl (by omega), obind_some, gi_ne (by omega), tv]
    · unfold ItE at q1 ⊢
      repeat (first | rw [gi_ne (by omega)] | rw [gi_eq2 (by omega)])
      exact ⟨q1.1, q1.2.1, q1.2.2.1, by first | rfl | trivial, q1.2.2.2.2.1, q1.2.2.2.2.2.1, q1.2.2.2.2.2.2.1, q1.2.2.2.2.2.2.2⟩
    · unfold ItC at q2 ⊢
      repeat (first | rw [gi_ne (by omega)] | rw [gi_eq2 (by omega)])
      exact q2
    · refine ⟨m, by omega, ?_, fun j hj => ?_⟩
      · repeat (first | rw [gi_ne (by omega)] | rw [gi_eq2 (by omega)])
      · repeat (first | rw [gi_ne (by omega)] | rw [gi_eq2 (by omega)])
        exact k3 j (by omega)
    · unfold ItL at q4 ⊢
      repeat (first | rw [gi_ne (by omega)] | rw [gi_eq2 (by omega)])
      exact q4
    · unfold ItS at q5 ⊢
      repeat (first | rw [gi_ne (by omega)] | rw [gi_eq2 (by omega)])
      exact q5
theorem rel_clear (h : Rel S T np nr ni) (hi : i < ni) : ∃ S' T', si (si S 3 7 i 0) 3 8 i (-1) = S' ∧ (obind (sX10_set T (nI i) (3 : Int32) (0 : Int32)) fun r8 => sX10_set r8 (nI i) (4 : Int32) (-1 : Int32)) = some T' ∧ Rel S' T' np nr ni ∧ FrH T T' ∧ ∀ x, gi S' 3 0 x = gi S 3 0 x := by
  have hni : ni ≤ 16 := h.1.1.2.2
  have hl : i < 16 := by omega
  obtain ⟨q1, q2, ⟨k', k1, k2, k3⟩, q4, q5⟩ := h.2.2.2.2.2 i hi
  refine ⟨_, si (si T 0 (6 + 21 * i + 3) 0 0) 0 (6 + 21 * i + 4) 0 (-1), rfl, ?_, h.itm hi (fun c j x h1 h2 => by repeat (first | rw [gi_ne (by omega)] | rw [gi_eq2 (by omega)])) (fun _ _ => rfl) (fun j hj => by repeat (first | rw [gi_ne (by omega)] | rw [gi_eq2 (by omega)])) (fun j => by repeat (first | rw [gi_ne (by omega)] | rw [gi_eq2 (by omega)])) (fun _ _ => rfl) ⟨?_, ?_, ?_, ?_, ?_⟩, (FrH.set (by omega)).trans (FrH.set (by omega)), fun x => by repeat (first | rw [gi_ne (by omega)] | rw [gi_eq2 (by omega)])⟩
  · rw [e_set_3 hl, obind_some, e_set_4 hl]
  · unfold ItE at q1 ⊢
    repeat (first | rw [gi_ne (by omega)] | rw [gi_eq2 (by omega)])
    exact ⟨q1.1, q1.2.1, q1.2.2.1, by first | rfl | trivial, by first | rfl | trivial, q1.2.2.2.2.2.1, q1.2.2.2.2.2.2.1, q1.2.2.2.2.2.2.2⟩
  · unfold ItC at q2 ⊢
    repeat (first | rw [gi_ne (by omega)] | rw [gi_eq2 (by omega)])
    exact q2
  · refine ⟨0, by omega, ?_, fun j hj => absurd hj (Nat.not_lt_zero _)⟩
    repeat (first | rw [gi_ne (by omega)] | rw [gi_eq2 (by omega)])
    rfl
  · unfold ItL at q4 ⊢
    repeat (first | rw [gi_ne (by omega)] | rw [gi_eq2 (by omega)])
    exact q4
  · unfold ItS at q5 ⊢
    repeat (first | rw [gi_ne (by omega)] | rw [gi_eq2 (by omega)])
    exact q5
theorem rel_approve {v : Int32} (h : Rel S T np nr ni) (hi : i < ni) : Rel (si S 3 8 i v) (si T 0 (6 + 21 * i + 4) 0 v) np nr ni := by
  have hni : ni ≤ 16 := h.1.1.2.2
  obtain ⟨q1, q2, q3, q4, q5⟩ := h.2.2.2.2.2 i hi
  refine h.itm hi (fun c j x h1 h2 => by repeat (first | rw [gi_ne (by omega)] | rw [gi_eq2 (by omega)])) (fun _ _ => rfl) (fun j hj => by repeat (first | rw [gi_ne (by omega)] | rw [gi_eq2 (by omega)])) (fun j => by repeat (first | rw [gi_ne (by omega)] | rw [gi_eq2 (by omega)])) (fun _ _ => rfl) ⟨?_, ?_, ?_, ?_, ?_⟩
  · unfold ItE at q1 ⊢
    repeat (first | rw [gi_ne (by omega)] | rw [gi_eq2 (by omega)])
    exact ⟨q1.1, q1.2.1, q1.2.2.1, q1.2.2.2.1, by first | rfl | trivial, q1.2.2.2.2.2.1, q1.2.2.2.2.2.2.1, q1.2.2.2.2.2.2.2⟩
  · unfold ItC at q2 ⊢
    repeat (first | rw [gi_ne (by omega)] | rw [gi_eq2 (by omega)])
    exact q2
  · obtain ⟨k, k1, k2, k3⟩ := q3
    refine ⟨k, k1, ?_, fun j hj => ?_⟩
    · repeat (first | rw [gi_ne (by omega)] | rw [gi_eq2 (by omega)])
      exact k2
    · repeat (first | rw [gi_ne (by omega)] | rw [gi_eq2 (by omega)])
      exact k3 j hj
  · unfold ItL at q4 ⊢
    repeat (first | rw [gi_ne (by omega)] | rw [gi_eq2 (by omega)])
    exact q4
  · unfold ItS at q5 ⊢
    repeat (first | rw [gi_ne (by omega)] | rw [gi_eq2 (by omega)])
    exact q5
theorem rel_lend {d n l : Nat} (h : Rel S T np nr ni) (hi : i < ni) (hd : d ≤ 20000) (hl1 : 1 ≤ l) (hl2 : l ≤ 500) : Rel (sX2_awaitLoan S i (nI d) (nI n) (nI l)) (si (si (si T 0 (6 + 21 * i + 8) 0 (nI d)) 0 (6 + 21 * i + 9) 0 (nI n)) 0 (6 + 21 * i + 10) 0 (nI l)) np nr ni := by
  have hni : ni ≤ 16 := h.1.1.2.2
  obtain ⟨q1, q2, q3, q4, q5⟩ := h.2.2.2.2.2 i hi
  unfold sX2_awaitLoan
  simp only [olet_eq]
  refine h.itm hi (fun c j x h1 h2 => by repeat (first | rw [gi_ne (by omega)] | rw [gi_eq2 (by omega)])) (fun _ _ => rfl) (fun j hj => by repeat (first | rw [gi_ne (by omega)] | rw [gi_eq2 (by omega)])) (fun j => by repeat (first | rw [gi_ne (by omega)] | rw [gi_eq2 (by omega)])) (fun _ _ => rfl) ⟨?_, ?_, ?_, ?_, ?_⟩
  · unfold ItE at q1 ⊢
    repeat (first | rw [gi_ne (by omega)] | rw [gi_eq2 (by omega)])
    exact ⟨q1.1, q1.2.1, q1.2.2.1, q1.2.2.2.1, q1.2.2.2.2.1, q1.2.2.2.2.2.1, q1.2.2.2.2.2.2.1, q1.2.2.2.2.2.2.2⟩
  · unfold ItC at q2 ⊢
    repeat (first | rw [gi_ne (by omega)] | rw [gi_eq2 (by omega)])
    exact q2
  · obtain ⟨k, k1, k2, k3⟩ := q3
    refine ⟨k, k1, ?_, fun j hj => ?_⟩
    · repeat (first | rw [gi_ne (by omega)] | rw [gi_eq2 (by omega)])
      exact k2
    · repeat (first | rw [gi_ne (by omega)] | rw [gi_eq2 (by omega)])
      exact k3 j hj
  · unfold ItL
    repeat (first | rw [gi_ne (by omega)] | rw [gi_eq2 (by omega)])
    exact Or.inr ⟨by decide, rfl, rfl, rfl, ⟨d, hd, rfl⟩, l, hl1, hl2, rfl⟩
  · unfold ItS at q5 ⊢
    repeat (first | rw [gi_ne (by omega)] | rw [gi_eq2 (by omega)])
    exact q5
theorem rel_recall (h : Rel S T np nr ni) (hi : i < ni) : Rel (si S 3 15 i 0) (si T 0 (6 + 21 * i + 8) 0 (-1)) np nr ni := by
  have hni : ni ≤ 16 := h.1.1.2.2
  obtain ⟨q1, q2, q3, q4, q5⟩ := h.2.2.2.2.2 i hi
  refine h.itm hi (fun c j x h1 h2 => by repeat (first | rw [gi_ne (by omega)] | rw [gi_eq2 (by omega)])) (fun _ _ => rfl) (fun j hj => by repeat (first | rw [gi_ne (by omega)] | rw [gi_eq2 (by omega)])) (fun j => by repeat (first | rw [gi_ne (by omega)] | rw [gi_eq2 (by omega)])) (fun _ _ => rfl) ⟨?_, ?_, ?_, ?_, ?_⟩
  · unfold ItE at q1 ⊢
    repeat (first | rw [gi_ne (by omega)] | rw [gi_eq2 (by omega)])
    exact ⟨q1.1, q1.2.1, q1.2.2.1, q1.2.2.2.1, q1.2.2.2.2.1, q1.2.2.2.2.2.1, q1.2.2.2.2.2.2.1, q1.2.2.2.2.2.2.2⟩
  · unfold ItC at q2 ⊢
    repeat (first | rw [gi_ne (by omega)] | rw [gi_eq2 (by omega)])
    exact q2
  · obtain ⟨k, k1, k2, k3⟩ := q3
    refine ⟨k, k1, ?_, fun j hj => ?_⟩
    · repeat (first | rw [gi_ne (by omega)] | rw [gi_eq2 (by omega)])
      exact k2
    · repeat (first | rw [gi_ne (by omega)] | rw [gi_eq2 (by omega)])
      exact k3 j hj
  · unfold ItL
    repeat (first | rw [gi_ne (by omega)] | rw [gi_eq2 (by omega)])
    exact Or.inl ⟨rfl, rfl⟩
  · unfold ItS at q5 ⊢
    repeat (first | rw [gi_ne (by omega)] | rw [gi_eq2 (by omega)])
    exact q5
end DO
