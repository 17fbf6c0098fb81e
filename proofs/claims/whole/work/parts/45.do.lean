/-! ===== WHAT CAN BE DONE ===== -/
section DO
variable {S T S' T' : Mem} {np nr ni i : Nat}
/-- one item's own cells change -/
theorem Rel.itm (h : Rel S T np nr ni) (hi : i < ni) (f1 : ∀ c j x, (c ≠ 3 ∨ x ≠ i ∨ j = 0 ∨ j = 2 ∨ j = 4 ∨ j = 10) → (c ≠ 4 ∨ x ≠ i) → gi S' c j x = gi S c j x) (f2 : ∀ c x, gq S' c x = gq S c x) (f3 : ∀ j, j < 6 + 21 * i ∨ 6 + 21 * i + 21 ≤ j → gi T' 0 j 0 = gi T 0 j 0) (f4 : ∀ j, gi T' 5 j 0 = gi T 5 j 0) (f5 : ∀ c x, gq T' c x = gq T c x) (hIt : ItR S' T' np nr i) : Rel S' T' np nr ni := by
  obtain ⟨hC, hSa, hB, hO, hI, hT⟩ := h
  have hnr : nr ≤ 10 := hC.1.2.1
  have hnp : np ≤ 6 := hC.1.1
  have hni : ni ≤ 16 := hC.1.2.2
  refine ⟨hC.cg (fun j _ => f1 _ _ _ (by omega) (by omega)) (fun _ => f1 _ _ _ (by omega) (by omega)) (fun _ _ _ => f1 _ _ _ (by omega) (by omega)) (fun _ _ _ => f1 _ _ _ (by omega) (by omega)) f4, hSa.cg (fun _ _ => f1 _ _ _ (by omega) (by omega)) (fun _ => f1 _ _ _ (by omega) (by omega)) (fun _ => f1 _ _ _ (by omega) (by omega)) (fun j hj => f3 j (by omega)) hnr hnp, hB.cg (fun _ => f1 _ _ _ (by omega) (by omega)) (fun _ => f1 _ _ _ (by omega) (by omega)) (fun j hj => f3 j (by omega)), hO.cg (fun _ => f2 _ _) (fun _ => f5 _ _), hI.cg (fun _ => f1 _ _ _ (by omega) (by omega)) (fun _ => f1 _ _ _ (by omega) (by omega)), fun i' hi' => ?_⟩
  by_cases e : i' = i
  · subst e; exact hIt
  · exact (hT i' hi').cg (fun _ => f1 _ _ _ (by omega) (by omega)) (fun _ => f1 _ _ _ (by omega) (by omega)) (fun _ => f1 _ _ _ (by omega) (by omega)) (fun j hj => f3 _ (by omega))
theorem rel_plan {r k : Nat} (h : Rel S T np nr ni) (hi : i < ni) (hr : r < nr) (hk : k < 8) (h7 : gi S 3 7 i = nI k) : ∃ S' T', sX2_enqueue S i (nI r) = S' ∧ (obind (sX10_of T (nI i) (3 : Int32)) fun r8 => obind (sX10_set T (nI i) ((13 : Int32) + r8) (nI r)) fun r11 => obind (sX10_add r11 (nI i) (3 : Int32) (1 : Int32)) fun r14 => obind (sX10_of r14 (nI i) (3 : Int32)) fun r17 => some ((r17, r14))) = some (gi S' 3 7 i, T') ∧ Rel S' T' np nr ni ∧ FrH T T' ∧ ∀ x, gi S' 3 0 x = gi S 3 0 x := by
  have hni : ni ≤ 16 := h.1.1.2.2
  have hl : i < 16 := by omega
  obtain ⟨q1, q2, ⟨k', k1, k2, k3⟩, q4, q5⟩ := h.2.2.2.2.2 i hi
  have ek : k' = k := by
    have := k2.symm.trans h7
    rw [n_eq (by omega) (by omega)] at this; exact this
  subst ek
  have t3 : gi T 0 (6 + 21 * i + 3) 0 = nI k' := q1.2.2.2.1.symm.trans h7
  refine ⟨si (si S 4 k' i (nI r)) 3 7 i (nI (k' + 1)), si (si T 0 (6 + 21 * i + (13 + k')) 0 (nI r)) 0 (6 + 21 * i + 3) 0 (nI (k' + 1)), ?_, ?_, h.itm hi (fun c j x h1 h2 => by repeat (first | rw [gi_ne (by omega)] | rw [gi_eq2 (by omega)])) (fun _ _ => rfl) (fun j hj => by repeat (first | rw [gi_ne (by omega)] | rw [gi_eq2 (by omega)])) (fun j => by repeat (first | rw [gi_ne (by omega)] | rw [gi_eq2 (by omega)])) (fun _ _ => rfl) ⟨?_, ?_, ?_, ?_, ?_⟩, (FrH.set (by omega)).trans (FrH.set (by omega)), fun x => by repeat (first | rw [gi_ne (by omega)] | rw [gi_eq2 (by omega)])⟩
  · unfold sX2_enqueue
    rw [h7, if_neg (n_nn (by omega)), if_neg (by rw [n_lit 8, n_le (by omega) (by omega)]; omega), n_cl (by omega), olet_eq, gi_ne (by omega), h7, n_suc]
    rfl
  · rw [e_of_3 hl, obind_some, t3, n_lit 13, nI_add, e_set hl (by omega), obind_some, e_add_3 hl, obind_some, gi_ne (by omega), t3, n_suc, e_of_3 hl, obind_some]
    repeat (first | rw [gi_ne (by omega)] | rw [gi_eq2 (by omega)])
  · unfold ItE at q1 ⊢
    repeat (first | rw [gi_ne (by omega)] | rw [gi_eq2 (by omega)])
    exact ⟨q1.1, q1.2.1, q1.2.2.1, by first | rfl | trivial, q1.2.2.2.2.1, q1.2.2.2.2.2.1, q1.2.2.2.2.2.2.1, q1.2.2.2.2.2.2.2⟩
  · unfold ItC at q2 ⊢
    repeat (first | rw [gi_ne (by omega)] | rw [gi_eq2 (by omega)])
    exact q2
  · refine ⟨k' + 1, by omega, ?_, fun j hj => ?_⟩
    · repeat (first | rw [gi_ne (by omega)] | rw [gi_eq2 (by omega)])
    · by_cases ej : j = k'
      · subst ej
        repeat (first | rw [gi_ne (by omega)] | rw [gi_eq2 (by omega)])
        exact ⟨rfl, r, hr, rfl⟩
      · repeat (first | rw [gi_ne (by omega)] | rw [gi_eq2 (by omega)])
        exact k3 j (by omega)
  · unfold ItL at q4 ⊢
    repeat (first | rw [gi_ne (by omega)] | rw [gi_eq2 (by omega)])
    exact q4
  · unfold ItS at q5 ⊢
    repeat (first | rw [gi_ne (by omega)] | rw [gi_eq2 (by omega)])
    exact q5
end DO
