/-! ===== ONE OBJECT'S HOUR ===== -/
theorem gi_ne {S : Mem} {c j i c' j' i' : Nat} {v : Int32} (h : c' ≠ c ∨ j' ≠ j ∨ i' ≠ i) : gi (si S c j i v) c' j' i' = gi S c' j' i' := by
  rw [gi_si, if_neg (by omega)]
theorem gi_eq2 {S : Mem} {c j i c' j' i' : Nat} {v : Int32} (h : c' = c ∧ j' = j ∧ i' = i) : gi (si S c j i v) c' j' i' = v := by
  rw [gi_si, if_pos h]
theorem gq_ne {S : Mem} {c i c' i' : Nat} {v : Int64} (h : c' ≠ c ∨ i' ≠ i) : gq (sq S c i v) c' i' = gq S c' i' := by
  rw [gq_sq, if_neg (by omega)]
theorem gq_eq2 {S : Mem} {c i c' i' : Nat} {v : Int64} (h : c' = c ∧ i' = i) : gq (sq S c i v) c' i' = v := by
  rw [gq_sq, if_pos h]
/-- all but what depends on the state of object i, and the presses -/
def RelX (S T : Mem) (np nr ni i : Nat) : Prop := CfR S T np nr ni ∧ SaR S T np nr ∧ BoR S T ∧ OwR S T ni ∧ (∀ i', i' < ni → i' ≠ i → ItR S T np nr i') ∧ ItE S T i ∧ ItC S i ∧ ItQ S T nr i ∧ ItL S T i
theorem Rel.X {S T : Mem} {np nr ni i : Nat} (h : Rel S T np nr ni) (hi : i < ni) : RelX S T np nr ni i := by
  obtain ⟨h1, h2, h3, h4, h5, h6⟩ := h
  obtain ⟨a, b, c, d, e⟩ := h6 i hi
  exact ⟨h1, h2, h3, h4, fun i' hi' _ => h6 i' hi', a, b, c, d⟩
theorem RelX.all {S T : Mem} {np nr ni i : Nat} (h : RelX S T np nr ni i) (hI : InR S np ni) (hS : ItS S T np nr i) : Rel S T np nr ni := by
  obtain ⟨h1, h2, h3, h4, h5, a, b, c, d⟩ := h
  refine ⟨h1, h2, h3, h4, hI, fun i' hi' => ?_⟩
  by_cases e : i' = i
  · subst e; exact ⟨a, b, c, d, hS⟩
  · exact h5 i' hi' e
theorem RelX.set_3 {S T : Mem} {np nr ni i : Nat} {v : Int32} (h : RelX S T np nr ni i) (hv : ∃ s, s ≤ 1000 ∧ v = nI s) (hi : i < ni) : RelX (si S 3 3 i v) (si T 0 (6 + 21 * i + 0) 0 v) np nr ni i := by
  obtain ⟨h1, h2, h3, h4, h5, h6, h7, h8, h9⟩ := h
  have hb := h1.1
  refine ⟨h1.cg (fun _ _ => rfl) (fun _ => rfl) (fun _ _ _ => rfl) (fun w i' hw => by rw [gi_ne (by omega)]) (fun _ => rfl), h2.cg (fun _ _ => rfl) (fun _ => rfl) (fun _ => rfl) (fun j hj => by rw [gi_ne (by omega)]) hb.2.1 hb.1, h3.cg (fun _ => rfl) (fun _ => rfl) (fun j hj => by rw [gi_ne (by omega)]), h4.cg (fun _ => rfl) (fun _ => rfl), fun i' hi' hn => (h5 i' hi' hn).cg (fun j => by rw [gi_ne (by omega)]) (fun _ => rfl) (fun _ => rfl) (fun j hj => by rw [gi_ne (by omega)]), ?_, ?_, ?_, ?_⟩
  · unfold ItE at h6 ⊢
    repeat (first | rw [gi_ne (by omega)] | rw [gi_eq2 (by omega)])
    exact ⟨rfl, h6.2⟩
  · unfold ItC at h7 ⊢
    repeat (first | rw [gi_ne (by omega)] | rw [gi_eq2 (by omega)])
    exact hv
  · obtain ⟨k, q1, q2, q3⟩ := h8
    refine ⟨k, q1, ?_, fun j hj => ?_⟩
    · repeat (first | rw [gi_ne (by omega)] | rw [gi_eq2 (by omega)])
      exact q2
    · repeat (first | rw [gi_ne (by omega)] | rw [gi_eq2 (by omega)])
      exact q3 j hj
  · unfold ItL at h9 ⊢
    repeat (first | rw [gi_ne (by omega)] | rw [gi_eq2 (by omega)])
    exact h9
theorem RelX.set_5 {S T : Mem} {np nr ni i : Nat} {v : Int32} (h : RelX S T np nr ni i) (hi : i < ni) : RelX (si S 3 5 i v) (si T 0 (6 + 21 * i + 1) 0 v) np nr ni i := by
  obtain ⟨h1, h2, h3, h4, h5, h6, h7, h8, h9⟩ := h
  have hb := h1.1
  refine ⟨h1.cg (fun _ _ => rfl) (fun _ => rfl) (fun _ _ _ => rfl) (fun w i' hw => by rw [gi_ne (by omega)]) (fun _ => rfl), h2.cg (fun _ _ => rfl) (fun _ => rfl) (fun _ => rfl) (fun j hj => by rw [gi_ne (by omega)]) hb.2.1 hb.1, h3.cg (fun _ => rfl) (fun _ => rfl) (fun j hj => by rw [gi_ne (by omega)]), h4.cg (fun _ => rfl) (fun _ => rfl), fun i' hi' hn => (h5 i' hi' hn).cg (fun j => by rw [gi_ne (by omega)]) (fun _ => rfl) (fun _ => rfl) (fun j hj => by rw [gi_ne (by omega)]), ?_, ?_, ?_, ?_⟩
  · unfold ItE at h6 ⊢
    repeat (first | rw [gi_ne (by omega)] | rw [gi_eq2 (by omega)])
    exact ⟨h6.1, rfl, h6.2.2⟩
  · unfold ItC at h7 ⊢
    repeat (first | rw [gi_ne (by omega)] | rw [gi_eq2 (by omega)])
    exact h7
  · obtain ⟨k, q1, q2, q3⟩ := h8
    refine ⟨k, q1, ?_, fun j hj => ?_⟩
    · repeat (first | rw [gi_ne (by omega)] | rw [gi_eq2 (by omega)])
      exact q2
    · repeat (first | rw [gi_ne (by omega)] | rw [gi_eq2 (by omega)])
      exact q3 j hj
  · unfold ItL at h9 ⊢
    repeat (first | rw [gi_ne (by omega)] | rw [gi_eq2 (by omega)])
    exact h9
theorem RelX.set_6 {S T : Mem} {np nr ni i : Nat} {v : Int32} (h : RelX S T np nr ni i) (hi : i < ni) : RelX (si S 3 6 i v) (si T 0 (6 + 21 * i + 2) 0 v) np nr ni i := by
  obtain ⟨h1, h2, h3, h4, h5, h6, h7, h8, h9⟩ := h
  have hb := h1.1
  refine ⟨h1.cg (fun _ _ => rfl) (fun _ => rfl) (fun _ _ _ => rfl) (fun w i' hw => by rw [gi_ne (by omega)]) (fun _ => rfl), h2.cg (fun _ _ => rfl) (fun _ => rfl) (fun _ => rfl) (fun j hj => by rw [gi_ne (by omega)]) hb.2.1 hb.1, h3.cg (fun _ => rfl) (fun _ => rfl) (fun j hj => by rw [gi_ne (by omega)]), h4.cg (fun _ => rfl) (fun _ => rfl), fun i' hi' hn => (h5 i' hi' hn).cg (fun j => by rw [gi_ne (by omega)]) (fun _ => rfl) (fun _ => rfl) (fun j hj => by rw [gi_ne (by omega)]), ?_, ?_, ?_, ?_⟩
  · unfold ItE at h6 ⊢
    repeat (first | rw [gi_ne (by omega)] | rw [gi_eq2 (by omega)])
    exact ⟨h6.1, h6.2.1, rfl, h6.2.2.2⟩
  · unfold ItC at h7 ⊢
    repeat (first | rw [gi_ne (by omega)] | rw [gi_eq2 (by omega)])
    exact h7
  · obtain ⟨k, q1, q2, q3⟩ := h8
    refine ⟨k, q1, ?_, fun j hj => ?_⟩
    · repeat (first | rw [gi_ne (by omega)] | rw [gi_eq2 (by omega)])
      exact q2
    · repeat (first | rw [gi_ne (by omega)] | rw [gi_eq2 (by omega)])
      exact q3 j hj
  · unfold ItL at h9 ⊢
    repeat (first | rw [gi_ne (by omega)] | rw [gi_eq2 (by omega)])
    exact h9
theorem RelX.set_9 {S T : Mem} {np nr ni i : Nat} {v : Int32} (h : RelX S T np nr ni i) (hi : i < ni) : RelX (si S 3 9 i v) (si T 0 (6 + 21 * i + 5) 0 v) np nr ni i := by
  obtain ⟨h1, h2, h3, h4, h5, h6, h7, h8, h9⟩ := h
  have hb := h1.1
  refine ⟨h1.cg (fun _ _ => rfl) (fun _ => rfl) (fun _ _ _ => rfl) (fun w i' hw => by rw [gi_ne (by omega)]) (fun _ => rfl), h2.cg (fun _ _ => rfl) (fun _ => rfl) (fun _ => rfl) (fun j hj => by rw [gi_ne (by omega)]) hb.2.1 hb.1, h3.cg (fun _ => rfl) (fun _ => rfl) (fun j hj => by rw [gi_ne (by omega)]), h4.cg (fun _ => rfl) (fun _ => rfl), fun i' hi' hn => (h5 i' hi' hn).cg (fun j => by rw [gi_ne (by omega)]) (fun _ => rfl) (fun _ => rfl) (fun j hj => by rw [gi_ne (by omega)]), ?_, ?_, ?_, ?_⟩
  · unfold ItE at h6 ⊢
    repeat (first | rw [gi_ne (by omega)] | rw [gi_eq2 (by omega)])
    exact ⟨h6.1, h6.2.1, h6.2.2.1, h6.2.2.2.1, h6.2.2.2.2.1, rfl, h6.2.2.2.2.2.2⟩
  · unfold ItC at h7 ⊢
    repeat (first | rw [gi_ne (by omega)] | rw [gi_eq2 (by omega)])
    exact h7
  · obtain ⟨k, q1, q2, q3⟩ := h8
    refine ⟨k, q1, ?_, fun j hj => ?_⟩
    · repeat (first | rw [gi_ne (by omega)] | rw [gi_eq2 (by omega)])
      exact q2
    · repeat (first | rw [gi_ne (by omega)] | rw [gi_eq2 (by omega)])
      exact q3 j hj
  · unfold ItL at h9 ⊢
    repeat (first | rw [gi_ne (by omega)] | rw [gi_eq2 (by omega)])
    exact h9
theorem RelX.set_10 {S T : Mem} {np nr ni i : Nat} {v : Int32} (h : RelX S T np nr ni i) (hi : i < ni) : RelX (si S 3 10 i v) (si T 0 (6 + 21 * i + 6) 0 v) np nr ni i := by
  obtain ⟨h1, h2, h3, h4, h5, h6, h7, h8, h9⟩ := h
  have hb := h1.1
  refine ⟨h1.cg (fun _ _ => rfl) (fun _ => rfl) (fun _ _ _ => rfl) (fun w i' hw => by rw [gi_ne (by omega)]) (fun _ => rfl), h2.cg (fun _ _ => rfl) (fun _ => rfl) (fun _ => rfl) (fun j hj => by rw [gi_ne (by omega)]) hb.2.1 hb.1, h3.cg (fun _ => rfl) (fun _ => rfl) (fun j hj => by rw [gi_ne (by omega)]), h4.cg (fun _ => rfl) (fun _ => rfl), fun i' hi' hn => (h5 i' hi' hn).cg (fun j => by rw [gi_ne (by omega)]) (fun _ => rfl) (fun _ => rfl) (fun j hj => by rw [gi_ne (by omega)]), ?_, ?_, ?_, ?_⟩
  · unfold ItE at h6 ⊢
    repeat (first | rw [gi_ne (by omega)] | rw [gi_eq2 (by omega)])
    exact ⟨h6.1, h6.2.1, h6.2.2.1, h6.2.2.2.1, h6.2.2.2.2.1, h6.2.2.2.2.2.1, rfl, h6.2.2.2.2.2.2.2⟩
  · unfold ItC at h7 ⊢
    repeat (first | rw [gi_ne (by omega)] | rw [gi_eq2 (by omega)])
    exact h7
  · obtain ⟨k, q1, q2, q3⟩ := h8
    refine ⟨k, q1, ?_, fun j hj => ?_⟩
    · repeat (first | rw [gi_ne (by omega)] | rw [gi_eq2 (by omega)])
      exact q2
    · repeat (first | rw [gi_ne (by omega)] | rw [gi_eq2 (by omega)])
      exact q3 j hj
  · unfold ItL at h9 ⊢
    repeat (first | rw [gi_ne (by omega)] | rw [gi_eq2 (by omega)])
    exact h9
theorem RelX.set_13 {S T : Mem} {np nr ni i : Nat} {v : Int32} (h : RelX S T np nr ni i) (hi : i < ni) : RelX (si S 3 13 i v) (si T 0 (6 + 21 * i + 7) 0 v) np nr ni i := by
  obtain ⟨h1, h2, h3, h4, h5, h6, h7, h8, h9⟩ := h
  have hb := h1.1
  refine ⟨h1.cg (fun _ _ => rfl) (fun _ => rfl) (fun _ _ _ => rfl) (fun w i' hw => by rw [gi_ne (by omega)]) (fun _ => rfl), h2.cg (fun _ _ => rfl) (fun _ => rfl) (fun _ => rfl) (fun j hj => by rw [gi_ne (by omega)]) hb.2.1 hb.1, h3.cg (fun _ => rfl) (fun _ => rfl) (fun j hj => by rw [gi_ne (by omega)]), h4.cg (fun _ => rfl) (fun _ => rfl), fun i' hi' hn => (h5 i' hi' hn).cg (fun j => by rw [gi_ne (by omega)]) (fun _ => rfl) (fun _ => rfl) (fun j hj => by rw [gi_ne (by omega)]), ?_, ?_, ?_, ?_⟩
  · unfold ItE at h6 ⊢
    repeat (first | rw [gi_ne (by omega)] | rw [gi_eq2 (by omega)])
    exact ⟨h6.1, h6.2.1, h6.2.2.1, h6.2.2.2.1, h6.2.2.2.2.1, h6.2.2.2.2.2.1, h6.2.2.2.2.2.2.1, rfl⟩
  · unfold ItC at h7 ⊢
    repeat (first | rw [gi_ne (by omega)] | rw [gi_eq2 (by omega)])
    exact h7
  · obtain ⟨k, q1, q2, q3⟩ := h8
    refine ⟨k, q1, ?_, fun j hj => ?_⟩
    · repeat (first | rw [gi_ne (by omega)] | rw [gi_eq2 (by omega)])
      exact q2
    · repeat (first | rw [gi_ne (by omega)] | rw [gi_eq2 (by omega)])
      exact q3 j hj
  · unfold ItL at h9 ⊢
    repeat (first | rw [gi_ne (by omega)] | rw [gi_eq2 (by omega)])
    exact h9
theorem RelX.note {S T : Mem} {np nr ni i : Nat} {p2 p3 p4 p5 p6 : Int32} (h : RelX S T np nr ni i) (hi : i < ni) (h4' : p4 = gi T 0 0 0) (h6' : p6 = gi T 0 (6 + 21 * i + 0) 0) : ∃ S1 T1, sX0_add S (nI i) p2 p3 p4 p5 p6 = some S1 ∧ sX10_note T (nI i) p2 p3 p5 = some T1 ∧ RelX S1 T1 np nr ni i ∧ (∀ c j x, c ≠ 5 → c ≠ 6 → gi S1 c j x = gi S c j x) ∧ (∀ c x, gq S1 c x = gq S c x) ∧ (∀ c j x, c ≠ 0 ∨ (j ≠ 4 ∧ j ≠ 5 ∧ j < 358) ∨ 958 ≤ j → gi T1 c j x = gi T c j x) ∧ ∀ c x, gq T1 c x = gq T c x := by
  obtain ⟨h1, h2, h3, h4, h5, h6, h7, h8, h9⟩ := h
  have hb := h1.1
  obtain ⟨S1, T1, e1, e2, e3, f1, f2, f3, f4⟩ := sim_note (i := i) (p2 := p2) (p3 := p3) (p5 := p5) h3 (by omega) h4' h6'
  refine ⟨S1, T1, e1, e2, ⟨h1.cg (fun _ _ => f1 _ _ _ (by omega) (by omega)) (fun _ => f1 _ _ _ (by omega) (by omega)) (fun _ _ _ => f1 _ _ _ (by omega) (by omega)) (fun w i' hw => f1 _ _ _ (by omega) (by omega)) (fun _ => f3 _ _ _ (by omega)), h2.cg (fun _ _ => f1 _ _ _ (by omega) (by omega)) (fun _ => f1 _ _ _ (by omega) (by omega)) (fun _ => f1 _ _ _ (by omega) (by omega)) (fun j hj => f3 _ _ _ (by omega)) hb.2.1 hb.1, e3, h4.cg (fun _ => f2 _ _) (fun _ => f4 _ _), fun i' hi' hn => (h5 i' hi' hn).cg (fun j => f1 _ _ _ (by omega) (by omega)) (fun _ => f1 _ _ _ (by omega) (by omega)) (fun _ => f1 _ _ _ (by omega) (by omega)) (fun j hj => f3 _ _ _ (by omega)), ?_, ?_, ?_, ?_⟩, f1, f2, f3, f4⟩
  · unfold ItE at h6 ⊢
    simp only [f1 3 _ i (by omega) (by omega), f3 0 (6 + 21 * i + 0) 0 (by omega), f3 0 (6 + 21 * i + 1) 0 (by omega), f3 0 (6 + 21 * i + 2) 0 (by omega), f3 0 (6 + 21 * i + 3) 0 (by omega), f3 0 (6 + 21 * i + 4) 0 (by omega), f3 0 (6 + 21 * i + 5) 0 (by omega), f3 0 (6 + 21 * i + 6) 0 (by omega), f3 0 (6 + 21 * i + 7) 0 (by omega)]
    exact h6
  · unfold ItC at h7 ⊢
    rw [f1 3 _ i (by omega) (by omega)]; exact h7
  · obtain ⟨k, q1, q2, q3⟩ := h8
    refine ⟨k, q1, ?_, fun j hj => ?_⟩
    · rw [f1 3 _ i (by omega) (by omega)]; exact q2
    · rw [f1 4 _ i (by omega) (by omega), f3 0 (6 + 21 * i + (13 + j)) 0 (by omega)]; exact q3 j hj
  · unfold ItL at h9 ⊢
    simp only [f1 3 _ i (by omega) (by omega), f3 0 (6 + 21 * i + 8) 0 (by omega), f3 0 (6 + 21 * i + 9) 0 (by omega), f3 0 (6 + 21 * i + 10) 0 (by omega)]
    exact h9
theorem RelX.done {S T : Mem} {np nr ni i r : Nat} (h : RelX S T np nr ni i) (hi : i < ni) (hr : r < nr) {x : Int64} {y u w : Int32} : RelX (si (si (si (sq S 3 i x) 3 13 i y) 2 7 r u) 0 13 0 w) (sq (si (si (si T 0 (6 + 21 * i + 7) 0 y) 0 1 0 w) 0 (342 + r) 0 u) 1 i x) np nr ni i := by
  obtain ⟨h1, h2, h3, h4, h5, h6, h7, h8, h9⟩ := h
  have hb := h1.1
  refine ⟨h1.cg (fun j hj => by rw [gi_ne (by omega)]; rfl) (fun _ => rfl) (fun w r hw => by rw [gi_ne (by omega), gi_ne (by omega)]; rfl) (fun w i' hw => by rw [gi_ne (by omega), gi_ne (by omega), gi_ne (by omega)]; rfl) (fun _ => rfl), ?_, h3.cg (fun _ => rfl) (fun _ => rfl) (fun j hj => by show gi (si (si (si T 0 (6 + 21 * i + 7) 0 y) 0 1 0 w) 0 (342 + r) 0 u) 0 j 0 = _; repeat (first | rw [gi_ne (by omega)] | rw [gi_eq2 (by omega)])), ?_, fun i' hi' hn => (h5 i' hi' hn).cg (fun j => by show gi (si (si (si S 3 13 i y) 2 7 r u) 0 13 0 w) 3 j i' = _; repeat (first | rw [gi_ne (by omega)] | rw [gi_eq2 (by omega)])) (fun _ => rfl) (fun r' => by show gi (si (si (si S 3 13 i y) 2 7 r u) 0 13 0 w) 2 1 r' = _; repeat (first | rw [gi_ne (by omega)] | rw [gi_eq2 (by omega)])) (fun j hj => by show gi (si (si (si T 0 (6 + 21 * i + 7) 0 y) 0 1 0 w) 0 (342 + r) 0 u) 0 (6 + 21 * i' + j) 0 = _; repeat (first | rw [gi_ne (by omega)] | rw [gi_eq2 (by omega)])), ?_, ?_, ?_, ?_⟩
  · obtain ⟨q1, ⟨q2, q3, q4, q5⟩, q6, q7⟩ := h2
    refine ⟨q1, ⟨?_, ?_, ?_, ?_⟩, fun r' hr' => ?_, fun p hp => ?_⟩
    · show gi S 0 12 0 = gi (si (si (si T 0 (6 + 21 * i + 7) 0 y) 0 1 0 w) 0 (342 + r) 0 u) 0 0 0
      repeat (first | rw [gi_ne (by omega)] | rw [gi_eq2 (by omega)])
      exact q2
    · show gi (si (si (si S 3 13 i y) 2 7 r u) 0 13 0 w) 0 13 0 = gi (si (si (si T 0 (6 + 21 * i + 7) 0 y) 0 1 0 w) 0 (342 + r) 0 u) 0 1 0
      repeat (first | rw [gi_ne (by omega)] | rw [gi_eq2 (by omega)])
    · show gi S 0 14 0 = gi (si (si (si T 0 (6 + 21 * i + 7) 0 y) 0 1 0 w) 0 (342 + r) 0 u) 0 2 0
      repeat (first | rw [gi_ne (by omega)] | rw [gi_eq2 (by omega)])
      exact q4
    · show gi S 0 15 0 = gi (si (si (si T 0 (6 + 21 * i + 7) 0 y) 0 1 0 w) 0 (342 + r) 0 u) 0 3 0
      repeat (first | rw [gi_ne (by omega)] | rw [gi_eq2 (by omega)])
      exact q5
    · show gi (si (si (si S 3 13 i y) 2 7 r u) 0 13 0 w) 2 7 r' = gi (si (si (si T 0 (6 + 21 * i + 7) 0 y) 0 1 0 w) 0 (342 + r) 0 u) 0 (342 + r') 0
      by_cases e : r' = r
      · subst e
        repeat (first | rw [gi_ne (by omega)] | rw [gi_eq2 (by omega)])
      · repeat (first | rw [gi_ne (by omega)] | rw [gi_eq2 (by omega)])
        exact q6 r' hr'
    · show gi S 1 2 p = gi (si (si (si T 0 (6 + 21 * i + 7) 0 y) 0 1 0 w) 0 (342 + r) 0 u) 0 (352 + p) 0
      repeat (first | rw [gi_ne (by omega)] | rw [gi_eq2 (by omega)])
      exact q7 p hp
  · intro i' hi'
    by_cases e : i' = i
    · subst e
      show gq (sq S 3 i' x) 3 i' = gq (sq T 1 i' x) 1 i'
      rw [gq_eq2 (by omega), gq_eq2 (by omega)]
    · show gq (sq S 3 i x) 3 i' = gq (sq T 1 i x) 1 i'
      rw [gq_ne (by omega), gq_ne (by omega)]; exact h4 i' hi'
  · show ItE (si (si (si S 3 13 i y) 2 7 r u) 0 13 0 w) (si (si (si T 0 (6 + 21 * i + 7) 0 y) 0 1 0 w) 0 (342 + r) 0 u) i
    unfold ItE at h6 ⊢
    repeat (first | rw [gi_ne (by omega)] | rw [gi_eq2 (by omega)])
    exact ⟨h6.1, h6.2.1, h6.2.2.1, h6.2.2.2.1, h6.2.2.2.2.1, h6.2.2.2.2.2.1, h6.2.2.2.2.2.2.1, rfl⟩
  · show ItC (si (si (si S 3 13 i y) 2 7 r u) 0 13 0 w) i
    unfold ItC at h7 ⊢
    repeat (first | rw [gi_ne (by omega)] | rw [gi_eq2 (by omega)])
    exact h7
  · obtain ⟨k, q1, q2, q3⟩ := h8
    refine ⟨k, q1, ?_, fun j hj => ?_⟩
    · show gi (si (si (si S 3 13 i y) 2 7 r u) 0 13 0 w) 3 7 i = _
      repeat (first | rw [gi_ne (by omega)] | rw [gi_eq2 (by omega)])
      exact q2
    · show gi S 4 j i = gi (si (si (si T 0 (6 + 21 * i + 7) 0 y) 0 1 0 w) 0 (342 + r) 0 u) 0 (6 + 21 * i + (13 + j)) 0 ∧ _
      repeat (first | rw [gi_ne (by omega)] | rw [gi_eq2 (by omega)])
      exact q3 j hj
  · show ItL (si (si (si S 3 13 i y) 2 7 r u) 0 13 0 w) (si (si (si T 0 (6 + 21 * i + 7) 0 y) 0 1 0 w) 0 (342 + r) 0 u) i
    unfold ItL at h9 ⊢
    repeat (first | rw [gi_ne (by omega)] | rw [gi_eq2 (by omega)])
    exact h9
