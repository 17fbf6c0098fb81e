/-! ===== QUIET ===== -/
section QUIET
variable {B m np nr ni : Nat} {S : XT} {T : Mem} {co : Nat → Option Int32}
theorem msk_0 {f : Nat → Bool} : ∀ {n : Nat}, msk f n = 0 ↔ ∀ i, i < n → f i = false := by
  intro n
  induction n with
  | zero => exact ⟨fun _ i hi => absurd hi (Nat.not_lt_zero _), fun _ => rfl⟩
  | succ n ih =>
    by_cases h : f n = true
    · rw [msk_t h]
      have : 0 < 2 ^ n := Nat.pow_pos (by omega)
      exact ⟨fun z => absurd z (by omega), fun z => absurd (z n (by omega)) (by rw [h]; decide)⟩
    · rw [msk_f h, ih]
      refine ⟨fun z i hi => ?_, fun z i hi => z i (by omega)⟩
      by_cases e : i = n
      · subst e; exact Bool.eq_false_iff.mpr h
      · exact z i (by omega)
theorem e_quiet {L T : Mem} (h : Rel L T np nr ni) : ∃ r, sX7_isQuiet L = some r ∧ sX10_isQuiet T = some r ∧ (r = 0 ∨ r = 1) := by
  have hni : ni ≤ 16 := h.1.1.2.2
  have t4 : gi T 5 (4 : Int32).toNatClampNeg 0 = nI ni := h.1.2.2.1.2.2
  have h0 : ∀ w, nI (msk (inst L w) ni) = 0 ↔ ∀ x, x < ni → gi L 3 5 x ≠ w := fun w => by
    have hm : msk (inst L w) ni < 2 ^ 16 := Nat.lt_of_lt_of_le (msk_lt _ _) (Nat.pow_le_pow_right (by omega) hni)
    rw [n_lit 0, n_eq (by omega) (by omega), msk_0]
    exact ⟨fun z x hx => of_decide_eq_false (z x hx), fun z x hx => decide_eq_false (z x hx)⟩
  -- the Model
  obtain ⟨r, r1, r2⟩ : ∃ r, sX10_isQuiet T = some r ∧ ((r = 1 ∧ ∀ x, x < ni → (gi L 3 5 x = 0 ∨ gi L 3 5 x = 4) ∧ sX7_reasonOf L x ≠ some 0) ∨ (r = 0 ∧ ¬ ∀ x, x < ni → (gi L 3 5 x = 0 ∨ gi L 3 5 x = 4) ∧ sX7_reasonOf L x ≠ some 0)) := by
    unfold sX10_isQuiet sX10_isQuiet_l4
    refine itw_one (f := sX10_isQuiet_l4_step T) (J := fun k a => ∃ u, u ≤ ni ∧ k = ni - u ∧ a.2 = nI u ∧ ((a.1 = 1 ∧ ∀ x, x < u → (gi L 3 5 x = 0 ∨ gi L 3 5 x = 4) ∧ sX7_reasonOf L x ≠ some 0) ∨ (a.1 = 0 ∧ ¬ ∀ x, x < u → (gi L 3 5 x = 0 ∨ gi L 3 5 x = 4) ∧ sX7_reasonOf L x ≠ some 0))) (P := fun r => (r = 1 ∧ ∀ x, x < ni → (gi L 3 5 x = 0 ∨ gi L 3 5 x = 4) ∧ sX7_reasonOf L x ≠ some 0) ∨ (r = 0 ∧ ¬ ∀ x, x < ni → (gi L 3 5 x = 0 ∨ gi L 3 5 x = 4) ∧ sX7_reasonOf L x ≠ some 0)) (fun k a => ?_) (k := ni - 0) (a := ((1 : Int32), (0 : Int32))) ⟨0, by omega, rfl, rfl, Or.inl ⟨rfl, fun x hx => absurd hx (Nat.not_lt_zero _)⟩⟩
    obtain ⟨c, z⟩ := a
    rintro ⟨u, h1, rfl, h2, h3⟩
    dsimp only at h2 h3
    subst h2
    unfold sX10_isQuiet_l4_step
    dsimp only
    rw [t4]
    by_cases e : ni ≤ u
    · have hle : nI ni ≤ nI u := by rw [n_le (by omega) (by omega)]; exact e
      have e2 : u = ni := by omega
      subst e2
      rw [if_pos hle]
      exact Or.inl ⟨_, rfl, h3⟩
    · have hle : ¬ nI ni ≤ nI u := by rw [n_le (by omega) (by omega)]; exact e
      have hu : u < ni := by omega
      obtain ⟨v, v1, v2, _⟩ := sim_reason h hu
      rw [if_neg hle, e_of_1 (by omega), obind_some, obind_some, ← (h.2.2.2.2.2 u hu).1.2.1]
      have a00 : ∀ c : Int32, (c = 0 ∨ c = 1) → c &&& 0 = 0 := fun c hc => by rcases hc with rfl | rfl <;> decide
      have a11 : ∀ c : Int32, (c = 0 ∨ c = 1) → c &&& 1 = c := fun c hc => by rcases hc with rfl | rfl <;> decide
      have c01 : c = 0 ∨ c = 1 := by
        rcases h3 with ⟨q, _⟩ | ⟨q, _⟩
        · exact Or.inr q
        · exact Or.inl q
      have good : (gi L 3 5 u = 0 ∨ gi L 3 5 u = 4) ∧ sX7_reasonOf L u ≠ some 0 → ∃ p, p ≤ ni ∧ ni - (u + 1) = ni - p ∧ nI (u + 1) = nI p ∧ ((c = 1 ∧ ∀ x, x < p → (gi L 3 5 x = 0 ∨ gi L 3 5 x = 4) ∧ sX7_reasonOf L x ≠ some 0) ∨ (c = 0 ∧ ¬ ∀ x, x < p → (gi L 3 5 x = 0 ∨ gi L 3 5 x = 4) ∧ sX7_reasonOf L x ≠ some 0)) := fun g => by
        refine ⟨u + 1, by omega, rfl, rfl, ?_⟩
        rcases h3 with ⟨q1, q2⟩ | ⟨q1, q2⟩
        · refine Or.inl ⟨q1, fun x hx => ?_⟩
          by_cases ex : x = u
          · subst ex; exact g
          · exact q2 x (by omega)
        · exact Or.inr ⟨q1, fun z => q2 (fun x hx => z x (by omega))⟩
      have bad : ¬ ((gi L 3 5 u = 0 ∨ gi L 3 5 u = 4) ∧ sX7_reasonOf L u ≠ some 0) → ∃ p, p ≤ ni ∧ ni - (u + 1) = ni - p ∧ nI (u + 1) = nI p ∧ (((0 : Int32) = 1 ∧ ∀ x, x < p → (gi L 3 5 x = 0 ∨ gi L 3 5 x = 4) ∧ sX7_reasonOf L x ≠ some 0) ∨ ((0 : Int32) = 0 ∧ ¬ ∀ x, x < p → (gi L 3 5 x = 0 ∨ gi L 3 5 x = 4) ∧ sX7_reasonOf L x ≠ some 0)) := fun g => ⟨u + 1, by omega, rfl, rfl, Or.inr ⟨rfl, fun z => g (z u (by omega))⟩⟩
      have tail : (gi L 3 5 u = 0 ∨ gi L 3 5 u = 4) → (∃ b, sX10_isQuiet_j34 T (nI u) c = some (.inr b) ∧ False) ∨ ∃ a1 k1, k1 < ni - u ∧ sX10_isQuiet_j34 T (nI u) c = some (.inl a1) ∧ ∃ p, p ≤ ni ∧ k1 = ni - p ∧ a1.2 = nI p ∧ ((a1.1 = 1 ∧ ∀ x, x < p → (gi L 3 5 x = 0 ∨ gi L 3 5 x = 4) ∧ sX7_reasonOf L x ≠ some 0) ∨ (a1.1 = 0 ∧ ¬ ∀ x, x < p → (gi L 3 5 x = 0 ∨ gi L 3 5 x = 4) ∧ sX7_reasonOf L x ≠ some 0)) := fun hs => by
        refine Or.inr ?_
        unfold sX10_isQuiet_j34
        rw [v2, obind_some, n_suc]
        by_cases ev : v = 0
        · rw [if_pos ev, a00 c c01]
          exact ⟨_, ni - (u + 1), by omega, rfl, bad (fun g => g.2 (by rw [v1, ev]))⟩
        · rw [if_neg ev, a11 c c01]
          exact ⟨_, ni - (u + 1), by omega, rfl, good ⟨hs, fun z => ev (Option.some.inj (v1.symm.trans z))⟩⟩
      by_cases s0 : gi L 3 5 u = 0
      · rw [if_pos s0]
        rcases tail (Or.inl s0) with ⟨b, _, hb⟩ | q
        · exact hb.elim
        · exact Or.inr q
      · rw [if_neg s0]
        by_cases s4 : gi L 3 5 u = 4
        · rw [if_pos s4]
          rcases tail (Or.inr s4) with ⟨b, _, hb⟩ | q
          · exact hb.elim
          · exact Or.inr q
        · rw [if_neg s4, a00 c c01, n_suc]
          exact Or.inr ⟨_, ni - (u + 1), by omega, rfl, bad (fun g => by rcases g.1 with z | z; exact s0 z; exact s4 z)⟩
  refine ⟨r, ?_, r1, by rcases r2 with ⟨z, _⟩ | ⟨z, _⟩; exact Or.inr z; exact Or.inl z⟩
  obtain ⟨v, n1, n2, n3⟩ := sim_next h
  unfold sX7_isQuiet
  rw [e_itemsIn h.1, e_itemsIn h.1, e_itemsIn h.1, obind_some, obind_some, obind_some, n1, obind_some]
  have st : ∀ x, x < ni → gi L 3 5 x = 0 ∨ gi L 3 5 x = 1 ∨ gi L 3 5 x = 2 ∨ gi L 3 5 x = 3 ∨ gi L 3 5 x = 4 := fun x hx => by
    rcases (h.2.2.2.2.2 x hx).2.2.2.2 with ⟨z, _⟩ | ⟨z, _⟩ | ⟨z, _⟩ | ⟨z, _⟩ | ⟨z, _⟩
    · exact Or.inl z
    · exact Or.inr (Or.inl z)
    · exact Or.inr (Or.inr (Or.inl z))
    · exact Or.inr (Or.inr (Or.inr (Or.inl z)))
    · exact Or.inr (Or.inr (Or.inr (Or.inr z)))
  rcases r2 with ⟨rfl, q⟩ | ⟨rfl, q⟩
  · have nw : ∀ w : Int32, w ≠ 0 → w ≠ 4 → nI (msk (inst L w) ni) = 0 := fun w w0 w4 => (h0 w).mpr (fun x hx z => by
      rcases (q x hx).1 with y | y
      · exact w0 (z.symm.trans y)
      · exact w4 (z.symm.trans y))
    rw [if_pos (nw 1 (by decide) (by decide)), if_pos (nw 2 (by decide) (by decide)), if_pos (nw 3 (by decide) (by decide))]
    rcases n3 with ⟨z, _⟩ | ⟨x, hx, _, z⟩
    · rw [if_pos z]
    · exact absurd z (q x hx).2
  · by_cases m1 : nI (msk (inst L 1) ni) = 0
    · rw [if_pos m1]
      by_cases m2 : nI (msk (inst L 2) ni) = 0
      · rw [if_pos m2]
        by_cases m3 : nI (msk (inst L 3) ni) = 0
        · rw [if_pos m3]
          rcases n3 with ⟨z, y⟩ | ⟨x, hx, z, _⟩
          · refine absurd (fun x hx => ⟨?_, ?_⟩) q
            · have a1 := (h0 1).mp m1 x hx
              have a2 := (h0 2).mp m2 x hx
              have a3 := (h0 3).mp m3 x hx
              rcases st x hx with s | s | s | s | s
              · exact Or.inl s
              · exact absurd s a1
              · exact absurd s a2
              · exact absurd s a3
              · exact Or.inr s
            · obtain ⟨w, w1, w2⟩ := y x hx
              intro e
              exact w2 (Option.some.inj (w1.symm.trans e))
          · rw [if_neg (by rw [z]; exact n_m1 (by omega))]
        · rw [if_neg m3]
      · rw [if_neg m2]
    · rw [if_neg m1]
end QUIET
