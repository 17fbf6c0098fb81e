/-! ===== PRESSES ARE FILLED ===== -/
/-- the order of those that wait -/
def kyn (S : Mem) (i : Nat) : Nat := (gi S 3 11 i).toNatClampNeg * 16 + i
theorem e_key {S T : Mem} {np nr ni i : Nat} (h : Rel S T np nr ni) (hi : i < ni) (hw : gi S 3 5 i = 2) : sX2_waitingKey S i = nI (kyn S i) ∧ kyn S i < 400000 ∧ gi S 3 11 i = gi T 0 (6 + 21 * i + 11) 0 ∧ gi S 3 11 i = nI ((gi S 3 11 i).toNatClampNeg) ∧ (gi S 3 11 i).toNatClampNeg ≤ 20000 := by
  have hni : ni ≤ 16 := h.1.1.2.2
  obtain ⟨-, -, -, -, hS⟩ := h.2.2.2.2.2 i hi
  have hnum : gi S 3 0 i = nI i := (h.1.2.2.2.2.2.2 i hi).1
  rcases hS with ⟨z, _⟩ | ⟨z, _⟩ | ⟨z, _, _, _, a11, _, s, s1, s2⟩ | ⟨z, _⟩ | ⟨z, _⟩
  · exact absurd (hw.symm.trans z) (by decide)
  · exact absurd (hw.symm.trans z) (by decide)
  · have e : (gi S 3 11 i).toNatClampNeg = s := by rw [s2, n_cl (by omega)]
    unfold kyn sX2_waitingKey
    rw [e, hnum, s2, n_lit 16, pk_mul, nI_add]
    exact ⟨rfl, by omega, s2.symm.trans a11, rfl, s1⟩
  · exact absurd (hw.symm.trans z) (by decide)
  · exact absurd (hw.symm.trans z) (by decide)
theorem kyn_inj {S : Mem} {i i' : Nat} (hi : i < 16) (hi' : i' < 16) (h : kyn S i = kyn S i') : i = i' := by
  unfold kyn at h; omega
theorem nI_leX {a : Nat} {x : Int32} (ha : a < 2147483648) : nI a ≤ x ↔ (a : Int) ≤ x.toInt := by
  rw [Int32.le_iff_toInt_le, n_int ha]
section FP
variable {S T : Mem} {np nr ni : Nat}
/-- the Studio's next one behind a key -/
theorem e_nwS (h : Rel S T np nr ni) (κ : Int32) : ∃ r, sX7_nextWaiting S κ = some r ∧ ((r = none ∧ ∀ i, i < ni → gi S 3 5 i = 2 → (kyn S i : Int) ≤ κ.toInt) ∨ ∃ i, i < ni ∧ r = some i ∧ gi S 3 5 i = 2 ∧ κ.toInt < kyn S i ∧ ∀ i', i' < ni → gi S 3 5 i' = 2 → κ.toInt < kyn S i' → kyn S i ≤ kyn S i') := by
  have hni : ni ≤ 16 := h.1.1.2.2
  have e9 : gi S 0 9 0 = nI ni := h.1.2.1.2.2
  unfold sX7_nextWaiting sX7_nextWaiting_l4
  obtain ⟨b, h1, h2⟩ := itw_one (f := sX7_nextWaiting_l4_step S κ) (J := fun k a => ∃ o, o ≤ ni ∧ k = ni - o ∧ a.2 = nI o ∧ ((a.1 = none ∧ ∀ i, i < o → gi S 3 5 i = 2 → (kyn S i : Int) ≤ κ.toInt) ∨ ∃ i, i < ni ∧ a.1 = some i ∧ gi S 3 5 i = 2 ∧ κ.toInt < kyn S i ∧ ∀ i', i' < o → gi S 3 5 i' = 2 → κ.toInt < kyn S i' → kyn S i ≤ kyn S i')) (P := fun r => (r = none ∧ ∀ i, i < ni → gi S 3 5 i = 2 → (kyn S i : Int) ≤ κ.toInt) ∨ ∃ i, i < ni ∧ r = some i ∧ gi S 3 5 i = 2 ∧ κ.toInt < kyn S i ∧ ∀ i', i' < ni → gi S 3 5 i' = 2 → κ.toInt < kyn S i' → kyn S i ≤ kyn S i') (fun k a => by
    obtain ⟨f, z⟩ := a
    rintro ⟨o, h1, rfl, h2, h3⟩
    dsimp only at h2 h3
    subst h2
    unfold sX7_nextWaiting_l4_step
    dsimp only
    rw [e9]
    by_cases e : ni ≤ o
    · have hle : nI ni ≤ nI o := by rw [n_le (by omega) (by omega)]; exact e
      rw [if_pos hle]
      have e2 : o = ni := by omega
      subst e2
      exact Or.inl ⟨_, rfl, h3⟩
    · have hle : ¬ nI ni ≤ nI o := by rw [n_le (by omega) (by omega)]; exact e
      have ho : o < ni := by omega
      rw [if_neg hle, e_itemAt (by omega), n_suc]
      have skip : (gi S 3 5 o = 2 → (kyn S o : Int) ≤ κ.toInt) → ∃ p1, p1 ≤ ni ∧ ni - (o + 1) = ni - p1 ∧ nI (o + 1) = nI p1 ∧ ((f = none ∧ ∀ i, i < p1 → gi S 3 5 i = 2 → (kyn S i : Int) ≤ κ.toInt) ∨ ∃ i, i < ni ∧ f = some i ∧ gi S 3 5 i = 2 ∧ κ.toInt < kyn S i ∧ ∀ i', i' < p1 → gi S 3 5 i' = 2 → κ.toInt < kyn S i' → kyn S i ≤ kyn S i') := fun hs => by
        refine ⟨o + 1, by omega, rfl, rfl, ?_⟩
        rcases h3 with ⟨q1, q2⟩ | ⟨i, q1, q2, q3, q4, q5⟩
        · refine Or.inl ⟨q1, fun i hi hw => ?_⟩
          by_cases e3 : i = o
          · subst e3; exact hs hw
          · exact q2 i (by omega) hw
        · refine Or.inr ⟨i, q1, q2, q3, q4, fun i' hi' hw hk => ?_⟩
          by_cases e3 : i' = o
          · subst e3; have := hs hw; omega
          · exact q5 i' (by omega) hw hk
      by_cases e1 : gi S 3 5 o = 2
      · obtain ⟨k1, k2, -, -, -⟩ := e_key h ho e1
        rw [if_pos e1, k1]
        by_cases e2 : (kyn S o : Int) ≤ κ.toInt
        · rw [if_pos ((nI_leX (by omega)).mpr e2)]
          exact Or.inr ⟨_, ni - (o + 1), by omega, rfl, skip (fun _ => e2)⟩
        · rw [if_neg (fun z => e2 ((nI_leX (by omega)).mp z))]
          rcases h3 with ⟨q1, q2⟩ | ⟨i, q1, q2, q3, q4, q5⟩
          · subst q1
            refine Or.inr ⟨_, ni - (o + 1), by omega, rfl, o + 1, by omega, rfl, rfl, Or.inr ⟨o, ho, rfl, e1, by omega, fun i' hi' hw hk => ?_⟩⟩
            by_cases e3 : i' = o
            · subst e3; exact Nat.le_refl _
            · have := q2 i' (by omega) hw; omega
          · subst q2
            obtain ⟨k3, k4, -, -, -⟩ := e_key h q1 q3
            dsimp only [oopt]
            rw [k3]
            by_cases e4 : kyn S i ≤ kyn S o
            · have hl2 : nI (kyn S i) ≤ nI (kyn S o) := by rw [n_le (by omega) (by omega)]; exact e4
              rw [if_pos hl2]
              refine Or.inr ⟨_, ni - (o + 1), by omega, rfl, o + 1, by omega, rfl, rfl, Or.inr ⟨i, q1, rfl, q3, q4, fun i' hi' hw hk => ?_⟩⟩
              by_cases e3 : i' = o
              · subst e3; exact e4
              · exact q5 i' (by omega) hw hk
            · have hl2 : ¬ nI (kyn S i) ≤ nI (kyn S o) := by rw [n_le (by omega) (by omega)]; exact e4
              rw [if_neg hl2]
              refine Or.inr ⟨_, ni - (o + 1), by omega, rfl, o + 1, by omega, rfl, rfl, Or.inr ⟨o, ho, rfl, e1, by omega, fun i' hi' hw hk => ?_⟩⟩
              by_cases e3 : i' = o
              · subst e3; exact Nat.le_refl _
              · have := q5 i' (by omega) hw hk; omega
      · rw [if_neg e1]
        exact Or.inr ⟨_, ni - (o + 1), by omega, rfl, skip (fun z => absurd z e1)⟩) (k := ni - 0) (a := (none, (0 : Int32))) ⟨0, by omega, rfl, rfl, Or.inl ⟨rfl, fun i hi => absurd hi (Nat.not_lt_zero _)⟩⟩
  exact ⟨b, h1, h2⟩
/-- the Model's next one that has not had its turn -/
theorem e_nwT (h : Rel S T np nr ni) : ∃ v, sX10_nextWaiting T = some v ∧ ((v = -1 ∧ ∀ i, i < ni → gi S 3 5 i = 2 → gi T 7 i 0 ≠ 0) ∨ ∃ i, i < ni ∧ v = nI i ∧ gi S 3 5 i = 2 ∧ gi T 7 i 0 = 0 ∧ ∀ i', i' < ni → gi S 3 5 i' = 2 → gi T 7 i' 0 = 0 → kyn S i ≤ kyn S i') := by
  have hni : ni ≤ 16 := h.1.1.2.2
  have e9 : gi T 5 (4 : Int32).toNatClampNeg 0 = nI ni := h.1.2.2.1.2.2
  unfold sX10_nextWaiting sX10_nextWaiting_l4
  obtain ⟨b, h1, h2⟩ := itw_one (f := sX10_nextWaiting_l4_step T) (J := fun k a => ∃ o, o ≤ ni ∧ k = ni - o ∧ a.2 = nI o ∧ ((a.1 = -1 ∧ ∀ i, i < o → gi S 3 5 i = 2 → gi T 7 i 0 ≠ 0) ∨ ∃ i, i < o ∧ a.1 = nI i ∧ gi S 3 5 i = 2 ∧ gi T 7 i 0 = 0 ∧ ∀ i', i' < o → gi S 3 5 i' = 2 → gi T 7 i' 0 = 0 → kyn S i ≤ kyn S i')) (P := fun v => (v = -1 ∧ ∀ i, i < ni → gi S 3 5 i = 2 → gi T 7 i 0 ≠ 0) ∨ ∃ i, i < ni ∧ v = nI i ∧ gi S 3 5 i = 2 ∧ gi T 7 i 0 = 0 ∧ ∀ i', i' < ni → gi S 3 5 i' = 2 → gi T 7 i' 0 = 0 → kyn S i ≤ kyn S i') (fun k a => by
    obtain ⟨f, z⟩ := a
    rintro ⟨o, h1, rfl, h2, h3⟩
    dsimp only at h2 h3
    subst h2
    unfold sX10_nextWaiting_l4_step
    dsimp only
    rw [e9]
    by_cases e : ni ≤ o
    · have hle : nI ni ≤ nI o := by rw [n_le (by omega) (by omega)]; exact e
      rw [if_pos hle]
      have e2 : o = ni := by omega
      subst e2
      exact Or.inl ⟨_, rfl, h3⟩
    · have hle : ¬ nI ni ≤ nI o := by rw [n_le (by omega) (by omega)]; exact e
      have ho : o < ni := by omega
      have t1 : gi T 0 (6 + 21 * o + 1) 0 = gi S 3 5 o := (h.2.2.2.2.2 o ho).1.2.1.symm
      rw [if_neg hle, e_of_1 (by omega), obind_some, t1, n_suc]
      have skip : (gi S 3 5 o = 2 → gi T 7 o 0 ≠ 0) → ∃ p1, p1 ≤ ni ∧ ni - (o + 1) = ni - p1 ∧ nI (o + 1) = nI p1 ∧ ((f = -1 ∧ ∀ i, i < p1 → gi S 3 5 i = 2 → gi T 7 i 0 ≠ 0) ∨ ∃ i, i < p1 ∧ f = nI i ∧ gi S 3 5 i = 2 ∧ gi T 7 i 0 = 0 ∧ ∀ i', i' < p1 → gi S 3 5 i' = 2 → gi T 7 i' 0 = 0 → kyn S i ≤ kyn S i') := fun hs => by
        refine ⟨o + 1, by omega, rfl, rfl, ?_⟩
        rcases h3 with ⟨q1, q2⟩ | ⟨i, q1, q2, q3, q4, q5⟩
        · refine Or.inl ⟨q1, fun i hi hw => ?_⟩
          by_cases e3 : i = o
          · subst e3; exact hs hw
          · exact q2 i (by omega) hw
        · refine Or.inr ⟨i, by omega, q2, q3, q4, fun i' hi' hw hk => ?_⟩
          by_cases e3 : i' = o
          · subst e3; exact absurd hk (hs hw)
          · exact q5 i' (by omega) hw hk
      by_cases e1 : gi S 3 5 o = 2
      · obtain ⟨k1, k2, k3, k4, k5⟩ := e_key h ho e1
        rw [if_pos e1, n_inb (by omega) (by omega), oif_t rfl, n_cl (by omega)]
        by_cases e2 : gi T 7 o 0 = 0
        · rw [if_pos e2]
          rcases h3 with ⟨q1, q2⟩ | ⟨i, q1, q2, q3, q4, q5⟩
          · subst q1
            rw [if_pos rfl]
            refine Or.inr ⟨_, ni - (o + 1), by omega, rfl, o + 1, by omega, rfl, rfl, Or.inr ⟨o, by omega, rfl, e1, e2, fun i' hi' hw hk => ?_⟩⟩
            by_cases e3 : i' = o
            · subst e3; exact Nat.le_refl _
            · exact absurd hk (q2 i' (by omega) hw)
          · subst q2
            obtain ⟨m1, m2, m3, m4, m5⟩ := e_key h (show i < ni by omega) q3
            rw [if_neg (n_m1 (by omega)), e_of_11 (by omega), obind_some, e_of_11 (by omega), obind_some, ← k3, ← m3, k4, m4]
            by_cases e4 : (gi S 3 11 i).toNatClampNeg ≤ (gi S 3 11 o).toNatClampNeg
            · have hl2 : nI ((gi S 3 11 i).toNatClampNeg) ≤ nI ((gi S 3 11 o).toNatClampNeg) := by rw [n_le (by omega) (by omega)]; exact e4
              rw [if_pos hl2]
              refine Or.inr ⟨_, ni - (o + 1), by omega, rfl, o + 1, by omega, rfl, rfl, Or.inr ⟨i, by omega, rfl, q3, q4, fun i' hi' hw hk => ?_⟩⟩
              by_cases e3 : i' = o
              · subst e3; unfold kyn; omega
              · exact q5 i' (by omega) hw hk
            · have hl2 : ¬ nI ((gi S 3 11 i).toNatClampNeg) ≤ nI ((gi S 3 11 o).toNatClampNeg) := by rw [n_le (by omega) (by omega)]; exact e4
              rw [if_neg hl2]
              refine Or.inr ⟨_, ni - (o + 1), by omega, rfl, o + 1, by omega, rfl, rfl, Or.inr ⟨o, by omega, rfl, e1, e2, fun i' hi' hw hk => ?_⟩⟩
              by_cases e3 : i' = o
              · subst e3; exact Nat.le_refl _
              · have z1 := q5 i' (by omega) hw hk
                have z2 : kyn S o ≤ kyn S i := by unfold kyn; omega
                omega
        · rw [if_neg e2]
          exact Or.inr ⟨_, ni - (o + 1), by omega, rfl, skip (fun _ => e2)⟩
      · rw [if_neg e1]
        exact Or.inr ⟨_, ni - (o + 1), by omega, rfl, skip (fun z => absurd z e1)⟩) (k := ni - 0) (a := ((-1 : Int32), (0 : Int32))) ⟨0, by omega, rfl, rfl, Or.inl ⟨rfl, fun i hi => absurd hi (Nat.not_lt_zero _)⟩⟩
  exact ⟨b, h1, h2⟩
theorem Rel.had (h : Rel S T np nr ni) {j : Nat} {v : Int32} : Rel S (si T 7 j 0 v) np nr ni := by
  obtain ⟨h1, h2, h3, h4, h5, h6⟩ := h
  exact ⟨h1.cg (fun _ _ => rfl) (fun _ => rfl) (fun _ _ _ => rfl) (fun _ _ _ => rfl) (fun _ => rfl), h2.cg (fun _ _ => rfl) (fun _ => rfl) (fun _ => rfl) (fun _ _ => rfl) h1.1.2.1 h1.1.1, h3.cg (fun _ => rfl) (fun _ => rfl) (fun _ _ => rfl), h4.cg (fun _ => rfl) (fun _ => rfl), h5, fun i hi => (h6 i hi).cg (fun _ => rfl) (fun _ => rfl) (fun _ => rfl) (fun _ _ => rfl)⟩
/-- an object enters a press -/
theorem sim_enter {i p : Nat} (h : Rel S T np nr ni) (hi : i < ni) (hw : gi S 3 5 i = 2) (hp : p < np) (hin : gi S 1 1 p = -1) : ∃ S' T1 T', sX7_enterPress S i (nI p) = some S' ∧ sX10_note T (nI i) 1 (gi T 0 (6 + 21 * i + 5) 0) (gi T 0 (6 + 21 * i + 0) 0 + gi T 0 (6 + 21 * i + 12) 0) = some T1 ∧ sX10_cure (si T1 0 (352 + p) 0 (gi T1 0 (352 + p) 0 + 1)) (nI i) (nI p) = some T' ∧ Rel S' T' np nr ni ∧ FrT T T' ∧ gi S' 3 5 i = 3 ∧ (∀ x, x ≠ i → gi S' 3 5 x = gi S 3 5 x) ∧ (∀ x, gi S' 3 11 x = gi S 3 11 x) ∧ (∀ x, gi T' 7 x 0 = gi T 7 x 0) ∧ gi S' 0 12 0 = gi S 0 12 0 := by
  obtain ⟨hC, hSa, hB, hO, hI, hIt⟩ := h
  have hni : ni ≤ 16 := hC.1.2.2
  have hnr : nr ≤ 10 := hC.1.2.1
  have hnp : np ≤ 6 := hC.1.1
  have hl : i < 16 := by omega
  obtain ⟨hE, hCx, hQ, hL, hSt⟩ := hIt i hi
  have hnum : gi S 3 0 i = nI i := (hC.2.2.2.2.2.2 i hi).1
  obtain ⟨r, hr, a9, acu, a6, a10, a11, a12, sn, sn1, sn2⟩ : ∃ r, r < nr ∧ gi S 3 9 i = nI r ∧ gi S 2 1 r ≠ 0 ∧ gi S 3 6 i = 0 ∧ gi S 3 10 i = -1 ∧ gi S 3 11 i = gi T 0 (6 + 21 * i + 11) 0 ∧ gi S 3 12 i = gi S 3 3 i + gi T 0 (6 + 21 * i + 12) 0 ∧ ∃ s, s ≤ 20000 ∧ gi S 3 11 i = nI s := by
    rcases hSt with ⟨z, _⟩ | ⟨z, _⟩ | ⟨z, ⟨r, r1, r2, r3⟩, q⟩ | ⟨z, _⟩ | ⟨z, _⟩
    · exact absurd (hw.symm.trans z) (by decide)
    · exact absurd (hw.symm.trans z) (by decide)
    · exact ⟨r, r1, r2, r3, q⟩
    · exact absurd (hw.symm.trans z) (by decide)
    · exact absurd (hw.symm.trans z) (by decide)
  obtain ⟨hr10, hrw, -, ⟨cu, cu1, cu2⟩, -, -, -, -, -⟩ := hC.re hr
  have cpos : 1 ≤ cu := by
    rcases Nat.eq_zero_or_pos cu with z | z
    · subst z; exact absurd cu2 acu
    · exact z
  have t5 : gi T 0 (6 + 21 * i + 5) 0 = nI r := hE.2.2.2.2.2.1.symm.trans a9
  have hB0 : BoR (si (si (si (si (si S 1 1 p (nI i)) 1 2 p (gi S 1 2 p + 1)) 3 10 i (nI p)) 3 5 i 3) 3 6 i (nI cu)) T := hB.cg (fun _ => rfl) (fun _ => rfl) (fun _ _ => rfl)
  obtain ⟨S1, T1, n1, n2, n3, f1, f2, f3, f4⟩ := sim_note (i := i) (p2 := 1) (p3 := nI r) (p4 := gi T 0 0 0) (p5 := gi T 0 (6 + 21 * i + 0) 0 + gi T 0 (6 + 21 * i + 12) 0) (p6 := gi T 0 (6 + 21 * i + 0) 0) hB0 hl rfl rfl
  have eS : sX7_enterPress S i (nI p) = some S1 := by
    unfold sX7_enterPress
    rw [e_pressAt (by omega), hnum, olet_eq, gi_ne (by omega), olet_eq, olet_eq]
    have u9 : gi (si (si (si S 1 1 p (nI i)) 1 2 p (gi S 1 2 p + 1)) 3 10 i (nI p)) 3 9 i = nI r := by
      repeat (first | rw [gi_ne (by omega)] | rw [gi_eq2 (by omega)])
      exact a9
    rw [u9, e_recipeAt hr10]
    have u2 : gi (si (si (si S 1 1 p (nI i)) 1 2 p (gi S 1 2 p + 1)) 3 10 i (nI p)) 2 1 r = nI cu := by
      repeat (first | rw [gi_ne (by omega)] | rw [gi_eq2 (by omega)])
      exact cu2
    rw [u2]
    have u3 : sX2_startCuring (si (si (si S 1 1 p (nI i)) 1 2 p (gi S 1 2 p + 1)) 3 10 i (nI p)) i (nI cu) = si (si (si (si (si S 1 1 p (nI i)) 1 2 p (gi S 1 2 p + 1)) 3 10 i (nI p)) 3 5 i 3) 3 6 i (nI cu) := rfl
    rw [u3, olet_eq]
    have w0 : gi (si (si (si (si (si S 1 1 p (nI i)) 1 2 p (gi S 1 2 p + 1)) 3 10 i (nI p)) 3 5 i 3) 3 6 i (nI cu)) 3 0 i = nI i := by
      repeat (first | rw [gi_ne (by omega)] | rw [gi_eq2 (by omega)])
      exact hnum
    have w9 : gi (si (si (si (si (si S 1 1 p (nI i)) 1 2 p (gi S 1 2 p + 1)) 3 10 i (nI p)) 3 5 i 3) 3 6 i (nI cu)) 3 9 i = nI r := by
      repeat (first | rw [gi_ne (by omega)] | rw [gi_eq2 (by omega)])
      exact a9
    have wt : gi (si (si (si (si (si S 1 1 p (nI i)) 1 2 p (gi S 1 2 p + 1)) 3 10 i (nI p)) 3 5 i 3) 3 6 i (nI cu)) 0 12 0 = gi T 0 0 0 := by
      repeat (first | rw [gi_ne (by omega)] | rw [gi_eq2 (by omega)])
      exact hSa.2.1.1
    have w12 : gi (si (si (si (si (si S 1 1 p (nI i)) 1 2 p (gi S 1 2 p + 1)) 3 10 i (nI p)) 3 5 i 3) 3 6 i (nI cu)) 3 12 i = gi T 0 (6 + 21 * i + 0) 0 + gi T 0 (6 + 21 * i + 12) 0 := by
      repeat (first | rw [gi_ne (by omega)] | rw [gi_eq2 (by omega)])
      rw [a12, hE.1]
    have w3 : gi (si (si (si (si (si S 1 1 p (nI i)) 1 2 p (gi S 1 2 p + 1)) 3 10 i (nI p)) 3 5 i 3) 3 6 i (nI cu)) 3 3 i = gi T 0 (6 + 21 * i + 0) 0 := by
      repeat (first | rw [gi_ne (by omega)] | rw [gi_eq2 (by omega)])
      exact hE.1
    rw [w0, w9, wt, w12, w3, n1, obind_some]
  have kT : ∀ j, j ≠ 4 → j ≠ 5 → j < 358 → gi T1 0 j 0 = gi T 0 j 0 := fun j h4 h5 h6 => f3 0 j 0 (by omega)
  have k5 : ∀ j, gi T1 5 j 0 = gi T 5 j 0 := fun j => f3 5 j 0 (by omega)
  have eT : sX10_cure (si T1 0 (352 + p) 0 (gi T1 0 (352 + p) 0 + 1)) (nI i) (nI p) = some (si (si (si (si T1 0 (352 + p) 0 (gi T1 0 (352 + p) 0 + 1)) 0 (6 + 21 * i + 1) 0 3) 0 (6 + 21 * i + 2) 0 (nI cu)) 0 (6 + 21 * i + 6) 0 (nI p)) := by
    unfold sX10_cure
    rw [e_set_1 hl, obind_some, e_of_5 hl, obind_some]
    have u5 : gi (si (si T1 0 (352 + p) 0 (gi T1 0 (352 + p) 0 + 1)) 0 (6 + 21 * i + 1) 0 3) 0 (6 + 21 * i + 5) 0 = nI r := by
      repeat (first | rw [gi_ne (by omega)] | rw [gi_eq2 (by omega)])
      exact (kT _ (by omega) (by omega) (by omega)).trans t5
    rw [u5, e_re_1 hr10, obind_some]
    have u1 : gi (si (si T1 0 (352 + p) 0 (gi T1 0 (352 + p) 0 + 1)) 0 (6 + 21 * i + 1) 0 3) 5 (11 + 7 * r + 1) 0 = nI cu := by
      repeat (first | rw [gi_ne (by omega)] | rw [gi_eq2 (by omega)])
      exact (k5 _).trans ((hrw 1 (by omega)).symm.trans cu2)
    rw [u1, e_set_2 hl, obind_some, e_set_6 hl, obind_some]
  have gS : ∀ c j x, c ≠ 5 → c ≠ 6 → gi S1 c j x = gi (si (si (si (si (si S 1 1 p (nI i)) 1 2 p (gi S 1 2 p + 1)) 3 10 i (nI p)) 3 5 i 3) 3 6 i (nI cu)) c j x := f1
  refine ⟨S1, T1, _, eS, by rw [t5]; exact n2, eT, ?_, ?_, ?_, fun x hx => ?_, fun x => ?_, fun x => ?_, ?_⟩
  · refine ⟨hC.cg (fun j hj => by
      rw [gS _ _ _ (by omega) (by omega)]
      repeat (first | rw [gi_ne (by omega)] | rw [gi_eq2 (by omega)])) (fun x => by
      rw [gS _ _ _ (by omega) (by omega)]
      repeat (first | rw [gi_ne (by omega)] | rw [gi_eq2 (by omega)])) (fun w x hx => by
      rw [gS _ _ _ (by omega) (by omega)]
      repeat (first | rw [gi_ne (by omega)] | rw [gi_eq2 (by omega)])) (fun w x hx => by
      rw [gS _ _ _ (by omega) (by omega)]
      repeat (first | rw [gi_ne (by omega)] | rw [gi_eq2 (by omega)])) (fun j => by
      repeat (first | rw [gi_ne (by omega)] | rw [gi_eq2 (by omega)])
      exact k5 j), ?_, n3.cg (fun _ => rfl) (fun _ => rfl) (fun j hj => by repeat (first | rw [gi_ne (by omega)] | rw [gi_eq2 (by omega)])), hO.cg (fun x => (f2 3 x).trans rfl) (fun x => (f4 1 x).trans rfl), ?_, fun i' hi' => ?_⟩
    · obtain ⟨q1, ⟨q2, q3, q4, q5⟩, q6, q7⟩ := hSa
      refine ⟨?_, ⟨?_, ?_, ?_, ?_⟩, fun r' hr' => ?_, fun p' hp' => ?_⟩
      · rw [gS _ _ _ (by omega) (by omega)]
        repeat (first | rw [gi_ne (by omega)] | rw [gi_eq2 (by omega)])
        exact q1
      · rw [gS _ _ _ (by omega) (by omega)]
        repeat (first | rw [gi_ne (by omega)] | rw [gi_eq2 (by omega)])
        rw [kT _ (by omega) (by omega) (by omega)]; exact q2
      · rw [gS _ _ _ (by omega) (by omega)]
        repeat (first | rw [gi_ne (by omega)] | rw [gi_eq2 (by omega)])
        rw [kT _ (by omega) (by omega) (by omega)]; exact q3
      · rw [gS _ _ _ (by omega) (by omega)]
        repeat (first | rw [gi_ne (by omega)] | rw [gi_eq2 (by omega)])
        rw [kT _ (by omega) (by omega) (by omega)]; exact q4
      · rw [gS _ _ _ (by omega) (by omega)]
        repeat (first | rw [gi_ne (by omega)] | rw [gi_eq2 (by omega)])
        rw [kT _ (by omega) (by omega) (by omega)]; exact q5
      · rw [gS _ _ _ (by omega) (by omega)]
        repeat (first | rw [gi_ne (by omega)] | rw [gi_eq2 (by omega)])
        rw [kT _ (by omega) (by omega) (by omega)]; exact q6 r' hr'
      · rw [gS _ _ _ (by omega) (by omega)]
        by_cases ep : p' = p
        · subst ep
          repeat (first | rw [gi_ne (by omega)] | rw [gi_eq2 (by omega)])
          rw [kT _ (by omega) (by omega) (by omega), q7 p' hp']
        · repeat (first | rw [gi_ne (by omega)] | rw [gi_eq2 (by omega)])
          rw [kT _ (by omega) (by omega) (by omega)]; exact q7 p' hp'
    · refine ⟨fun p' hp' => ?_, fun i' hi' p' hp' ha => ?_⟩
      · rw [gS _ _ _ (by omega) (by omega)]
        by_cases ep : p' = p
        · subst ep
          refine Or.inr ⟨i, hi, ?_, ?_⟩
          · repeat (first | rw [gi_ne (by omega)] | rw [gi_eq2 (by omega)])
          · rw [gS _ _ _ (by omega) (by omega)]
            repeat (first | rw [gi_ne (by omega)] | rw [gi_eq2 (by omega)])
        · rcases hI.1 p' hp' with q | ⟨i', q1, q2, q3⟩
          · refine Or.inl ?_
            repeat (first | rw [gi_ne (by omega)] | rw [gi_eq2 (by omega)])
            exact q
          · have en : i' ≠ i := fun z => by
              subst z
              exact n_m1' (show p' < 2147483648 by omega) (a10.symm.trans q3)
            refine Or.inr ⟨i', q1, ?_, ?_⟩
            · repeat (first | rw [gi_ne (by omega)] | rw [gi_eq2 (by omega)])
              exact q2
            · rw [gS _ _ _ (by omega) (by omega)]
              repeat (first | rw [gi_ne (by omega)] | rw [gi_eq2 (by omega)])
              exact q3
      · rw [gS _ _ _ (by omega) (by omega)] at ha
        rw [gS _ _ _ (by omega) (by omega)]
        by_cases en : i' = i
        · subst en
          rw [gi_ne (by omega), gi_ne (by omega), gi_eq2 ⟨rfl, rfl, rfl⟩, n_eq (by omega) (by omega)] at ha
          subst ha
          repeat (first | rw [gi_ne (by omega)] | rw [gi_eq2 (by omega)])
        · rw [gi_ne (by omega), gi_ne (by omega), gi_ne (by omega), gi_ne (by omega), gi_ne (by omega)] at ha
          have q1 := hI.2 i' hi' p' hp' ha
          have ep : p' ≠ p := fun z => by
            subst z
            exact n_m1' (show i' < 2147483648 by omega) (hin.symm.trans q1)
          repeat (first | rw [gi_ne (by omega)] | rw [gi_eq2 (by omega)])
          exact q1
    · by_cases en : i' = i
      · subst en
        refine ⟨?_, ?_, ?_, ?_, Or.inr (Or.inr (Or.inr (Or.inl ⟨?_, ⟨r, hr, ?_⟩, ⟨cu, cpos, by omega, ?_⟩, Or.inr ⟨p, hp, ?_⟩⟩)))⟩
        · unfold ItE at hE ⊢
          simp only [gS 3 _ _ (show 3 ≠ 5 by decide) (show 3 ≠ 6 by decide)]
          repeat (first | rw [gi_ne (by omega)] | rw [gi_eq2 (by omega)])
          rw [kT (6 + 21 * i' + 0) (by omega) (by omega) (by omega), kT (6 + 21 * i' + 3) (by omega) (by omega) (by omega), kT (6 + 21 * i' + 4) (by omega) (by omega) (by omega), kT (6 + 21 * i' + 5) (by omega) (by omega) (by omega), kT (6 + 21 * i' + 7) (by omega) (by omega) (by omega)]
          exact ⟨hE.1, by first | rfl | trivial, by first | rfl | trivial, hE.2.2.2.1, hE.2.2.2.2.1, hE.2.2.2.2.2.1, by first | rfl | trivial, hE.2.2.2.2.2.2.2⟩
        · unfold ItC at hCx ⊢
          rw [gS _ _ _ (by omega) (by omega)]
          repeat (first | rw [gi_ne (by omega)] | rw [gi_eq2 (by omega)])
          exact hCx
        · obtain ⟨k, k1, k2, k3⟩ := hQ
          refine ⟨k, k1, ?_, fun j hj => ?_⟩
          · rw [gS _ _ _ (by omega) (by omega)]
            repeat (first | rw [gi_ne (by omega)] | rw [gi_eq2 (by omega)])
            exact k2
          · rw [gS _ _ _ (by omega) (by omega)]
            repeat (first | rw [gi_ne (by omega)] | rw [gi_eq2 (by omega)])
            rw [kT _ (by omega) (by omega) (by omega)]
            exact k3 j hj
        · unfold ItL at hL ⊢
          simp only [gS 3 _ _ (show 3 ≠ 5 by decide) (show 3 ≠ 6 by decide)]
          repeat (first | rw [gi_ne (by omega)] | rw [gi_eq2 (by omega)])
          rw [kT (6 + 21 * i' + 8) (by omega) (by omega) (by omega), kT (6 + 21 * i' + 9) (by omega) (by omega) (by omega), kT (6 + 21 * i' + 10) (by omega) (by omega) (by omega)]
          exact hL
        · rw [gS _ _ _ (by omega) (by omega)]
          repeat (first | rw [gi_ne (by omega)] | rw [gi_eq2 (by omega)])
        · rw [gS _ _ _ (by omega) (by omega)]
          repeat (first | rw [gi_ne (by omega)] | rw [gi_eq2 (by omega)])
          exact a9
        · rw [gS _ _ _ (by omega) (by omega)]
          repeat (first | rw [gi_ne (by omega)] | rw [gi_eq2 (by omega)])
        · rw [gS _ _ _ (by omega) (by omega)]
          repeat (first | rw [gi_ne (by omega)] | rw [gi_eq2 (by omega)])
      · refine (hIt i' hi').cg (fun j => by
          rw [gS _ _ _ (by omega) (by omega)]
          repeat (first | rw [gi_ne (by omega)] | rw [gi_eq2 (by omega)])) (fun j => by
          rw [gS _ _ _ (by omega) (by omega)]
          repeat (first | rw [gi_ne (by omega)] | rw [gi_eq2 (by omega)])) (fun x => by
          rw [gS _ _ _ (by omega) (by omega)]
          repeat (first | rw [gi_ne (by omega)] | rw [gi_eq2 (by omega)])) (fun j hj => by
          repeat (first | rw [gi_ne (by omega)] | rw [gi_eq2 (by omega)])
          exact kT _ (by omega) (by omega) (by omega))
  · have a1 : FrT T T1 := ⟨⟨fun j hj => f3 0 j 0 (by omega), fun x _ => f4 1 x, fun c j x h0 _ => f3 c j x (by omega), fun c x _ => f4 c x⟩, f3 0 0 0 (by omega)⟩
    exact (((a1.trans (FrT.set (by omega))).trans (FrT.set (by omega))).trans (FrT.set (by omega))).trans (FrT.set (by omega))
  · rw [gS _ _ _ (by omega) (by omega)]
    repeat (first | rw [gi_ne (by omega)] | rw [gi_eq2 (by omega)])
  · rw [gS _ _ _ (by omega) (by omega)]
    repeat (first | rw [gi_ne (by omega)] | rw [gi_eq2 (by omega)])
  · rw [gS _ _ _ (by omega) (by omega)]
    repeat (first | rw [gi_ne (by omega)] | rw [gi_eq2 (by omega)])
  · repeat (first | rw [gi_ne (by omega)] | rw [gi_eq2 (by omega)])
    exact f3 7 x 0 (by omega)
  · rw [gS _ _ _ (by omega) (by omega)]
    repeat (first | rw [gi_ne (by omega)] | rw [gi_eq2 (by omega)])
end FP
