/-! ===== THE RELATION OF A STUDIO (memory S) AND THE MODEL'S PRESENT (memory T) ===== -/
def NumR (S : Mem) : Prop := ∀ i, i < 16 → gi S 3 0 i = nI i
def CfR (S T : Mem) (np nr ni : Nat) : Prop :=
  (np ≤ 6 ∧ nr ≤ 10 ∧ ni ≤ 16) ∧ (gi S 0 7 0 = nI np ∧ gi S 0 8 0 = nI nr ∧ gi S 0 9 0 = nI ni) ∧ (gi T 5 2 0 = nI np ∧ gi T 5 3 0 = nI nr ∧ gi T 5 4 0 = nI ni) ∧
  (gi S 0 10 0 = gi T 5 0 0 ∧ gi S 0 11 0 = gi T 5 1 0 ∧ (∃ k, 1 ≤ k ∧ k ≤ 4 ∧ gi T 5 0 0 = nI k) ∧ (∃ k, 1 ≤ k ∧ k ≤ 500 ∧ gi T 5 1 0 = nI k) ∧ NumR S) ∧
  (∀ p, p < np → gi S 1 0 p = gi T 5 (5 + p) 0 ∧ ∃ k, 1 ≤ k ∧ k ≤ 100 ∧ gi S 1 0 p = nI k) ∧
  (∀ r, r < nr → (∀ w, w < 7 → gi S 2 w r = gi T 5 (11 + 7 * r + w) 0) ∧ (∃ k, 1 ≤ k ∧ k ≤ 40 ∧ gi S 2 0 r = nI k) ∧ (∃ k, k ≤ 200 ∧ gi S 2 1 r = nI k) ∧ (∃ k, k ≤ 1 ∧ gi S 2 2 r = nI k) ∧ (∃ k, k ≤ 3 ∧ gi S 2 3 r = nI k) ∧ (∃ k, k ≤ 500 ∧ gi S 2 4 r = nI k) ∧ (∃ k, k ≤ 100 ∧ gi S 2 5 r = nI k) ∧ ∃ k, 1 ≤ k ∧ k ≤ 100000000 ∧ gi S 2 6 r = nI k) ∧
  (∀ i, i < ni → gi S 3 0 i = nI i ∧ gi S 3 2 i = gi T 5 (81 + 3 * i + 0) 0 ∧ gi S 3 4 i = gi T 5 (81 + 3 * i + 1) 0 ∧ (∃ k, 1 ≤ k ∧ k ≤ 100 ∧ gi S 3 2 i = nI k) ∧ ∃ k, k ≤ 3 ∧ gi S 3 4 i = nI k)
def SaR (S T : Mem) (np nr : Nat) : Prop :=
  (∃ t, t ≤ 20000 ∧ gi S 0 12 0 = nI t) ∧ (gi S 0 12 0 = gi T 0 0 0 ∧ gi S 0 13 0 = gi T 0 1 0 ∧ gi S 0 14 0 = gi T 0 2 0 ∧ gi S 0 15 0 = gi T 0 3 0) ∧
  (∀ r, r < nr → gi S 2 7 r = gi T 0 (342 + r) 0) ∧ (∀ p, p < np → gi S 1 2 p = gi T 0 (352 + p) 0)
def BoR (S T : Mem) : Prop := ∃ f k, f < 100 ∧ k ≤ 100 ∧ (f = 0 ∨ k = 100) ∧ (gi S 5 1 0 = nI f ∧ gi S 5 2 0 = nI k) ∧ (gi T 0 5 0 = nI f ∧ gi T 0 4 0 = nI k) ∧ ∀ j, j < 6 * k → gi S 6 j 0 = gi T 0 (358 + j) 0
def OwR (S T : Mem) (ni : Nat) : Prop := ∀ i, i < ni → gq S 3 i = gq T 1 i
def InR (S : Mem) (np ni : Nat) : Prop := (∀ p, p < np → gi S 1 1 p = -1 ∨ ∃ i, i < ni ∧ gi S 1 1 p = nI i ∧ gi S 3 10 i = nI p) ∧ ∀ i, i < ni → ∀ p, p < np → gi S 3 10 i = nI p → gi S 1 1 p = nI i
def ItE (S T : Mem) (i : Nat) : Prop := gi S 3 3 i = gi T 0 (6 + 21 * i + 0) 0 ∧ gi S 3 5 i = gi T 0 (6 + 21 * i + 1) 0 ∧ gi S 3 6 i = gi T 0 (6 + 21 * i + 2) 0 ∧ gi S 3 7 i = gi T 0 (6 + 21 * i + 3) 0 ∧ gi S 3 8 i = gi T 0 (6 + 21 * i + 4) 0 ∧ gi S 3 9 i = gi T 0 (6 + 21 * i + 5) 0 ∧ gi S 3 10 i = gi T 0 (6 + 21 * i + 6) 0 ∧ gi S 3 13 i = gi T 0 (6 + 21 * i + 7) 0
def ItC (S : Mem) (i : Nat) : Prop := ∃ s, s ≤ 1000 ∧ gi S 3 3 i = nI s
def ItQ (S T : Mem) (nr i : Nat) : Prop := ∃ k, k ≤ 8 ∧ gi S 3 7 i = nI k ∧ ∀ j, j < k → gi S 4 j i = gi T 0 (6 + 21 * i + (13 + j)) 0 ∧ ∃ r, r < nr ∧ gi S 4 j i = nI r
def ItL (S T : Mem) (i : Nat) : Prop := (gi S 3 15 i = 0 ∧ gi T 0 (6 + 21 * i + 8) 0 = -1) ∨ (gi S 3 15 i ≠ 0 ∧ gi S 3 16 i = gi T 0 (6 + 21 * i + 8) 0 ∧ gi S 3 17 i = gi T 0 (6 + 21 * i + 9) 0 ∧ gi S 3 18 i = gi T 0 (6 + 21 * i + 10) 0 ∧ (∃ d, d ≤ 20000 ∧ gi S 3 16 i = nI d) ∧ ∃ l, 1 ≤ l ∧ l ≤ 500 ∧ gi S 3 18 i = nI l)
/-- on the shelf, at a bench, waiting, curing, lent -/
def ItS (S T : Mem) (np nr i : Nat) : Prop :=
  (gi S 3 5 i = 0 ∧ gi S 3 6 i = 0 ∧ gi S 3 9 i = -1 ∧ gi S 3 10 i = -1) ∨
  (gi S 3 5 i = 1 ∧ (∃ r, r < nr ∧ gi S 3 9 i = nI r) ∧ (∃ h, 1 ≤ h ∧ h ≤ 500 ∧ gi S 3 6 i = nI h) ∧ gi S 3 10 i = -1) ∨
  (gi S 3 5 i = 2 ∧ (∃ r, r < nr ∧ gi S 3 9 i = nI r ∧ gi S 2 1 r ≠ 0) ∧ gi S 3 6 i = 0 ∧ gi S 3 10 i = -1 ∧ gi S 3 11 i = gi T 0 (6 + 21 * i + 11) 0 ∧ gi S 3 12 i = gi S 3 3 i + gi T 0 (6 + 21 * i + 12) 0 ∧ ∃ s, s ≤ 20000 ∧ gi S 3 11 i = nI s) ∨
  (gi S 3 5 i = 3 ∧ (∃ r, r < nr ∧ gi S 3 9 i = nI r) ∧ (∃ h, 1 ≤ h ∧ h ≤ 500 ∧ gi S 3 6 i = nI h) ∧ (gi S 3 10 i = -1 ∨ ∃ p, p < np ∧ gi S 3 10 i = nI p)) ∨
  (gi S 3 5 i = 4 ∧ gi S 3 9 i = -1 ∧ (∃ h, 1 ≤ h ∧ h ≤ 500 ∧ gi S 3 6 i = nI h) ∧ gi S 3 10 i = -1)
def ItR (S T : Mem) (np nr i : Nat) : Prop := ItE S T i ∧ ItC S i ∧ ItQ S T nr i ∧ ItL S T i ∧ ItS S T np nr i
def Rel (S T : Mem) (np nr ni : Nat) : Prop := CfR S T np nr ni ∧ SaR S T np nr ∧ BoR S T ∧ OwR S T ni ∧ InR S np ni ∧ ∀ i, i < ni → ItR S T np nr i
/-- what the Model's hours leave as it is -/
def FrH (T T' : Mem) : Prop := (∀ j, 958 ≤ j → gi T' 0 j 0 = gi T 0 j 0) ∧ (∀ i, 16 ≤ i → gq T' 1 i = gq T 1 i) ∧ (∀ c j i, c ≠ 0 → c ≠ 7 → gi T' c j i = gi T c j i) ∧ ∀ c i, c ≠ 1 → gq T' c i = gq T c i
/-- the same, within an hour -/
def FrT (T T' : Mem) : Prop := FrH T T' ∧ gi T' 0 0 0 = gi T 0 0 0
theorem FrH.refl {T : Mem} : FrH T T := ⟨fun _ _ => rfl, fun _ _ => rfl, fun _ _ _ _ _ => rfl, fun _ _ _ => rfl⟩
theorem FrH.trans {T T' T'' : Mem} (h : FrH T T') (h2 : FrH T' T'') : FrH T T'' := ⟨fun j hj => (h2.1 j hj).trans (h.1 j hj), fun j hj => (h2.2.1 j hj).trans (h.2.1 j hj), fun c j i h0 h7 => (h2.2.2.1 c j i h0 h7).trans (h.2.2.1 c j i h0 h7), fun c i h1 => (h2.2.2.2 c i h1).trans (h.2.2.2 c i h1)⟩
theorem FrH.set {T : Mem} {j : Nat} {v : Int32} (hj : j < 958) : FrH T (si T 0 j 0 v) := by
  refine ⟨fun k hk => ?_, fun _ _ => rfl, fun c k i h0 _ => ?_, fun _ _ _ => rfl⟩
  · rw [gi_si, if_neg (by omega)]
  · rw [gi_si, if_neg (fun z => h0 z.1)]
theorem FrT.refl {T : Mem} : FrT T T := ⟨FrH.refl, rfl⟩
theorem FrT.trans {T T' T'' : Mem} (h : FrT T T') (h2 : FrT T' T'') : FrT T T'' := ⟨h.1.trans h2.1, h2.2.trans h.2⟩
theorem FrT.set {T : Mem} {j : Nat} {v : Int32} (hj : 0 < j ∧ j < 958) : FrT T (si T 0 j 0 v) := ⟨FrH.set hj.2, by rw [gi_si, if_neg (by omega)]⟩
theorem FrT.set7 {T : Mem} {j : Nat} {v : Int32} : FrT T (si T 7 j 0 v) := by
  refine ⟨⟨fun k hk => ?_, fun _ _ => rfl, fun c k i _ h7 => ?_, fun _ _ _ => rfl⟩, rfl⟩
  · rw [gi_si, if_neg (by omega)]
  · rw [gi_si, if_neg (fun z => h7 z.1)]
theorem FrT.setq {T : Mem} {j : Nat} {v : Int64} (hj : j < 16) : FrT T (sq T 1 j v) := by
  refine ⟨⟨fun k hk => rfl, fun k hk => ?_, fun c k i h0 _ => rfl, fun c k h1 => ?_⟩, rfl⟩
  · rw [gq_sq, if_neg (by omega)]
  · rw [gq_sq, if_neg (fun z => h1 z.1)]
/-! frames of the parts -/
theorem CfR.cg {S T S' T' : Mem} {np nr ni : Nat} (h : CfR S T np nr ni) (h0 : ∀ j, j < 12 → gi S' 0 j 0 = gi S 0 j 0) (h1 : ∀ p, gi S' 1 0 p = gi S 1 0 p) (h2 : ∀ w r, w < 7 → gi S' 2 w r = gi S 2 w r) (h3 : ∀ w i, w = 0 ∨ w = 2 ∨ w = 4 → gi S' 3 w i = gi S 3 w i) (h5 : ∀ j, gi T' 5 j 0 = gi T 5 j 0) : CfR S' T' np nr ni := by
  obtain ⟨a, b, c, d, e, f, g⟩ := h
  refine ⟨a, ?_, ?_, ?_, fun p hp => ?_, fun r hr => ?_, fun i hi => ?_⟩
  · rw [h0 7 (by omega), h0 8 (by omega), h0 9 (by omega)]; exact b
  · rw [h5, h5, h5]; exact c
  · rw [h0 10 (by omega), h0 11 (by omega), h5, h5]; exact ⟨d.1, d.2.1, d.2.2.1, d.2.2.2.1, fun i hi => (h3 0 i (by omega)).trans (d.2.2.2.2 i hi)⟩
  · rw [h1, h5]; exact e p hp
  · obtain ⟨f1, f2⟩ := f r hr
    rw [h2 0 r (by omega), h2 1 r (by omega), h2 2 r (by omega), h2 3 r (by omega), h2 4 r (by omega), h2 5 r (by omega), h2 6 r (by omega)]
    exact ⟨fun w hw => by rw [h2 w r hw, h5]; exact f1 w hw, f2⟩
  · rw [h3 0 i (by omega), h3 2 i (by omega), h3 4 i (by omega), h5, h5]; exact g i hi
theorem SaR.cg {S T S' T' : Mem} {np nr : Nat} (h : SaR S T np nr) (h0 : ∀ j, 12 ≤ j → gi S' 0 j 0 = gi S 0 j 0) (h1 : ∀ p, gi S' 1 2 p = gi S 1 2 p) (h2 : ∀ r, gi S' 2 7 r = gi S 2 7 r) (h5 : ∀ j, j < 4 ∨ (342 ≤ j ∧ j < 358) → gi T' 0 j 0 = gi T 0 j 0) (hr : nr ≤ 10) (hp : np ≤ 6) : SaR S' T' np nr := by
  obtain ⟨a, b, c, d⟩ := h
  refine ⟨?_, ?_, fun r hr => ?_, fun p hp => ?_⟩
  · rw [h0 12 (by omega)]; exact a
  · rw [h0 12 (by omega), h0 13 (by omega), h0 14 (by omega), h0 15 (by omega), h5 0 (by omega), h5 1 (by omega), h5 2 (by omega), h5 3 (by omega)]; exact b
  · rw [h2, h5 _ (by omega)]; exact c r hr
  · rw [h1, h5 _ (by omega)]; exact d p hp
theorem BoR.cg {S T S' T' : Mem} (h : BoR S T) (h0 : ∀ j, gi S' 5 j 0 = gi S 5 j 0) (h1 : ∀ j, gi S' 6 j 0 = gi S 6 j 0) (h5 : ∀ j, j = 4 ∨ j = 5 ∨ (358 ≤ j ∧ j < 958) → gi T' 0 j 0 = gi T 0 j 0) : BoR S' T' := by
  obtain ⟨f, k, a, b, c, d, e, g⟩ := h
  refine ⟨f, k, a, b, c, ?_, ?_, fun j hj => ?_⟩
  · rw [h0, h0]; exact d
  · rw [h5 5 (by omega), h5 4 (by omega)]; exact e
  · rw [h1, h5 _ (by omega)]; exact g j hj
theorem OwR.cg {S T S' T' : Mem} {ni : Nat} (h : OwR S T ni) (h0 : ∀ i, gq S' 3 i = gq S 3 i) (h5 : ∀ i, gq T' 1 i = gq T 1 i) : OwR S' T' ni := fun i hi => by rw [h0, h5]; exact h i hi
theorem InR.cg {S S' : Mem} {np ni : Nat} (h : InR S np ni) (h0 : ∀ p, gi S' 1 1 p = gi S 1 1 p) (h1 : ∀ i, gi S' 3 10 i = gi S 3 10 i) : InR S' np ni := by
  refine ⟨fun p hp => ?_, fun i hi p hp => ?_⟩
  · rw [h0]
    rcases h.1 p hp with a | ⟨i, b, c, d⟩
    · exact Or.inl a
    · exact Or.inr ⟨i, b, c, by rw [h1]; exact d⟩
  · rw [h0, h1]; exact h.2 i hi p hp
theorem ItR.cg {S T S' T' : Mem} {np nr i : Nat} (h : ItR S T np nr i) (h3 : ∀ j, gi S' 3 j i = gi S 3 j i) (h4 : ∀ j, gi S' 4 j i = gi S 4 j i) (h2 : ∀ r, gi S' 2 1 r = gi S 2 1 r) (h0 : ∀ j, j < 21 → gi T' 0 (6 + 21 * i + j) 0 = gi T 0 (6 + 21 * i + j) 0) : ItR S' T' np nr i := by
  obtain ⟨a, b, c, d, e⟩ := h
  refine ⟨?_, ?_, ?_, ?_, ?_⟩
  · unfold ItE
    rw [h3, h3, h3, h3, h3, h3, h3, h3, h0 0 (by omega), h0 1 (by omega), h0 2 (by omega), h0 3 (by omega), h0 4 (by omega), h0 5 (by omega), h0 6 (by omega), h0 7 (by omega)]; exact a
  · unfold ItC; rw [h3]; exact b
  · obtain ⟨k, c1, c2, c3⟩ := c
    refine ⟨k, c1, by rw [h3]; exact c2, fun j hj => ?_⟩
    rw [h4, h0 _ (by omega)]; exact c3 j hj
  · unfold ItL
    rw [h3, h3, h3, h3, h0 8 (by omega), h0 9 (by omega), h0 10 (by omega)]; exact d
  · unfold ItS
    rw [h3, h3, h3, h3, h3, h3, h3, h0 11 (by omega), h0 12 (by omega)]
    simp only [h2]
    exact e
/-! ===== RECORDS: add and note ===== -/
def w6 (S : Mem) (c b : Nat) (p0 p1 p2 p3 p4 p5 : Int32) : Mem := si (si (si (si (si (si S c b 0 p0) c (b + 1) 0 p1) c (b + 2) 0 p2) c (b + 3) 0 p3) c (b + 4) 0 p4) c (b + 5) 0 p5
def pf6 (p0 p1 p2 p3 p4 p5 : Int32) : Nat → Int32 := fun w => if w = 0 then p0 else if w = 1 then p1 else if w = 2 then p2 else if w = 3 then p3 else if w = 4 then p4 else p5
theorem w6_out {S : Mem} {c b : Nat} {p0 p1 p2 p3 p4 p5 : Int32} {c' j x : Nat} (h : c' ≠ c ∨ j < b ∨ b + 6 ≤ j ∨ x ≠ 0) : gi (w6 S c b p0 p1 p2 p3 p4 p5) c' j x = gi S c' j x := by
  unfold w6
  rw [gi_si, if_neg (by omega), gi_si, if_neg (by omega), gi_si, if_neg (by omega), gi_si, if_neg (by omega), gi_si, if_neg (by omega), gi_si, if_neg (by omega)]
theorem w6_in {S : Mem} {c b : Nat} {p0 p1 p2 p3 p4 p5 : Int32} {w : Nat} (h : w < 6) : gi (w6 S c b p0 p1 p2 p3 p4 p5) c (b + w) 0 = pf6 p0 p1 p2 p3 p4 p5 w := by
  unfold w6 pf6
  simp only [gi_si]
  have hw : w = 0 ∨ w = 1 ∨ w = 2 ∨ w = 3 ∨ w = 4 ∨ w = 5 := by omega
  rcases hw with rfl | rfl | rfl | rfl | rfl | rfl <;> simp
theorem w6_q {S : Mem} {c b : Nat} {p0 p1 p2 p3 p4 p5 : Int32} {c' x : Nat} : gq (w6 S c b p0 p1 p2 p3 p4 p5) c' x = gq S c' x := rfl
theorem e_rem100 {a : Nat} (h : a < 2147483648) : nI a - nI a / (100 : Int32) * (100 : Int32) = nI (a % 100) := by
  rw [n_lit 100]
  exact pk_rem h (by omega) (by omega)
theorem e_add52 {S : Mem} {p1 p2 p3 p4 p5 p6 : Int32} {b : Nat} (hb : b + 5 < 600) : sX0_add_j52 S p1 p2 p3 p4 p5 p6 (nI b) = some (w6 S 6 b p1 p2 p3 p4 p5 p6) := by
  unfold sX0_add_j52
  rw [if_neg (n_nn (by omega)), n_lit 5, n_lit 1, n_lit 2, n_lit 3, n_lit 4, nI_add, nI_add, nI_add, nI_add, nI_add]
  rw [if_neg (by rw [n_lit 600, n_le (by omega) (by omega)]; omega)]
  rw [n_inb (by omega) (by omega), oif_t rfl, n_inb (by omega) (by omega), n_inb (by omega) (by omega), n_inb (by omega) (by omega), n_inb (by omega) (by omega), n_inb (by omega) (by omega)]
  rw [n_cl (by omega), n_cl (by omega), n_cl (by omega), n_cl (by omega), n_cl (by omega), n_cl (by omega)]
  rfl
theorem e_note56 {T : Mem} {p2 p3 p4 : Int32} {i y : Nat} (hi : i < 16) (hy : y < 1000) : sX10_note_j56 T (nI i) p2 p3 p4 (nI y) = some (w6 T 0 (358 + 6 * (y % 100)) (nI i) p2 p3 (gi T 0 0 0) p4 (gi T 0 (6 + 21 * i + 0) 0)) := by
  unfold sX10_note_j56
  have hm : y % 100 < 100 := Nat.mod_lt _ (by omega)
  rw [e_rem100 (by omega), n_lit 6, n_lit 358, pk_mul, nI_add, olet_eq, n_lit 1, n_lit 2, n_lit 3, n_lit 4, n_lit 5, nI_add, nI_add, nI_add, nI_add, nI_add]
  rw [n_inb (by omega) (by omega), n_inb (by omega) (by omega), n_inb (by omega) (by omega), n_inb (by omega) (by omega), n_inb (by omega) (by omega), n_inb (by omega) (by omega)]
  rw [n_cl (by omega), n_cl (by omega), n_cl (by omega), n_cl (by omega), n_cl (by omega), n_cl (by omega)]
  simp only [oif_t, olet_eq]
  rw [e_of_0 hi, obind_some]
  refine congrArg some ?_
  unfold w6
  have e1 : ∀ {T : Mem} {j : Nat} {v : Int32}, 358 ≤ j → gi (si T 0 j 0 v) 0 (0 : Int32).toNatClampNeg 0 = gi T 0 0 0 := fun h => by
    rw [gi_si, if_neg (by show ¬ (0 = 0 ∧ 0 = _ ∧ 0 = 0); omega)]; rfl
  have e2 : ∀ {T : Mem} {j : Nat} {v : Int32}, 358 ≤ j → gi (si T 0 j 0 v) 0 (6 + 21 * i + 0) 0 = gi T 0 (6 + 21 * i + 0) 0 := fun h => by
    rw [gi_si, if_neg (by omega)]
  have e3 : ∀ {T : Mem} {j : Nat} {v : Int32}, 358 ≤ j → gi (si T 0 j 0 v) 0 0 0 = gi T 0 0 0 := fun h => by
    rw [gi_si, if_neg (by omega)]
  rw [e1 (by omega), e3 (by omega), e3 (by omega)]
  rw [e2 (by omega), e2 (by omega), e2 (by omega), e2 (by omega), e2 (by omega)]
theorem sim_note {S T : Mem} {i : Nat} {p2 p3 p4 p5 p6 : Int32} (hB : BoR S T) (hi : i < 16) (h4 : p4 = gi T 0 0 0) (h6 : p6 = gi T 0 (6 + 21 * i + 0) 0) : ∃ S1 T1, sX0_add S (nI i) p2 p3 p4 p5 p6 = some S1 ∧ sX10_note T (nI i) p2 p3 p5 = some T1 ∧ BoR S1 T1 ∧ (∀ c j x, c ≠ 5 → c ≠ 6 → gi S1 c j x = gi S c j x) ∧ (∀ c x, gq S1 c x = gq S c x) ∧ (∀ c j x, c ≠ 0 ∨ (j ≠ 4 ∧ j ≠ 5 ∧ j < 358) ∨ 958 ≤ j → gi T1 c j x = gi T c j x) ∧ ∀ c x, gq T1 c x = gq T c x := by
  obtain ⟨f, k, a, b, c, ⟨d1, d2⟩, ⟨e1, e2⟩, g⟩ := hB
  subst h4; subst h6
  have hm : (f + k) % 100 < 100 := Nat.mod_lt _ (by omega)
  have c4 : (4 : Int32).toNatClampNeg = 4 := rfl
  have c5 : (5 : Int32).toNatClampNeg = 5 := rfl
  unfold sX0_add sX10_note
  rw [d1, d2, c4, c5, e1, e2, nI_add, e_rem100 (by omega), n_lit 6, pk_mul, n_suc, n_suc]
  simp only [olet_eq]
  by_cases hk : k = 100
  · subst hk
    rw [if_pos (show (100 : Int32) ≤ nI 100 by decide), if_pos (show nI 100 = (100 : Int32) from rfl), e_rem100 (by omega), e_add52 (by omega), e_note56 hi (by omega)]
    refine ⟨_, _, rfl, rfl, ?_, fun c j x h5 h6 => ?_, fun _ _ => rfl, fun c j x hc => ?_, fun _ _ => rfl⟩
    · refine ⟨(f + 1) % 100, 100, Nat.mod_lt _ (by omega), by omega, Or.inr rfl, ⟨?_, ?_⟩, ⟨?_, ?_⟩, fun j hj => ?_⟩
      · rw [w6_out (by omega)]; rfl
      · rw [w6_out (by omega), gi_si, if_neg (by omega)]; exact d2
      · rw [w6_out (by omega)]; rfl
      · rw [w6_out (by omega), gi_si, if_neg (by omega)]; exact e2
      · by_cases hj1 : (f + 100) % 100 * 6 ≤ j ∧ j < (f + 100) % 100 * 6 + 6
        · obtain ⟨w, hw, rfl⟩ : ∃ w, w < 6 ∧ j = (f + 100) % 100 * 6 + w := ⟨j - (f + 100) % 100 * 6, by omega, by omega⟩
          rw [w6_in hw, show 358 + ((f + 100) % 100 * 6 + w) = 358 + 6 * ((f + 100) % 100) + w by omega, w6_in hw]
          rw [gi_si, if_neg (by omega), gi_si, if_neg (by omega)]
        · rw [w6_out (by omega), w6_out (by omega), gi_si, if_neg (by omega), gi_si, if_neg (by omega)]
          exact g j (by omega)
    · rw [w6_out (by omega), gi_si, if_neg (by omega)]
    · rw [w6_out (by omega), gi_si, if_neg (by omega)]
  · have hf : f = 0 := by omega
    subst hf
    rw [if_neg (by rw [n_lit 100, n_le (by omega) (by omega)]; omega), if_neg (by rw [n_lit 100, n_eq (by omega) (by omega)]; omega), e_add52 (by omega), e_note56 hi (by omega)]
    refine ⟨_, _, rfl, rfl, ?_, fun c j x h5 h6 => ?_, fun _ _ => rfl, fun c j x hc => ?_, fun _ _ => rfl⟩
    · refine ⟨0, k + 1, by omega, by omega, Or.inl rfl, ⟨?_, ?_⟩, ⟨?_, ?_⟩, fun j hj => ?_⟩
      · rw [w6_out (by omega), gi_si, if_neg (by omega)]; exact d1
      · rw [w6_out (by omega)]; rfl
      · rw [w6_out (by omega), gi_si, if_neg (by omega)]; exact e1
      · rw [w6_out (by omega)]; rfl
      · by_cases hj1 : (0 + k) % 100 * 6 ≤ j ∧ j < (0 + k) % 100 * 6 + 6
        · obtain ⟨w, hw, rfl⟩ : ∃ w, w < 6 ∧ j = (0 + k) % 100 * 6 + w := ⟨j - (0 + k) % 100 * 6, by omega, by omega⟩
          rw [w6_in hw, show 358 + ((0 + k) % 100 * 6 + w) = 358 + 6 * ((0 + k) % 100) + w by omega, w6_in hw]
          rw [gi_si, if_neg (by omega), gi_si, if_neg (by omega)]
        · rw [w6_out (by omega), w6_out (by omega), gi_si, if_neg (by omega), gi_si, if_neg (by omega)]
          exact g j (by omega)
    · rw [w6_out (by omega), gi_si, if_neg (by omega)]
    · rw [w6_out (by omega), gi_si, if_neg (by omega)]
