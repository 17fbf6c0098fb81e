/-! ===== THE PURE PART: TOOLS ===== -/
theorem itw_two {α β α' β' : Type} {f : α → Option (α ⊕ β)} {g : α' → Option (α' ⊕ β')} {J : Nat → α → α' → Prop} {P : β → β' → Prop}
    (step : ∀ k a a', J k a a' → (∃ b b', f a = some (.inr b) ∧ g a' = some (.inr b') ∧ P b b') ∨ (∃ a1 a1' k1, k1 < k ∧ f a = some (.inl a1) ∧ g a' = some (.inl a1') ∧ J k1 a1 a1')) : ∀ {k a a'}, J k a a' → ∃ b b', itw f a = some b ∧ itw g a' = some b' ∧ P b b' := by
  intro k
  induction k using Nat.strongRecOn with
  | _ k ih =>
    intro a a' h
    rcases step k a a' h with ⟨b, b', h1, h2, h3⟩ | ⟨a1, a1', k1, hk, h1, h2, h3⟩
    · exact ⟨b, b', itw_out h1, itw_out h2, h3⟩
    · obtain ⟨b, b', q1, q2, q3⟩ := ih k1 hk h3
      exact ⟨b, b', (itw_in h1).trans q1, (itw_in h2).trans q2, q3⟩
theorem itw_one {α β : Type} {f : α → Option (α ⊕ β)} {J : Nat → α → Prop} {P : β → Prop}
    (step : ∀ k a, J k a → (∃ b, f a = some (.inr b) ∧ P b) ∨ (∃ a1 k1, k1 < k ∧ f a = some (.inl a1) ∧ J k1 a1)) : ∀ {k a}, J k a → ∃ b, itw f a = some b ∧ P b := by
  intro k
  induction k using Nat.strongRecOn with
  | _ k ih =>
    intro a h
    rcases step k a h with ⟨b, h1, h3⟩ | ⟨a1, k1, hk, h1, h3⟩
    · exact ⟨b, itw_out h1, h3⟩
    · obtain ⟨b, q1, q3⟩ := ih k1 hk h3
      exact ⟨b, (itw_in h1).trans q1, q3⟩
theorem olet_eq {α β : Type} (x : α) (f : α → β) : olet x f = f x := rfl
theorem n_lit (n : Nat) : (OfNat.ofNat n : Int32) = nI n := rfl
theorem n_cl {n : Nat} (h : n < 2147483648) : (nI n).toNatClampNeg = n := ofN_nat h
theorem n_int {n : Nat} (h : n < 2147483648) : (nI n).toInt = (n : Int) := ofN_int h
theorem n_inb {j n : Nat} (h : j < n) (hn : n < 2147483648) : inb (nI j) n = true := by
  unfold inb
  rw [n_cl (by omega), Bool.and_eq_true, decide_eq_true_eq, decide_eq_true_eq]
  refine ⟨?_, h⟩
  rw [Int32.le_iff_toInt_le, n_int (by omega)]
  have e : (0 : Int32).toInt = 0 := rfl
  omega
theorem n_le {a b : Nat} (ha : a < 2147483648) (hb : b < 2147483648) : (nI a ≤ nI b) = (a ≤ b) := by
  rw [Int32.le_iff_toInt_le, n_int ha, n_int hb]
  exact propext (by omega)
theorem n_lt {a b : Nat} (ha : a < 2147483648) (hb : b < 2147483648) : (nI a < nI b) = (a < b) := by
  rw [Int32.lt_iff_toInt_lt, n_int ha, n_int hb]
  exact propext (by omega)
theorem n_eq {a b : Nat} (ha : a < 2147483648) (hb : b < 2147483648) : (nI a = nI b) = (a = b) := by
  rw [← Int32.toInt_inj, n_int ha, n_int hb]
  exact propext (by omega)
theorem n_nn {a : Nat} (ha : a < 2147483648) : ¬ nI a < 0 := by
  rw [Int32.lt_iff_toInt_lt, n_int ha]
  have e : (0 : Int32).toInt = 0 := rfl
  omega
theorem n_0le {a : Nat} (ha : a < 2147483648) : (0 : Int32) ≤ nI a := Int32.not_lt.mp (n_nn ha)
theorem n_m1 {a : Nat} (ha : a < 2147483648) : ¬ nI a = (-1 : Int32) := by
  rw [← Int32.toInt_inj, n_int ha]
  have e : (-1 : Int32).toInt = -1 := rfl
  omega
theorem n_m1' {a : Nat} (ha : a < 2147483648) : ¬ (-1 : Int32) = nI a := fun h => n_m1 ha h.symm
theorem n_suc (a : Nat) : nI a + (1 : Int32) = nI (a + 1) := nI_1 a
theorem n_pred {a : Nat} : nI (a + 1) - (1 : Int32) = nI a := by
  have := pk_sub (a := a + 1) (b := 1) (by omega)
  exact this
theorem n_predm {a : Nat} : nI (a + 1) + (-1 : Int32) = nI a := pk_m1 a
/-! what the accessors come to -/
theorem e_itemAt {S : Mem} {i : Nat} (h : i < 16) : sX7_itemAt S (nI i) = i := by
  unfold sX7_itemAt
  rw [if_neg (n_nn (by omega)), if_neg (by rw [n_lit 16, n_le (by omega) (by omega)]; omega), n_cl (by omega)]
theorem e_recipeAt {S : Mem} {i : Nat} (h : i < 10) : sX7_recipeAt S (nI i) = i := by
  unfold sX7_recipeAt
  rw [if_neg (n_nn (by omega)), if_neg (by rw [n_lit 10, n_le (by omega) (by omega)]; omega), n_cl (by omega)]
theorem e_pressAt {S : Mem} {i : Nat} (h : i < 6) : sX7_pressAt S (nI i) = i := by
  unfold sX7_pressAt
  rw [if_neg (n_nn (by omega)), if_neg (by rw [n_lit 6, n_le (by omega) (by omega)]; omega), n_cl (by omega)]
theorem e_ix {i w : Nat} : ((6 : Int32) + ((21 : Int32) * nI i)) + nI w = nI (6 + 21 * i + w) := by
  rw [n_lit 6, n_lit 21, pk_mul, nI_add, nI_add]
theorem e_of {T : Mem} {i w : Nat} (hi : i < 16) (hw : w < 21) : sX10_of T (nI i) (nI w) = some (gi T 0 (6 + 21 * i + w) 0) := by
  unfold sX10_of
  rw [e_ix, n_inb (by omega) (by omega), oif_t rfl, n_cl (by omega)]
theorem e_set {T : Mem} {i w : Nat} {v : Int32} (hi : i < 16) (hw : w < 21) : sX10_set T (nI i) (nI w) v = some (si T 0 (6 + 21 * i + w) 0 v) := by
  unfold sX10_set
  rw [e_ix, n_inb (by omega) (by omega), oif_t rfl, n_cl (by omega)]
  rfl
theorem e_add {T : Mem} {i w : Nat} {v : Int32} (hi : i < 16) (hw : w < 21) : sX10_add T (nI i) (nI w) v = some (si T 0 (6 + 21 * i + w) 0 (gi T 0 (6 + 21 * i + w) 0 + v)) := by
  unfold sX10_add
  rw [e_ix, n_inb (by omega) (by omega), oif_t rfl, oif_t rfl, n_cl (by omega)]
  rfl
theorem e_re {T : Mem} {r w : Nat} (hr : r < 10) (hw : w < 7) : sX10_ofRecipe T (nI r) (nI w) = some (gi T 5 (11 + 7 * r + w) 0) := by
  unfold sX10_ofRecipe
  rw [n_lit 11, n_lit 7, pk_mul, nI_add, nI_add, n_inb (by omega) (by omega), oif_t rfl, n_cl (by omega)]
theorem e_th {T : Mem} {i w : Nat} (hi : i < 16) (hw : w < 3) : sX10_ofThing T (nI i) (nI w) = some (gi T 5 (81 + 3 * i + w) 0) := by
  unfold sX10_ofThing
  rw [n_lit 81, n_lit 3, pk_mul, nI_add, nI_add, n_inb (by omega) (by omega), oif_t rfl, n_cl (by omega)]
theorem e_ps {T : Mem} {p : Nat} (hp : p < 6) : sX10_pressSize T (nI p) = some (gi T 5 (5 + p) 0) := by
  unfold sX10_pressSize
  rw [n_lit 5, nI_add, n_inb (by omega) (by omega), oif_t rfl, n_cl (by omega)]
theorem e_of_0 {T : Mem} {i : Nat} (hi : i < 16) : sX10_of T (nI i) (0 : Int32) = some (gi T 0 (6 + 21 * i + 0) 0) := e_of (w := 0) hi (by omega)
theorem e_set_0 {T : Mem} {i : Nat} {v : Int32} (hi : i < 16) : sX10_set T (nI i) (0 : Int32) v = some (si T 0 (6 + 21 * i + 0) 0 v) := e_set (w := 0) hi (by omega)
theorem e_of_1 {T : Mem} {i : Nat} (hi : i < 16) : sX10_of T (nI i) (1 : Int32) = some (gi T 0 (6 + 21 * i + 1) 0) := e_of (w := 1) hi (by omega)
theorem e_set_1 {T : Mem} {i : Nat} {v : Int32} (hi : i < 16) : sX10_set T (nI i) (1 : Int32) v = some (si T 0 (6 + 21 * i + 1) 0 v) := e_set (w := 1) hi (by omega)
theorem e_of_2 {T : Mem} {i : Nat} (hi : i < 16) : sX10_of T (nI i) (2 : Int32) = some (gi T 0 (6 + 21 * i + 2) 0) := e_of (w := 2) hi (by omega)
theorem e_set_2 {T : Mem} {i : Nat} {v : Int32} (hi : i < 16) : sX10_set T (nI i) (2 : Int32) v = some (si T 0 (6 + 21 * i + 2) 0 v) := e_set (w := 2) hi (by omega)
theorem e_of_3 {T : Mem} {i : Nat} (hi : i < 16) : sX10_of T (nI i) (3 : Int32) = some (gi T 0 (6 + 21 * i + 3) 0) := e_of (w := 3) hi (by omega)
theorem e_set_3 {T : Mem} {i : Nat} {v : Int32} (hi : i < 16) : sX10_set T (nI i) (3 : Int32) v = some (si T 0 (6 + 21 * i + 3) 0 v) := e_set (w := 3) hi (by omega)
theorem e_of_4 {T : Mem} {i : Nat} (hi : i < 16) : sX10_of T (nI i) (4 : Int32) = some (gi T 0 (6 + 21 * i + 4) 0) := e_of (w := 4) hi (by omega)
theorem e_set_4 {T : Mem} {i : Nat} {v : Int32} (hi : i < 16) : sX10_set T (nI i) (4 : Int32) v = some (si T 0 (6 + 21 * i + 4) 0 v) := e_set (w := 4) hi (by omega)
theorem e_of_5 {T : Mem} {i : Nat} (hi : i < 16) : sX10_of T (nI i) (5 : Int32) = some (gi T 0 (6 + 21 * i + 5) 0) := e_of (w := 5) hi (by omega)
theorem e_set_5 {T : Mem} {i : Nat} {v : Int32} (hi : i < 16) : sX10_set T (nI i) (5 : Int32) v = some (si T 0 (6 + 21 * i + 5) 0 v) := e_set (w := 5) hi (by omega)
theorem e_of_6 {T : Mem} {i : Nat} (hi : i < 16) : sX10_of T (nI i) (6 : Int32) = some (gi T 0 (6 + 21 * i + 6) 0) := e_of (w := 6) hi (by omega)
theorem e_set_6 {T : Mem} {i : Nat} {v : Int32} (hi : i < 16) : sX10_set T (nI i) (6 : Int32) v = some (si T 0 (6 + 21 * i + 6) 0 v) := e_set (w := 6) hi (by omega)
theorem e_of_7 {T : Mem} {i : Nat} (hi : i < 16) : sX10_of T (nI i) (7 : Int32) = some (gi T 0 (6 + 21 * i + 7) 0) := e_of (w := 7) hi (by omega)
theorem e_set_7 {T : Mem} {i : Nat} {v : Int32} (hi : i < 16) : sX10_set T (nI i) (7 : Int32) v = some (si T 0 (6 + 21 * i + 7) 0 v) := e_set (w := 7) hi (by omega)
theorem e_of_8 {T : Mem} {i : Nat} (hi : i < 16) : sX10_of T (nI i) (8 : Int32) = some (gi T 0 (6 + 21 * i + 8) 0) := e_of (w := 8) hi (by omega)
theorem e_set_8 {T : Mem} {i : Nat} {v : Int32} (hi : i < 16) : sX10_set T (nI i) (8 : Int32) v = some (si T 0 (6 + 21 * i + 8) 0 v) := e_set (w := 8) hi (by omega)
theorem e_of_9 {T : Mem} {i : Nat} (hi : i < 16) : sX10_of T (nI i) (9 : Int32) = some (gi T 0 (6 + 21 * i + 9) 0) := e_of (w := 9) hi (by omega)
theorem e_set_9 {T : Mem} {i : Nat} {v : Int32} (hi : i < 16) : sX10_set T (nI i) (9 : Int32) v = some (si T 0 (6 + 21 * i + 9) 0 v) := e_set (w := 9) hi (by omega)
theorem e_of_10 {T : Mem} {i : Nat} (hi : i < 16) : sX10_of T (nI i) (10 : Int32) = some (gi T 0 (6 + 21 * i + 10) 0) := e_of (w := 10) hi (by omega)
theorem e_set_10 {T : Mem} {i : Nat} {v : Int32} (hi : i < 16) : sX10_set T (nI i) (10 : Int32) v = some (si T 0 (6 + 21 * i + 10) 0 v) := e_set (w := 10) hi (by omega)
theorem e_of_11 {T : Mem} {i : Nat} (hi : i < 16) : sX10_of T (nI i) (11 : Int32) = some (gi T 0 (6 + 21 * i + 11) 0) := e_of (w := 11) hi (by omega)
theorem e_set_11 {T : Mem} {i : Nat} {v : Int32} (hi : i < 16) : sX10_set T (nI i) (11 : Int32) v = some (si T 0 (6 + 21 * i + 11) 0 v) := e_set (w := 11) hi (by omega)
theorem e_of_12 {T : Mem} {i : Nat} (hi : i < 16) : sX10_of T (nI i) (12 : Int32) = some (gi T 0 (6 + 21 * i + 12) 0) := e_of (w := 12) hi (by omega)
theorem e_set_12 {T : Mem} {i : Nat} {v : Int32} (hi : i < 16) : sX10_set T (nI i) (12 : Int32) v = some (si T 0 (6 + 21 * i + 12) 0 v) := e_set (w := 12) hi (by omega)
theorem e_of_13 {T : Mem} {i : Nat} (hi : i < 16) : sX10_of T (nI i) (13 : Int32) = some (gi T 0 (6 + 21 * i + 13) 0) := e_of (w := 13) hi (by omega)
theorem e_set_13 {T : Mem} {i : Nat} {v : Int32} (hi : i < 16) : sX10_set T (nI i) (13 : Int32) v = some (si T 0 (6 + 21 * i + 13) 0 v) := e_set (w := 13) hi (by omega)
theorem e_add_0 {T : Mem} {i : Nat} {v : Int32} (hi : i < 16) : sX10_add T (nI i) (0 : Int32) v = some (si T 0 (6 + 21 * i + 0) 0 (gi T 0 (6 + 21 * i + 0) 0 + v)) := e_add (w := 0) hi (by omega)
theorem e_add_2 {T : Mem} {i : Nat} {v : Int32} (hi : i < 16) : sX10_add T (nI i) (2 : Int32) v = some (si T 0 (6 + 21 * i + 2) 0 (gi T 0 (6 + 21 * i + 2) 0 + v)) := e_add (w := 2) hi (by omega)
theorem e_add_3 {T : Mem} {i : Nat} {v : Int32} (hi : i < 16) : sX10_add T (nI i) (3 : Int32) v = some (si T 0 (6 + 21 * i + 3) 0 (gi T 0 (6 + 21 * i + 3) 0 + v)) := e_add (w := 3) hi (by omega)
theorem e_add_7 {T : Mem} {i : Nat} {v : Int32} (hi : i < 16) : sX10_add T (nI i) (7 : Int32) v = some (si T 0 (6 + 21 * i + 7) 0 (gi T 0 (6 + 21 * i + 7) 0 + v)) := e_add (w := 7) hi (by omega)
theorem e_add_12 {T : Mem} {i : Nat} {v : Int32} (hi : i < 16) : sX10_add T (nI i) (12 : Int32) v = some (si T 0 (6 + 21 * i + 12) 0 (gi T 0 (6 + 21 * i + 12) 0 + v)) := e_add (w := 12) hi (by omega)
theorem e_re_0 {T : Mem} {r : Nat} (hr : r < 10) : sX10_ofRecipe T (nI r) (0 : Int32) = some (gi T 5 (11 + 7 * r + 0) 0) := e_re (w := 0) hr (by omega)
theorem e_re_1 {T : Mem} {r : Nat} (hr : r < 10) : sX10_ofRecipe T (nI r) (1 : Int32) = some (gi T 5 (11 + 7 * r + 1) 0) := e_re (w := 1) hr (by omega)
theorem e_re_2 {T : Mem} {r : Nat} (hr : r < 10) : sX10_ofRecipe T (nI r) (2 : Int32) = some (gi T 5 (11 + 7 * r + 2) 0) := e_re (w := 2) hr (by omega)
theorem e_re_3 {T : Mem} {r : Nat} (hr : r < 10) : sX10_ofRecipe T (nI r) (3 : Int32) = some (gi T 5 (11 + 7 * r + 3) 0) := e_re (w := 3) hr (by omega)
theorem e_re_4 {T : Mem} {r : Nat} (hr : r < 10) : sX10_ofRecipe T (nI r) (4 : Int32) = some (gi T 5 (11 + 7 * r + 4) 0) := e_re (w := 4) hr (by omega)
theorem e_re_5 {T : Mem} {r : Nat} (hr : r < 10) : sX10_ofRecipe T (nI r) (5 : Int32) = some (gi T 5 (11 + 7 * r + 5) 0) := e_re (w := 5) hr (by omega)
theorem e_re_6 {T : Mem} {r : Nat} (hr : r < 10) : sX10_ofRecipe T (nI r) (6 : Int32) = some (gi T 5 (11 + 7 * r + 6) 0) := e_re (w := 6) hr (by omega)
theorem e_th_0 {T : Mem} {i : Nat} (hi : i < 16) : sX10_ofThing T (nI i) (0 : Int32) = some (gi T 5 (81 + 3 * i + 0) 0) := e_th (w := 0) hi (by omega)
theorem e_th_1 {T : Mem} {i : Nat} (hi : i < 16) : sX10_ofThing T (nI i) (1 : Int32) = some (gi T 5 (81 + 3 * i + 1) 0) := e_th (w := 1) hi (by omega)
theorem e_th_2 {T : Mem} {i : Nat} (hi : i < 16) : sX10_ofThing T (nI i) (2 : Int32) = some (gi T 5 (81 + 3 * i + 2) 0) := e_th (w := 2) hi (by omega)
