/-! ===== ONE OBJECT'S HOUR, 2 ===== -/
theorem si_same {S : Mem} {c j i : Nat} {v : Int32} (h : gi S c j i = v) : si S c j i v = S := by
  refine Prod.ext (funext fun c' => funext fun j' => funext fun i' => ?_) rfl
  show (if c' = c ∧ j' = j ∧ i' = i then v else S.1 c' j' i') = S.1 c' j' i'
  by_cases e : c' = c ∧ j' = j ∧ i' = i
  · obtain ⟨rfl, rfl, rfl⟩ := e
    rw [if_pos ⟨rfl, rfl, rfl⟩]; exact h.symm
  · rw [if_neg e]
theorem RelX.wait {S T : Mem} {np nr ni i : Nat} {x y x' y' : Int32} (h : RelX S T np nr ni i) (hi : i < ni) : RelX (si (si S 3 11 i x) 3 12 i y) (si (si T 0 (6 + 21 * i + 11) 0 x') 0 (6 + 21 * i + 12) 0 y') np nr ni i := by
  obtain ⟨h1, h2, h3, h4, h5, h6, h7, h8, h9⟩ := h
  have hb := h1.1
  refine ⟨h1.cg (fun _ _ => rfl) (fun _ => rfl) (fun _ _ _ => rfl) (fun w i' hw => by repeat (first | rw [gi_ne (by omega)] | rw [gi_eq2 (by omega)])) (fun _ => rfl), h2.cg (fun _ _ => rfl) (fun _ => rfl) (fun _ => rfl) (fun j hj => by repeat (first | rw [gi_ne (by omega)] | rw [gi_eq2 (by omega)])) hb.2.1 hb.1, h3.cg (fun _ => rfl) (fun _ => rfl) (fun j hj => by repeat (first | rw [gi_ne (by omega)] | rw [gi_eq2 (by omega)])), h4.cg (fun _ => rfl) (fun _ => rfl), fun i' hi' hn => (h5 i' hi' hn).cg (fun j => by repeat (first | rw [gi_ne (by omega)] | rw [gi_eq2 (by omega)])) (fun _ => rfl) (fun _ => rfl) (fun j hj => by repeat (first | rw [gi_ne (by omega)] | rw [gi_eq2 (by omega)])), ?_, ?_, ?_, ?_⟩
  · unfold ItE at h6 ⊢
    repeat (first | rw [gi_ne (by omega)] | rw [gi_eq2 (by omega)])
    exact h6
  · unfold ItC at h7 ⊢
    repeat (first | rw [gi_ne (by omega)] | rw [gi_eq2 (by omega)])
    exact h7
  · obtain ⟨k, q1, q2, q3⟩ := h8
    refine ⟨k, q1, ?_, fun j hj => ?_⟩
    · repeat (first | rw [gi_ne (by omega)] | rw [gi_eq2 (by omega)])
      exact q2
    · repeat (first | rw [gi_ne (by omega)] | rw [gi_eq2 (by omega)])
      exact q3 j hj
  · unfold ItL at h9 ⊢
    repeat (first | rw [gi_ne (by omega)] | rw [gi_eq2 (by omega)])
    exact h9
theorem RelX.lt {S T : Mem} {np nr ni i : Nat} (h : RelX S T np nr ni i) (hi : i < ni) : i < 16 := by
  have := h.1.1.2.2; omega
theorem sim_shelve {S T : Mem} {np nr ni i : Nat} (h : RelX S T np nr ni i) (hi : i < ni) (hI : InR (sX2_layOnShelf S i) np ni) : ∃ T', sX10_shelve T (nI i) = some T' ∧ Rel (sX2_layOnShelf S i) T' np nr ni ∧ FrT T T' := by
  have hl := h.lt hi
  have h1 := (((h.set_5 (v := 0) hi).set_6 (v := 0) hi).set_9 (v := -1) hi).set_10 (v := -1) hi
  refine ⟨_, ?_, h1.all hI (Or.inl ⟨?_, ?_, ?_, ?_⟩), ?_⟩
  · unfold sX10_shelve
    rw [e_set_1 hl, obind_some, e_set_2 hl, obind_some, e_set_5 hl, obind_some, e_set_6 hl, obind_some]
  · repeat (first | rw [gi_ne (by omega)] | rw [gi_eq2 (by omega)])
  · repeat (first | rw [gi_ne (by omega)] | rw [gi_eq2 (by omega)])
  · repeat (first | rw [gi_ne (by omega)] | rw [gi_eq2 (by omega)])
  · repeat (first | rw [gi_ne (by omega)] | rw [gi_eq2 (by omega)])
  · exact (((FrT.set (by omega)).trans (FrT.set (by omega))).trans (FrT.set (by omega))).trans (FrT.set (by omega))
theorem InR.shelf {S : Mem} {np ni i : Nat} (h : InR S np ni) (hp : gi S 3 10 i = -1) : InR (sX2_layOnShelf S i) np ni := by
  refine h.cg (fun _ => rfl) fun i' => ?_
  show gi (si (si (si (si S 3 5 i 0) 3 6 i 0) 3 9 i (-1)) 3 10 i (-1)) 3 10 i' = _
  by_cases e : i' = i
  · subst e
    repeat (first | rw [gi_ne (by omega)] | rw [gi_eq2 (by omega)])
    exact hp.symm
  · repeat (first | rw [gi_ne (by omega)] | rw [gi_eq2 (by omega)])
/-- the score behind a step -/
def bh (b c s : Nat) : Nat := if s + b + c * (1000 - s) / 100 < 1000 then s + b + c * (1000 - s) / 100 else 1000
theorem bh_le (b c s : Nat) : bh b c s ≤ 1000 := by
  unfold bh; split <;> omega
theorem bh_ge {b c s : Nat} (h : s ≤ 1000) : s ≤ bh b c s := by
  unfold bh; split <;> omega
theorem bh_num {b c s : Nat} (hb : b ≤ 500) (hc : c ≤ 100) (hs : s ≤ 1000) : (nI s + nI b) + (nI c * ((1000 : Int32) - nI s)) / (100 : Int32) = nI (s + b + c * (1000 - s) / 100) := by
  have h1 : c * (1000 - s) ≤ 100 * 1000 := Nat.mul_le_mul hc (by omega)
  rw [n_lit 1000, n_lit 100, pk_sub hs, pk_mul, pk_div (by omega) (by omega) (by omega), nI_add, nI_add]
theorem jmin_n {a b : Nat} (ha : a < 2147483648) (hb : b < 2147483648) : jmin (nI a) (nI b) = nI (if b < a then b else a) := by
  unfold jmin
  by_cases h : b < a
  · rw [if_pos (by rw [n_lt hb ha]; exact h), if_pos h]
  · rw [if_neg (by rw [n_lt hb ha]; exact h), if_neg h]
theorem jmax_n {a b : Nat} (ha : a < 2147483648) (hb : b < 2147483648) : jmax (nI a) (nI b) = nI (if a < b then b else a) := by
  unfold jmax
  by_cases h : a < b
  · rw [if_pos (by rw [n_lt ha hb]; exact h), if_pos h]
  · rw [if_neg (by rw [n_lt ha hb]; exact h), if_neg h]
theorem e_behindS {S : Mem} {r b c s : Nat} (hb : b ≤ 500) (hc : c ≤ 100) (hs : s ≤ 1000) (h4 : gi S 2 4 r = nI b) (h5 : gi S 2 5 r = nI c) : sX5_scoreBehind S r (nI s) = nI (bh b c s) := by
  have h1 : c * (1000 - s) ≤ 100 * 1000 := Nat.mul_le_mul hc (by omega)
  have h2 : c * (1000 - s) / 100 ≤ 1000 := by omega
  unfold sX5_scoreBehind
  rw [h4, h5, bh_num hb hc hs, n_lit 1000, jmin_n (by omega) (by omega)]
  rfl
theorem e_behindT {T : Mem} {r b c s : Nat} (hr : r < 10) (hb : b ≤ 500) (hc : c ≤ 100) (hs : s ≤ 1000) (h4 : gi T 5 (11 + 7 * r + 4) 0 = nI b) (h5 : gi T 5 (11 + 7 * r + 5) 0 = nI c) : sX10_behind T (nI s) (nI r) = some (nI (bh b c s)) := by
  have h1 : c * (1000 - s) ≤ 100 * 1000 := Nat.mul_le_mul hc (by omega)
  have h2 : c * (1000 - s) / 100 ≤ 1000 := by omega
  unfold sX10_behind
  rw [e_re_4 hr, obind_some, e_re_5 hr, obind_some, h4, h5, bh_num hb hc hs]
  unfold sX10_min bh
  rw [n_lit 1000]
  by_cases h : s + b + c * (1000 - s) / 100 < 1000
  · rw [if_pos h, if_pos (by rw [n_le (by omega) (by omega)]; omega)]
  · rw [if_neg h]
    by_cases h3 : s + b + c * (1000 - s) / 100 ≤ 1000
    · rw [if_pos (by rw [n_le (by omega) (by omega)]; exact h3), show s + b + c * (1000 - s) / 100 = 1000 by omega]
    · rw [if_neg (by rw [n_le (by omega) (by omega)]; exact h3)]
/-- what is known of a recipe -/
theorem CfR.re {S T : Mem} {np nr ni r : Nat} (h : CfR S T np nr ni) (hr : r < nr) : r < 10 ∧ (∀ w, w < 7 → gi S 2 w r = gi T 5 (11 + 7 * r + w) 0) ∧ (∃ k, 1 ≤ k ∧ k ≤ 40 ∧ gi S 2 0 r = nI k) ∧ (∃ k, k ≤ 200 ∧ gi S 2 1 r = nI k) ∧ (∃ k, k ≤ 1 ∧ gi S 2 2 r = nI k) ∧ (∃ k, k ≤ 3 ∧ gi S 2 3 r = nI k) ∧ (∃ k, k ≤ 500 ∧ gi S 2 4 r = nI k) ∧ (∃ k, k ≤ 100 ∧ gi S 2 5 r = nI k) ∧ ∃ k, 1 ≤ k ∧ k ≤ 100000000 ∧ gi S 2 6 r = nI k :=
  ⟨by have := h.1.2.1; omega, h.2.2.2.2.2.1 r hr⟩
