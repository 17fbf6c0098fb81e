/-! ===== THE TEXT ===== -/
section TEXT
variable {B m np nr ni : Nat} {S : XT} {T T' : Mem} {co : Nat → Option Int32}
/-- what calls on the text leave -/
def FrQ (T T' : Mem) : Prop := (∀ j, j < 12454 → gi T' 0 j 0 = gi T 0 j 0) ∧ (∀ i, i < 208 → gq T' 1 i = gq T 1 i) ∧ (∀ j, j < 129 → gi T' 5 j 0 = gi T 5 j 0) ∧ (∀ j, gi T' 2 j 0 = gi T 2 j 0) ∧ (∀ j, gi T' 9 j 0 = gi T 9 j 0) ∧ ∀ j, j = 3 ∨ j = 4 ∨ j = 10 → gi T' 100 j 0 = gi T 100 j 0
theorem FrQ.refl : FrQ T T := ⟨fun _ _ => rfl, fun _ _ => rfl, fun _ _ => rfl, fun _ => rfl, fun _ => rfl, fun _ _ => rfl⟩
theorem FrQ.trans {T'' : Mem} (h : FrQ T T') (h2 : FrQ T' T'') : FrQ T T'' := ⟨fun j hj => (h2.1 j hj).trans (h.1 j hj), fun j hj => (h2.2.1 j hj).trans (h.2.1 j hj), fun j hj => (h2.2.2.1 j hj).trans (h.2.2.1 j hj), fun j => (h2.2.2.2.1 j).trans (h.2.2.2.1 j), fun j => (h2.2.2.2.2.1 j).trans (h.2.2.2.2.1 j), fun j hj => (h2.2.2.2.2.2 j hj).trans (h.2.2.2.2.2 j hj)⟩
theorem FrQ.set {c j i : Nat} {v : Int32} (h : (c = 100 ∧ j ≠ 3 ∧ j ≠ 4 ∧ j ≠ 10) ∨ c = 11 ∨ c = 22 ∨ c = 7 ∨ (c = 5 ∧ 129 ≤ j)) : FrQ T (si T c j i v) := by
  refine ⟨fun k hk => ?_, fun _ _ => rfl, fun k hk => ?_, fun k => ?_, fun k => ?_, fun k hk => ?_⟩ <;> rw [gi_ne (by omega)]
theorem FrQ.setq {c i : Nat} {v : Int64} (h : c ≠ 1) : FrQ T (sq T c i v) := ⟨fun _ _ => rfl, fun _ _ => gq_ne (by omega), fun _ _ => rfl, fun _ => rfl, fun _ => rfl, fun _ _ => rfl⟩
theorem Rel.frq {L : Mem} (h : Rel L T np nr ni) (hF : FrQ T T') : Rel L T' np nr ni := h.tcg (fun j hj => hF.1 j (by omega)) hF.2.2.1 (fun i hi => hF.2.1 i (by omega))
theorem Rel.frqb {L : Mem} {k : Nat} (h : Rel L (blkM T k) np nr ni) (hF : FrQ T T') (hk : k < 13) : Rel L (blkM T' k) np nr ni := h.blk (fun j hj => hF.1 _ (by omega)) hF.2.2.1 (fun i hi => hF.2.1 _ (by omega))
theorem HiR.frq {X : Mem} {P : Rows} {W : Nat → Mem} (h : HiR X P W T np nr ni) (hF : FrQ T T') : HiR X P W T' np nr ni := by
  obtain ⟨e, k, f, h1, h2, h3, h4, h5, h6, h7, h8⟩ := h
  exact ⟨e, k, f, h1, h2, h3, h4, h5, (hF.2.2.2.2.2 3 (by omega)).trans h6, (hF.2.2.2.2.2 4 (by omega)).trans h7, fun j hj => ⟨(h8 j hj).1, (h8 j hj).2.frqb hF (by omega)⟩⟩
theorem SnR.frq {X : Mem} {P : Rows} {W : Nat → Mem} (h : SnR X P W T np nr ni) (hF : FrQ T T') : SnR X P W T' np nr ni := by
  intro k hk
  rw [hF.2.2.2.1]
  exact ⟨(h k hk).1, fun hz => ⟨((h k hk).2 hz).1, ((h k hk).2 hz).2.frqb hF (by omega)⟩⟩
theorem OuR.frq {X : Mem} (h : OuR X T) (hF : FrQ T T') : OuR X T' := by
  obtain ⟨k, h1, h2, h3, h4⟩ := h
  exact ⟨k, h1, h2, (hF.2.2.2.2.2 10 (by omega)).trans h3, fun j hj => (h4 j hj).trans (hF.2.2.2.2.1 j).symm⟩
/-- only the text changes -/
theorem IVn.text {R' : Mem} (h : IVn B m S T np nr ni) (hF : FrQ T T') (hT : TxR R' T') : IVn B m (S.1, S.2.1, S.2.2.1, R', S.2.2.2.2.1, S.2.2.2.2.2.1, S.2.2.2.2.2.2) T' np nr ni :=
  ⟨h.1.frq hF, h.2.1.frq hF, h.2.2.1.frq hF, h.2.2.2.1, hT, h.2.2.2.2.2.1.frq hF, h.2.2.2.2.2.2⟩
theorem call_truncateInput (h : IV B (m + 1) S T) (p1 : Int32) : PFA (sX9_truncateInput S B p1) (some (sX10_truncateInput T p1)) (IV B m) := by
  obtain ⟨np, nr, ni, hV⟩ := h
  obtain ⟨⟨n, h1, h2, h3, h4⟩, h5, h6⟩ := hV.2.2.2.2.1
  unfold sX9_truncateInput sX10_truncateInput
  simp only [olet_eq]
  rw [h2, gi_ne (by omega), h3, e_inR, i64_0, n_i64 (by omega)]
  have bad : PFA (some ((-1 : Int32), S)) (some ((-1 : Int32), si T 100 6 0 0)) (IV B m) := ⟨_, _, _, rfl, rfl, np, nr, ni, hV.th.mono (Nat.le_succ _)⟩
  rcases n_ex p1 with ⟨k, hk, rfl⟩ | hn
  · rw [if_neg (n_nn hk), n_i64 hk]
    by_cases e : k ≤ n
    · rw [if_pos (show nI k ≤ nI n by rw [n_le hk (by omega)]; exact e), if_pos (show (0 : Int) ≤ (k : Int) ∧ (k : Int) ≤ (n : Int) by omega), if_neg one_ne]
      refine ⟨_, _, _, rfl, rfl, np, nr, ni, (hV.mono (Nat.le_succ _)).text ((FrQ.set (by omega)).trans (FrQ.set (by omega))) ⟨⟨k, by omega, ?_, ?_, fun j hj => ?_⟩, ?_, ?_⟩⟩
      · rw [gi_eq2 ⟨rfl, rfl, rfl⟩]
      · rw [gi_eq2 ⟨rfl, rfl, rfl⟩]
      · repeat (first | rw [gi_ne (by omega)] | rw [gi_eq2 (by omega)])
        exact h4 j (by omega)
      · repeat (first | rw [gi_ne (by omega)] | rw [gi_eq2 (by omega)])
        exact h5
      · repeat (first | rw [gi_ne (by omega)] | rw [gi_eq2 (by omega)])
        exact h6
    · rw [if_neg (show ¬ nI k ≤ nI n by rw [n_le hk (by omega)]; exact e), if_neg (show ¬ ((0 : Int) ≤ (k : Int) ∧ (k : Int) ≤ (n : Int)) by omega), if_pos rfl]
      exact bad
  · rw [if_pos (show p1 < 0 by rw [Int32.lt_iff_toInt_lt]; exact hn), Int32.toInt_toInt64, if_neg (show ¬ ((0 : Int) ≤ p1.toInt ∧ p1.toInt ≤ (n : Int)) by omega), if_pos rfl]
    exact bad
end TEXT
