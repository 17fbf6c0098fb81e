/-! ===== THE MODEL'S BLOCKS ===== -/
/-- block k as if it were the present -/
def blkM (T : Mem) (k : Nat) : Mem := (fun c j i => if c = 0 then T.1 0 (958 * k + j) i else T.1 c j i, fun c i => if c = 1 then T.2 1 (16 * k + i) else T.2 c i)
/-- block b becomes what block a is -/
def cpB (T : Mem) (a b : Nat) : Mem := (fun c j i => if c = 0 ∧ i = 0 ∧ 958 * b ≤ j ∧ j < 958 * b + 958 then T.1 0 (958 * a + (j - 958 * b)) 0 else T.1 c j i, fun c i => if c = 1 ∧ 16 * b ≤ i ∧ i < 16 * b + 16 then T.2 1 (16 * a + (i - 16 * b)) else T.2 c i)
theorem gi_cpB {T : Mem} {a b c j i : Nat} : gi (cpB T a b) c j i = if c = 0 ∧ i = 0 ∧ 958 * b ≤ j ∧ j < 958 * b + 958 then gi T 0 (958 * a + (j - 958 * b)) 0 else gi T c j i := rfl
theorem gq_cpB {T : Mem} {a b c i : Nat} : gq (cpB T a b) c i = if c = 1 ∧ 16 * b ≤ i ∧ i < 16 * b + 16 then gq T 1 (16 * a + (i - 16 * b)) else gq T c i := rfl
theorem gi_blk {T : Mem} {k c j i : Nat} : gi (blkM T k) c j i = if c = 0 then gi T 0 (958 * k + j) i else gi T c j i := rfl
theorem gq_blk {T : Mem} {k c i : Nat} : gq (blkM T k) c i = if c = 1 then gq T 1 (16 * k + i) else gq T c i := rfl
theorem mem_ext {S T : Mem} (h1 : ∀ c j i, gi S c j i = gi T c j i) (h2 : ∀ c i, gq S c i = gq T c i) : S = T :=
  Prod.ext (funext fun c => funext fun j => funext fun i => h1 c j i) (funext fun c => funext fun i => h2 c i)
theorem blk_0 {T : Mem} : blkM T 0 = T := by
  refine mem_ext (fun c j i => ?_) (fun c i => ?_)
  · rw [gi_blk]
    by_cases h : c = 0
    · subst h; rw [if_pos rfl, Nat.mul_zero, Nat.zero_add]
    · rw [if_neg h]
  · rw [gq_blk]
    by_cases h : c = 1
    · subst h; rw [if_pos rfl, Nat.mul_zero, Nat.zero_add]
    · rw [if_neg h]
theorem cp_owed {T A : Mem} {a b : Nat} (ha : a < 14) (hb : b < 14) (hab : a ≠ b) (h1 : ∀ c j i, gi A c j i = gi (cpB T a b) c j i) (h2 : ∀ c i, gq A c i = gq T c i) : sX10_copyBlock_l41 (nI a) (nI b) ((0 : Int32), A) = some (cpB T a b) := by
  unfold sX10_copyBlock_l41
  obtain ⟨r, r1, r2⟩ := itw_one (f := sX10_copyBlock_l41_step (nI a) (nI b)) (J := fun k x => ∃ u, u ≤ 16 ∧ k = 16 - u ∧ x.1 = nI u ∧ (∀ c j i, gi x.2 c j i = gi (cpB T a b) c j i) ∧ ∀ c i, gq x.2 c i = if c = 1 ∧ 16 * b ≤ i ∧ i < 16 * b + u then gq T 1 (16 * a + (i - 16 * b)) else gq T c i) (P := fun r => r = cpB T a b) (fun k x => by
    obtain ⟨z, A⟩ := x
    rintro ⟨u, q1, rfl, q2, h1, h2⟩
    dsimp only at q2 h1 h2
    subst q2
    unfold sX10_copyBlock_l41_step
    dsimp only
    by_cases e : u = 16
    · subst e
      rw [if_pos (show (16 : Int32) ≤ nI 16 by decide)]
      exact Or.inl ⟨_, rfl, mem_ext h1 h2⟩
    · have hle : ¬ (16 : Int32) ≤ nI u := by rw [n_lit 16, n_le (by omega) (by omega)]; omega
      rw [if_neg hle, n_lit 16, pk_mul, pk_mul, nI_add, nI_add, n_inb (by omega) (by omega), oif_t rfl, n_inb (by omega) (by omega), oif_t rfl, olet_eq, n_cl (by omega), n_cl (by omega), n_suc]
      refine Or.inr ⟨_, 16 - (u + 1), by omega, rfl, u + 1, by omega, rfl, rfl, fun c j i => h1 c j i, fun c i => ?_⟩
      dsimp only
      rw [gq_sq]
      by_cases hc : c = 1 ∧ i = 16 * b + u
      · obtain ⟨rfl, rfl⟩ := hc
        rw [if_pos ⟨rfl, rfl⟩, if_pos (by omega), h2, if_neg (by omega)]
        congr 1
        omega
      · rw [if_neg hc, h2]
        by_cases hd : c = 1 ∧ 16 * b ≤ i ∧ i < 16 * b + u
        · rw [if_pos hd, if_pos (by omega)]
        · rw [if_neg hd, if_neg (by omega)]) (k := 16 - 0) (a := ((0 : Int32), A)) ⟨0, by omega, rfl, rfl, h1, fun c i => by
      rw [if_neg (by omega)]; exact h2 c i⟩
  rw [r1, r2]
theorem e_copyB {T : Mem} {a b : Nat} (ha : a < 14) (hb : b < 14) (hab : a ≠ b) : sX10_copyBlock T (nI a) (nI b) = some (cpB T a b) := by
  unfold sX10_copyBlock sX10_copyBlock_l2
  obtain ⟨r, r1, r2⟩ := itw_one (f := sX10_copyBlock_l2_step (nI a) (nI b)) (J := fun k x => ∃ u, u ≤ 958 ∧ k = 958 - u ∧ x.1 = nI u ∧ (∀ c j i, gi x.2 c j i = if c = 0 ∧ i = 0 ∧ 958 * b ≤ j ∧ j < 958 * b + u then gi T 0 (958 * a + (j - 958 * b)) 0 else gi T c j i) ∧ ∀ c i, gq x.2 c i = gq T c i) (P := fun r => r = cpB T a b) (fun k x => by
    obtain ⟨z, A⟩ := x
    rintro ⟨u, q1, rfl, q2, h1, h2⟩
    dsimp only at q2 h1 h2
    subst q2
    unfold sX10_copyBlock_l2_step
    dsimp only
    by_cases e : u = 958
    · subst e
      rw [if_pos (show (958 : Int32) ≤ nI 958 by decide), cp_owed ha hb hab h1 h2]
      exact Or.inl ⟨_, rfl, rfl⟩
    · have hle : ¬ (958 : Int32) ≤ nI u := by rw [n_lit 958, n_le (by omega) (by omega)]; omega
      rw [if_neg hle, n_lit 958, pk_mul, pk_mul, nI_add, nI_add, n_inb (by omega) (by omega), oif_t rfl, n_inb (by omega) (by omega), oif_t rfl, olet_eq, n_cl (by omega), n_cl (by omega), n_suc]
      refine Or.inr ⟨_, 958 - (u + 1), by omega, rfl, u + 1, by omega, rfl, rfl, fun c j i => ?_, fun c i => h2 c i⟩
      dsimp only
      rw [gi_si]
      by_cases hc : c = 0 ∧ j = 958 * b + u ∧ i = 0
      · obtain ⟨rfl, rfl, rfl⟩ := hc
        rw [if_pos ⟨rfl, rfl, rfl⟩, if_pos (by omega), h1, if_neg (by omega)]
        congr 1
        omega
      · rw [if_neg hc, h1]
        by_cases hd : c = 0 ∧ i = 0 ∧ 958 * b ≤ j ∧ j < 958 * b + u
        · rw [if_pos hd, if_pos (by omega)]
        · rw [if_neg hd, if_neg (by omega)]) (k := 958 - 0) (a := ((0 : Int32), T)) ⟨0, by omega, rfl, rfl, fun c j i => by rw [if_neg (by omega)], fun c i => rfl⟩
  rw [r1, r2]
theorem CfR.t5 {S T T' : Mem} {np nr ni : Nat} (h : CfR S T np nr ni) (h5 : ∀ j, j < 129 → gi T' 5 j 0 = gi T 5 j 0) : CfR S T' np nr ni := by
  obtain ⟨a, b, c, d, e, f, g⟩ := h
  refine ⟨a, b, ?_, ?_, fun p hp => ?_, fun r hr => ?_, fun i hi => ?_⟩
  · rw [h5 2 (by omega), h5 3 (by omega), h5 4 (by omega)]; exact c
  · rw [h5 0 (by omega), h5 1 (by omega)]; exact d
  · rw [h5 _ (by omega)]; exact e p hp
  · exact ⟨fun w hw => ((f r hr).1 w hw).trans (h5 _ (by omega)).symm, (f r hr).2⟩
  · rw [h5 _ (by omega), h5 _ (by omega)]; exact g i hi
/-- only the present's cells count -/
theorem Rel.tcg {S T T' : Mem} {np nr ni : Nat} (h : Rel S T np nr ni) (h0 : ∀ j, j < 958 → gi T' 0 j 0 = gi T 0 j 0) (h5 : ∀ j, j < 129 → gi T' 5 j 0 = gi T 5 j 0) (h1 : ∀ i, i < 16 → gq T' 1 i = gq T 1 i) : Rel S T' np nr ni := by
  obtain ⟨hC, hSa, hB, hO, hI, hIt⟩ := h
  have hnr : nr ≤ 10 := hC.1.2.1
  have hnp : np ≤ 6 := hC.1.1
  have hni : ni ≤ 16 := hC.1.2.2
  exact ⟨hC.t5 h5, hSa.cg (fun _ _ => rfl) (fun _ => rfl) (fun _ => rfl) (fun j hj => h0 j (by omega)) hnr hnp, hB.cg (fun _ => rfl) (fun _ => rfl) (fun j hj => h0 j (by omega)), fun i hi => (hO i hi).trans (h1 i (by omega)).symm, hI, fun i hi => (hIt i hi).cg (fun _ => rfl) (fun _ => rfl) (fun _ => rfl) (fun j hj => h0 _ (by omega))⟩
/-- block k stands as before, if its cells do -/
theorem Rel.blk {S T T' : Mem} {np nr ni k : Nat} (h : Rel S (blkM T k) np nr ni) (h0 : ∀ j, j < 958 → gi T' 0 (958 * k + j) 0 = gi T 0 (958 * k + j) 0) (h5 : ∀ j, j < 129 → gi T' 5 j 0 = gi T 5 j 0) (h1 : ∀ i, i < 16 → gq T' 1 (16 * k + i) = gq T 1 (16 * k + i)) : Rel S (blkM T' k) np nr ni := by
  refine h.tcg (fun j hj => ?_) (fun j hj => ?_) (fun i hi => ?_)
  · rw [gi_blk, gi_blk, if_pos rfl, if_pos rfl]; exact h0 j hj
  · rw [gi_blk, gi_blk, if_neg (by decide), if_neg (by decide)]; exact h5 j hj
  · rw [gq_blk, gq_blk, if_pos rfl, if_pos rfl]; exact h1 i hi
/-- block b has become block a -/
theorem Rel.cpd {S T : Mem} {np nr ni a b : Nat} (h : Rel S (blkM T a) np nr ni) : Rel S (blkM (cpB T a b) b) np nr ni := by
  refine h.tcg (fun j hj => ?_) (fun j hj => ?_) (fun i hi => ?_)
  · rw [gi_blk, gi_blk, if_pos rfl, if_pos rfl, gi_cpB, if_pos (by omega)]
    congr 1; omega
  · rw [gi_blk, gi_blk, if_neg (by decide), if_neg (by decide), gi_cpB, if_neg (by omega)]
  · rw [gq_blk, gq_blk, if_pos rfl, if_pos rfl, gq_cpB, if_pos (by omega)]
    congr 1; omega
/-- a block that is not copied to stands -/
theorem Rel.cpo {S T : Mem} {np nr ni a b k : Nat} (h : Rel S (blkM T k) np nr ni) (hk : k ≠ b) : Rel S (blkM (cpB T a b) k) np nr ni := by
  refine h.blk (fun j hj => ?_) (fun j hj => ?_) (fun i hi => ?_)
  · rw [gi_cpB, if_neg (by omega)]
  · rw [gi_cpB, if_neg (by omega)]
  · rw [gq_cpB, if_neg (by omega)]
/-- what hours leave: the other blocks -/
theorem Rel.frh {S T T' : Mem} {np nr ni k : Nat} (h : Rel S (blkM T k) np nr ni) (hF : FrH T T') (hk : 1 ≤ k) : Rel S (blkM T' k) np nr ni := by
  refine h.blk (fun j hj => hF.1 _ (by omega)) (fun j _ => hF.2.2.1 _ _ _ (by decide) (by decide)) (fun i hi => hF.2.1 _ (by omega))
