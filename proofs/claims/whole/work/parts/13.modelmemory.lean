/-! ===== THE TEN CELLS OF THE MODEL (laid by a program) ===== -/
def moF (c : Nat) (S : Mem) : Nat → Value := fun j => match j with
  | 0 => .ref (c + 1) | 1 => .ref (c + 2) | 2 => .ref (c + 3) | 5 => .ref (c + 4) | 7 => .ref (c + 5) | 8 => .ref (c + 6) | 9 => .ref (c + 7) | 11 => .ref (c + 8) | 22 => .ref (c + 9) | 19 => .long (gq S 19 0) | j => .int (gi S 100 j 0)
def mcell (c : Nat) (S : Mem) (k : Nat) : AE :=
  if k = 0 then ob 10 24 (moF c S)
  else if k = 1 then .inl (0, 13412, .inl (fun j => gi S 0 j 0))
  else if k = 2 then .inl (1, 224, .inr (.inl (fun j => gq S 1 j)))
  else if k = 3 then .inl (2, 2, .inl (fun j => gi S 2 j 0))
  else if k = 4 then .inl (0, 258, .inl (fun j => gi S 5 j 0))
  else if k = 5 then .inl (2, 16, .inl (fun j => gi S 7 j 0))
  else if k = 6 then .inl (1, 1001, .inr (.inl (fun j => gq S 8 j)))
  else if k = 7 then .inl (0, 24, .inl (fun j => gi S 9 j 0))
  else if k = 8 then .inl (3, 1000, .inl (fun j => gi S 11 j 0))
  else .inl (0, 200, .inl (fun j => gi S 22 j 0))
def mb (h : AH) (c : Nat) (S : Mem) : AH := blk h c 10 (mcell c S)
section MB
variable {h : AH} {c : Nat} {S : Mem}
theorem mb_ob : (mb h c S).1 c = some (ob 10 24 (moF c S)) := blk_in (k := 0) (by omega)
theorem mb_a1 : (mb h c S).1 (c + 1) = some (.inl (0, 13412, .inl (fun j => gi S 0 j 0))) := blk_in (k := 1) (by omega)
theorem mb_a2 : (mb h c S).1 (c + 2) = some (.inl (1, 224, .inr (.inl (fun j => gq S 1 j)))) := blk_in (k := 2) (by omega)
theorem mb_a3 : (mb h c S).1 (c + 3) = some (.inl (2, 2, .inl (fun j => gi S 2 j 0))) := blk_in (k := 3) (by omega)
theorem mb_a4 : (mb h c S).1 (c + 4) = some (.inl (0, 258, .inl (fun j => gi S 5 j 0))) := blk_in (k := 4) (by omega)
theorem mb_a5 : (mb h c S).1 (c + 5) = some (.inl (2, 16, .inl (fun j => gi S 7 j 0))) := blk_in (k := 5) (by omega)
theorem mb_a6 : (mb h c S).1 (c + 6) = some (.inl (1, 1001, .inr (.inl (fun j => gq S 8 j)))) := blk_in (k := 6) (by omega)
theorem mb_a7 : (mb h c S).1 (c + 7) = some (.inl (0, 24, .inl (fun j => gi S 9 j 0))) := blk_in (k := 7) (by omega)
theorem mb_a8 : (mb h c S).1 (c + 8) = some (.inl (3, 1000, .inl (fun j => gi S 11 j 0))) := blk_in (k := 8) (by omega)
theorem mb_a9 : (mb h c S).1 (c + 9) = some (.inl (0, 200, .inl (fun j => gi S 22 j 0))) := blk_in (k := 9) (by omega)
theorem m_ten {q : Nat} (h : q < 10) : q = 0 ∨ q = 1 ∨ q = 2 ∨ q = 3 ∨ q = 4 ∨ q = 5 ∨ q = 6 ∨ q = 7 ∨ q = 8 ∨ q = 9 := by omega
theorem mbp_ob {k : Nat} {v : Int32} (hk : k ≠ 0 ∧ k ≠ 1 ∧ k ≠ 2 ∧ k ≠ 5 ∧ k ≠ 7 ∧ k ≠ 8 ∧ k ≠ 9 ∧ k ≠ 11 ∧ k ≠ 19 ∧ k ≠ 22) : hU (mb h c S) c (ob 10 24 (fun j => if j = k then .int v else moF c S j)) = mb h c (si S 100 k 0 v) := by
  refine blk_put (k := 0) (by omega) fun q hq => ?_
  by_cases hz : q = 0
  · subst hz
    rw [if_pos rfl]
    refine ob_cg fun j => ?_
    by_cases hj : j = k
    · subst hj
      rw [if_pos rfl]
      unfold moF
      split <;> first | (exfalso; omega) | (rw [gi_si, if_pos ⟨rfl, rfl, rfl⟩])
    · rw [if_neg hj]
      unfold moF
      split <;> first | rfl | (rw [gi_si, if_neg (by omega)])
  · rw [if_neg hz]
    rcases m_ten hq with rfl | rfl | rfl | rfl | rfl | rfl | rfl | rfl | rfl | rfl <;> first | rfl | exact absurd rfl hz
theorem mbp_va {v : Int64} : hU (mb h c S) c (ob 10 24 (fun j => if j = 19 then .long v else moF c S j)) = mb h c (sq S 19 0 v) := by
  refine blk_put (k := 0) (by omega) fun q hq => ?_
  by_cases hz : q = 0
  · subst hz
    rw [if_pos rfl]
    refine ob_cg fun j => ?_
    by_cases hj : j = 19
    · subst hj
      rfl
    · rw [if_neg hj]
      unfold moF
      split <;> first | rfl | exact absurd rfl hj
  · rw [if_neg hz]
    rcases m_ten hq with rfl | rfl | rfl | rfl | rfl | rfl | rfl | rfl | rfl | rfl <;> first | rfl | exact absurd rfl hz
theorem mbp_a1 {k : Nat} {v : Int32} : hU (mb h c S) (c + 1) (.inl (0, 13412, .inl (upd (fun j => gi S 0 j 0) k v))) = mb h c (si S 0 k 0 v) := by
  refine blk_put (k := 1) (by omega) fun q hq => ?_
  by_cases hz : q = 1
  · subst hz
    rw [if_pos rfl]
    show (Sum.inl (0, 13412, .inl (fun j => gi (si S 0 k 0 v) 0 j 0)) : AE) = _
    refine congrArg (fun f => (Sum.inl (0, 13412, .inl f) : AE)) (funext fun j => ?_)
    show gi (si S 0 k 0 v) 0 j 0 = (if j = k then v else gi S 0 j 0)
    rw [gi_si]
    by_cases hj : j = k
    · rw [if_pos ⟨rfl, hj, rfl⟩, if_pos hj]
    · rw [if_neg (fun z => hj z.2.1), if_neg hj]
  · rw [if_neg hz]
    rcases m_ten hq with rfl | rfl | rfl | rfl | rfl | rfl | rfl | rfl | rfl | rfl <;> first | rfl | exact absurd rfl hz | exact ob_cg (fun j => by unfold moF; split <;> rfl)
theorem mbp_a2 {k : Nat} {v : Int64} : hU (mb h c S) (c + 2) (.inl (1, 224, .inr (.inl (vp_updL (fun j => gq S 1 j) k v)))) = mb h c (sq S 1 k v) := by
  refine blk_put (k := 2) (by omega) fun q hq => ?_
  by_cases hz : q = 2
  · subst hz
    rw [if_pos rfl]
    show (Sum.inl (1, 224, .inr (.inl (fun j => gq (sq S 1 k v) 1 j))) : AE) = _
    refine congrArg (fun f => (Sum.inl (1, 224, .inr (.inl f)) : AE)) (funext fun j => ?_)
    show gq (sq S 1 k v) 1 j = (if j = k then v else gq S 1 j)
    rw [gq_sq]
    by_cases hj : j = k
    · rw [if_pos ⟨rfl, hj⟩, if_pos hj]
    · rw [if_neg (fun z => hj z.2), if_neg hj]
  · rw [if_neg hz]
    rcases m_ten hq with rfl | rfl | rfl | rfl | rfl | rfl | rfl | rfl | rfl | rfl <;> first | rfl | exact absurd rfl hz | exact ob_cg (fun j => by unfold moF; split <;> rfl)
theorem mbp_a3 {k : Nat} {v : Int32} : hU (mb h c S) (c + 3) (.inl (2, 2, .inl (upd (fun j => gi S 2 j 0) k v))) = mb h c (si S 2 k 0 v) := by
  refine blk_put (k := 3) (by omega) fun q hq => ?_
  by_cases hz : q = 3
  · subst hz
    rw [if_pos rfl]
    show (Sum.inl (2, 2, .inl (fun j => gi (si S 2 k 0 v) 2 j 0)) : AE) = _
    refine congrArg (fun f => (Sum.inl (2, 2, .inl f) : AE)) (funext fun j => ?_)
    show gi (si S 2 k 0 v) 2 j 0 = (if j = k then v else gi S 2 j 0)
    rw [gi_si]
    by_cases hj : j = k
    · rw [if_pos ⟨rfl, hj, rfl⟩, if_pos hj]
    · rw [if_neg (fun z => hj z.2.1), if_neg hj]
  · rw [if_neg hz]
    rcases m_ten hq with rfl | rfl | rfl | rfl | rfl | rfl | rfl | rfl | rfl | rfl <;> first | rfl | exact absurd rfl hz | exact ob_cg (fun j => by unfold moF; split <;> rfl)
theorem mbp_a4 {k : Nat} {v : Int32} : hU (mb h c S) (c + 4) (.inl (0, 258, .inl (upd (fun j => gi S 5 j 0) k v))) = mb h c (si S 5 k 0 v) := by
  refine blk_put (k := 4) (by omega) fun q hq => ?_
  by_cases hz : q = 4
  · subst hz
    rw [if_pos rfl]
    show (Sum.inl (0, 258, .inl (fun j => gi (si S 5 k 0 v) 5 j 0)) : AE) = _
    refine congrArg (fun f => (Sum.inl (0, 258, .inl f) : AE)) (funext fun j => ?_)
    show gi (si S 5 k 0 v) 5 j 0 = (if j = k then v else gi S 5 j 0)
    rw [gi_si]
    by_cases hj : j = k
    · rw [if_pos ⟨rfl, hj, rfl⟩, if_pos hj]
    · rw [if_neg (fun z => hj z.2.1), if_neg hj]
  · rw [if_neg hz]
    rcases m_ten hq with rfl | rfl | rfl | rfl | rfl | rfl | rfl | rfl | rfl | rfl <;> first | rfl | exact absurd rfl hz | exact ob_cg (fun j => by unfold moF; split <;> rfl)
theorem mbp_a5 {k : Nat} {v : Int32} : hU (mb h c S) (c + 5) (.inl (2, 16, .inl (upd (fun j => gi S 7 j 0) k v))) = mb h c (si S 7 k 0 v) := by
  refine blk_put (k := 5) (by omega) fun q hq => ?_
  by_cases hz : q = 5
  · subst hz
    rw [if_pos rfl]
    show (Sum.inl (2, 16, .inl (fun j => gi (si S 7 k 0 v) 7 j 0)) : AE) = _
    refine congrArg (fun f => (Sum.inl (2, 16, .inl f) : AE)) (funext fun j => ?_)
    show gi (si S 7 k 0 v) 7 j 0 = (if j = k then v else gi S 7 j 0)
    rw [gi_si]
    by_cases hj : j = k
    · rw [if_pos ⟨rfl, hj, rfl⟩, if_pos hj]
    · rw [if_neg (fun z => hj z.2.1), if_neg hj]
  · rw [if_neg hz]
    rcases m_ten hq with rfl | rfl | rfl | rfl | rfl | rfl | rfl | rfl | rfl | rfl <;> first | rfl | exact absurd rfl hz | exact ob_cg (fun j => by unfold moF; split <;> rfl)
theorem mbp_a6 {k : Nat} {v : Int64} : hU (mb h c S) (c + 6) (.inl (1, 1001, .inr (.inl (vp_updL (fun j => gq S 8 j) k v)))) = mb h c (sq S 8 k v) := by
  refine blk_put (k := 6) (by omega) fun q hq => ?_
  by_cases hz : q = 6
  · subst hz
    rw [if_pos rfl]
    show (Sum.inl (1, 1001, .inr (.inl (fun j => gq (sq S 8 k v) 8 j))) : AE) = _
    refine congrArg (fun f => (Sum.inl (1, 1001, .inr (.inl f)) : AE)) (funext fun j => ?_)
    show gq (sq S 8 k v) 8 j = (if j = k then v else gq S 8 j)
    rw [gq_sq]
    by_cases hj : j = k
    · rw [if_pos ⟨rfl, hj⟩, if_pos hj]
    · rw [if_neg (fun z => hj z.2), if_neg hj]
  · rw [if_neg hz]
    rcases m_ten hq with rfl | rfl | rfl | rfl | rfl | rfl | rfl | rfl | rfl | rfl <;> first | rfl | exact absurd rfl hz | exact ob_cg (fun j => by unfold moF; split <;> rfl)
theorem mbp_a7 {k : Nat} {v : Int32} : hU (mb h c S) (c + 7) (.inl (0, 24, .inl (upd (fun j => gi S 9 j 0) k v))) = mb h c (si S 9 k 0 v) := by
  refine blk_put (k := 7) (by omega) fun q hq => ?_
  by_cases hz : q = 7
  · subst hz
    rw [if_pos rfl]
    show (Sum.inl (0, 24, .inl (fun j => gi (si S 9 k 0 v) 9 j 0)) : AE) = _
    refine congrArg (fun f => (Sum.inl (0, 24, .inl f) : AE)) (funext fun j => ?_)
    show gi (si S 9 k 0 v) 9 j 0 = (if j = k then v else gi S 9 j 0)
    rw [gi_si]
    by_cases hj : j = k
    · rw [if_pos ⟨rfl, hj, rfl⟩, if_pos hj]
    · rw [if_neg (fun z => hj z.2.1), if_neg hj]
  · rw [if_neg hz]
    rcases m_ten hq with rfl | rfl | rfl | rfl | rfl | rfl | rfl | rfl | rfl | rfl <;> first | rfl | exact absurd rfl hz | exact ob_cg (fun j => by unfold moF; split <;> rfl)
theorem mbp_a8 {k : Nat} {v : Int32} : hU (mb h c S) (c + 8) (.inl (3, 1000, .inl (upd (fun j => gi S 11 j 0) k v))) = mb h c (si S 11 k 0 v) := by
  refine blk_put (k := 8) (by omega) fun q hq => ?_
  by_cases hz : q = 8
  · subst hz
    rw [if_pos rfl]
    show (Sum.inl (3, 1000, .inl (fun j => gi (si S 11 k 0 v) 11 j 0)) : AE) = _
    refine congrArg (fun f => (Sum.inl (3, 1000, .inl f) : AE)) (funext fun j => ?_)
    show gi (si S 11 k 0 v) 11 j 0 = (if j = k then v else gi S 11 j 0)
    rw [gi_si]
    by_cases hj : j = k
    · rw [if_pos ⟨rfl, hj, rfl⟩, if_pos hj]
    · rw [if_neg (fun z => hj z.2.1), if_neg hj]
  · rw [if_neg hz]
    rcases m_ten hq with rfl | rfl | rfl | rfl | rfl | rfl | rfl | rfl | rfl | rfl <;> first | rfl | exact absurd rfl hz | exact ob_cg (fun j => by unfold moF; split <;> rfl)
theorem mbp_a9 {k : Nat} {v : Int32} : hU (mb h c S) (c + 9) (.inl (0, 200, .inl (upd (fun j => gi S 22 j 0) k v))) = mb h c (si S 22 k 0 v) := by
  refine blk_put (k := 9) (by omega) fun q hq => ?_
  by_cases hz : q = 9
  · subst hz
    rw [if_pos rfl]
    show (Sum.inl (0, 200, .inl (fun j => gi (si S 22 k 0 v) 22 j 0)) : AE) = _
    refine congrArg (fun f => (Sum.inl (0, 200, .inl f) : AE)) (funext fun j => ?_)
    show gi (si S 22 k 0 v) 22 j 0 = (if j = k then v else gi S 22 j 0)
    rw [gi_si]
    by_cases hj : j = k
    · rw [if_pos ⟨rfl, hj, rfl⟩, if_pos hj]
    · rw [if_neg (fun z => hj z.2.1), if_neg hj]
  · rw [if_neg hz]
    rcases m_ten hq with rfl | rfl | rfl | rfl | rfl | rfl | rfl | rfl | rfl | rfl <;> first | rfl | exact absurd rfl hz | exact ob_cg (fun j => by unfold moF; split <;> rfl)
end MB
