/-! ===== THE COMMANDS READ ARE LEFT ===== -/
def KC (T : Mem) : (Nat → Int32) × Int32 := (fun j => gi T 22 j 0, gi T 100 23 0)
theorem kc_a {T : Mem} {c j i : Nat} {v : Int32} (h : c ≠ 22) (h2 : c ≠ 100) : KC (si T c j i v) = KC T := by
  unfold KC
  refine Prod.ext (funext fun k => gi_ne (by omega)) (gi_ne (by omega))
theorem kc_b {T : Mem} {j i : Nat} {v : Int32} (h : j ≠ 23) : KC (si T 100 j i v) = KC T := by
  have h1 : ∀ k, gi (si T 100 j i v) 22 k 0 = gi T 22 k 0 := fun k => gi_ne (by omega)
  have h2 : gi (si T 100 j i v) 100 23 0 = gi T 100 23 0 := gi_ne (by omega)
  exact Prod.ext (funext h1) h2
theorem kc_q {T : Mem} {c i : Nat} {v : Int64} : KC (sq T c i v) = KC T := rfl
theorem kc_copyBlock_l41_step {p1 : Int32} {p2 : Int32} {a : (Int32 × Mem)} {K : (Nat → Int32) × Int32} (h : KC a.2 = K) : PO (PS (fun a : (Int32 × Mem) => KC a.2 = K) (fun r : Mem => KC r = K)) (sX10_copyBlock_l41_step p1 p2 a) := by
  unfold sX10_copyBlock_l41_step
  try simp only [olet_eq]
  repeat' (first
    | assumption
    | (with_reducible refine PO_inl ?_)
    | (with_reducible refine PO_s ?_)
    | (with_reducible refine PO_ite ?_ ?_)
    | (with_reducible refine PO_oif ?_)
    | (with_reducible refine PO_oinr ?_)
    | (with_reducible refine PO_bindT (fun _ => ?_))
    | (rw [kc_a (by decide) (by decide)])
    | (rw [kc_b (by decide)])
    | (rw [kc_q])
    | (dsimp only))
theorem kc_copyBlock_l41 {p1 : Int32} {p2 : Int32} {a : (Int32 × Mem)} {K : (Nat → Int32) × Int32} (h : KC a.2 = K) : PO (fun r : Mem => KC r = K) (sX10_copyBlock_l41 p1 p2 a) := by
  unfold sX10_copyBlock_l41
  exact PO_itw (I := fun a : (Int32 × Mem) => KC a.2 = K) (fun a ha => kc_copyBlock_l41_step ha) h
theorem kc_copyBlock_l2_step {p1 : Int32} {p2 : Int32} {a : (Int32 × Mem)} {K : (Nat → Int32) × Int32} (h : KC a.2 = K) : PO (PS (fun a : (Int32 × Mem) => KC a.2 = K) (fun r : Mem => KC r = K)) (sX10_copyBlock_l2_step p1 p2 a) := by
  unfold sX10_copyBlock_l2_step
  try simp only [olet_eq]
  repeat' (first
    | assumption
    | (with_reducible refine PO_inl ?_)
    | (with_reducible refine PO_s ?_)
    | (with_reducible refine PO_ite ?_ ?_)
    | (with_reducible refine PO_oif ?_)
    | (with_reducible refine PO_oinr ?_)
    | (with_reducible refine PO_bind (kc_copyBlock_l41 (K := K) ?_) (fun _ _ => ?_))
    | (with_reducible refine kc_copyBlock_l41 ?_)
    | (with_reducible refine PO_bindT (fun _ => ?_))
    | (rw [kc_a (by decide) (by decide)])
    | (rw [kc_b (by decide)])
    | (rw [kc_q])
    | (dsimp only))
theorem kc_copyBlock_l2 {p1 : Int32} {p2 : Int32} {a : (Int32 × Mem)} {K : (Nat → Int32) × Int32} (h : KC a.2 = K) : PO (fun r : Mem => KC r = K) (sX10_copyBlock_l2 p1 p2 a) := by
  unfold sX10_copyBlock_l2
  exact PO_itw (I := fun a : (Int32 × Mem) => KC a.2 = K) (fun a ha => kc_copyBlock_l2_step ha) h
theorem kc_copyBlock {S : Mem} {p1 : Int32} {p2 : Int32} {K : (Nat → Int32) × Int32} (h : KC S = K) : PO (fun r : Mem => KC r = K) (sX10_copyBlock S p1 p2) := by
  unfold sX10_copyBlock
  try simp only [olet_eq]
  repeat' (first
    | assumption
    | (with_reducible refine PO_inl ?_)
    | (with_reducible refine PO_s ?_)
    | (with_reducible refine PO_ite ?_ ?_)
    | (with_reducible refine PO_oif ?_)
    | (with_reducible refine PO_oinr ?_)
    | (with_reducible refine PO_bind (kc_copyBlock_l2 (K := K) ?_) (fun _ _ => ?_))
    | (with_reducible refine kc_copyBlock_l2 ?_)
    | (with_reducible refine PO_bindT (fun _ => ?_))
    | (rw [kc_a (by decide) (by decide)])
    | (rw [kc_b (by decide)])
    | (rw [kc_q])
    | (dsimp only))
theorem kc_keep_j32 {S : Mem} {K : (Nat → Int32) × Int32} (h : KC S = K) : PO (fun r : Mem => KC r = K) (sX10_keep_j32 S) := by
  unfold sX10_keep_j32
  try simp only [olet_eq]
  repeat' (first
    | assumption
    | (with_reducible refine PO_inl ?_)
    | (with_reducible refine PO_s ?_)
    | (with_reducible refine PO_ite ?_ ?_)
    | (with_reducible refine PO_oif ?_)
    | (with_reducible refine PO_oinr ?_)
    | (with_reducible refine PO_bind (kc_copyBlock (K := K) ?_) (fun _ _ => ?_))
    | (with_reducible refine kc_copyBlock ?_)
    | (with_reducible refine PO_bindT (fun _ => ?_))
    | (rw [kc_a (by decide) (by decide)])
    | (rw [kc_b (by decide)])
    | (rw [kc_q])
    | (dsimp only))
theorem kc_keep {S : Mem} {K : (Nat → Int32) × Int32} (h : KC S = K) : PO (fun r : Mem => KC r = K) (sX10_keep S) := by
  unfold sX10_keep
  try simp only [olet_eq]
  repeat' (first
    | assumption
    | (with_reducible refine PO_inl ?_)
    | (with_reducible refine PO_s ?_)
    | (with_reducible refine PO_ite ?_ ?_)
    | (with_reducible refine PO_oif ?_)
    | (with_reducible refine PO_oinr ?_)
    | (with_reducible refine PO_bind (kc_keep_j32 (K := K) ?_) (fun _ _ => ?_))
    | (with_reducible refine kc_keep_j32 ?_)
    | (with_reducible refine PO_bindT (fun _ => ?_))
    | (rw [kc_a (by decide) (by decide)])
    | (rw [kc_b (by decide)])
    | (rw [kc_q])
    | (dsimp only))
theorem kc_set {S : Mem} {p1 : Int32} {p2 : Int32} {p3 : Int32} {K : (Nat → Int32) × Int32} (h : KC S = K) : PO (fun r : Mem => KC r = K) (sX10_set S p1 p2 p3) := by
  unfold sX10_set
  try simp only [olet_eq]
  repeat' (first
    | assumption
    | (with_reducible refine PO_inl ?_)
    | (with_reducible refine PO_s ?_)
    | (with_reducible refine PO_ite ?_ ?_)
    | (with_reducible refine PO_oif ?_)
    | (with_reducible refine PO_oinr ?_)
    | (with_reducible refine PO_bindT (fun _ => ?_))
    | (rw [kc_a (by decide) (by decide)])
    | (rw [kc_b (by decide)])
    | (rw [kc_q])
    | (dsimp only))
theorem kc_add {S : Mem} {p1 : Int32} {p2 : Int32} {p3 : Int32} {K : (Nat → Int32) × Int32} (h : KC S = K) : PO (fun r : Mem => KC r = K) (sX10_add S p1 p2 p3) := by
  unfold sX10_add
  try simp only [olet_eq]
  repeat' (first
    | assumption
    | (with_reducible refine PO_inl ?_)
    | (with_reducible refine PO_s ?_)
    | (with_reducible refine PO_ite ?_ ?_)
    | (with_reducible refine PO_oif ?_)
    | (with_reducible refine PO_oinr ?_)
    | (with_reducible refine PO_bindT (fun _ => ?_))
    | (rw [kc_a (by decide) (by decide)])
    | (rw [kc_b (by decide)])
    | (rw [kc_q])
    | (dsimp only))
theorem kc_planNow {S : Mem} {p1 : Int32} {p2 : Int32} {K : (Nat → Int32) × Int32} (h : KC S = K) : PO (fun r : Int32 × Mem => KC r.2 = K) (sX10_planNow S p1 p2) := by
  unfold sX10_planNow
  try simp only [olet_eq]
  repeat' (first
    | assumption
    | (with_reducible refine PO_inl ?_)
    | (with_reducible refine PO_s ?_)
    | (with_reducible refine PO_ite ?_ ?_)
    | (with_reducible refine PO_oif ?_)
    | (with_reducible refine PO_oinr ?_)
    | (with_reducible refine PO_bind (kc_keep (K := K) ?_) (fun _ _ => ?_))
    | (with_reducible refine kc_keep ?_)
    | (with_reducible refine PO_bind (kc_set (K := K) ?_) (fun _ _ => ?_))
    | (with_reducible refine kc_set ?_)
    | (with_reducible refine PO_bind (kc_add (K := K) ?_) (fun _ _ => ?_))
    | (with_reducible refine kc_add ?_)
    | (with_reducible refine PO_bindT (fun _ => ?_))
    | (rw [kc_a (by decide) (by decide)])
    | (rw [kc_b (by decide)])
    | (rw [kc_q])
    | (dsimp only))
theorem kc_cancelNow_j39 {S : Mem} {p1 : Int32} {K : (Nat → Int32) × Int32} (h : KC S = K) : PO (fun r : Int32 × Mem => KC r.2 = K) (sX10_cancelNow_j39 S p1) := by
  unfold sX10_cancelNow_j39
  try simp only [olet_eq]
  repeat' (first
    | assumption
    | (with_reducible refine PO_inl ?_)
    | (with_reducible refine PO_s ?_)
    | (with_reducible refine PO_ite ?_ ?_)
    | (with_reducible refine PO_oif ?_)
    | (with_reducible refine PO_oinr ?_)
    | (with_reducible refine PO_bindT (fun _ => ?_))
    | (rw [kc_a (by decide) (by decide)])
    | (rw [kc_b (by decide)])
    | (rw [kc_q])
    | (dsimp only))
theorem kc_cancelNow {S : Mem} {p1 : Int32} {K : (Nat → Int32) × Int32} (h : KC S = K) : PO (fun r : Int32 × Mem => KC r.2 = K) (sX10_cancelNow S p1) := by
  unfold sX10_cancelNow
  try simp only [olet_eq]
  repeat' (first
    | assumption
    | (with_reducible refine PO_inl ?_)
    | (with_reducible refine PO_s ?_)
    | (with_reducible refine PO_ite ?_ ?_)
    | (with_reducible refine PO_oif ?_)
    | (with_reducible refine PO_oinr ?_)
    | (with_reducible refine PO_bind (kc_keep (K := K) ?_) (fun _ _ => ?_))
    | (with_reducible refine kc_keep ?_)
    | (with_reducible refine PO_bind (kc_set (K := K) ?_) (fun _ _ => ?_))
    | (with_reducible refine kc_set ?_)
    | (with_reducible refine PO_bind (kc_add (K := K) ?_) (fun _ _ => ?_))
    | (with_reducible refine kc_add ?_)
    | (with_reducible refine PO_bind (kc_cancelNow_j39 (K := K) ?_) (fun _ _ => ?_))
    | (with_reducible refine kc_cancelNow_j39 ?_)
    | (with_reducible refine PO_bindT (fun _ => ?_))
    | (rw [kc_a (by decide) (by decide)])
    | (rw [kc_b (by decide)])
    | (rw [kc_q])
    | (dsimp only))
theorem kc_approveNow {S : Mem} {p1 : Int32} {K : (Nat → Int32) × Int32} (h : KC S = K) : PO (fun r : Int32 × Mem => KC r.2 = K) (sX10_approveNow S p1) := by
  unfold sX10_approveNow
  try simp only [olet_eq]
  repeat' (first
    | assumption
    | (with_reducible refine PO_inl ?_)
    | (with_reducible refine PO_s ?_)
    | (with_reducible refine PO_ite ?_ ?_)
    | (with_reducible refine PO_oif ?_)
    | (with_reducible refine PO_oinr ?_)
    | (with_reducible refine PO_bind (kc_keep (K := K) ?_) (fun _ _ => ?_))
    | (with_reducible refine kc_keep ?_)
    | (with_reducible refine PO_bind (kc_set (K := K) ?_) (fun _ _ => ?_))
    | (with_reducible refine kc_set ?_)
    | (with_reducible refine PO_bindT (fun _ => ?_))
    | (rw [kc_a (by decide) (by decide)])
    | (rw [kc_b (by decide)])
    | (rw [kc_q])
    | (dsimp only))
theorem kc_lendNow {S : Mem} {p1 : Int32} {p2 : Int32} {p3 : Int32} {p4 : Int32} {K : (Nat → Int32) × Int32} (h : KC S = K) : PO (fun r : Int32 × Mem => KC r.2 = K) (sX10_lendNow S p1 p2 p3 p4) := by
  unfold sX10_lendNow
  try simp only [olet_eq]
  repeat' (first
    | assumption
    | (with_reducible refine PO_inl ?_)
    | (with_reducible refine PO_s ?_)
    | (with_reducible refine PO_ite ?_ ?_)
    | (with_reducible refine PO_oif ?_)
    | (with_reducible refine PO_oinr ?_)
    | (with_reducible refine PO_bind (kc_keep (K := K) ?_) (fun _ _ => ?_))
    | (with_reducible refine kc_keep ?_)
    | (with_reducible refine PO_bind (kc_set (K := K) ?_) (fun _ _ => ?_))
    | (with_reducible refine kc_set ?_)
    | (with_reducible refine PO_bindT (fun _ => ?_))
    | (rw [kc_a (by decide) (by decide)])
    | (rw [kc_b (by decide)])
    | (rw [kc_q])
    | (dsimp only))
theorem kc_recallNow {S : Mem} {p1 : Int32} {K : (Nat → Int32) × Int32} (h : KC S = K) : PO (fun r : Int32 × Mem => KC r.2 = K) (sX10_recallNow S p1) := by
  unfold sX10_recallNow
  try simp only [olet_eq]
  repeat' (first
    | assumption
    | (with_reducible refine PO_inl ?_)
    | (with_reducible refine PO_s ?_)
    | (with_reducible refine PO_ite ?_ ?_)
    | (with_reducible refine PO_oif ?_)
    | (with_reducible refine PO_oinr ?_)
    | (with_reducible refine PO_bind (kc_keep (K := K) ?_) (fun _ _ => ?_))
    | (with_reducible refine kc_keep ?_)
    | (with_reducible refine PO_bind (kc_set (K := K) ?_) (fun _ _ => ?_))
    | (with_reducible refine kc_set ?_)
    | (with_reducible refine PO_bindT (fun _ => ?_))
    | (rw [kc_a (by decide) (by decide)])
    | (rw [kc_b (by decide)])
    | (rw [kc_q])
    | (dsimp only))
theorem kc_note_j56 {S : Mem} {p1 : Int32} {p2 : Int32} {p3 : Int32} {p4 : Int32} {y0 : Int32} {K : (Nat → Int32) × Int32} (h : KC S = K) : PO (fun r : Mem => KC r = K) (sX10_note_j56 S p1 p2 p3 p4 y0) := by
  unfold sX10_note_j56
  try simp only [olet_eq]
  repeat' (first
    | assumption
    | (with_reducible refine PO_inl ?_)
    | (with_reducible refine PO_s ?_)
    | (with_reducible refine PO_ite ?_ ?_)
    | (with_reducible refine PO_oif ?_)
    | (with_reducible refine PO_oinr ?_)
    | (with_reducible refine PO_bindT (fun _ => ?_))
    | (rw [kc_a (by decide) (by decide)])
    | (rw [kc_b (by decide)])
    | (rw [kc_q])
    | (dsimp only))
theorem kc_note {S : Mem} {p1 : Int32} {p2 : Int32} {p3 : Int32} {p4 : Int32} {K : (Nat → Int32) × Int32} (h : KC S = K) : PO (fun r : Mem => KC r = K) (sX10_note S p1 p2 p3 p4) := by
  unfold sX10_note
  try simp only [olet_eq]
  repeat' (first
    | assumption
    | (with_reducible refine PO_inl ?_)
    | (with_reducible refine PO_s ?_)
    | (with_reducible refine PO_ite ?_ ?_)
    | (with_reducible refine PO_oif ?_)
    | (with_reducible refine PO_oinr ?_)
    | (with_reducible refine PO_bind (kc_note_j56 (K := K) ?_) (fun _ _ => ?_))
    | (with_reducible refine kc_note_j56 ?_)
    | (with_reducible refine PO_bindT (fun _ => ?_))
    | (rw [kc_a (by decide) (by decide)])
    | (rw [kc_b (by decide)])
    | (rw [kc_q])
    | (dsimp only))
theorem kc_cure {S : Mem} {p1 : Int32} {p2 : Int32} {K : (Nat → Int32) × Int32} (h : KC S = K) : PO (fun r : Mem => KC r = K) (sX10_cure S p1 p2) := by
  unfold sX10_cure
  try simp only [olet_eq]
  repeat' (first
    | assumption
    | (with_reducible refine PO_inl ?_)
    | (with_reducible refine PO_s ?_)
    | (with_reducible refine PO_ite ?_ ?_)
    | (with_reducible refine PO_oif ?_)
    | (with_reducible refine PO_oinr ?_)
    | (with_reducible refine PO_bind (kc_set (K := K) ?_) (fun _ _ => ?_))
    | (with_reducible refine kc_set ?_)
    | (with_reducible refine PO_bindT (fun _ => ?_))
    | (rw [kc_a (by decide) (by decide)])
    | (rw [kc_b (by decide)])
    | (rw [kc_q])
    | (dsimp only))
theorem kc_givePresses_l26_step {a : (Int32 × Mem)} {K : (Nat → Int32) × Int32} (h : KC a.2 = K) : PO (PS (fun a : (Int32 × Mem) => KC a.2 = K) (fun r : Mem => KC r = K)) (sX10_givePresses_l26_step a) := by
  unfold sX10_givePresses_l26_step
  try simp only [olet_eq]
  repeat' (first
    | assumption
    | (with_reducible refine PO_inl ?_)
    | (with_reducible refine PO_s ?_)
    | (with_reducible refine PO_ite ?_ ?_)
    | (with_reducible refine PO_oif ?_)
    | (with_reducible refine PO_oinr ?_)
    | (with_reducible refine PO_bind (kc_note (K := K) ?_) (fun _ _ => ?_))
    | (with_reducible refine kc_note ?_)
    | (with_reducible refine PO_bind (kc_cure (K := K) ?_) (fun _ _ => ?_))
    | (with_reducible refine kc_cure ?_)
    | (with_reducible refine PO_bindT (fun _ => ?_))
    | (rw [kc_a (by decide) (by decide)])
    | (rw [kc_b (by decide)])
    | (rw [kc_q])
    | (dsimp only))
theorem kc_givePresses_l26 {a : (Int32 × Mem)} {K : (Nat → Int32) × Int32} (h : KC a.2 = K) : PO (fun r : Mem => KC r = K) (sX10_givePresses_l26 a) := by
  unfold sX10_givePresses_l26
  exact PO_itw (I := fun a : (Int32 × Mem) => KC a.2 = K) (fun a ha => kc_givePresses_l26_step ha) h
theorem kc_givePresses_l2_step {a : (Int32 × Mem)} {K : (Nat → Int32) × Int32} (h : KC a.2 = K) : PO (PS (fun a : (Int32 × Mem) => KC a.2 = K) (fun r : Mem => KC r = K)) (sX10_givePresses_l2_step a) := by
  unfold sX10_givePresses_l2_step
  try simp only [olet_eq]
  repeat' (first
    | assumption
    | (with_reducible refine PO_inl ?_)
    | (with_reducible refine PO_s ?_)
    | (with_reducible refine PO_ite ?_ ?_)
    | (with_reducible refine PO_oif ?_)
    | (with_reducible refine PO_oinr ?_)
    | (with_reducible refine PO_bind (kc_givePresses_l26 (K := K) ?_) (fun _ _ => ?_))
    | (with_reducible refine kc_givePresses_l26 ?_)
    | (with_reducible refine PO_bindT (fun _ => ?_))
    | (rw [kc_a (by decide) (by decide)])
    | (rw [kc_b (by decide)])
    | (rw [kc_q])
    | (dsimp only))
theorem kc_givePresses_l2 {a : (Int32 × Mem)} {K : (Nat → Int32) × Int32} (h : KC a.2 = K) : PO (fun r : Mem => KC r = K) (sX10_givePresses_l2 a) := by
  unfold sX10_givePresses_l2
  exact PO_itw (I := fun a : (Int32 × Mem) => KC a.2 = K) (fun a ha => kc_givePresses_l2_step ha) h
theorem kc_givePresses {S : Mem} {K : (Nat → Int32) × Int32} (h : KC S = K) : PO (fun r : Mem => KC r = K) (sX10_givePresses S) := by
  unfold sX10_givePresses
  try simp only [olet_eq]
  repeat' (first
    | assumption
    | (with_reducible refine PO_inl ?_)
    | (with_reducible refine PO_s ?_)
    | (with_reducible refine PO_ite ?_ ?_)
    | (with_reducible refine PO_oif ?_)
    | (with_reducible refine PO_oinr ?_)
    | (with_reducible refine PO_bind (kc_givePresses_l2 (K := K) ?_) (fun _ _ => ?_))
    | (with_reducible refine kc_givePresses_l2 ?_)
    | (with_reducible refine PO_bindT (fun _ => ?_))
    | (rw [kc_a (by decide) (by decide)])
    | (rw [kc_b (by decide)])
    | (rw [kc_q])
    | (dsimp only))
theorem kc_unqueue_l2_step {p1 : Int32} {a : (Int32 × Mem)} {K : (Nat → Int32) × Int32} (h : KC a.2 = K) : PO (PS (fun a : (Int32 × Mem) => KC a.2 = K) (fun r : Mem => KC r = K)) (sX10_unqueue_l2_step p1 a) := by
  unfold sX10_unqueue_l2_step
  try simp only [olet_eq]
  repeat' (first
    | assumption
    | (with_reducible refine PO_inl ?_)
    | (with_reducible refine PO_s ?_)
    | (with_reducible refine PO_ite ?_ ?_)
    | (with_reducible refine PO_oif ?_)
    | (with_reducible refine PO_oinr ?_)
    | (with_reducible refine PO_bind (kc_set (K := K) ?_) (fun _ _ => ?_))
    | (with_reducible refine kc_set ?_)
    | (with_reducible refine PO_bind (kc_add (K := K) ?_) (fun _ _ => ?_))
    | (with_reducible refine kc_add ?_)
    | (with_reducible refine PO_bindT (fun _ => ?_))
    | (rw [kc_a (by decide) (by decide)])
    | (rw [kc_b (by decide)])
    | (rw [kc_q])
    | (dsimp only))
theorem kc_unqueue_l2 {p1 : Int32} {a : (Int32 × Mem)} {K : (Nat → Int32) × Int32} (h : KC a.2 = K) : PO (fun r : Mem => KC r = K) (sX10_unqueue_l2 p1 a) := by
  unfold sX10_unqueue_l2
  exact PO_itw (I := fun a : (Int32 × Mem) => KC a.2 = K) (fun a ha => kc_unqueue_l2_step ha) h
theorem kc_unqueue {S : Mem} {p1 : Int32} {K : (Nat → Int32) × Int32} (h : KC S = K) : PO (fun r : Mem => KC r = K) (sX10_unqueue S p1) := by
  unfold sX10_unqueue
  try simp only [olet_eq]
  repeat' (first
    | assumption
    | (with_reducible refine PO_inl ?_)
    | (with_reducible refine PO_s ?_)
    | (with_reducible refine PO_ite ?_ ?_)
    | (with_reducible refine PO_oif ?_)
    | (with_reducible refine PO_oinr ?_)
    | (with_reducible refine PO_bind (kc_unqueue_l2 (K := K) ?_) (fun _ _ => ?_))
    | (with_reducible refine kc_unqueue_l2 ?_)
    | (with_reducible refine PO_bindT (fun _ => ?_))
    | (rw [kc_a (by decide) (by decide)])
    | (rw [kc_b (by decide)])
    | (rw [kc_q])
    | (dsimp only))
theorem kc_begin {S : Mem} {p1 : Int32} {K : (Nat → Int32) × Int32} (h : KC S = K) : PO (fun r : Mem => KC r = K) (sX10_begin S p1) := by
  unfold sX10_begin
  try simp only [olet_eq]
  repeat' (first
    | assumption
    | (with_reducible refine PO_inl ?_)
    | (with_reducible refine PO_s ?_)
    | (with_reducible refine PO_ite ?_ ?_)
    | (with_reducible refine PO_oif ?_)
    | (with_reducible refine PO_oinr ?_)
    | (with_reducible refine PO_bind (kc_set (K := K) ?_) (fun _ _ => ?_))
    | (with_reducible refine kc_set ?_)
    | (with_reducible refine PO_bind (kc_unqueue (K := K) ?_) (fun _ _ => ?_))
    | (with_reducible refine kc_unqueue ?_)
    | (with_reducible refine PO_bindT (fun _ => ?_))
    | (rw [kc_a (by decide) (by decide)])
    | (rw [kc_b (by decide)])
    | (rw [kc_q])
    | (dsimp only))
theorem kc_hour_l55_step {a : (Int32 × Mem)} {K : (Nat → Int32) × Int32} (h : KC a.2 = K) : PO (PS (fun a : (Int32 × Mem) => KC a.2 = K) (fun r : Mem => KC r = K)) (sX10_hour_l55_step a) := by
  unfold sX10_hour_l55_step
  try simp only [olet_eq]
  repeat' (first
    | assumption
    | (with_reducible refine PO_inl ?_)
    | (with_reducible refine PO_s ?_)
    | (with_reducible refine PO_ite ?_ ?_)
    | (with_reducible refine PO_oif ?_)
    | (with_reducible refine PO_oinr ?_)
    | (with_reducible refine PO_bind (kc_begin (K := K) ?_) (fun _ _ => ?_))
    | (with_reducible refine kc_begin ?_)
    | (with_reducible refine PO_bindT (fun _ => ?_))
    | (rw [kc_a (by decide) (by decide)])
    | (rw [kc_b (by decide)])
    | (rw [kc_q])
    | (dsimp only))
theorem kc_hour_l55 {a : (Int32 × Mem)} {K : (Nat → Int32) × Int32} (h : KC a.2 = K) : PO (fun r : Mem => KC r = K) (sX10_hour_l55 a) := by
  unfold sX10_hour_l55
  exact PO_itw (I := fun a : (Int32 × Mem) => KC a.2 = K) (fun a ha => kc_hour_l55_step ha) h
theorem kc_lendOut_j66 {S : Mem} {p1 : Int32} {y0 : Int32} {K : (Nat → Int32) × Int32} (h : KC S = K) : PO (fun r : Mem => KC r = K) (sX10_lendOut_j66 S p1 y0) := by
  unfold sX10_lendOut_j66
  try simp only [olet_eq]
  repeat' (first
    | assumption
    | (with_reducible refine PO_inl ?_)
    | (with_reducible refine PO_s ?_)
    | (with_reducible refine PO_ite ?_ ?_)
    | (with_reducible refine PO_oif ?_)
    | (with_reducible refine PO_oinr ?_)
    | (with_reducible refine PO_bind (kc_set (K := K) ?_) (fun _ _ => ?_))
    | (with_reducible refine kc_set ?_)
    | (with_reducible refine PO_bindT (fun _ => ?_))
    | (rw [kc_a (by decide) (by decide)])
    | (rw [kc_b (by decide)])
    | (rw [kc_q])
    | (dsimp only))
theorem kc_lendOut_j65 {S : Mem} {p1 : Int32} {K : (Nat → Int32) × Int32} (h : KC S = K) : PO (fun r : Mem => KC r = K) (sX10_lendOut_j65 S p1) := by
  unfold sX10_lendOut_j65
  try simp only [olet_eq]
  repeat' (first
    | assumption
    | (with_reducible refine PO_inl ?_)
    | (with_reducible refine PO_s ?_)
    | (with_reducible refine PO_ite ?_ ?_)
    | (with_reducible refine PO_oif ?_)
    | (with_reducible refine PO_oinr ?_)
    | (with_reducible refine PO_bind (kc_lendOut_j66 (K := K) ?_) (fun _ _ => ?_))
    | (with_reducible refine kc_lendOut_j66 ?_)
    | (with_reducible refine PO_bindT (fun _ => ?_))
    | (rw [kc_a (by decide) (by decide)])
    | (rw [kc_b (by decide)])
    | (rw [kc_q])
    | (dsimp only))
theorem kc_lendOut {S : Mem} {p1 : Int32} {K : (Nat → Int32) × Int32} (h : KC S = K) : PO (fun r : Mem => KC r = K) (sX10_lendOut S p1) := by
  unfold sX10_lendOut
  try simp only [olet_eq]
  repeat' (first
    | assumption
    | (with_reducible refine PO_inl ?_)
    | (with_reducible refine PO_s ?_)
    | (with_reducible refine PO_ite ?_ ?_)
    | (with_reducible refine PO_oif ?_)
    | (with_reducible refine PO_oinr ?_)
    | (with_reducible refine PO_bind (kc_lendOut_j66 (K := K) ?_) (fun _ _ => ?_))
    | (with_reducible refine kc_lendOut_j66 ?_)
    | (with_reducible refine PO_bind (kc_lendOut_j65 (K := K) ?_) (fun _ _ => ?_))
    | (with_reducible refine kc_lendOut_j65 ?_)
    | (with_reducible refine PO_bindT (fun _ => ?_))
    | (rw [kc_a (by decide) (by decide)])
    | (rw [kc_b (by decide)])
    | (rw [kc_q])
    | (dsimp only))
theorem kc_hour_l29_step {a : (Int32 × Mem)} {K : (Nat → Int32) × Int32} (h : KC a.2 = K) : PO (PS (fun a : (Int32 × Mem) => KC a.2 = K) (fun r : Mem => KC r = K)) (sX10_hour_l29_step a) := by
  unfold sX10_hour_l29_step
  try simp only [olet_eq]
  repeat' (first
    | assumption
    | (with_reducible refine PO_inl ?_)
    | (with_reducible refine PO_s ?_)
    | (with_reducible refine PO_ite ?_ ?_)
    | (with_reducible refine PO_oif ?_)
    | (with_reducible refine PO_oinr ?_)
    | (with_reducible refine PO_bind (kc_hour_l55 (K := K) ?_) (fun _ _ => ?_))
    | (with_reducible refine kc_hour_l55 ?_)
    | (with_reducible refine PO_bind (kc_lendOut (K := K) ?_) (fun _ _ => ?_))
    | (with_reducible refine kc_lendOut ?_)
    | (with_reducible refine PO_bindT (fun _ => ?_))
    | (rw [kc_a (by decide) (by decide)])
    | (rw [kc_b (by decide)])
    | (rw [kc_q])
    | (dsimp only))
theorem kc_hour_l29 {a : (Int32 × Mem)} {K : (Nat → Int32) × Int32} (h : KC a.2 = K) : PO (fun r : Mem => KC r = K) (sX10_hour_l29 a) := by
  unfold sX10_hour_l29
  exact PO_itw (I := fun a : (Int32 × Mem) => KC a.2 = K) (fun a ha => kc_hour_l29_step ha) h
theorem kc_shelve {S : Mem} {p1 : Int32} {K : (Nat → Int32) × Int32} (h : KC S = K) : PO (fun r : Mem => KC r = K) (sX10_shelve S p1) := by
  unfold sX10_shelve
  try simp only [olet_eq]
  repeat' (first
    | assumption
    | (with_reducible refine PO_inl ?_)
    | (with_reducible refine PO_s ?_)
    | (with_reducible refine PO_ite ?_ ?_)
    | (with_reducible refine PO_oif ?_)
    | (with_reducible refine PO_oinr ?_)
    | (with_reducible refine PO_bind (kc_set (K := K) ?_) (fun _ _ => ?_))
    | (with_reducible refine kc_set ?_)
    | (with_reducible refine PO_bindT (fun _ => ?_))
    | (rw [kc_a (by decide) (by decide)])
    | (rw [kc_b (by decide)])
    | (rw [kc_q])
    | (dsimp only))
theorem kc_finish {S : Mem} {p1 : Int32} {K : (Nat → Int32) × Int32} (h : KC S = K) : PO (fun r : Mem => KC r = K) (sX10_finish S p1) := by
  unfold sX10_finish
  try simp only [olet_eq]
  repeat' (first
    | assumption
    | (with_reducible refine PO_inl ?_)
    | (with_reducible refine PO_s ?_)
    | (with_reducible refine PO_ite ?_ ?_)
    | (with_reducible refine PO_oif ?_)
    | (with_reducible refine PO_oinr ?_)
    | (with_reducible refine PO_bind (kc_set (K := K) ?_) (fun _ _ => ?_))
    | (with_reducible refine kc_set ?_)
    | (with_reducible refine PO_bind (kc_add (K := K) ?_) (fun _ _ => ?_))
    | (with_reducible refine kc_add ?_)
    | (with_reducible refine PO_bind (kc_note (K := K) ?_) (fun _ _ => ?_))
    | (with_reducible refine kc_note ?_)
    | (with_reducible refine PO_bind (kc_cure (K := K) ?_) (fun _ _ => ?_))
    | (with_reducible refine kc_cure ?_)
    | (with_reducible refine PO_bind (kc_shelve (K := K) ?_) (fun _ _ => ?_))
    | (with_reducible refine kc_shelve ?_)
    | (with_reducible refine PO_bindT (fun _ => ?_))
    | (rw [kc_a (by decide) (by decide)])
    | (rw [kc_b (by decide)])
    | (rw [kc_q])
    | (dsimp only))
theorem kc_age_j82 {S : Mem} {p1 : Int32} {y0 : Int32} {K : (Nat → Int32) × Int32} (h : KC S = K) : PO (fun r : Mem => KC r = K) (sX10_age_j82 S p1 y0) := by
  unfold sX10_age_j82
  try simp only [olet_eq]
  repeat' (first
    | assumption
    | (with_reducible refine PO_inl ?_)
    | (with_reducible refine PO_s ?_)
    | (with_reducible refine PO_ite ?_ ?_)
    | (with_reducible refine PO_oif ?_)
    | (with_reducible refine PO_oinr ?_)
    | (with_reducible refine PO_bind (kc_set (K := K) ?_) (fun _ _ => ?_))
    | (with_reducible refine kc_set ?_)
    | (with_reducible refine PO_bind (kc_note (K := K) ?_) (fun _ _ => ?_))
    | (with_reducible refine kc_note ?_)
    | (with_reducible refine PO_bind (kc_shelve (K := K) ?_) (fun _ _ => ?_))
    | (with_reducible refine kc_shelve ?_)
    | (with_reducible refine PO_bindT (fun _ => ?_))
    | (rw [kc_a (by decide) (by decide)])
    | (rw [kc_b (by decide)])
    | (rw [kc_q])
    | (dsimp only))
theorem kc_age_j72 {S : Mem} {p1 : Int32} {y0 : Int32} {K : (Nat → Int32) × Int32} (h : KC S = K) : PO (fun r : Mem => KC r = K) (sX10_age_j72 S p1 y0) := by
  unfold sX10_age_j72
  try simp only [olet_eq]
  repeat' (first
    | assumption
    | (with_reducible refine PO_inl ?_)
    | (with_reducible refine PO_s ?_)
    | (with_reducible refine PO_ite ?_ ?_)
    | (with_reducible refine PO_oif ?_)
    | (with_reducible refine PO_oinr ?_)
    | (with_reducible refine PO_bind (kc_shelve (K := K) ?_) (fun _ _ => ?_))
    | (with_reducible refine kc_shelve ?_)
    | (with_reducible refine PO_bind (kc_age_j82 (K := K) ?_) (fun _ _ => ?_))
    | (with_reducible refine kc_age_j82 ?_)
    | (with_reducible refine PO_bindT (fun _ => ?_))
    | (rw [kc_a (by decide) (by decide)])
    | (rw [kc_b (by decide)])
    | (rw [kc_q])
    | (dsimp only))
theorem kc_age {S : Mem} {p1 : Int32} {K : (Nat → Int32) × Int32} (h : KC S = K) : PO (fun r : Mem => KC r = K) (sX10_age S p1) := by
  unfold sX10_age
  try simp only [olet_eq]
  repeat' (first
    | assumption
    | (with_reducible refine PO_inl ?_)
    | (with_reducible refine PO_s ?_)
    | (with_reducible refine PO_ite ?_ ?_)
    | (with_reducible refine PO_oif ?_)
    | (with_reducible refine PO_oinr ?_)
    | (with_reducible refine PO_bind (kc_add (K := K) ?_) (fun _ _ => ?_))
    | (with_reducible refine kc_add ?_)
    | (with_reducible refine PO_bind (kc_finish (K := K) ?_) (fun _ _ => ?_))
    | (with_reducible refine kc_finish ?_)
    | (with_reducible refine PO_bind (kc_age_j72 (K := K) ?_) (fun _ _ => ?_))
    | (with_reducible refine kc_age_j72 ?_)
    | (with_reducible refine PO_bindT (fun _ => ?_))
    | (rw [kc_a (by decide) (by decide)])
    | (rw [kc_b (by decide)])
    | (rw [kc_q])
    | (dsimp only))
theorem kc_hour_l2_step {a : (Int32 × Mem)} {K : (Nat → Int32) × Int32} (h : KC a.2 = K) : PO (PS (fun a : (Int32 × Mem) => KC a.2 = K) (fun r : Mem => KC r = K)) (sX10_hour_l2_step a) := by
  unfold sX10_hour_l2_step
  try simp only [olet_eq]
  repeat' (first
    | assumption
    | (with_reducible refine PO_inl ?_)
    | (with_reducible refine PO_s ?_)
    | (with_reducible refine PO_ite ?_ ?_)
    | (with_reducible refine PO_oif ?_)
    | (with_reducible refine PO_oinr ?_)
    | (with_reducible refine PO_bind (kc_givePresses (K := K) ?_) (fun _ _ => ?_))
    | (with_reducible refine kc_givePresses ?_)
    | (with_reducible refine PO_bind (kc_hour_l29 (K := K) ?_) (fun _ _ => ?_))
    | (with_reducible refine kc_hour_l29 ?_)
    | (with_reducible refine PO_bind (kc_age (K := K) ?_) (fun _ _ => ?_))
    | (with_reducible refine kc_age ?_)
    | (with_reducible refine PO_bindT (fun _ => ?_))
    | (rw [kc_a (by decide) (by decide)])
    | (rw [kc_b (by decide)])
    | (rw [kc_q])
    | (dsimp only))
theorem kc_hour_l2 {a : (Int32 × Mem)} {K : (Nat → Int32) × Int32} (h : KC a.2 = K) : PO (fun r : Mem => KC r = K) (sX10_hour_l2 a) := by
  unfold sX10_hour_l2
  exact PO_itw (I := fun a : (Int32 × Mem) => KC a.2 = K) (fun a ha => kc_hour_l2_step ha) h
theorem kc_hour {S : Mem} {K : (Nat → Int32) × Int32} (h : KC S = K) : PO (fun r : Mem => KC r = K) (sX10_hour S) := by
  unfold sX10_hour
  try simp only [olet_eq]
  repeat' (first
    | assumption
    | (with_reducible refine PO_inl ?_)
    | (with_reducible refine PO_s ?_)
    | (with_reducible refine PO_ite ?_ ?_)
    | (with_reducible refine PO_oif ?_)
    | (with_reducible refine PO_oinr ?_)
    | (with_reducible refine PO_bind (kc_hour_l2 (K := K) ?_) (fun _ _ => ?_))
    | (with_reducible refine kc_hour_l2 ?_)
    | (with_reducible refine PO_bindT (fun _ => ?_))
    | (rw [kc_a (by decide) (by decide)])
    | (rw [kc_b (by decide)])
    | (rw [kc_q])
    | (dsimp only))
theorem kc_hours_l2_step {p1 : Int32} {a : (Int32 × Mem)} {K : (Nat → Int32) × Int32} (h : KC a.2 = K) : PO (PS (fun a : (Int32 × Mem) => KC a.2 = K) (fun r : Mem => KC r = K)) (sX10_hours_l2_step p1 a) := by
  unfold sX10_hours_l2_step
  try simp only [olet_eq]
  repeat' (first
    | assumption
    | (with_reducible refine PO_inl ?_)
    | (with_reducible refine PO_s ?_)
    | (with_reducible refine PO_ite ?_ ?_)
    | (with_reducible refine PO_oif ?_)
    | (with_reducible refine PO_oinr ?_)
    | (with_reducible refine PO_bind (kc_hour (K := K) ?_) (fun _ _ => ?_))
    | (with_reducible refine kc_hour ?_)
    | (with_reducible refine PO_bindT (fun _ => ?_))
    | (rw [kc_a (by decide) (by decide)])
    | (rw [kc_b (by decide)])
    | (rw [kc_q])
    | (dsimp only))
theorem kc_hours_l2 {p1 : Int32} {a : (Int32 × Mem)} {K : (Nat → Int32) × Int32} (h : KC a.2 = K) : PO (fun r : Mem => KC r = K) (sX10_hours_l2 p1 a) := by
  unfold sX10_hours_l2
  exact PO_itw (I := fun a : (Int32 × Mem) => KC a.2 = K) (fun a ha => kc_hours_l2_step ha) h
theorem kc_hours {S : Mem} {p1 : Int32} {K : (Nat → Int32) × Int32} (h : KC S = K) : PO (fun r : Mem => KC r = K) (sX10_hours S p1) := by
  unfold sX10_hours
  try simp only [olet_eq]
  repeat' (first
    | assumption
    | (with_reducible refine PO_inl ?_)
    | (with_reducible refine PO_s ?_)
    | (with_reducible refine PO_ite ?_ ?_)
    | (with_reducible refine PO_oif ?_)
    | (with_reducible refine PO_oinr ?_)
    | (with_reducible refine PO_bind (kc_hours_l2 (K := K) ?_) (fun _ _ => ?_))
    | (with_reducible refine kc_hours_l2 ?_)
    | (with_reducible refine PO_bindT (fun _ => ?_))
    | (rw [kc_a (by decide) (by decide)])
    | (rw [kc_b (by decide)])
    | (rw [kc_q])
    | (dsimp only))
theorem kc_tickNow {S : Mem} {p1 : Int32} {K : (Nat → Int32) × Int32} (h : KC S = K) : PO (fun r : Int32 × Mem => KC r.2 = K) (sX10_tickNow S p1) := by
  unfold sX10_tickNow
  try simp only [olet_eq]
  repeat' (first
    | assumption
    | (with_reducible refine PO_inl ?_)
    | (with_reducible refine PO_s ?_)
    | (with_reducible refine PO_ite ?_ ?_)
    | (with_reducible refine PO_oif ?_)
    | (with_reducible refine PO_oinr ?_)
    | (with_reducible refine PO_bind (kc_keep (K := K) ?_) (fun _ _ => ?_))
    | (with_reducible refine kc_keep ?_)
    | (with_reducible refine PO_bind (kc_hours (K := K) ?_) (fun _ _ => ?_))
    | (with_reducible refine kc_hours ?_)
    | (with_reducible refine PO_bindT (fun _ => ?_))
    | (rw [kc_a (by decide) (by decide)])
    | (rw [kc_b (by decide)])
    | (rw [kc_q])
    | (dsimp only))
/-! the program's side -/
def RK (R : Mem) : Except (Nat × XT) (Int32 × XT) → Prop
  | .ok v => v.2.2.2.2.1 = R
  | .error e => e.2.2.2.2.1 = R
theorem rk_row {S : XT} {B k : Nat} : PO (fun r => r.2.2.2.2.1 = S.2.2.2.1) (sRow S B k) := by
  unfold sRow
  refine PO_oifp ?_
  split
  · exact PO_s rfl
  · exact PO_oifp (PO_s rfl)
theorem rk_remember {S : XT} {B : Nat} : PO (fun r => r.2.2.2.1 = S.2.2.2.1) (sX1_remember S B) := by
  unfold sX1_remember
  exact PO_oif (PO_bind rk_row fun r hr => PO_bindT fun m => PO_s hr)
theorem rk_plan {S : XT} {B : Nat} {p1 p2 : Int32} : PO (RK S.2.2.2.1) (sX9_plan S B p1 p2) := by
  unfold sX9_plan
  simp only [olet_eq]
  exact PO_oexc (fun _ => rfl) fun i => PO_oexc (fun _ => rfl) fun _ => PO_ite (PO_bind rk_remember fun r hr => PO_s hr) (PO_s rfl)
theorem rk_cancel {S : XT} {B : Nat} {p1 : Int32} : PO (RK S.2.2.2.1) (sX9_cancel S B p1) := by
  unfold sX9_cancel
  exact PO_oexc (fun _ => rfl) fun i => PO_ite (PO_s rfl) (PO_bind rk_remember fun r hr => PO_bindT fun z => PO_s hr)
theorem rk_approve {S : XT} {B : Nat} {p1 : Int32} : PO (RK S.2.2.2.1) (sX9_approve S B p1) := by
  unfold sX9_approve
  simp only [olet_eq]
  exact PO_oexc (fun _ => rfl) fun i => PO_ite (PO_s rfl) (PO_ite (PO_s rfl) (PO_bind rk_remember fun r hr => PO_s hr))
theorem rk_lend {S : XT} {B : Nat} {p1 p2 p3 p4 : Int32} : PO (RK S.2.2.2.1) (sX9_lend S B p1 p2 p3 p4) := by
  unfold sX9_lend
  simp only [olet_eq]
  exact PO_oexc (fun _ => rfl) fun i => PO_oexc (fun _ => rfl) fun _ => PO_oexc (fun _ => rfl) fun _ => PO_oexc (fun _ => rfl) fun _ => PO_ite (PO_bind rk_remember fun r hr => PO_s hr) (PO_s rfl)
theorem rk_recall {S : XT} {B : Nat} {p1 : Int32} : PO (RK S.2.2.2.1) (sX9_recall S B p1) := by
  unfold sX9_recall
  simp only [olet_eq]
  exact PO_oexc (fun _ => rfl) fun i => PO_ite (PO_s rfl) (PO_bind rk_remember fun r hr => PO_s hr)
theorem rk_tick {S : XT} {B : Nat} {p1 : Int32} : PO (RK S.2.2.2.1) (sX9_tick S B p1) := by
  unfold sX9_tick
  exact PO_oexc (fun _ => rfl) fun i => PO_ite (PO_bind rk_remember fun r hr => PO_bindT fun z => PO_s hr) (PO_s rfl)
