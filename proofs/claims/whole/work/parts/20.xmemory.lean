/-! ===== THE CELLS OF A RepairStudio: 129 from B on ===== -/
theorem hU_out {h : AH} {a n q : Nat} {f : Nat → AE} {e : AE} (hq : q < a ∨ a + n ≤ q) : hU (blk h a n f) q e = blk (hU h q e) a n f := by
  refine Prod.ext ?_ rfl
  funext p
  show (if p = q then some e else if a ≤ p ∧ p < a + n then some (f (p - a)) else h.1 p) = (if a ≤ p ∧ p < a + n then some (f (p - a)) else if p = q then some e else h.1 p)
  by_cases h1 : p = q
  · subst h1
    rw [if_pos rfl, if_neg (by omega), if_pos rfl]
  · rw [if_neg h1, if_neg h1]
def xxF (B : Nat) (X : Mem) : Nat → Value := fun j => match j with
  | 0 => .ref (B + 1) | 1 => .ref (B + 59) | 2 => .ref (B + 117) | 3 => .ref (B + 119) | 4 => .ref (B + 120) | 5 => .ref (B + 121) | 6 => .ref (B + 126) | 7 => .ref (B + 128) | j => .int (gi X 0 j 0)
def hiF (B : Nat) (X : Mem) : Nat → Value := fun j => match j with
  | 0 => .ref (B + 118) | j => .int (gi X 1 j 0)
def rtF (B : Nat) : Nat → Value := fun _ => .ref (B + 127)
/-- the addresses of the rows: those of the history, and from 10 on of the snapshots -/
abbrev Rows : Type := Nat → Option Nat
def rowF (P : Rows) : Rows := fun j => if j < 10 then P j else none
def snaF (P : Rows) : Rows := fun j => if j < 2 then P (10 + j) else none
def upR (P : Rows) (k : Nat) (t : Option Nat) : Rows := fun j => if j = k then t else P j
def xcell (B : Nat) (X : Mem) (P : Rows) (k : Nat) : AE :=
  if k = 0 then ob 9 9 (xxF B X)
  else if k = 117 then ob 1 3 (hiF B X)
  else if k = 118 then .inl (8, 10, .inr (.inr (.inr (.inr (rowF P)))))
  else if k = 119 then .inl (8, 2, .inr (.inr (.inr (.inr (snaF P)))))
  else if k = 120 then .inl (2, 2, .inl (fun j => gi X 2 j 0))
  else if k = 126 then ob 6 1 (rtF B)
  else if k = 127 then .inl (1, 1001, .inr (.inl (fun j => gq X 5 j)))
  else if k = 128 then .inl (3, 32, .inl (fun j => gi X 3 j 0))
  else ob 0 0 (fun _ => .null)
def xb (h : AH) (B : Nat) (X : Mem) (P : Rows) : AH := blk h B 129 (xcell B X P)
/-- the whole of it: what lies behind, the studio x itself, its Reader, scratch and live -/
def xh (h : AH) (B : Nat) (X : Mem) (P : Rows) (R C L : Mem) : AH := sb (sb (rb (xb h B X P) (B + 121) R) (B + 59) C) (B + 1) L
def xo (k : Nat) : Prop := k = 0 ∨ k = 117 ∨ k = 118 ∨ k = 119 ∨ k = 120 ∨ k = 126 ∨ k = 127 ∨ k = 128
theorem xo_cases {j : Nat} : j = 0 ∨ j = 117 ∨ j = 118 ∨ j = 119 ∨ j = 120 ∨ j = 126 ∨ j = 127 ∨ j = 128 ∨ (j ≠ 0 ∧ j ≠ 117 ∧ j ≠ 118 ∧ j ≠ 119 ∧ j ≠ 120 ∧ j ≠ 126 ∧ j ≠ 127 ∧ j ≠ 128) := by omega
theorem xcell_no {B k : Nat} {X : Mem} {P : Rows} (h : k ≠ 0 ∧ k ≠ 117 ∧ k ≠ 118 ∧ k ≠ 119 ∧ k ≠ 120 ∧ k ≠ 126 ∧ k ≠ 127 ∧ k ≠ 128) : xcell B X P k = ob 0 0 (fun _ => .null) := by
  unfold xcell
  rw [if_neg h.1, if_neg h.2.1, if_neg h.2.2.1, if_neg h.2.2.2.1, if_neg h.2.2.2.2.1, if_neg h.2.2.2.2.2.1, if_neg h.2.2.2.2.2.2.1, if_neg h.2.2.2.2.2.2.2]
section XH
variable {h : AH} {B : Nat} {X R C L : Mem} {P : Rows}
theorem xh_at {k : Nat} (hk : xo k) : (xh h B X P R C L).1 (B + k) = some (xcell B X P k) := by
  unfold xh sb rb
  rw [blk_out (by unfold xo at hk; omega), blk_out (by unfold xo at hk; omega), blk_out (by unfold xo at hk; omega)]
  exact blk_in (by unfold xo at hk; omega)
theorem xh_0 : (xh h B X P R C L).1 B = some (ob 9 9 (xxF B X)) := xh_at (k := 0) (by unfold xo; omega)
theorem xh_117 : (xh h B X P R C L).1 (B + 117) = some (ob 1 3 (hiF B X)) := xh_at (by unfold xo; omega)
theorem xh_118 : (xh h B X P R C L).1 (B + 118) = some (.inl (8, 10, .inr (.inr (.inr (.inr (rowF P)))))) := xh_at (by unfold xo; omega)
theorem xh_119 : (xh h B X P R C L).1 (B + 119) = some (.inl (8, 2, .inr (.inr (.inr (.inr (snaF P)))))) := xh_at (by unfold xo; omega)
theorem xh_120 : (xh h B X P R C L).1 (B + 120) = some (.inl (2, 2, .inl (fun j => gi X 2 j 0))) := xh_at (by unfold xo; omega)
theorem xh_126 : (xh h B X P R C L).1 (B + 126) = some (ob 6 1 (rtF B)) := xh_at (by unfold xo; omega)
theorem xh_127 : (xh h B X P R C L).1 (B + 127) = some (.inl (1, 1001, .inr (.inl (fun j => gq X 5 j)))) := xh_at (by unfold xo; omega)
theorem xh_128 : (xh h B X P R C L).1 (B + 128) = some (.inl (3, 32, .inl (fun j => gi X 3 j 0))) := xh_at (by unfold xo; omega)
theorem xh_put {k : Nat} {e : AE} {X' : Mem} {P' : Rows} (hk : xo k) (hf : ∀ j, xcell B X' P' j = if j = k then e else xcell B X P j) : hU (xh h B X P R C L) (B + k) e = xh h B X' P' R C L := by
  unfold xh sb rb
  rw [hU_out (by unfold xo at hk; omega), hU_out (by unfold xo at hk; omega), hU_out (by unfold xo at hk; omega)]
  unfold xb
  rw [blk_put (by unfold xo at hk; omega) (fun j _ => hf j)]
theorem xhp_0 {k : Nat} {v : Int32} (hk : 8 ≤ k) : hU (xh h B X P R C L) B (ob 9 9 (fun j => if j = k then .int v else xxF B X j)) = xh h B (si X 0 k 0 v) P R C L := by
  refine xh_put (k := 0) (by unfold xo; omega) fun q => ?_
  rcases @xo_cases q with rfl | rfl | rfl | rfl | rfl | rfl | rfl | rfl | hq
  · rw [if_pos rfl]
    refine ob_cg fun j => ?_
    by_cases hj : j = k
    · subst hj
      rw [if_pos rfl]
      unfold xxF
      split <;> first | (exfalso; omega) | (rw [gi_si, if_pos ⟨rfl, rfl, rfl⟩])
    · rw [if_neg hj]
      unfold xxF
      split <;> first | rfl | (rw [gi_si, if_neg (by omega)])
  · rw [if_neg (by omega)]; exact ob_cg (fun j => by unfold hiF; split <;> rfl)
  all_goals first | rfl | (rw [if_neg hq.1, xcell_no hq, xcell_no hq])
theorem xhp_117 {k : Nat} {v : Int32} (hk : 1 ≤ k) : hU (xh h B X P R C L) (B + 117) (ob 1 3 (fun j => if j = k then .int v else hiF B X j)) = xh h B (si X 1 k 0 v) P R C L := by
  refine xh_put (by unfold xo; omega) fun q => ?_
  rcases @xo_cases q with rfl | rfl | rfl | rfl | rfl | rfl | rfl | rfl | hq
  · rw [if_neg (by omega)]; exact ob_cg (fun j => by unfold xxF; split <;> rfl)
  · rw [if_pos rfl]
    refine ob_cg fun j => ?_
    by_cases hj : j = k
    · subst hj
      rw [if_pos rfl]
      unfold hiF
      split <;> first | (exfalso; omega) | (rw [gi_si, if_pos ⟨rfl, rfl, rfl⟩])
    · rw [if_neg hj]
      unfold hiF
      split <;> first | rfl | (rw [gi_si, if_neg (by omega)])
  all_goals first | rfl | (rw [if_neg hq.2.1, xcell_no hq, xcell_no hq])
theorem xhp_118 {k : Nat} {t : Option Nat} (hk : k < 10) : hU (xh h B X P R C L) (B + 118) (.inl (8, 10, .inr (.inr (.inr (.inr (va_up (rowF P) k t)))))) = xh h B X (upR P k t) R C L := by
  have e1 : va_up (rowF P) k t = rowF (upR P k t) := by
    funext j
    show (if j = k then t else if j < 10 then P j else none) = (if j < 10 then (if j = k then t else P j) else none)
    by_cases h1 : j = k
    · rw [if_pos h1, if_pos (by omega), if_pos h1]
    · rw [if_neg h1, if_neg h1]
  have e2 : snaF (upR P k t) = snaF P := by
    funext j
    show (if j < 2 then (if 10 + j = k then t else P (10 + j)) else none) = (if j < 2 then P (10 + j) else none)
    rw [if_neg (show ¬ 10 + j = k by omega)]
  refine xh_put (by unfold xo; omega) fun q => ?_
  rcases @xo_cases q with rfl | rfl | rfl | rfl | rfl | rfl | rfl | rfl | hq
  · rfl
  · rfl
  · rw [if_pos rfl, e1]; rfl
  · rw [if_neg (by omega)]
    show (Sum.inl (8, 2, .inr (.inr (.inr (.inr (snaF (upR P k t)))))) : AE) = Sum.inl (8, 2, .inr (.inr (.inr (.inr (snaF P)))))
    rw [e2]
  all_goals first | rfl | (rw [if_neg hq.2.2.1, xcell_no hq, xcell_no hq])
theorem xhp_119 {k : Nat} {t : Option Nat} (hk : k < 2) : hU (xh h B X P R C L) (B + 119) (.inl (8, 2, .inr (.inr (.inr (.inr (va_up (snaF P) k t)))))) = xh h B X (upR P (10 + k) t) R C L := by
  have e1 : va_up (snaF P) k t = snaF (upR P (10 + k) t) := by
    funext j
    show (if j = k then t else if j < 2 then P (10 + j) else none) = (if j < 2 then (if 10 + j = 10 + k then t else P (10 + j)) else none)
    by_cases h1 : j = k
    · rw [if_pos h1, if_pos (by omega), if_pos (by omega)]
    · rw [if_neg h1, if_neg (show ¬ 10 + j = 10 + k by omega)]
  have e2 : rowF (upR P (10 + k) t) = rowF P := by
    funext j
    show (if j < 10 then (if j = 10 + k then t else P j) else none) = (if j < 10 then P j else none)
    by_cases h1 : j < 10
    · rw [if_pos h1, if_pos h1, if_neg (by omega)]
    · rw [if_neg h1, if_neg h1]
  refine xh_put (by unfold xo; omega) fun q => ?_
  rcases @xo_cases q with rfl | rfl | rfl | rfl | rfl | rfl | rfl | rfl | hq
  · rfl
  · rfl
  · rw [if_neg (by omega)]
    show (Sum.inl (8, 10, .inr (.inr (.inr (.inr (rowF (upR P (10 + k) t)))))) : AE) = Sum.inl (8, 10, .inr (.inr (.inr (.inr (rowF P)))))
    rw [e2]
  · rw [if_pos rfl, e1]; rfl
  all_goals first | rfl | (rw [if_neg hq.2.2.2.1, xcell_no hq, xcell_no hq])
theorem xhp_120 {k : Nat} {v : Int32} : hU (xh h B X P R C L) (B + 120) (.inl (2, 2, .inl (upd (fun j => gi X 2 j 0) k v))) = xh h B (si X 2 k 0 v) P R C L := by
  refine xh_put (by unfold xo; omega) fun q => ?_
  rcases @xo_cases q with rfl | rfl | rfl | rfl | rfl | rfl | rfl | rfl | hq
  · rw [if_neg (by omega)]; exact ob_cg (fun j => by unfold xxF; split <;> rfl)
  · rw [if_neg (by omega)]; exact ob_cg (fun j => by unfold hiF; split <;> rfl)
  · rfl
  · rfl
  · rw [if_pos rfl]
    show (Sum.inl (2, 2, _) : AE) = _
    refine congrArg (fun f => (Sum.inl (2, 2, .inl f) : AE)) (funext fun j => ?_)
    show gi (si X 2 k 0 v) 2 j 0 = (if j = k then v else gi X 2 j 0)
    rw [gi_si]
    by_cases hj : j = k
    · rw [if_pos ⟨rfl, hj, rfl⟩, if_pos hj]
    · rw [if_neg (fun z => hj z.2.1), if_neg hj]
  all_goals first | rfl | (rw [if_neg hq.2.2.2.2.1, xcell_no hq, xcell_no hq])
theorem xhp_127 {k : Nat} {v : Int64} : hU (xh h B X P R C L) (B + 127) (.inl (1, 1001, .inr (.inl (vp_updL (fun j => gq X 5 j) k v)))) = xh h B (sq X 5 k v) P R C L := by
  refine xh_put (by unfold xo; omega) fun q => ?_
  rcases @xo_cases q with rfl | rfl | rfl | rfl | rfl | rfl | rfl | rfl | hq
  · rw [if_neg (by omega)]; exact ob_cg (fun j => by unfold xxF; split <;> rfl)
  · rw [if_neg (by omega)]; exact ob_cg (fun j => by unfold hiF; split <;> rfl)
  · rfl
  · rfl
  · rfl
  · rfl
  · rw [if_pos rfl]
    show (Sum.inl (1, 1001, _) : AE) = _
    refine congrArg (fun f => (Sum.inl (1, 1001, .inr (.inl f)) : AE)) (funext fun j => ?_)
    show gq (sq X 5 k v) 5 j = (if j = k then v else gq X 5 j)
    rw [gq_sq]
    by_cases hj : j = k
    · rw [if_pos ⟨rfl, hj⟩, if_pos hj]
    · rw [if_neg (fun z => hj z.2), if_neg hj]
  all_goals first | rfl | (rw [if_neg hq.2.2.2.2.2.2.1, xcell_no hq, xcell_no hq])
theorem xhp_128 {k : Nat} {v : Int32} : hU (xh h B X P R C L) (B + 128) (.inl (3, 32, .inl (upd (fun j => gi X 3 j 0) k v))) = xh h B (si X 3 k 0 v) P R C L := by
  refine xh_put (by unfold xo; omega) fun q => ?_
  rcases @xo_cases q with rfl | rfl | rfl | rfl | rfl | rfl | rfl | rfl | hq
  · rw [if_neg (by omega)]; exact ob_cg (fun j => by unfold xxF; split <;> rfl)
  · rw [if_neg (by omega)]; exact ob_cg (fun j => by unfold hiF; split <;> rfl)
  · rfl
  · rfl
  · rfl
  · rfl
  · rfl
  · rw [if_pos rfl]
    show (Sum.inl (3, 32, _) : AE) = _
    refine congrArg (fun f => (Sum.inl (3, 32, .inl f) : AE)) (funext fun j => ?_)
    show gi (si X 3 k 0 v) 3 j 0 = (if j = k then v else gi X 3 j 0)
    rw [gi_si]
    by_cases hj : j = k
    · rw [if_pos ⟨rfl, hj, rfl⟩, if_pos hj]
    · rw [if_neg (fun z => hj z.2.1), if_neg hj]
  all_goals first | rfl | (rw [if_neg hq.2.2.2.2.2.2.2, xcell_no hq, xcell_no hq])
/-- live stands outermost; scratch and the Reader can be brought there -/
theorem xh_c : xh h B X P R C L = sb (sb (rb (xb h B X P) (B + 121) R) (B + 1) L) (B + 59) C := sb_comm (by omega)
theorem xh_r : xh h B X P R C L = rb (sb (sb (xb h B X P) (B + 59) C) (B + 1) L) (B + 121) R := by
  unfold xh
  rw [rs_comm (by omega), rs_comm (by omega)]
theorem xh_rc : xh h B X P R C L = rb (sb (sb (xb h B X P) (B + 1) L) (B + 59) C) (B + 121) R := by
  rw [xh_r, sb_comm (by omega)]
theorem xh_l : xh h B X P R C L = sb (sb (rb (xb h B X P) (B + 121) R) (B + 59) C) (B + 1) L := rfl
theorem xl_get {q : Nat} {e : AE} (hp : ∀ h : AH, (sb h (B + 1) L).1 q = some e) : (xh h B X P R C L).1 q = some e := hp _
theorem xc_get {q : Nat} {e : AE} (hp : ∀ h : AH, (sb h (B + 59) C).1 q = some e) : (xh h B X P R C L).1 q = some e := by rw [xh_c]; exact hp _
theorem xr_get {q : Nat} {e : AE} (hp : ∀ h : AH, (rb h (B + 121) R).1 q = some e) : (xh h B X P R C L).1 q = some e := by rw [xh_r]; exact hp _
theorem xl_put {q : Nat} {e : AE} {L' : Mem} (hp : ∀ h : AH, hU (sb h (B + 1) L) q e = sb h (B + 1) L') : hU (xh h B X P R C L) q e = xh h B X P R C L' := hp _
theorem xc_put {q : Nat} {e : AE} {C' : Mem} (hp : ∀ h : AH, hU (sb h (B + 59) C) q e = sb h (B + 59) C') : hU (xh h B X P R C L) q e = xh h B X P R C' L := by rw [xh_c, hp, ← xh_c]
theorem xr_put {q : Nat} {e : AE} {R' : Mem} (hp : ∀ h : AH, hU (rb h (B + 121) R) q e = rb h (B + 121) R') : hU (xh h B X P R C L) q e = xh h B X P R' C L := by rw [xh_r, hp, ← xh_r]
end XH
/-- the studios that are kept as rows, over what lies behind -/
def rws (h : AH) (lo : Nat) (P : Rows) (W : Nat → Mem) : Nat → AH
  | 0 => h
  | n + 1 => match P n with
    | none => rws h lo P W n
    | some a => if lo ≤ a then sb (rws h lo P W n) a (W n) else rws h lo P W n
/-- what lies behind a studio x: the rows, and how many cells there are, and may still be made -/
def bw (h : AH) (B : Nat) (z : Nat × Nat × Nat) (P : Rows) (W : Nat → Mem) : AH := ((rws h (B + 129) P W 12).1, z)
theorem sta_rws {g : AG} {h : AH} {lo : Nat} {P : Rows} {W : Nat → Mem} (hs : Sta g h) (hA : gB g ≤ lo) : ∀ n, Sta g (rws h lo P W n) := by
  intro n
  induction n with
  | zero => exact hs
  | succ n ih =>
    unfold rws
    cases P n with
    | none => exact ih
    | some a =>
      dsimp only
      split
      · exact Sta.blk ih (by omega)
      · exact ih
theorem sta_bw {g : AG} {h : AH} {B : Nat} {z : Nat × Nat × Nat} {P : Rows} {W : Nat → Mem} (hs : Sta g h) (hA : gB g ≤ B) : Sta g (bw h B z P W) := sta_rws hs (by omega) 12
/-- room for an exception -/
def xrm (z : Nat × Nat × Nat) : Bool := Nat.ble 1 z.2.1 && Nat.ble 6 z.2.2
theorem xrm_1 {z : Nat × Nat × Nat} (hg : xrm z = true) : 1 ≤ z.2.1 := by
  unfold xrm at hg
  rw [Bool.and_eq_true] at hg
  exact Nat.le_of_ble_eq_true hg.1
theorem xrm_2 {z : Nat × Nat × Nat} (hg : xrm z = true) : 6 ≤ z.2.2 := by
  unfold xrm at hg
  rw [Bool.and_eq_true] at hg
  exact Nat.le_of_ble_eq_true hg.2
/-- what may have thrown, and goes on -/
def oexc {ε ε' α β : Type} (x : Option (Except ε α)) (m : ε → ε') (f : α → Option (Except ε' β)) : Option (Except ε' β) := match x with
  | none => none
  | some (.error e) => some (.error (m e))
  | some (.ok v) => f v
theorem oexc_e {ε ε' α β : Type} {G : Prop} {x : Option (Except ε α)} {m : ε → ε'} {f : α → Option (Except ε' β)} {r : Except ε' β} (hs : oexc x m f = some r) (k : ∀ y, x = some y → (match y with
    | .error e => some (.error (m e))
    | .ok v => f v) = some r → G) : G := by
  cases x with
  | none => cases hs
  | some y =>
    refine k y rfl ?_
    cases y <;> exact hs
def oexcl {γ ε ε' α β : Type} (x : Option (Except ε α)) (m : ε → ε') (f : α → Option (γ ⊕ Except ε' β)) : Option (γ ⊕ Except ε' β) := match x with
  | none => none
  | some (.error e) => some (.inr (.error (m e)))
  | some (.ok v) => f v
theorem oexcl_e {γ ε ε' α β : Type} {G : Prop} {x : Option (Except ε α)} {m : ε → ε'} {f : α → Option (γ ⊕ Except ε' β)} {r : γ ⊕ Except ε' β} (hs : oexcl x m f = some r) (k : ∀ y, x = some y → (match y with
    | .error e => some (.inr (.error (m e)))
    | .ok v => f v) = some r → G) : G := by
  cases x with
  | none => cases hs
  | some y =>
    refine k y rfl ?_
    cases y <;> exact hs
