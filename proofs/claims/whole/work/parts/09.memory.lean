/-! ===== MEMORIES, BLOCKS OF CELLS, A STUDIO'S CELLS ===== -/
/-- numbers by component, slot and place; longs by component and place -/
abbrev Mem : Type := (Nat → Nat → Nat → Int32) × (Nat → Nat → Int64)
def gi (S : Mem) (c j i : Nat) : Int32 := S.1 c j i
def gq (S : Mem) (c i : Nat) : Int64 := S.2 c i
def si (S : Mem) (c j i : Nat) (v : Int32) : Mem := (fun c' j' i' => if c' = c ∧ j' = j ∧ i' = i then v else S.1 c' j' i', S.2)
def sq (S : Mem) (c i : Nat) (v : Int64) : Mem := (S.1, fun c' i' => if c' = c ∧ i' = i then v else S.2 c' i')
/-- a whole row of slots -/
def sr (S : Mem) (c i : Nat) (f : Nat → Int32) : Mem := (fun c' j' i' => if c' = c ∧ i' = i then f j' else S.1 c' j' i', S.2)
theorem gi_si {S : Mem} {c j i c' j' i' : Nat} {v : Int32} : gi (si S c j i v) c' j' i' = if c' = c ∧ j' = j ∧ i' = i then v else gi S c' j' i' := rfl
theorem gi_sq {S : Mem} {c i c' j' i' : Nat} {v : Int64} : gi (sq S c i v) c' j' i' = gi S c' j' i' := rfl
theorem gi_sr {S : Mem} {c i c' j' i' : Nat} {f : Nat → Int32} : gi (sr S c i f) c' j' i' = if c' = c ∧ i' = i then f j' else gi S c' j' i' := rfl
theorem gq_si {S : Mem} {c j i c' i' : Nat} {v : Int32} : gq (si S c j i v) c' i' = gq S c' i' := rfl
theorem gq_sq {S : Mem} {c i c' i' : Nat} {v : Int64} : gq (sq S c i v) c' i' = if c' = c ∧ i' = i then v else gq S c' i' := rfl
theorem gq_sr {S : Mem} {c i c' i' : Nat} {f : Nat → Int32} : gq (sr S c i f) c' i' = gq S c' i' := rfl
def bz (x : Int32) : Int32 := if x = 0 then 0 else 1
theorem bz_01 (x : Int32) : bz x = 0 ∨ bz x = 1 := by unfold bz; split <;> simp
theorem bz_id {x : Int32} (h : x = 0 ∨ x = 1) : bz x = x := by rcases h with rfl | rfl <;> rfl
theorem nar_b {x : Int32} (h : x = 0 ∨ x = 1) : narrow .boolean (.int x) = .int x := by rcases h with rfl | rfl <;> decide
/-- a block of cells from a on -/
def blk (h : AH) (a n : Nat) (f : Nat → AE) : AH := (fun q => if a ≤ q ∧ q < a + n then some (f (q - a)) else h.1 q, h.2)
theorem blk_in {h : AH} {a n k : Nat} {f : Nat → AE} (hk : k < n) : (blk h a n f).1 (a + k) = some (f k) := by
  show (if a ≤ a + k ∧ a + k < a + n then some (f (a + k - a)) else h.1 (a + k)) = some (f k)
  rw [if_pos ⟨Nat.le_add_right _ _, Nat.add_lt_add_left hk _⟩, Nat.add_sub_cancel_left]
theorem blk_out {h : AH} {a n q : Nat} {f : Nat → AE} (hq : q < a ∨ a + n ≤ q) : (blk h a n f).1 q = h.1 q := by
  show (if a ≤ q ∧ q < a + n then some (f (q - a)) else h.1 q) = h.1 q
  rw [if_neg (by omega)]
theorem blk_put {h : AH} {a n k : Nat} {f f' : Nat → AE} {e : AE} (hk : k < n) (hf : ∀ j, j < n → f' j = if j = k then e else f j) : hU (blk h a n f) (a + k) e = blk h a n f' := by
  refine Prod.ext ?_ rfl
  funext q
  show (if q = a + k then some e else if a ≤ q ∧ q < a + n then some (f (q - a)) else h.1 q) = (if a ≤ q ∧ q < a + n then some (f' (q - a)) else h.1 q)
  by_cases h1 : a ≤ q ∧ q < a + n
  · rw [if_pos h1, if_pos h1, hf (q - a) (by omega)]
    by_cases h2 : q = a + k
    · rw [if_pos h2, if_pos (by omega)]
    · rw [if_neg h2, if_neg (by omega)]
  · rw [if_neg h1, if_neg h1, if_neg (by omega)]
theorem blk_blk {h : AH} {a n : Nat} {f f' : Nat → AE} : blk (blk h a n f) a n f' = blk h a n f' := by
  refine Prod.ext ?_ rfl
  funext q
  show (if a ≤ q ∧ q < a + n then some (f' (q - a)) else if a ≤ q ∧ q < a + n then some (f (q - a)) else h.1 q) = (if a ≤ q ∧ q < a + n then some (f' (q - a)) else h.1 q)
  by_cases h1 : a ≤ q ∧ q < a + n
  · rw [if_pos h1, if_pos h1]
  · rw [if_neg h1, if_neg h1, if_neg h1]
theorem blk_comm {h : AH} {a n a' n' : Nat} {f f' : Nat → AE} (d : a + n ≤ a' ∨ a' + n' ≤ a) : blk (blk h a n f) a' n' f' = blk (blk h a' n' f') a n f := by
  refine Prod.ext ?_ rfl
  funext q
  show (if a' ≤ q ∧ q < a' + n' then some (f' (q - a')) else if a ≤ q ∧ q < a + n then some (f (q - a)) else h.1 q) = (if a ≤ q ∧ q < a + n then some (f (q - a)) else if a' ≤ q ∧ q < a' + n' then some (f' (q - a')) else h.1 q)
  by_cases h1 : a ≤ q ∧ q < a + n
  · rw [if_neg (show ¬ (a' ≤ q ∧ q < a' + n') by omega), if_pos h1, if_pos h1]
  · rw [if_neg h1, if_neg h1]
/-- an object's cell -/
def ob (ci n : Nat) (F : Nat → Value) : AE := .inr (ci, (List.range n).map F)
theorem ob_get {F : Nat → Value} {n k : Nat} (hk : k < n) : ((List.range n).map F)[k]? = some (F k) := by
  rw [List.getElem?_map, List.getElem?_range hk]; rfl
theorem ob_set {F : Nat → Value} {n k : Nat} {v : Value} : ((List.range n).map F).set k v = (List.range n).map (fun j => if j = k then v else F j) := by
  apply List.ext_getElem?
  intro j
  by_cases hj : j < n
  · rw [ob_get hj, List.getElem?_set]
    by_cases hk : k = j
    · rw [if_pos hk, if_pos (by rw [List.length_map, List.length_range]; omega), if_pos hk.symm]
    · rw [if_neg hk, ob_get hj, if_neg (Ne.symm hk)]
  · rw [List.getElem?_eq_none (by rw [List.length_set, List.length_map, List.length_range]; omega), List.getElem?_eq_none (by rw [List.length_map, List.length_range]; omega)]
theorem ob_cg {ci n : Nat} {F F' : Nat → Value} (h : ∀ j, F j = F' j) : ob ci n F = ob ci n F' := by rw [show F = F' from funext h]
section AWO
variable {g : AG} {M : AM} {pc nx : Nat} {L : List (Option Value)} {S0 : List Value} {h : AH} {Q : AO → AH → Prop}
theorem AW.getO {ci N i k a : Nat} {C : String} {T : u_T} {ty : Nat → FieldType} {F : Nat → Value} {v : Value} (hr : (pc, Instr.getfield i, 3) ∈ mR M) (hn : pc + 3 = nx) (hc : am_Kl ci C T N ty) (hk : k < N) (hw : Cond.fieldLink (mY M).cls i (T k).1 (T k).2.1 (T k).2.2.1 ∈ am_tb) (ha : h.1 a = some (ob ci N F)) (hv : F k = v) (kk : AW g M nx L (v :: S0) h Q) : AW g M pc L (.ref a :: S0) h Q :=
  AW.getf hr hn hc hk hw ha ((ob_get hk).trans (congrArg some hv)) kk
theorem AW.putO {ci N i k a : Nat} {C : String} {T : u_T} {ty : Nat → FieldType} {F : Nat → Value} {v : Value} {h' : AH} (hr : (pc, Instr.putfield i, 3) ∈ mR M) (hn : pc + 3 = nx) (hc : am_Kl ci C T N ty) (hk : k < N) (hw : Cond.fieldLink (mY M).cls i (T k).1 (T k).2.1 (T k).2.2.1 ∈ am_tb) (hfin : (T k).2.2.2 = false ∨ ((mY M).name = "<init>" ∧ (T k).1 = (mY M).cls)) (ha : h.1 a = some (ob ci N F)) (hA : gB g ≤ a) (hnv : narrow (ty k) v = v) (hfit : fits (ty k) v = true)
    (hh : hU h a (ob ci N (fun j => if j = k then v else F j)) = h') (kk : AW g M nx L S0 h' Q) : AW g M pc L (v :: .ref a :: S0) h Q := by
  subst hh
  refine AW.putf hr hn hc hk hw hfin ha hA (by rw [List.length_map, List.length_range]; exact hk) hnv hfit ?_
  rw [ob_set]
  exact kk
end AWO
/-! ===== THE 58 CELLS OF A STUDIO ===== -/
def stF (b : Nat) (S : Mem) : Nat → Value := fun j => match j with
  | 0 => .ref (b + 1) | 1 => .ref (b + 8) | 2 => .ref (b + 19) | 3 => .ref (b + 2 + 50) | 4 => .ref (b + 9 + 44) | 5 => .ref (b + 20 + 2 * 17) | 6 => .ref (b + 56) | j => .int (gi S 0 j 0)
def prF (S : Mem) (p : Nat) : Nat → Value := fun j => .int (gi S 1 j p)
def reF (S : Mem) (r : Nat) : Nat → Value := fun j => .int (gi S 2 j r)
def itF (b : Nat) (S : Mem) (i : Nat) : Nat → Value := fun j => match j with
  | 1 => .ref (b + 21 + 2 * i) | 14 => .long (gq S 3 i) | 15 => .int (bz (gi S 3 15 i)) | j => .int (gi S 3 j i)
def boF (b : Nat) (S : Mem) : Nat → Value := fun j => match j with
  | 0 => .ref (b + 57) | j => .int (gi S 5 j 0)
def quA (S : Mem) (i : Nat) : AE := .inl (0, 8, .inl (fun j => gi S 4 j i))
def ceA (S : Mem) : AE := .inl (0, 600, .inl (fun j => gi S 6 j 0))
def scell (b : Nat) (S : Mem) (k : Nat) : AE :=
  if k = 0 then ob 7 16 (stF b S)
  else if k = 1 then .inl (5, 6, .inr (.inr (.inr (.inr (fun j => some (b + 2 + j))))))
  else if k < 8 then ob 3 3 (prF S (k - 2))
  else if k = 8 then .inl (6, 10, .inr (.inr (.inr (.inr (fun j => some (b + 9 + j))))))
  else if k < 19 then ob 5 8 (reF S (k - 9))
  else if k = 19 then .inl (7, 16, .inr (.inr (.inr (.inr (fun j => some (b + 20 + 2 * j))))))
  else if k < 52 then (if k % 2 = 0 then ob 2 19 (itF b S ((k - 20) / 2)) else quA S ((k - 21) / 2))
  else if k = 52 then ob 3 3 (prF S 50)
  else if k = 53 then ob 5 8 (reF S 44)
  else if k = 54 then ob 2 19 (itF b S 17)
  else if k = 55 then quA S 17
  else if k = 56 then ob 0 3 (boF b S)
  else ceA S
def sb (h : AH) (b : Nat) (S : Mem) : AH := blk h b 58 (scell b S)
def pok (p : Nat) : Prop := p < 6 ∨ p = 50
def rok (r : Nat) : Prop := r < 10 ∨ r = 44
def iok (i : Nat) : Prop := i < 16 ∨ i = 17
theorem scell_pr {b p : Nat} {S : Mem} (hp : pok p) : scell b S (2 + p) = ob 3 3 (prF S p) := by
  unfold scell
  rcases hp with hp | rfl
  · rw [if_neg (by omega), if_neg (by omega), if_pos (by omega), Nat.add_sub_cancel_left]
  · rfl
theorem scell_re {b r : Nat} {S : Mem} (hr : rok r) : scell b S (9 + r) = ob 5 8 (reF S r) := by
  unfold scell
  rcases hr with hr | rfl
  · rw [if_neg (by omega), if_neg (by omega), if_neg (by omega), if_neg (by omega), if_pos (by omega), Nat.add_sub_cancel_left]
  · rfl
theorem scell_it {b i : Nat} {S : Mem} (hi : iok i) : scell b S (20 + 2 * i) = ob 2 19 (itF b S i) := by
  unfold scell
  rcases hi with hi | rfl
  · rw [if_neg (by omega), if_neg (by omega), if_neg (by omega), if_neg (by omega), if_neg (by omega), if_neg (by omega), if_pos (by omega), if_pos (by omega), Nat.add_sub_cancel_left, Nat.mul_div_cancel_left _ (by omega)]
  · rfl
theorem scell_qu {b i : Nat} {S : Mem} (hi : iok i) : scell b S (21 + 2 * i) = quA S i := by
  unfold scell
  rcases hi with hi | rfl
  · rw [if_neg (by omega), if_neg (by omega), if_neg (by omega), if_neg (by omega), if_neg (by omega), if_neg (by omega), if_pos (by omega), if_neg (by omega), Nat.add_sub_cancel_left, Nat.mul_div_cancel_left _ (by omega)]
  · rfl
theorem stF_cg {b : Nat} {S S' : Mem} (h : ∀ j, gi S 0 j 0 = gi S' 0 j 0) (j : Nat) : stF b S j = stF b S' j := by
  unfold stF
  split <;> first | rfl | rw [h]
theorem itF_cg {b i : Nat} {S S' : Mem} (h : ∀ j, gi S 3 j i = gi S' 3 j i) (h2 : gq S 3 i = gq S' 3 i) (j : Nat) : itF b S i j = itF b S' i j := by
  unfold itF
  split <;> first | rfl | rw [h2] | rw [h]
theorem boF_cg {b : Nat} {S S' : Mem} (h : ∀ j, gi S 5 j 0 = gi S' 5 j 0) (j : Nat) : boF b S j = boF b S' j := by
  unfold boF
  split <;> first | rfl | rw [h]
theorem quA_cg {i : Nat} {S S' : Mem} (h : ∀ j, gi S 4 j i = gi S' 4 j i) : quA S i = quA S' i := by
  unfold quA
  rw [show (fun j => gi S 4 j i) = (fun j => gi S' 4 j i) from funext h]
theorem ceA_cg {S S' : Mem} (h : ∀ j, gi S 6 j 0 = gi S' 6 j 0) : ceA S = ceA S' := by
  unfold ceA
  rw [show (fun j => gi S 6 j 0) = (fun j => gi S' 6 j 0) from funext h]
theorem scell_cg {b q : Nat} {S S' : Mem} (h0 : q = 0 → ∀ j, gi S 0 j 0 = gi S' 0 j 0) (h1 : ∀ p, q = 2 + p → pok p → ∀ j, gi S 1 j p = gi S' 1 j p) (h2 : ∀ r, q = 9 + r → rok r → ∀ j, gi S 2 j r = gi S' 2 j r)
    (h3 : ∀ i, q = 20 + 2 * i → iok i → (∀ j, gi S 3 j i = gi S' 3 j i) ∧ gq S 3 i = gq S' 3 i) (h4 : ∀ i, q = 21 + 2 * i → iok i → ∀ j, gi S 4 j i = gi S' 4 j i) (h5 : q = 56 → ∀ j, gi S 5 j 0 = gi S' 5 j 0) (h6 : 57 ≤ q → ∀ j, gi S 6 j 0 = gi S' 6 j 0) : scell b S q = scell b S' q := by
  by_cases c0 : q = 0
  · subst c0; exact ob_cg (stF_cg (h0 rfl))
  by_cases c1 : q = 1
  · subst c1; rfl
  by_cases c2 : q < 8
  · have e : q = 2 + (q - 2) := by omega
    rw [e, scell_pr (Or.inl (by omega)), scell_pr (Or.inl (by omega))]
    exact ob_cg (fun j => congrArg Value.int (h1 (q - 2) e (Or.inl (by omega)) j))
  by_cases c3 : q = 8
  · subst c3; rfl
  by_cases c4 : q < 19
  · have e : q = 9 + (q - 9) := by omega
    rw [e, scell_re (Or.inl (by omega)), scell_re (Or.inl (by omega))]
    exact ob_cg (fun j => congrArg Value.int (h2 (q - 9) e (Or.inl (by omega)) j))
  by_cases c5 : q = 19
  · subst c5; rfl
  by_cases c6 : q < 52
  · by_cases c7 : q % 2 = 0
    · have e : q = 20 + 2 * ((q - 20) / 2) := by omega
      have hi : iok ((q - 20) / 2) := Or.inl (by omega)
      rw [e, scell_it hi, scell_it hi]
      exact ob_cg (itF_cg (h3 _ e hi).1 (h3 _ e hi).2)
    · have e : q = 21 + 2 * ((q - 21) / 2) := by omega
      have hi : iok ((q - 21) / 2) := Or.inl (by omega)
      rw [e, scell_qu hi, scell_qu hi]
      exact quA_cg (h4 _ e hi)
  by_cases c8 : q = 52
  · subst c8; exact ob_cg (fun j => congrArg Value.int (h1 50 rfl (Or.inr rfl) j))
  by_cases c9 : q = 53
  · subst c9; exact ob_cg (fun j => congrArg Value.int (h2 44 rfl (Or.inr rfl) j))
  by_cases c10 : q = 54
  · subst c10; exact ob_cg (itF_cg (h3 17 rfl (Or.inr rfl)).1 (h3 17 rfl (Or.inr rfl)).2)
  by_cases c11 : q = 55
  · subst c11; exact quA_cg (h4 17 rfl (Or.inr rfl))
  by_cases c12 : q = 56
  · subst c12; exact ob_cg (boF_cg (h5 rfl))
  unfold scell
  rw [if_neg c0, if_neg c1, if_neg c2, if_neg c3, if_neg c4, if_neg c5, if_neg c6, if_neg c8, if_neg c9, if_neg c10, if_neg c11, if_neg c12, if_neg c0, if_neg c1, if_neg c2, if_neg c3, if_neg c4, if_neg c5, if_neg c6, if_neg c8, if_neg c9, if_neg c10, if_neg c11, if_neg c12]
  exact ceA_cg (h6 (by omega))
section SB
variable {h : AH} {b : Nat} {S : Mem}
theorem sb_st : (sb h b S).1 b = some (ob 7 16 (stF b S)) := blk_in (k := 0) (by omega)
theorem sb_pa : (sb h b S).1 (b + 1) = some (.inl (5, 6, .inr (.inr (.inr (.inr (fun j => some (b + 2 + j))))))) := blk_in (k := 1) (by omega)
theorem sb_ra : (sb h b S).1 (b + 8) = some (.inl (6, 10, .inr (.inr (.inr (.inr (fun j => some (b + 9 + j))))))) := blk_in (k := 8) (by omega)
theorem sb_ia : (sb h b S).1 (b + 19) = some (.inl (7, 16, .inr (.inr (.inr (.inr (fun j => some (b + 20 + 2 * j))))))) := blk_in (k := 19) (by omega)
theorem sb_bo : (sb h b S).1 (b + 56) = some (ob 0 3 (boF b S)) := blk_in (k := 56) (by omega)
theorem sb_ce : (sb h b S).1 (b + 57) = some (ceA S) := blk_in (k := 57) (by omega)
theorem pok.lt {p : Nat} (hp : pok p) : p ≤ 50 := by rcases hp with h | h <;> omega
theorem rok.lt {p : Nat} (hp : rok p) : p ≤ 44 := by rcases hp with h | h <;> omega
theorem iok.lt {p : Nat} (hp : iok p) : p ≤ 17 := by rcases hp with h | h <;> omega
theorem sb_pr {p : Nat} (hp : pok p) : (sb h b S).1 (b + 2 + p) = some (ob 3 3 (prF S p)) := by
  have := hp.lt
  rw [Nat.add_assoc]
  exact (blk_in (by omega)).trans (congrArg some (scell_pr hp))
theorem sb_re {r : Nat} (hp : rok r) : (sb h b S).1 (b + 9 + r) = some (ob 5 8 (reF S r)) := by
  have := hp.lt
  rw [Nat.add_assoc]
  exact (blk_in (by omega)).trans (congrArg some (scell_re hp))
theorem sb_it {i : Nat} (hp : iok i) : (sb h b S).1 (b + 20 + 2 * i) = some (ob 2 19 (itF b S i)) := by
  have := hp.lt
  rw [Nat.add_assoc]
  exact (blk_in (by omega)).trans (congrArg some (scell_it hp))
theorem sb_qu {i : Nat} (hp : iok i) : (sb h b S).1 (b + 21 + 2 * i) = some (quA S i) := by
  have := hp.lt
  rw [Nat.add_assoc]
  exact (blk_in (by omega)).trans (congrArg some (scell_qu hp))
theorem sbp_st {k : Nat} {v : Int32} (hk : 7 ≤ k) : hU (sb h b S) b (ob 7 16 (fun j => if j = k then .int v else stF b S j)) = sb h b (si S 0 k 0 v) := by
  refine blk_put (k := 0) (by omega) fun q hq => ?_
  by_cases hz : q = 0
  · subst hz
    rw [if_pos rfl]
    refine ob_cg fun j => ?_
    by_cases hj : j = k
    · subst hj
      rw [if_pos rfl]
      unfold stF
      split <;> first | omega | (rw [gi_si, if_pos ⟨rfl, rfl, rfl⟩])
    · rw [if_neg hj]
      unfold stF
      split <;> first | rfl | (rw [gi_si, if_neg (by omega)])
  · rw [if_neg hz]
    exact scell_cg (by intros; rw [gi_si, if_neg (by omega)]) (by intros; rw [gi_si, if_neg (by omega)]) (by intros; rw [gi_si, if_neg (by omega)]) (fun i _ _ => ⟨by intros; rw [gi_si, if_neg (by omega)], rfl⟩) (by intros; rw [gi_si, if_neg (by omega)]) (by intros; rw [gi_si, if_neg (by omega)]) (by intros; rw [gi_si, if_neg (by omega)])
theorem sbp_pr {p k : Nat} {v : Int32} (hp : pok p) : hU (sb h b S) (b + 2 + p) (ob 3 3 (fun j => if j = k then .int v else prF S p j)) = sb h b (si S 1 k p v) := by
  have := hp.lt
  rw [Nat.add_assoc]
  refine blk_put (by omega) fun q hq => ?_
  by_cases hz : q = 2 + p
  · subst hz
    rw [if_pos rfl, scell_pr hp]
    refine ob_cg fun j => ?_
    unfold prF
    by_cases hj : j = k
    · subst hj
      rw [if_pos rfl, gi_si, if_pos ⟨rfl, rfl, rfl⟩]
    · rw [if_neg hj, gi_si, if_neg (by omega)]
  · rw [if_neg hz]
    exact scell_cg (by intros; rw [gi_si, if_neg (by omega)]) (by intros; rw [gi_si, if_neg (by omega)]) (by intros; rw [gi_si, if_neg (by omega)]) (fun i _ _ => ⟨by intros; rw [gi_si, if_neg (by omega)], rfl⟩) (by intros; rw [gi_si, if_neg (by omega)]) (by intros; rw [gi_si, if_neg (by omega)]) (by intros; rw [gi_si, if_neg (by omega)])
theorem sbp_re {p k : Nat} {v : Int32} (hp : rok p) : hU (sb h b S) (b + 9 + p) (ob 5 8 (fun j => if j = k then .int v else reF S p j)) = sb h b (si S 2 k p v) := by
  have := hp.lt
  rw [Nat.add_assoc]
  refine blk_put (by omega) fun q hq => ?_
  by_cases hz : q = 9 + p
  · subst hz
    rw [if_pos rfl, scell_re hp]
    refine ob_cg fun j => ?_
    unfold reF
    by_cases hj : j = k
    · subst hj
      rw [if_pos rfl, gi_si, if_pos ⟨rfl, rfl, rfl⟩]
    · rw [if_neg hj, gi_si, if_neg (by omega)]
  · rw [if_neg hz]
    exact scell_cg (by intros; rw [gi_si, if_neg (by omega)]) (by intros; rw [gi_si, if_neg (by omega)]) (by intros; rw [gi_si, if_neg (by omega)]) (fun i _ _ => ⟨by intros; rw [gi_si, if_neg (by omega)], rfl⟩) (by intros; rw [gi_si, if_neg (by omega)]) (by intros; rw [gi_si, if_neg (by omega)]) (by intros; rw [gi_si, if_neg (by omega)])
theorem sbp_it {p k : Nat} {v : Int32} (hp : iok p) (hk : k ≠ 1 ∧ k ≠ 14) (hb : k = 15 → v = 0 ∨ v = 1) : hU (sb h b S) (b + 20 + 2 * p) (ob 2 19 (fun j => if j = k then .int v else itF b S p j)) = sb h b (si S 3 k p v) := by
  have := hp.lt
  rw [Nat.add_assoc]
  refine blk_put (by omega) fun q hq => ?_
  by_cases hz : q = 20 + 2 * p
  · subst hz
    rw [if_pos rfl, scell_it hp]
    refine ob_cg fun j => ?_
    by_cases hj : j = k
    · subst hj
      rw [if_pos rfl]
      unfold itF
      split
      · exact absurd rfl hk.1
      · exact absurd rfl hk.2
      · rw [gi_si, if_pos ⟨rfl, rfl, rfl⟩, bz_id (hb rfl)]
      · rw [gi_si, if_pos ⟨rfl, rfl, rfl⟩]
    · rw [if_neg hj]
      unfold itF
      split
      · rfl
      · rfl
      · rw [gi_si, if_neg (by omega)]
      · rw [gi_si, if_neg (by omega)]
  · rw [if_neg hz]
    exact scell_cg (by intros; rw [gi_si, if_neg (by omega)]) (by intros; rw [gi_si, if_neg (by omega)]) (by intros; rw [gi_si, if_neg (by omega)]) (fun i _ _ => ⟨by intros; rw [gi_si, if_neg (by omega)], rfl⟩) (by intros; rw [gi_si, if_neg (by omega)]) (by intros; rw [gi_si, if_neg (by omega)]) (by intros; rw [gi_si, if_neg (by omega)])
theorem sbp_ow {p : Nat} {v : Int64} (hp : iok p) : hU (sb h b S) (b + 20 + 2 * p) (ob 2 19 (fun j => if j = 14 then .long v else itF b S p j)) = sb h b (sq S 3 p v) := by
  have := hp.lt
  rw [Nat.add_assoc]
  refine blk_put (by omega) fun q hq => ?_
  by_cases hz : q = 20 + 2 * p
  · subst hz
    rw [if_pos rfl, scell_it hp]
    refine ob_cg fun j => ?_
    by_cases hj : j = 14
    · subst hj
      rw [if_pos rfl]
      show Value.long (gq (sq S 3 p v) 3 p) = _
      rw [gq_sq, if_pos ⟨rfl, rfl⟩]
    · rw [if_neg hj]
      unfold itF
      split <;> first | rfl | exact absurd rfl hj
  · rw [if_neg hz]
    exact scell_cg (by intros; rfl) (by intros; rfl) (by intros; rfl) (fun i _ _ => ⟨by intros; rfl, by rw [gq_sq, if_neg (by omega)]⟩) (by intros; rfl) (by intros; rfl) (by intros; rfl)
theorem sbp_bo {k : Nat} {v : Int32} (hk : 1 ≤ k) : hU (sb h b S) (b + 56) (ob 0 3 (fun j => if j = k then .int v else boF b S j)) = sb h b (si S 5 k 0 v) := by
  refine blk_put (k := 56) (by omega) fun q hq => ?_
  by_cases hz : q = 56
  · subst hz
    rw [if_pos rfl]
    refine ob_cg fun j => ?_
    by_cases hj : j = k
    · subst hj
      rw [if_pos rfl]
      unfold boF
      split <;> first | omega | (rw [gi_si, if_pos ⟨rfl, rfl, rfl⟩])
    · rw [if_neg hj]
      unfold boF
      split <;> first | rfl | (rw [gi_si, if_neg (by omega)])
  · rw [if_neg hz]
    exact scell_cg (by intros; rw [gi_si, if_neg (by omega)]) (by intros; rw [gi_si, if_neg (by omega)]) (by intros; rw [gi_si, if_neg (by omega)]) (fun i _ _ => ⟨by intros; rw [gi_si, if_neg (by omega)], rfl⟩) (by intros; rw [gi_si, if_neg (by omega)]) (by intros; rw [gi_si, if_neg (by omega)]) (by intros; rw [gi_si, if_neg (by omega)])
theorem sbp_qr {p : Nat} {f : Nat → Int32} (hp : iok p) : hU (sb h b S) (b + 21 + 2 * p) (.inl (0, 8, .inl f)) = sb h b (sr S 4 p f) := by
  have := hp.lt
  rw [Nat.add_assoc]
  refine blk_put (by omega) fun q hq => ?_
  by_cases hz : q = 21 + 2 * p
  · subst hz
    rw [if_pos rfl, scell_qu hp]
    unfold quA
    congr 4
    funext j
    rw [gi_sr, if_pos ⟨rfl, rfl⟩]
  · rw [if_neg hz]
    exact scell_cg (by intros; rw [gi_sr, if_neg (by omega)]) (by intros; rw [gi_sr, if_neg (by omega)]) (by intros; rw [gi_sr, if_neg (by omega)]) (fun i _ _ => ⟨by intros; rw [gi_sr, if_neg (by omega)], rfl⟩) (by intros; rw [gi_sr, if_neg (by omega)]) (by intros; rw [gi_sr, if_neg (by omega)]) (by intros; rw [gi_sr, if_neg (by omega)])
theorem sbp_cr {f : Nat → Int32} : hU (sb h b S) (b + 57) (.inl (0, 600, .inl f)) = sb h b (sr S 6 0 f) := by
  refine blk_put (k := 57) (by omega) fun q hq => ?_
  by_cases hz : q = 57
  · subst hz
    rw [if_pos rfl]
    rfl
  · rw [if_neg hz]
    exact scell_cg (by intros; rw [gi_sr, if_neg (by omega)]) (by intros; rw [gi_sr, if_neg (by omega)]) (by intros; rw [gi_sr, if_neg (by omega)]) (fun i _ _ => ⟨by intros; rw [gi_sr, if_neg (by omega)], rfl⟩) (by intros; rw [gi_sr, if_neg (by omega)]) (by intros; rw [gi_sr, if_neg (by omega)]) (by intros; omega)
theorem sr_si {c i k : Nat} {v : Int32} : sr S c i (upd (fun j => gi S c j i) k v) = si S c k i v := by
  refine Prod.ext ?_ rfl
  funext c' j' i'
  show (if c' = c ∧ i' = i then (if j' = k then v else S.1 c j' i) else S.1 c' j' i') = (if c' = c ∧ j' = k ∧ i' = i then v else S.1 c' j' i')
  by_cases h1 : c' = c ∧ i' = i
  · obtain ⟨rfl, rfl⟩ := h1
    by_cases h2 : j' = k
    · rw [if_pos ⟨rfl, rfl⟩, if_pos h2, if_pos ⟨rfl, h2, rfl⟩]
    · rw [if_pos ⟨rfl, rfl⟩, if_neg h2, if_neg (fun z => h2 z.2.1)]
  · rw [if_neg h1, if_neg (fun z => h1 ⟨z.1, z.2.2⟩)]
theorem sbp_qu {p k : Nat} {v : Int32} (hp : iok p) : hU (sb h b S) (b + 21 + 2 * p) (.inl (0, 8, .inl (upd (fun j => gi S 4 j p) k v))) = sb h b (si S 4 k p v) := by rw [sbp_qr hp, sr_si]
theorem sbp_ce {k : Nat} {v : Int32} : hU (sb h b S) (b + 57) (.inl (0, 600, .inl (upd (fun j => gi S 6 j 0) k v))) = sb h b (si S 6 k 0 v) := by rw [sbp_cr, sr_si]
theorem sb_sb {S' : Mem} : sb (sb h b S) b S' = sb h b S' := blk_blk
end SB
