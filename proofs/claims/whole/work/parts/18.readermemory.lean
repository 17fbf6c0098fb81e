/-! ===== THE READER'S FIVE CELLS, THE RANGES, THE TEXTS (laid by a program) ===== -/
def rd0F (b : Nat) (S : Mem) : Nat → Value := fun j => match j with
  | 0 => .ref (b + 1) | 1 => .ref (b + 3) | 2 => .ref (b + 4) | j => .int (gi S 0 j 0)
def rd1F (b : Nat) (S : Mem) : Nat → Value := fun j => match j with
  | 0 => .ref (b + 2) | j => .int (gi S 1 j 0)
def rdc (b : Nat) (S : Mem) (k : Nat) : AE :=
  if k = 0 then ob 4 8 (rd0F b S)
  else if k = 1 then ob 8 6 (rd1F b S)
  else if k = 2 then .inl (3, 1000, .inl (fun j => gi S 2 j 0))
  else if k = 3 then .inl (0, 7, .inl (fun j => gi S 3 j 0))
  else .inl (0, 200, .inl (fun j => gi S 4 j 0))
def rb (h : AH) (b : Nat) (S : Mem) : AH := blk h b 5 (rdc b S)
section
variable {h : AH} {b : Nat} {S : Mem}
theorem rb_0 : (rb h b S).1 (b) = some (ob 4 8 (rd0F b S)) := blk_in (k := 0) (by omega)
theorem rb_1 : (rb h b S).1 (b + 1) = some (ob 8 6 (rd1F b S)) := blk_in (k := 1) (by omega)
theorem rb_2 : (rb h b S).1 (b + 2) = some (.inl (3, 1000, .inl (fun j => gi S 2 j 0))) := blk_in (k := 2) (by omega)
theorem rb_3 : (rb h b S).1 (b + 3) = some (.inl (0, 7, .inl (fun j => gi S 3 j 0))) := blk_in (k := 3) (by omega)
theorem rb_4 : (rb h b S).1 (b + 4) = some (.inl (0, 200, .inl (fun j => gi S 4 j 0))) := blk_in (k := 4) (by omega)
theorem rb_n {q : Nat} (h : q < 5) : q = 0 ∨ q = 1 ∨ q = 2 ∨ q = 3 ∨ q = 4 := by omega
theorem rbp_0 {k : Nat} {v : Int32} (hk : k ≠ 0 ∧ k ≠ 1 ∧ k ≠ 2) : hU (rb h b S) (b) (ob 4 8 (fun j => if j = k then .int v else rd0F b S j)) = rb h b (si S 0 k 0 v) := by
  refine blk_put (k := 0) (by omega) fun q hq => ?_
  by_cases hz : q = 0
  · subst hz
    rw [if_pos rfl]
    refine ob_cg fun j => ?_
    by_cases hj : j = k
    · subst hj
      rw [if_pos rfl]
      unfold rd0F
      split <;> first | (exfalso; omega) | (rw [gi_si, if_pos ⟨rfl, rfl, rfl⟩])
    · rw [if_neg hj]
      unfold rd0F
      split <;> first | rfl | (rw [gi_si, if_neg (by omega)])
  · rw [if_neg hz]
    rcases rb_n hq with rfl | rfl | rfl | rfl | rfl <;> first | rfl | exact absurd rfl hz | exact ob_cg (fun j => by unfold rd0F; split <;> rfl) | exact ob_cg (fun j => by unfold rd1F; split <;> rfl)
theorem rbp_1 {k : Nat} {v : Int32} (hk : k ≠ 0) : hU (rb h b S) (b + 1) (ob 8 6 (fun j => if j = k then .int v else rd1F b S j)) = rb h b (si S 1 k 0 v) := by
  refine blk_put (k := 1) (by omega) fun q hq => ?_
  by_cases hz : q = 1
  · subst hz
    rw [if_pos rfl]
    refine ob_cg fun j => ?_
    by_cases hj : j = k
    · subst hj
      rw [if_pos rfl]
      unfold rd1F
      split <;> first | (exfalso; omega) | (rw [gi_si, if_pos ⟨rfl, rfl, rfl⟩])
    · rw [if_neg hj]
      unfold rd1F
      split <;> first | rfl | (rw [gi_si, if_neg (by omega)])
  · rw [if_neg hz]
    rcases rb_n hq with rfl | rfl | rfl | rfl | rfl <;> first | rfl | exact absurd rfl hz | exact ob_cg (fun j => by unfold rd0F; split <;> rfl) | exact ob_cg (fun j => by unfold rd1F; split <;> rfl)
theorem rbp_2 {k : Nat} {v : Int32} : hU (rb h b S) (b + 2) (.inl (3, 1000, .inl (upd (fun j => gi S 2 j 0) k v))) = rb h b (si S 2 k 0 v) := by
  refine blk_put (k := 2) (by omega) fun q hq => ?_
  by_cases hz : q = 2
  · subst hz
    rw [if_pos rfl]
    show (Sum.inl (3, 1000, .inl (fun j => gi (si S 2 k 0 v) 2 j 0)) : AE) = _
    refine congrArg (fun f => (Sum.inl (3, 1000, .inl f) : AE)) (funext fun j => ?_)
    show gi (si S 2 k 0 v) 2 j 0 = (if j = k then v else gi S 2 j 0)
    rw [gi_si]
    by_cases hj : j = k
    · rw [if_pos ⟨rfl, hj, rfl⟩, if_pos hj]
    · rw [if_neg (fun z => hj z.2.1), if_neg hj]
  · rw [if_neg hz]
    rcases rb_n hq with rfl | rfl | rfl | rfl | rfl <;> first | rfl | exact absurd rfl hz | exact ob_cg (fun j => by unfold rd0F; split <;> rfl) | exact ob_cg (fun j => by unfold rd1F; split <;> rfl)
theorem rbp_3 {k : Nat} {v : Int32} : hU (rb h b S) (b + 3) (.inl (0, 7, .inl (upd (fun j => gi S 3 j 0) k v))) = rb h b (si S 3 k 0 v) := by
  refine blk_put (k := 3) (by omega) fun q hq => ?_
  by_cases hz : q = 3
  · subst hz
    rw [if_pos rfl]
    show (Sum.inl (0, 7, .inl (fun j => gi (si S 3 k 0 v) 3 j 0)) : AE) = _
    refine congrArg (fun f => (Sum.inl (0, 7, .inl f) : AE)) (funext fun j => ?_)
    show gi (si S 3 k 0 v) 3 j 0 = (if j = k then v else gi S 3 j 0)
    rw [gi_si]
    by_cases hj : j = k
    · rw [if_pos ⟨rfl, hj, rfl⟩, if_pos hj]
    · rw [if_neg (fun z => hj z.2.1), if_neg hj]
  · rw [if_neg hz]
    rcases rb_n hq with rfl | rfl | rfl | rfl | rfl <;> first | rfl | exact absurd rfl hz | exact ob_cg (fun j => by unfold rd0F; split <;> rfl) | exact ob_cg (fun j => by unfold rd1F; split <;> rfl)
theorem rbp_4 {k : Nat} {v : Int32} : hU (rb h b S) (b + 4) (.inl (0, 200, .inl (upd (fun j => gi S 4 j 0) k v))) = rb h b (si S 4 k 0 v) := by
  refine blk_put (k := 4) (by omega) fun q hq => ?_
  by_cases hz : q = 4
  · subst hz
    rw [if_pos rfl]
    show (Sum.inl (0, 200, .inl (fun j => gi (si S 4 k 0 v) 4 j 0)) : AE) = _
    refine congrArg (fun f => (Sum.inl (0, 200, .inl f) : AE)) (funext fun j => ?_)
    show gi (si S 4 k 0 v) 4 j 0 = (if j = k then v else gi S 4 j 0)
    rw [gi_si]
    by_cases hj : j = k
    · rw [if_pos ⟨rfl, hj, rfl⟩, if_pos hj]
    · rw [if_neg (fun z => hj z.2.1), if_neg hj]
  · rw [if_neg hz]
    rcases rb_n hq with rfl | rfl | rfl | rfl | rfl <;> first | rfl | exact absurd rfl hz | exact ob_cg (fun j => by unfold rd0F; split <;> rfl) | exact ob_cg (fun j => by unfold rd1F; split <;> rfl)
end
theorem rs_comm {h : AH} {r c : Nat} {S T : Mem} (hd : r + 5 ≤ c ∨ c + 58 ≤ r) : rb (sb h c T) r S = sb (rb h r S) c T := blk_comm (by omega)
def sA (g : AG) (k : Nat) : Nat := match gV g k with
  | .ref a => a
  | _ => 0
def rvl (k : Nat) : List Int32 := match k with
  | 0 => [1, 4]
  | 1 => [1, 500]
  | 2 => [1, 100]
  | 3 => [1, 40, 0, 200, 0, 1, 0, 3, 0, 500, 0, 100, 1, 100000000]
  | 4 => [1, 100, 0, 1000, 0, 3]
  | 5 => [0, 15, 0, 9]
  | 6 => [0, 15]
  | 7 => [0, 15, 0, 20000, 0, 1000, 1, 500]
  | 8 => [1, 1000]
  | _ => []
def rn (k : Nat) : Nat := (rvl k).length
def rv (k j : Nat) : Int32 := (rvl k).getD j 0
/-- the arrays of ranges, as the class's statics hold them -/
def sok (k : Nat) : Prop := k < 9
theorem sok_0 : sok 0 := by unfold sok; omega
theorem sok_1 : sok 1 := by unfold sok; omega
theorem sok_2 : sok 2 := by unfold sok; omega
theorem sok_3 : sok 3 := by unfold sok; omega
theorem sok_4 : sok 4 := by unfold sok; omega
theorem sok_5 : sok 5 := by unfold sok; omega
theorem sok_6 : sok 6 := by unfold sok; omega
theorem sok_7 : sok 7 := by unfold sok; omega
theorem sok_8 : sok 8 := by unfold sok; omega
def tok (k : Nat) : Prop := 4 ≤ k ∧ k < 15
theorem tok_4 : tok 4 := by unfold tok; omega
theorem tok_5 : tok 5 := by unfold tok; omega
theorem tok_6 : tok 6 := by unfold tok; omega
theorem tok_7 : tok 7 := by unfold tok; omega
theorem tok_8 : tok 8 := by unfold tok; omega
theorem tok_9 : tok 9 := by unfold tok; omega
theorem tok_10 : tok 10 := by unfold tok; omega
theorem tok_11 : tok 11 := by unfold tok; omega
theorem tok_12 : tok 12 := by unfold tok; omega
theorem tok_13 : tok 13 := by unfold tok; omega
theorem tok_14 : tok 14 := by unfold tok; omega
/-- the texts' bytes -/
def txl (k : Nat) : List Int32 := match k with
  | 4 => [98, 101, 110, 99, 104, 101, 115]
  | 5 => [108, 105, 102, 101]
  | 6 => [112, 114, 101, 115, 115]
  | 7 => [114, 101, 99, 105, 112, 101]
  | 8 => [111, 98, 106, 101, 99, 116]
  | 9 => [112, 108, 97, 110]
  | 10 => [99, 97, 110, 99, 101, 108]
  | 11 => [97, 112, 112, 114, 111, 118, 101]
  | 12 => [108, 101, 110, 100]
  | 13 => [114, 101, 99, 97, 108, 108]
  | 14 => [116, 105, 99, 107]
  | _ => []
def Sta (g : AG) (h : AH) : Prop := (∀ k, k < 9 → gV g k = .ref (sA g k) ∧ h.1 (sA g k) = some (.inl (0, rn k, .inl (rv k))) ∧ sA g k < gB g) ∧ (gV g 9 = .int 1 ∧ (gV g 10 = .null ∨ ∃ a, gV g 10 = .ref a)) ∧
  ∀ k, 4 ≤ k → k < 15 → gS g k < gB g ∧ ∃ a, a < gB g ∧ h.1 (gS g k) = some (ob 11 2 (fun j => match j with | 0 => .ref a | _ => .int 0)) ∧ h.1 a = some (.inl (3, (txl k).length, .inl (fun j => (txl k).getD j 0)))
theorem Sta.blk {g : AG} {h : AH} {a n : Nat} {f : Nat → AE} (hs : Sta g h) (hA : gB g ≤ a) : Sta g (blk h a n f) := by
  obtain ⟨h1, h2, h3⟩ := hs
  refine ⟨fun k hk => ?_, h2, fun k h4 h5 => ?_⟩
  · obtain ⟨e1, e2, e3⟩ := h1 k hk
    exact ⟨e1, by rw [blk_out (by omega)]; exact e2, e3⟩
  · obtain ⟨e1, b, e2, e3, e4⟩ := h3 k h4 h5
    exact ⟨e1, b, e2, by rw [blk_out (by omega)]; exact e3, by rw [blk_out (by omega)]; exact e4⟩
section
variable {g : AG} {M : AM} {pc nx : Nat} {L : List (Option Value)} {S : List Value} {h : AH} {Q : AO → AH → Prop}
theorem AW.getsN {i k : Nat} {C n d host : String} (hr : (pc, Instr.getstatic i, 3) ∈ mR M) (hn : pc + 3 = nx) (hk : am_st[k]? = some (C, n, d)) (hw : Cond.fieldLinkNest (mY M).cls i C n d host ∈ am_nw) (hv : gV g k = .ref (sA g k)) (kk : AW g M nx L (.ref (sA g k) :: S) h Q) : AW g M pc L S h Q := by
  refine AW.getstN hr hn hk hw ?_
  rw [hv]
  exact kk
theorem AW.ldcs {i k : Nat} {own tx : String} (hr : (pc, Instr.ldc i, 2) ∈ mR M) (hn : pc + 2 = nx) (ho : (mY M).cls = own) (hk : am_tx[k]? = some (own, i, tx)) (kk : AW g M nx L (.ref (gS g k) :: S) h Q) : AW g M pc L S h Q := by
  subst hn
  subst ho
  intro p e s m args below meth c H locs cells slots ls hC hF hH hS hL
  obtain ⟨hx, hb, hml, -, -, hown, hts, -, -, hok, -⟩ := id hC
  have hZ := hF.2.2.1 k _ hk
  intro T hT X
  obtain ⟨t, a1, b1⟩ := kk p e s m args below meth c H locs cells slots ls hC hF hH hS hL T hT X
  exact ⟨t, X.ldcString hx hown hZ.1 hZ.2 (g := F0 m pc ls S) rfl (by rw [hb]; exact am_dec hok hr) t a1, b1⟩
theorem rs_get {h : AH} {r b q : Nat} {R T : Mem} {e : AE} (hd : r + 5 ≤ b ∨ b + 58 ≤ r) (hp : ∀ h : AH, (sb h b T).1 q = some e) : (rb (sb h b T) r R).1 q = some e := by
  rw [rs_comm hd]
  exact hp _
theorem rs_put {h : AH} {r b c : Nat} {R T : Mem} {e : AE} {T' : Mem} (hd : r + 5 ≤ b ∨ b + 58 ≤ r) (hp : ∀ h : AH, hU (sb h b T) c e = sb h b T') : hU (rb (sb h b T) r R) c e = rb (sb h b T') r R := by
  rw [rs_comm hd, hp, ← rs_comm hd]
end
