/-! ===== BYTES ARE APPENDED ===== -/
section APPEND
variable {B m np nr ni : Nat} {S : XT} {T T' : Mem} {co : Nat → Option Int32}
def by8 (w : Int32) : Int32 := w.toInt8.toInt32.toInt8.toInt32
def TxN (R T : Mem) (n : Nat) : Prop := gi R 1 1 0 = nI n ∧ gi T 100 12 0 = nI n ∧ ∀ j, j < n → gi R 2 j 0 = gi T 11 j 0 ∧ ∃ x : Int8, gi R 2 j 0 = x.toInt32
def adR (R : Mem) (n : Nat) (w : Int32) : Mem := si (si R 2 n 0 (by8 w)) 1 1 0 (nI (n + 1))
def adT (T : Mem) (n : Nat) (w : Int32) : Mem := si (si T 11 n 0 (by8 w)) 100 12 0 (nI (n + 1))
theorem TxN.add {R T : Mem} {n : Nat} {w : Int32} (h : TxN R T n) : TxN (adR R n w) (adT T n w) (n + 1) := by
  obtain ⟨h1, h2, h3⟩ := h
  unfold adR adT
  refine ⟨gi_eq2 ⟨rfl, rfl, rfl⟩, gi_eq2 ⟨rfl, rfl, rfl⟩, fun j hj => ?_⟩
  by_cases e : j = n
  · subst e
    repeat (first | rw [gi_ne (by omega)] | rw [gi_eq2 (by omega)])
    exact ⟨rfl, _, rfl⟩
  · repeat (first | rw [gi_ne (by omega)] | rw [gi_eq2 (by omega)])
    exact h3 j (by omega)
theorem e_addByte {R : Mem} {n : Nat} {w : Int32} (h : gi R 1 1 0 = nI n) (hn : n < 1000) : sX8_addByte R w = adR R n w := by
  unfold sX8_addByte adR by8
  rw [h, if_neg (n_nn (by omega)), if_neg (by rw [n_lit 1000, n_le (by omega) (by omega)]; omega), n_cl (by omega), olet_eq, gi_ne (by omega), h, n_suc]
  rfl
def ad4R (R : Mem) (n : Nat) (w : Int32) : Mem := adR (adR (adR (adR R n (w >>> ((24 : Int32) &&& 31))) (n + 1) (w >>> ((16 : Int32) &&& 31))) (n + 2) (w >>> ((8 : Int32) &&& 31))) (n + 3) w
def ad4T (T : Mem) (n : Nat) (w : Int32) : Mem := adT (adT (adT (adT T n (w >>> ((24 : Int32) &&& 31))) (n + 1) (w >>> ((16 : Int32) &&& 31))) (n + 2) (w >>> ((8 : Int32) &&& 31))) (n + 3) w
theorem adR_n {R : Mem} {n : Nat} {w : Int32} : gi (adR R n w) 1 1 0 = nI (n + 1) := gi_eq2 ⟨rfl, rfl, rfl⟩
theorem adT_n {T : Mem} {n : Nat} {w : Int32} : gi (adT T n w) 100 12 0 = nI (n + 1) := gi_eq2 ⟨rfl, rfl, rfl⟩
theorem e_addWord {R : Mem} {n : Nat} {w : Int32} (h : gi R 1 1 0 = nI n) (hn : n + 3 < 1000) : sX8_addWord R w = ad4R R n w := by
  unfold sX8_addWord ad4R
  simp only [olet_eq]
  rw [e_addByte h (by omega), e_addByte adR_n (by omega), e_addByte adR_n (by omega), e_addByte adR_n (by omega)]
theorem shr0 (w : Int32) : w >>> ((0 : Int32) &&& 31) = w := by
  apply Int32.toBitVec_inj.1
  rw [Int32.toBitVec_shiftRight]
  simp
theorem e_appendBytes {T : Mem} {n : Nat} {w : Int32} (h : gi T 100 12 0 = nI n) (hn : n + 3 < 1000) : sX10_appendBytes T w = some (ad4T T n w) := by
  have st : ∀ {T : Mem} {n : Nat} {s : Int32}, gi T 100 12 0 = nI n → n < 1000 → ¬ s < 0 → sX10_appendBytes_l3_step w (s, T) = some (.inl (s + (-8 : Int32), adT T n (w >>> (s &&& 31)))) := fun {T n s} h hn hs => by
    unfold sX10_appendBytes_l3_step adT by8
    dsimp only
    rw [if_neg hs, h, n_inb (by omega) (by omega), oif_t rfl, n_cl (by omega), olet_eq, gi_ne (by omega), h, n_suc]
    rfl
  unfold sX10_appendBytes sX10_appendBytes_l3 ad4T
  refine (itw_in (st h (by omega) (by decide))).trans ?_
  refine (itw_in (st adT_n (by omega) (by decide))).trans ?_
  refine (itw_in (st adT_n (by omega) (by decide))).trans ?_
  refine (itw_in (st adT_n (by omega) (by decide))).trans ?_
  refine itw_out ?_
  unfold sX10_appendBytes_l3_step
  dsimp only
  rw [if_pos (by decide), show (24 : Int32) + -8 + -8 + -8 = 0 by decide, shr0, show (24 : Int32) + -8 + -8 = 8 by decide, show (24 : Int32) + -8 = 16 by decide]
  rfl
/-- the text relation with what the calls on the text keep -/
def TxK (T0 R T : Mem) (n : Nat) (a b : Int32) : Prop := TxN R T n ∧ FrQ T0 T ∧ (gi R 0 4 0 = a ∧ gi T 100 14 0 = a) ∧ gi R 0 5 0 = b ∧ gi T 100 15 0 = b
theorem TxK.add {T0 R T : Mem} {n : Nat} {a b w : Int32} (h : TxK T0 R T n a b) : TxK T0 (adR R n w) (adT T n w) (n + 1) a b := by
  obtain ⟨h1, h2, ⟨h3, h4⟩, h5, h6⟩ := h
  refine ⟨h1.add, (h2.trans (FrQ.set (by omega))).trans (FrQ.set (by omega)), ⟨?_, ?_⟩, ?_, ?_⟩ <;> (first | unfold adR | unfold adT) <;> rw [gi_ne (by omega), gi_ne (by omega)] <;> assumption
theorem TxK.add4 {T0 R T : Mem} {n : Nat} {a b w : Int32} (h : TxK T0 R T n a b) : TxK T0 (ad4R R n w) (ad4T T n w) (n + 4) a b := h.add.add.add.add
theorem call_appendInput (h : IV B (m + 1) S T) (p1 p2 p3 p4 p5 : Int32) : PFA (sX9_appendInput S B p1 p2 p3 p4 p5) (sX10_appendInput T p1 p2 p3 p4 p5) (IV B m) := by
  obtain ⟨np, nr, ni, hV⟩ := h
  obtain ⟨⟨n, h1, h2, h3, h4⟩, h5, h6⟩ := hV.2.2.2.2.1
  have k0 : TxK T S.2.2.2.1 (si T 100 6 0 0) n (gi S.2.2.2.1 0 4 0) (gi S.2.2.2.1 0 5 0) := ⟨⟨h2, (gi_ne (by omega)).trans h3, fun j hj => by
    rw [gi_ne (c := 100) (by omega)]; exact h4 j hj⟩, FrQ.set (by omega), ⟨rfl, (gi_ne (by omega)).trans h5.symm⟩, rfl, (gi_ne (by omega)).trans h6.symm⟩
  unfold sX9_appendInput sX10_appendInput sX8_hasRoomFor
  simp only [olet_eq]
  rw [h2, k0.1.2.1, n_lit 20, nI_add]
  by_cases e : n + 20 ≤ 1000
  · have e1 : ¬ (1000 : Int32) < nI (n + 20) := by rw [n_lit 1000, n_lt (by omega) (by omega)]; omega
    have e2 : nI (n + 20) ≤ (1000 : Int32) := by rw [n_lit 1000, n_le (by omega) (by omega)]; exact e
    have k1 := k0.add4 (w := p1)
    have k2 := k1.add4 (w := p2)
    have k3 := k2.add4 (w := p3)
    have k4 := k3.add4 (w := p4)
    have k5 := k4.add4 (w := p5)
    rw [if_neg e1, if_neg one_ne, if_pos e2, e_addWord h2 (by omega), e_addWord k1.1.1 (by omega), e_addWord k2.1.1 (by omega), e_addWord k3.1.1 (by omega), e_addWord k4.1.1 (by omega), e_appendBytes k0.1.2.1 (by omega), obind_some, e_appendBytes k1.1.2.1 (by omega), obind_some, e_appendBytes k2.1.2.1 (by omega), obind_some, e_appendBytes k3.1.2.1 (by omega), obind_some, e_appendBytes k4.1.2.1 (by omega), obind_some, k5.1.1, k5.1.2.1]
    refine ⟨_, _, _, rfl, rfl, np, nr, ni, (hV.mono (Nat.le_succ _)).text k5.2.1 ⟨⟨n + 4 + 4 + 4 + 4 + 4, by omega, k5.1⟩, k5.2.2.1.1.trans k5.2.2.1.2.symm, k5.2.2.2.1.trans k5.2.2.2.2.symm⟩⟩
  · have e1 : (1000 : Int32) < nI (n + 20) := by rw [n_lit 1000, n_lt (by omega) (by omega)]; omega
    have e2 : ¬ nI (n + 20) ≤ (1000 : Int32) := by rw [n_lit 1000, n_le (by omega) (by omega)]; exact e
    rw [if_pos e1, if_pos rfl, if_neg e2]
    exact ⟨_, _, _, rfl, rfl, np, nr, ni, hV.th.mono (Nat.le_succ _)⟩
end APPEND
