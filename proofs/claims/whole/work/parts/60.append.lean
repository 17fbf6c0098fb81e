/-! ===== BYTES ARE APPENDED ===== -/
section APPEND
variable {B m np nr ni : Nat} {S : XT} {T T' : Mem} {co : Nat → Option Int32}
def by8 (w : Int32) : Int32 := w.toInt8.toInt32.toInt8.toInt32
def TxN (R T : Mem) (n : Nat) : Prop := gi R 1 1 0 = nI n ∧ gi T 100 12 0 = nI n ∧ ∀ j, j < n → gi R 2 j 0 = gi T 11 j 0 ∧ ∃ x : Int8, gi R 2 j 0 = x.toInt32
def adR (R : Mem) (n : Nat) (w : Int32) : Mem := si (si R 2 n 0 (by8 w)) 1 1 0 (nI (n + 1))
def adT (T : Mem) (n : Nat) (w : Int32) : Mem := si (si T 11 n 0 (by8 w)) 100 12 0 (nI (n + 1))
theorem TxN.add {R T : Mem} {n : Nat} {w : Int32} (h : TxN R T n) : TxN (adR R n w) (adT T n w) (n + 1) := by
  obtain ⟨h1, h2, h3⟩ := h
  unfold adR adT
  refine ⟨gi_eq2 ⟨rfl, rfl, rfl⟩, gi_eq2 ⟨rfl, rfl, rfl⟩, fun j hj => ?_⟩
  by_cases e : j = n
  · subst e
    repeat (first | rw [gi_ne (by omega)] | rw [gi_eq2 (by omega)])
    exact ⟨rfl, _, rfl⟩
  · repeat (first | rw [gi_ne (by omega)] | rw [gi_eq2 (by omega)])
    exact h3 j (by omega)
theorem e_addByte {R : Mem} {n : Nat} {w : Int32} (h : gi R 1 1 0 = nI n) (hn : n < 1000) : sX8_addByte R w = adR R n w := by
  unfold sX8_addByte adR by8
  rw [h, if_neg (n_nn (by omega)), if_neg (by rw [n_lit 1000, n_le (by omega) (by omega)]; omega), n_cl (by omega), olet_eq, gi_ne (by omega), h, n_suc]
  rfl
def ad4R (R : Mem) (n : Nat) (w : Int32) : Mem := adR (adR (adR (adR R n (w >>> ((24 : Int32) &&& 31))) (n + 1) (w >>> ((16 : Int32) &&& 31))) (n + 2) (w >>> ((8 : Int32) &&& 31))) (n + 3) w
def ad4T (T : Mem) (n : Nat) (w : Int32) : Mem := adT (adT (adT (adT T n (w >>> ((24 : Int32) &&& 31))) (n + 1) (w >>> ((16 : Int32) &&& 31))) (n + 2) (w >>> ((8 : Int32) &&& 31))) (n + 3) w
theorem adR_n {R : Mem} {n : Nat} {w : Int32} : gi (adR R n w) 1 1 0 = nI (n + 1) := gi_eq2 ⟨rfl, rfl, rfl⟩
theorem adT_n {T : Mem} {n : Nat} {w : Int32} : gi (adT T n w) 100 12 0 = nI (n + 1) := gi_eq2 ⟨rfl, rfl, rfl⟩
theorem e_addWord {R : Mem} {n : Nat} {w : Int32} (h : gi R 1 1 0 = nI n) (hn : n + 3 < 1000) : sX8_addWord R w = ad4R R n w := by
  unfold sX8_addWord ad4R
  simp only [olet_eq]
  rw [e_addByte h (by omega), e_addByte adR_n (by omega), e_addByte adR_n (by omega), e_addByte adR_n (by omega)]
theorem shr0 (w : Int32) : w >>> ((0 : Int32) &&& 31) = w := by
  apply Int32.toBitVec_inj.1
  rw [Int32.toBitVec_shiftRight]
  simp
theorem e_appendBytes {T : Mem} {n : Nat} {w : Int32} (h : gi T 100 12 0 = nI n) (hn : n + 3 < 1000) : sX10_appendBytes T w = some (ad4T T n w) := by
  have st : ∀ {T : Mem} {n : Nat} {s : Int32}, gi T 100 12 0 = nI n → n < 1000 → ¬ s < 0 → sX10_appendBytes_l3_step w (s, T) = some (.inl (s + (-8 : Int32), adT T n (w >>> (s &&& 31)))) := fun {T n s} h hn hs => by
    unfold sX10_appendBytes_l3_step adT by8
    dsimp only
    rw [if_neg hs, h, n_inb (by omega) (by omega), oif_t rfl, n_cl (by omega), olet_eq, gi_ne (by omega), h, n_suc]
    rfl
  unfold sX10_appendBytes sX10_appendBytes_l3 ad4T
  refine (itw_in (st h (by omega) (by decide))).trans ?_
  refine (itw_in (st adT_n (by omega) (by decide))).trans ?_
  refine (itw_in (st adT_n (by omega) (by decide))).trans ?_
  refine (itw_in (st adT_n (by omega) (by decide))).trans ?_
  refine itw_out ?_
  unfold sX10_appendBytes_l3_step
  dsimp only
  rw [if_pos (by decide), show (24 : Int32) + -8 + -8 + -8 = 0 by decide, shr0, show (24 : Int32) + -8 + -8 = 8 by decide, show (24 : Int32) + -8 = 16 by decide]
  rfl
end APPEND
