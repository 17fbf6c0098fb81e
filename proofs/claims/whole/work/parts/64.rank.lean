/-! ===== RANK, THE MOST URGENT, THE MEAN ===== -/
section RKM
variable {B m np nr ni : Nat} {S : XT} {T : Mem} {co : Nat → Option Int32}
def bN (M : Nat) : Nat :=
  let a := M - (M / 2 &&& 1431655765)
  let b := (a &&& 858993459) + (a / 4 &&& 858993459)
  let c := (b + b / 16) &&& 252645135
  let d := c + c / 256
  (d + d / 65536) &&& 63
theorem lane {x y m k : Nat} (hy : y < 256) (hk : k < 256) : (256 * x + y) &&& (256 * m + k) = 256 * (x &&& m) + (y &&& k) := by
  have h1 : ((256 * x + y) &&& (256 * m + k)) % 2 ^ 8 = ((256 * x + y) % 2 ^ 8) &&& ((256 * m + k) % 2 ^ 8) := Nat.and_mod_two_pow
  have h2 : ((256 * x + y) &&& (256 * m + k)) / 2 ^ 8 = ((256 * x + y) / 2 ^ 8) &&& ((256 * m + k) / 2 ^ 8) := Nat.and_div_two_pow
  rw [show (256 * x + y) % 2 ^ 8 = y by omega, show (256 * m + k) % 2 ^ 8 = k by omega] at h1
  rw [show (256 * x + y) / 2 ^ 8 = x by omega, show (256 * m + k) / 2 ^ 8 = m by omega] at h2
  omega
def bA (z : Nat) : Nat := z - (z / 2 &&& 85)
def bP (z : Nat) : Nat := (bA z &&& 51) + (bA z / 4 &&& 51)
def bX (z : Nat) : Nat := (bP z + bP z / 16) % 16
theorem bk1 : ∀ z, z < 256 → (z / 2 &&& 85) ≤ z ∧ bA z < 256 ∧ bP z % 16 ≤ 4 ∧ bP z ≤ 68 ∧ bX z = pcn 8 z ∧ bX z ≤ 8 ∧ (z &&& 3355443) = (z &&& 51) ∧ (z &&& 986895) = z % 16 ∧ (z &&& 5592405) = (z &&& 85) ∧ (z &&& 15) = z % 16 ∧ z / 4 < 256 := by decide +kernel
theorem bk2 : ∀ c, c < 2 → ∀ z, z < 128 → ((128 * c + z) &&& 85) = (z &&& 85) := by decide +kernel
theorem bk3 : ∀ c, c < 4 → ∀ z, z < 64 → ((64 * c + z) &&& 51) = (z &&& 51) := by decide +kernel
theorem pcn_by : ∀ n m M, pcn (n + m) M = pcn n (M % 2 ^ n) + pcn m (M / 2 ^ n) := by
  intro n
  induction n with
  | zero => intro m M; rw [Nat.zero_add]; show pcn m M = 0 + pcn m (M / 1); rw [Nat.div_one, Nat.zero_add]
  | succ n ih =>
    intro m M
    rw [show n + 1 + m = (n + m) + 1 by omega]
    show M % 2 + pcn (n + m) (M / 2) = (M % 2 ^ (n + 1)) % 2 + pcn n (M % 2 ^ (n + 1) / 2) + pcn m (M / 2 ^ (n + 1))
    rw [ih m (M / 2), Nat.div_div_eq_div_mul, ← Nat.pow_succ', Nat.mod_mod_of_dvd M (Nat.dvd_of_pow_dvd (Nat.le_add_left 1 n) (Nat.dvd_refl _)), show M % 2 ^ (n + 1) / 2 = M / 2 % 2 ^ n by rw [Nat.pow_succ', Nat.mod_mul_right_div_self]]
    exact (Nat.add_assoc _ _ _).symm
theorem bN_pcn {M : Nat} (h : M < 65536) : bN M = pcn 16 M := by
  obtain ⟨x, y, hx, hy, rfl⟩ : ∃ x y, x < 256 ∧ y < 256 ∧ M = 256 * x + y := ⟨M / 256, M % 256, by omega, by omega, by omega⟩
  clear h
  obtain ⟨x1, x2, x3, x4, x5, x6, -⟩ := bk1 x hx
  obtain ⟨y1, y2, y3, y4, y5, y6, -⟩ := bk1 y hy
  have s1 : (256 * x + y) / 2 &&& 1431655765 = 256 * (x / 2 &&& 85) + (y / 2 &&& 85) := by
    rw [show (256 * x + y) / 2 = 256 * (x / 2) + (128 * (x % 2) + y / 2) by omega, show (1431655765 : Nat) = 256 * 5592405 + 85 from rfl, lane (by omega) (by omega), bk2 _ (by omega) _ (by omega), (bk1 (x / 2) (by omega)).2.2.2.2.2.2.2.2.1]
  have s2 : 256 * x + y - (256 * (x / 2 &&& 85) + (y / 2 &&& 85)) = 256 * bA x + bA y := by
    unfold bA; omega
  have s3 : (256 * bA x + bA y &&& 858993459) + ((256 * bA x + bA y) / 4 &&& 858993459) = 256 * bP x + bP y := by
    rw [show (256 * bA x + bA y) / 4 = 256 * (bA x / 4) + (64 * (bA x % 4) + bA y / 4) by omega, show (858993459 : Nat) = 256 * 3355443 + 51 from rfl, lane y2 (by omega), lane (by omega) (by omega), bk3 _ (by omega) _ (by omega), (bk1 (bA x) x2).2.2.2.2.2.2.1, (bk1 (bA x / 4) (by omega)).2.2.2.2.2.2.1]
    unfold bP; omega
  have s4 : (256 * bP x + bP y) + (256 * bP x + bP y) / 16 &&& 252645135 = 256 * bX x + bX y := by
    rw [show (256 * bP x + bP y) + (256 * bP x + bP y) / 16 = 256 * (bP x + bP x / 16) + (bP y + bP y / 16 + 16 * (bP x % 16)) by omega, show (252645135 : Nat) = 256 * 986895 + 15 from rfl, lane (by omega) (by omega), (bk1 (bP x + bP x / 16) (by omega)).2.2.2.2.2.2.2.1, (bk1 (bP y + bP y / 16 + 16 * (bP x % 16)) (by omega)).2.2.2.2.2.2.2.2.2.1]
    unfold bX; omega
  have s5 : (256 * bX x + bX y) + (256 * bX x + bX y) / 256 + ((256 * bX x + bX y) + (256 * bX x + bX y) / 256) / 65536 &&& 63 = bX x + bX y := by
    rw [show (256 * bX x + bX y) + (256 * bX x + bX y) / 256 + ((256 * bX x + bX y) + (256 * bX x + bX y) / 256) / 65536 = 256 * bX x + bX x + bX y by omega, show (63 : Nat) = 2 ^ 6 - 1 from rfl, Nat.and_two_pow_sub_one_eq_mod]
    omega
  unfold bN
  dsimp only
  rw [s1, s2, s3, s4, s5, x5, y5]
  have := pcn_by 8 8 (256 * x + y)
  rw [show (256 * x + y) % 2 ^ 8 = y by omega, show (256 * x + y) / 2 ^ 8 = x by omega] at this
  rw [show (16 : Nat) = 8 + 8 from rfl, this, Nat.add_comm]
theorem e_ushr {n : Nat} (hn : n < 2 ^ 32) (s : Int32) (k : Nat) (hs : ((s.toUInt32 &&& Int32.toUInt32 31).toBitVec % 32).toNat = k) : ushr (nI n) s = nI (n / 2 ^ k) := pk_ushrN hn s k hs
theorem e_bc {M : Nat} (h : M < 65536) : sJ6_bitCount (nI M) = nI (pcn 16 M) := by
  rw [← bN_pcn h]
  unfold sJ6_bitCount bc5 bc4 bc3 bc2 bc1 bN
  have l1 : M / 2 &&& 1431655765 ≤ M / 2 := Nat.and_le_left
  rw [e_ushr (k := 1) (by omega) 1 rfl, n_lit 1431655765, nI_and2, pk_sub (show M / 2 ^ 1 &&& 1431655765 ≤ M from Nat.le_trans l1 (Nat.div_le_self _ _))]
  generalize ha : M - (M / 2 ^ 1 &&& 1431655765) = a
  have ha2 : a < 65536 := by rw [← ha]; exact Nat.lt_of_le_of_lt (Nat.sub_le _ _) h
  have l2 : a &&& 858993459 ≤ a := Nat.and_le_left
  have l3 : a / 2 ^ 2 &&& 858993459 ≤ a / 2 ^ 2 := Nat.and_le_left
  rw [e_ushr (k := 2) (by omega) 2 rfl, n_lit 858993459, nI_and2, nI_and2, nI_add]
  generalize hb : (a &&& 858993459) + (a / 2 ^ 2 &&& 858993459) = b
  have hb2 : b < 131072 := by omega
  rw [e_ushr (k := 4) (by omega) 4 rfl, nI_add, n_lit 252645135, nI_and2]
  have l4 : b + b / 2 ^ 4 &&& 252645135 ≤ b + b / 2 ^ 4 := Nat.and_le_left
  generalize hc : b + b / 2 ^ 4 &&& 252645135 = c at l4 ⊢
  rw [e_ushr (k := 8) (by omega) 8 rfl, nI_add]
  generalize hd : c + c / 2 ^ 8 = d
  rw [e_ushr (k := 16) (by omega) 16 rfl, nI_add, n_lit 63, nI_and2]
  subst hd; subst hc; subst hb; subst ha
  rfl
def bel (L : Mem) (s : Int32) : Nat → Bool := fun o => decide (¬ s ≤ gi L 3 3 o)
theorem e_below {L : Mem} (hni : ni ≤ 16) (e9 : gi L 0 9 0 = nI ni) (s : Int32) : sX7_itemsBelow L s = some (nI (msk (bel L s) ni)) := by
  unfold sX7_itemsBelow sX7_itemsBelow_l4
  refine itw_seq (f := sX7_itemsBelow_l4_step L s) (fun u => (nI (msk (bel L s) u), nI u)) ni (fun u hu => ?_) ?_
  · unfold sX7_itemsBelow_l4_step
    dsimp only
    have hle : ¬ nI ni ≤ nI u := by rw [n_le (by omega) (by omega)]; omega
    rw [e9, if_neg hle, e_itemAt (by omega)]
    by_cases e : s ≤ gi L 3 3 u
    · have hf : ¬ bel L s u = true := fun z => (of_decide_eq_true z) e
      rw [if_pos e, n_suc, msk_f hf]
    · have hf : bel L s u = true := decide_eq_true e
      rw [if_neg e, olet_eq, n_suc, msk_or (by omega), msk_t hf]
  · unfold sX7_itemsBelow_l4_step
    dsimp only
    rw [e9, if_pos (Int32.le_refl _)]
    rfl
theorem call_rank (h : IV B (m + 1) S T) (p1 : Int32) : PFX (uP (sX9_rank S B p1) S) (mI (sX10_rank T p1)) co1 (IV B m) := by
  obtain ⟨np, nr, ni, hV⟩ := h
  have hR : Rel S.2.2.2.2.2.1 (si T 100 6 0 0) np nr ni := hV.1.th
  have hni : ni ≤ 16 := hR.1.1.2.2
  have hnr : nr ≤ 10 := hR.1.1.2.1
  have hnp : np ≤ 6 := hR.1.1.1
  rcases e_item hV p1 with ⟨i, hi, rfl, h1, -, h2⟩ | ⟨h1, -, h2⟩
  · have key : ∃ v, sX9_rank S B (nI i) = some (.ok v) ∧ sX10_rank T (nI i) = some (v, si T 100 6 0 0) := by
      unfold sX9_rank sX10_rank
      rw [h1, olet_eq (si T 100 6 0 0), h2 _ (gi_ne (by omega)), if_neg one_ne]
      unfold sX10_rank_j19
      rw [e_thr0, olet_eq ((0 : Int32), si T 100 6 0 0), if_pos rfl]
      dsimp only [oexc]
      clear h2 hV h1
      generalize si T 100 6 0 0 = T0 at hR ⊢
      generalize S.2.2.2.2.2.1 = L at hR ⊢
      have hn2 : msk (bel L (gi L 3 3 i)) ni < 2 ^ ni := msk_lt _ _
      have hn3 : 2 ^ ni ≤ 2 ^ 16 := Nat.pow_le_pow_right (by omega) hni
      rw [e_below hni hR.1.2.1.2.2, obind_some, e_bc (by omega), pcn_msk _ _ hni]
      refine ⟨_, rfl, ?_⟩
      have t4 : gi T0 5 (4 : Int32).toNatClampNeg 0 = nI ni := hR.1.2.2.1.2.2
      unfold sX10_rank_l32
      refine itw_seq (f := sX10_rank_l32_step (nI i)) (fun u => (nI (ctn (bel L (gi L 3 3 i)) u), nI u, T0)) ni (fun u hu => ?_) ?_
      · unfold sX10_rank_l32_step
        dsimp only
        have hle : ¬ nI ni ≤ nI u := by rw [n_le (by omega) (by omega)]; omega
        rw [t4, if_neg hle, e_of_0 (by omega), obind_some, e_of_0 (by omega), obind_some, ← (hR.2.2.2.2.2 u hu).1.1, ← (hR.2.2.2.2.2 i hi).1.1]
        by_cases e : gi L 3 3 i ≤ gi L 3 3 u
        · have hf : ¬ bel L (gi L 3 3 i) u = true := fun z => (of_decide_eq_true z) e
          rw [if_pos e, olet_eq, add_0, n_suc, ctn_f hf]
        · have hf : bel L (gi L 3 3 i) u = true := decide_eq_true e
          rw [if_neg e, olet_eq, n_suc, n_suc, ctn_t hf]
      · unfold sX10_rank_l32_step
        dsimp only
        rw [t4, if_pos (Int32.le_refl _)]
        rfl
    obtain ⟨v, g1, g2⟩ := key
    exact pfp_ok hV g1 g2
  · refine pfp_bad (e := 1) (b := 0) (w := 1) hV ?_ ?_ rfl (by decide)
    · unfold sX9_rank
      rw [h1]
      rfl
    · unfold sX10_rank
      rw [olet_eq, h2 _ (gi_ne (by omega)), if_pos rfl]
      unfold sX10_rank_j19
      rw [e_thr1, olet_eq, if_neg one_ne]
/-- loan u waits and comes before loan i -/
def bef (L : Mem) (i : Nat) : Nat → Bool := fun u => decide (gi L 3 15 u ≠ 0 ∧ (gi L 3 16 u < gi L 3 16 i ∨ (gi L 3 16 u = gi L 3 16 i ∧ u < i)))
theorem e_ahead2 {L T : Mem} {i : Nat} (h : Rel L T np nr ni) (hi : i < ni) : sX7_loansAheadOf L (nI i) = some (nI (ctn (bef L i) ni)) := by
  have hni : ni ≤ 16 := h.1.1.2.2
  have e9 : gi L 0 9 0 = nI ni := h.1.2.1.2.2
  unfold sX7_loansAheadOf sX7_loansAheadOf_l14
  rw [e_itemAt (by omega), olet_eq]
  refine itw_seq (f := sX7_loansAheadOf_l14_step L (nI i)) (fun u => (gi L 3 16 i, nI (ctn (bef L i) u), nI u)) ni (fun u hu => ?_) ?_
  · unfold sX7_loansAheadOf_l14_step
    dsimp only
    have hle : ¬ nI ni ≤ nI u := by rw [n_le (by omega) (by omega)]; omega
    rw [e9, if_neg hle, e_itemAt (by omega)]
    by_cases a : gi L 3 15 u = 0
    · have hf : ¬ bef L i u = true := fun z => (of_decide_eq_true z).1 a
      rw [a, if_pos (show bz 0 = 0 from rfl), n_suc, ctn_f hf]
    · rw [if_neg (fun z => a (bz_0.mp z))]
      by_cases c1 : gi L 3 16 u < gi L 3 16 i
      · have hf : bef L i u = true := decide_eq_true ⟨a, Or.inl c1⟩
        rw [if_pos c1, n_suc, n_suc, ctn_t hf]
      · rw [if_neg c1]
        by_cases c2 : gi L 3 16 u = gi L 3 16 i
        · rw [if_pos c2]
          by_cases c3 : i ≤ u
          · have hf : ¬ bef L i u = true := fun z => by
              rcases (of_decide_eq_true z).2 with q | q
              · exact c1 q
              · omega
            rw [if_pos (show nI i ≤ nI u by rw [n_le (by omega) (by omega)]; exact c3), n_suc, ctn_f hf]
          · have hf : bef L i u = true := decide_eq_true ⟨a, Or.inr ⟨c2, by omega⟩⟩
            rw [if_neg (show ¬ nI i ≤ nI u by rw [n_le (by omega) (by omega)]; exact c3), n_suc, n_suc, ctn_t hf]
        · have hf : ¬ bef L i u = true := fun z => by
            rcases (of_decide_eq_true z).2 with q | q
            · exact c1 q
            · exact c2 q.1
          rw [if_neg c2, n_suc, ctn_f hf]
  · unfold sX7_loansAheadOf_l14_step
    dsimp only
    rw [e9, if_pos (Int32.le_refl _)]
    rfl
theorem ctn_z {f : Nat → Bool} : ∀ {n : Nat}, ctn f n = 0 → ∀ k, k < n → f k = false := by
  intro n
  induction n with
  | zero => intro _ k hk; omega
  | succ n ih =>
    intro h k hk
    by_cases e : f n = true
    · rw [ctn_t e] at h; omega
    · rw [ctn_f e] at h
      by_cases q : k = n
      · subst q; exact Bool.eq_false_iff.mpr e
      · exact ih h k (by omega)
theorem call_mostUrgent (h : IV B (m + 1) S T) : PFA (uA (sX9_mostUrgent S B) S) (sX10_mostUrgent T) (IV B m) := by
  obtain ⟨np, nr, ni, hV⟩ := h
  have hR : Rel S.2.2.2.2.2.1 (si T 100 6 0 0) np nr ni := hV.1.th
  have hni : ni ≤ 16 := hR.1.1.2.2
  have e9 : gi S.2.2.2.2.2.1 0 9 0 = nI ni := hR.1.2.1.2.2
  have t4 : gi (si T 100 6 0 0) 5 (4 : Int32).toNatClampNeg 0 = nI ni := hR.1.2.2.1.2.2
  have key : ∃ v, sX9_mostUrgent S B = some v ∧ sX10_mostUrgent T = some (v, si T 100 6 0 0) := by
    unfold sX9_mostUrgent sX9_waitingLoan sX10_mostUrgent
    rw [olet_eq]
    clear hV
    generalize si T 100 6 0 0 = T0 at hR t4 ⊢
    unfold sX9_waitingLoan_l2 sX10_mostUrgent_l9
    have e8 : ∀ u, u < ni → (gi S.2.2.2.2.2.1 3 15 u = 0 ∧ gi T0 0 (6 + 21 * u + 8) 0 = -1) ∨ (gi S.2.2.2.2.2.1 3 15 u ≠ 0 ∧ gi T0 0 (6 + 21 * u + 8) 0 ≠ -1 ∧ gi T0 0 (6 + 21 * u + 8) 0 = gi S.2.2.2.2.2.1 3 16 u) := by
      intro u hu
      rcases (hR.2.2.2.2.2 u hu).2.2.2.1 with ⟨a, b⟩ | ⟨a, b, -, -, ⟨x, x1, x2⟩, -⟩
      · exact Or.inl ⟨a, b⟩
      · refine Or.inr ⟨a, ?_, b.symm⟩
        rw [← b, x2]; exact n_m1 (by omega)
    generalize hL : S.2.2.2.2.2.1 = L at *
    obtain ⟨r, r1, r2⟩ := itw_one (f := sX10_mostUrgent_l9_step) (J := fun k a => ∃ u, u ≤ ni ∧ k = ni - u ∧ ((a = (-1, nI u, T0) ∧ ∀ w, w < u → gi L 3 15 w = 0) ∨ ∃ b, b < u ∧ a = (nI b, nI u, T0) ∧ gi L 3 15 b ≠ 0 ∧ ∀ w, w < u → bef L b w = false)) (P := fun r => (r = (-1, T0) ∧ ∀ w, w < ni → gi L 3 15 w = 0) ∨ ∃ b, b < ni ∧ r = (nI b, T0) ∧ gi L 3 15 b ≠ 0 ∧ ∀ w, w < ni → bef L b w = false) (fun k a => by
      rintro ⟨u, q1, rfl, q⟩
      unfold sX10_mostUrgent_l9_step
      by_cases e : ni ≤ u
      · have eu : u = ni := by omega
        subst eu
        rcases q with ⟨rfl, q⟩ | ⟨b, hb, rfl, q2, q3⟩
        · dsimp only
          rw [t4, if_pos (Int32.le_refl _)]
          exact Or.inl ⟨_, rfl, Or.inl ⟨rfl, q⟩⟩
        · dsimp only
          rw [t4, if_pos (Int32.le_refl _)]
          exact Or.inl ⟨_, rfl, Or.inr ⟨b, hb, rfl, q2, q3⟩⟩
      · have hle : ¬ nI ni ≤ nI u := by rw [n_le (by omega) (by omega)]; exact e
        have hu : u < ni := by omega
        rcases q with ⟨rfl, q⟩ | ⟨b, hb, rfl, q2, q3⟩
        · dsimp only
          rw [t4, if_neg hle, e_of_8 (by omega), obind_some, n_suc]
          rcases e8 u hu with ⟨a, c⟩ | ⟨a, c, d⟩
          · rw [if_pos c]
            refine Or.inr ⟨_, ni - (u + 1), by omega, rfl, u + 1, by omega, rfl, Or.inl ⟨rfl, fun w hw => ?_⟩⟩
            by_cases ew : w = u
            · subst ew; exact a
            · exact q w (by omega)
          · rw [if_neg c, if_pos rfl]
            refine Or.inr ⟨_, ni - (u + 1), by omega, rfl, u + 1, by omega, rfl, Or.inr ⟨u, by omega, rfl, a, fun w hw => ?_⟩⟩
            refine Bool.eq_false_iff.mpr fun z => ?_
            have z := of_decide_eq_true z
            by_cases ew : w = u
            · subst ew
              rcases z.2 with z | z
              · exact Int32.lt_irrefl z
              · omega
            · exact z.1 (q w (by omega))
        · dsimp only
          rw [t4, if_neg hle, e_of_8 (by omega), obind_some, n_suc]
          rcases e8 u hu with ⟨a, c⟩ | ⟨a, c, d⟩
          · rw [if_pos c]
            refine Or.inr ⟨_, ni - (u + 1), by omega, rfl, u + 1, by omega, rfl, Or.inr ⟨b, by omega, rfl, q2, fun w hw => ?_⟩⟩
            by_cases ew : w = u
            · subst ew
              exact Bool.eq_false_iff.mpr fun z => (of_decide_eq_true z).1 a
            · exact q3 w (by omega)
          · have db : gi T0 0 (6 + 21 * b + 8) 0 = gi L 3 16 b := by
              rcases e8 b (by omega) with ⟨a', -⟩ | ⟨-, -, d'⟩
              · exact absurd a' q2
              · exact d'
            rw [if_neg c, if_neg (n_m1 (by omega)), obind_some, e_of_8 (by omega), obind_some, d, db]
            by_cases c2 : gi L 3 16 b ≤ gi L 3 16 u
            · rw [if_pos c2]
              refine Or.inr ⟨_, ni - (u + 1), by omega, rfl, u + 1, by omega, rfl, Or.inr ⟨b, by omega, rfl, q2, fun w hw => ?_⟩⟩
              by_cases ew : w = u
              · subst ew
                refine Bool.eq_false_iff.mpr fun z => ?_
                rcases (of_decide_eq_true z).2 with z | z
                · exact absurd c2 (Int32.not_le.mpr z)
                · omega
              · exact q3 w (by omega)
            · rw [if_neg c2]
              refine Or.inr ⟨_, ni - (u + 1), by omega, rfl, u + 1, by omega, rfl, Or.inr ⟨u, by omega, rfl, a, fun w hw => ?_⟩⟩
              refine Bool.eq_false_iff.mpr fun z => ?_
              have z := of_decide_eq_true z
              have c3 := Int32.not_le.mp c2
              by_cases ew : w = u
              · subst ew
                rcases z.2 with z | z
                · exact Int32.lt_irrefl z
                · omega
              · have q4 := q3 w (by omega)
                refine absurd (show bef L b w = true from decide_eq_true ⟨z.1, Or.inl ?_⟩) (by rw [q4]; decide)
                rcases z.2 with z | z
                · exact Int32.lt_trans z c3
                · rw [z.1]; exact c3) (k := ni - 0) (a := ((-1 : Int32), (0 : Int32), T0)) ⟨0, by omega, rfl, Or.inl ⟨rfl, fun w hw => by omega⟩⟩
    refine ⟨r.1, ?_, ?_⟩
    · obtain ⟨r', p1, p2⟩ := itw_one (f := sX9_waitingLoan_l2_step S B 0) (J := fun k a => ∃ u, u ≤ ni ∧ k = ni - u ∧ a = nI u ∧ ∀ b, r.1 = nI b → b < ni → u ≤ b) (P := fun x => x = r.1) (fun k a => by
        rintro ⟨u, q1, rfl, rfl, q2⟩
        unfold sX9_waitingLoan_l2_step
        rw [hL, e9]
        by_cases e : ni ≤ u
        · have hle : nI ni ≤ nI u := by rw [n_le (by omega) (by omega)]; exact e
          rw [if_pos hle]
          rcases r2 with ⟨rfl, -⟩ | ⟨b, hb, rfl, -⟩
          · exact Or.inl ⟨_, rfl, rfl⟩
          · have := q2 b rfl hb; omega
        · have hle : ¬ nI ni ≤ nI u := by rw [n_le (by omega) (by omega)]; exact e
          have hu : u < ni := by omega
          rw [if_neg hle, e_itemAt (by omega), n_suc]
          by_cases a : gi L 3 15 u = 0
          · rw [a, if_pos (show bz 0 = 0 from rfl), olet_eq]
            refine Or.inr ⟨_, ni - (u + 1), by omega, rfl, u + 1, by omega, rfl, rfl, fun b hb hb2 => ?_⟩
            have q3 := q2 b hb hb2
            rcases r2 with ⟨rfl, -⟩ | ⟨b', hb', rfl, b2, -⟩
            · exact absurd hb (n_m1' (by omega))
            · have : b' = b := by
                have hb : nI b' = nI b := hb
                rw [n_eq (by omega) (by omega)] at hb; exact hb
              subst this
              by_cases eb : u = b'
              · subst eb; exact absurd a b2
              · omega
          · rw [if_neg (fun z => a (bz_0.mp z)), e_ahead2 hR hu, obind_some]
            rcases r2 with ⟨rfl, b1⟩ | ⟨b, hb, rfl, b2, b3⟩
            · exact absurd (b1 u hu) a
            · have q3 := q2 b rfl hb
              have hcl := ctn_le (bef L u) ni
              by_cases eb : u = b
              · subst eb
                rw [ctn_none b3, if_pos (show nI 0 = (0 : Int32) from rfl)]
                exact Or.inl ⟨_, rfl, rfl⟩
              · have hb4 : bef L u b = true := by
                  refine decide_eq_true ⟨b2, ?_⟩
                  have h5 := b3 u hu
                  by_cases c1 : gi L 3 16 b < gi L 3 16 u
                  · exact Or.inl c1
                  · refine absurd (show bef L b u = true from decide_eq_true ⟨a, ?_⟩) (by rw [h5]; decide)
                    by_cases c2 : gi L 3 16 u < gi L 3 16 b
                    · exact Or.inl c2
                    · exact Or.inr ⟨Int32.le_antisymm (Int32.not_lt.mp c1) (Int32.not_lt.mp c2), by omega⟩
                have hne : ctn (bef L u) ni ≠ 0 := fun z => by
                  rw [ctn_z z b hb] at hb4; cases hb4
                rw [if_neg (by rw [n_lit 0, n_eq (by omega) (by omega)]; exact hne), olet_eq]
                refine Or.inr ⟨_, ni - (u + 1), by omega, rfl, u + 1, by omega, rfl, rfl, fun b' hb' hb2 => ?_⟩
                have q4 := q2 b' hb' hb2
                have : b = b' := by
                  have hb' : nI b = nI b' := hb'
                  rw [n_eq (by omega) (by omega)] at hb'; exact hb'
                omega) (k := ni - 0) (a := (0 : Int32)) ⟨0, by omega, rfl, rfl, fun b _ _ => by omega⟩
      rw [p1, p2, obind_some]
    · rw [r1]
      rcases r2 with ⟨rfl, -⟩ | ⟨b, -, rfl, -⟩ <;> rfl
  obtain ⟨v, g1, g2⟩ := key
  exact pfa_ok hV g1 g2
end RKM
