/-! ===== RANK, THE MOST URGENT, THE MEAN ===== -/
section RKM
variable {B m np nr ni : Nat} {S : XT} {T : Mem} {co : Nat → Option Int32}
def bN (M : Nat) : Nat :=
  let a := M - (M / 2 &&& 1431655765)
  let b := (a &&& 858993459) + (a / 4 &&& 858993459)
  let c := (b + b / 16) &&& 252645135
  let d := c + c / 256
  (d + d / 65536) &&& 63
def bck : Bool := (List.range 256).all fun x => (List.range 256).all fun y => Nat.beq (bN (256 * x + y)) (pcn 16 (256 * x + y))
theorem bck_t : bck = true := by decide +kernel
theorem bN_pcn {M : Nat} (h : M < 65536) : bN M = pcn 16 M := by
  have h1 := List.all_eq_true.mp bck_t (M / 256) (List.mem_range.mpr (by omega))
  have h2 := List.all_eq_true.mp h1 (M % 256) (List.mem_range.mpr (by omega))
  have h3 := Nat.eq_of_beq_eq_true h2
  rw [Nat.div_add_mod M 256] at h3
  exact h3
theorem e_ushr {n : Nat} (hn : n < 2 ^ 32) (s : Int32) (k : Nat) (hs : ((s.toUInt32 &&& Int32.toUInt32 31).toBitVec % 32).toNat = k) : ushr (nI n) s = nI (n / 2 ^ k) := pk_ushrN hn s k hs
theorem e_bc {M : Nat} (h : M < 65536) : sJ6_bitCount (nI M) = nI (pcn 16 M) := by
  rw [← bN_pcn h]
  unfold sJ6_bitCount bc5 bc4 bc3 bc2 bc1 bN
  have l1 : M / 2 &&& 1431655765 ≤ M / 2 := Nat.and_le_left
  rw [e_ushr (k := 1) (by omega) 1 rfl, n_lit 1431655765, nI_and2, pk_sub (by omega)]
  generalize ha : M - (M / 2 ^ 1 &&& 1431655765) = a
  have ha2 : a < 65536 := by omega
  have l2 : a &&& 858993459 ≤ a := Nat.and_le_left
  have l3 : a / 2 ^ 2 &&& 858993459 ≤ a / 2 ^ 2 := Nat.and_le_left
  rw [e_ushr (k := 2) (by omega) 2 rfl, n_lit 858993459, nI_and2, nI_and2, nI_add]
  generalize hb : (a &&& 858993459) + (a / 2 ^ 2 &&& 858993459) = b
  have hb2 : b < 131072 := by omega
  rw [e_ushr (k := 4) (by omega) 4 rfl, nI_add, n_lit 252645135, nI_and2]
  have l4 : b + b / 2 ^ 4 &&& 252645135 ≤ b + b / 2 ^ 4 := Nat.and_le_left
  generalize hc : b + b / 2 ^ 4 &&& 252645135 = c at l4 ⊢
  rw [e_ushr (k := 8) (by omega) 8 rfl, nI_add]
  generalize hd : c + c / 2 ^ 8 = d
  rw [e_ushr (k := 16) (by omega) 16 rfl, nI_add, n_lit 63, nI_and2]
  subst hd; subst hc; subst hb; subst ha
  rfl
def bel (L : Mem) (s : Int32) : Nat → Bool := fun o => decide (¬ s ≤ gi L 3 3 o)
theorem e_below {L : Mem} (hni : ni ≤ 16) (e9 : gi L 0 9 0 = nI ni) (s : Int32) : sX7_itemsBelow L s = some (nI (msk (bel L s) ni)) := by
  unfold sX7_itemsBelow sX7_itemsBelow_l4
  refine itw_seq (f := sX7_itemsBelow_l4_step L s) (fun u => (nI (msk (bel L s) u), nI u)) ni (fun u hu => ?_) ?_
  · unfold sX7_itemsBelow_l4_step
    dsimp only
    have hle : ¬ nI ni ≤ nI u := by rw [n_le (by omega) (by omega)]; omega
    rw [e9, if_neg hle, e_itemAt (by omega)]
    by_cases e : s ≤ gi L 3 3 u
    · have hf : ¬ bel L s u = true := fun z => (of_decide_eq_true z) e
      rw [if_pos e, n_suc, msk_f hf]
    · have hf : bel L s u = true := decide_eq_true e
      rw [if_neg e, olet_eq, n_suc, msk_or (by omega), msk_t hf]
  · unfold sX7_itemsBelow_l4_step
    dsimp only
    rw [e9, if_pos (Int32.le_refl _)]
    rfl
theorem call_rank (h : IV B (m + 1) S T) (p1 : Int32) : PFX (uP (sX9_rank S B p1) S) (mI (sX10_rank T p1)) co1 (IV B m) := by
  obtain ⟨np, nr, ni, hV⟩ := h
  have hR : Rel S.2.2.2.2.2.1 (si T 100 6 0 0) np nr ni := hV.1.th
  have hni : ni ≤ 16 := hR.1.1.2.2
  have hnr : nr ≤ 10 := hR.1.1.2.1
  have hnp : np ≤ 6 := hR.1.1.1
  rcases e_item hV p1 with ⟨i, hi, rfl, h1, -, h2⟩ | ⟨h1, -, h2⟩
  · have key : ∃ v, sX9_rank S B (nI i) = some (.ok v) ∧ sX10_rank T (nI i) = some (v, si T 100 6 0 0) := by
      unfold sX9_rank sX10_rank
      rw [h1, olet_eq (si T 100 6 0 0), h2 _ (gi_ne (by omega)), if_neg one_ne]
      unfold sX10_rank_j19
      rw [e_thr0, olet_eq ((0 : Int32), si T 100 6 0 0), if_pos rfl]
      dsimp only [oexc]
      clear h2 hV h1
      generalize si T 100 6 0 0 = T0 at hR ⊢
      generalize S.2.2.2.2.2.1 = L at hR ⊢
      have hn2 : msk (bel L (gi L 3 3 i)) ni < 2 ^ ni := msk_lt _ _
      have hn3 : 2 ^ ni ≤ 2 ^ 16 := Nat.pow_le_pow_right (by omega) hni
      rw [e_below hni hR.1.2.1.2.2, obind_some, e_bc (by omega), pcn_msk _ _ hni]
      refine ⟨_, rfl, ?_⟩
      have t4 : gi T0 5 (4 : Int32).toNatClampNeg 0 = nI ni := hR.1.2.2.1.2.2
      unfold sX10_rank_l32
      refine itw_seq (f := sX10_rank_l32_step (nI i)) (fun u => (nI (ctn (bel L (gi L 3 3 i)) u), nI u, T0)) ni (fun u hu => ?_) ?_
      · unfold sX10_rank_l32_step
        dsimp only
        have hle : ¬ nI ni ≤ nI u := by rw [n_le (by omega) (by omega)]; omega
        rw [t4, if_neg hle, e_of_0 (by omega), obind_some, e_of_0 (by omega), obind_some, ← (hR.2.2.2.2.2 u hu).1.1, ← (hR.2.2.2.2.2 i hi).1.1]
        by_cases e : gi L 3 3 i ≤ gi L 3 3 u
        · have hf : ¬ bel L (gi L 3 3 i) u = true := fun z => (of_decide_eq_true z) e
          rw [if_pos e, olet_eq, add_0, n_suc, ctn_f hf]
        · have hf : bel L (gi L 3 3 i) u = true := decide_eq_true e
          rw [if_neg e, olet_eq, n_suc, n_suc, ctn_t hf]
      · unfold sX10_rank_l32_step
        dsimp only
        rw [t4, if_pos (Int32.le_refl _)]
        rfl
    obtain ⟨v, g1, g2⟩ := key
    exact pfp_ok hV g1 g2
  · refine pfp_bad (e := 1) (b := 0) (w := 1) hV ?_ ?_ rfl (by decide)
    · unfold sX9_rank
      rw [h1]
      rfl
    · unfold sX10_rank
      rw [olet_eq, h2 _ (gi_ne (by omega)), if_pos rfl]
      unfold sX10_rank_j19
      rw [e_thr1, olet_eq, if_neg one_ne]
/-- loan u waits and comes before loan i -/
def bef (L : Mem) (i : Nat) : Nat → Bool := fun u => decide (gi L 3 15 u ≠ 0 ∧ (gi L 3 16 u < gi L 3 16 i ∨ (gi L 3 16 u = gi L 3 16 i ∧ u < i)))
theorem e_ahead2 {L T : Mem} {i : Nat} (h : Rel L T np nr ni) (hi : i < ni) : sX7_loansAheadOf L (nI i) = some (nI (ctn (bef L i) ni)) := by
  have hni : ni ≤ 16 := h.1.1.2.2
  have e9 : gi L 0 9 0 = nI ni := h.1.2.1.2.2
  unfold sX7_loansAheadOf sX7_loansAheadOf_l14
  rw [e_itemAt (by omega), olet_eq]
  refine itw_seq (f := sX7_loansAheadOf_l14_step L (nI i)) (fun u => (gi L 3 16 i, nI (ctn (bef L i) u), nI u)) ni (fun u hu => ?_) ?_
  · unfold sX7_loansAheadOf_l14_step
    dsimp only
    have hle : ¬ nI ni ≤ nI u := by rw [n_le (by omega) (by omega)]; omega
    rw [e9, if_neg hle, e_itemAt (by omega)]
    by_cases a : gi L 3 15 u = 0
    · have hf : ¬ bef L i u = true := fun z => (of_decide_eq_true z).1 a
      rw [a, if_pos (show bz 0 = 0 from rfl), n_suc, ctn_f hf]
    · rw [if_neg (fun z => a (bz_0.mp z))]
      by_cases c1 : gi L 3 16 u < gi L 3 16 i
      · have hf : bef L i u = true := decide_eq_true ⟨a, Or.inl c1⟩
        rw [if_pos c1, n_suc, n_suc, ctn_t hf]
      · rw [if_neg c1]
        by_cases c2 : gi L 3 16 u = gi L 3 16 i
        · rw [if_pos c2, n_le (by omega) (by omega)]
          by_cases c3 : i ≤ u
          · have hf : ¬ bef L i u = true := fun z => by
              rcases (of_decide_eq_true z).2 with q | q
              · exact c1 q
              · omega
            rw [if_pos c3, n_suc, ctn_f hf]
          · have hf : bef L i u = true := decide_eq_true ⟨a, Or.inr ⟨c2, by omega⟩⟩
            rw [if_neg c3, n_suc, n_suc, ctn_t hf]
        · have hf : ¬ bef L i u = true := fun z => by
            rcases (of_decide_eq_true z).2 with q | q
            · exact c1 q
            · exact c2 q.1
          rw [if_neg c2, n_suc, ctn_f hf]
  · unfold sX7_loansAheadOf_l14_step
    dsimp only
    rw [e9, if_pos (Int32.le_refl _)]
    rfl
theorem ctn_z {f : Nat → Bool} : ∀ {n : Nat}, ctn f n = 0 → ∀ k, k < n → f k = false := by
  intro n
  induction n with
  | zero => intro _ k hk; omega
  | succ n ih =>
    intro h k hk
    by_cases e : f n = true
    · rw [ctn_t e] at h; omega
    · rw [ctn_f e] at h
      by_cases q : k = n
      · subst q; exact Bool.eq_false_iff.mpr e
      · exact ih h k (by omega)
theorem call_mostUrgent (h : IV B (m + 1) S T) : PFA (uA (sX9_mostUrgent S B) S) (sX10_mostUrgent T) (IV B m) := by
  obtain ⟨np, nr, ni, hV⟩ := h
  have hR : Rel S.2.2.2.2.2.1 (si T 100 6 0 0) np nr ni := hV.1.th
  have hni : ni ≤ 16 := hR.1.1.2.2
  have e9 : gi S.2.2.2.2.2.1 0 9 0 = nI ni := hR.1.2.1.2.2
  have t4 : gi (si T 100 6 0 0) 5 (4 : Int32).toNatClampNeg 0 = nI ni := hR.1.2.2.1.2.2
  have key : ∃ v, sX9_mostUrgent S B = some v ∧ sX10_mostUrgent T = some (v, si T 100 6 0 0) := by
    unfold sX9_mostUrgent sX9_waitingLoan sX10_mostUrgent
    rw [olet_eq]
    clear hV
    generalize si T 100 6 0 0 = T0 at hR t4 ⊢
    unfold sX9_waitingLoan_l2 sX10_mostUrgent_l9
    have e8 : ∀ u, u < ni → (gi S.2.2.2.2.2.1 3 15 u = 0 ∧ gi T0 0 (6 + 21 * u + 8) 0 = -1) ∨ (gi S.2.2.2.2.2.1 3 15 u ≠ 0 ∧ gi T0 0 (6 + 21 * u + 8) 0 ≠ -1 ∧ gi T0 0 (6 + 21 * u + 8) 0 = gi S.2.2.2.2.2.1 3 16 u) := by
      intro u hu
      rcases (hR.2.2.2.2.2 u hu).2.2.2.1 with ⟨a, b⟩ | ⟨a, b, -, -, ⟨x, x1, x2⟩, -⟩
      · exact Or.inl ⟨a, b⟩
      · refine Or.inr ⟨a, ?_, b.symm⟩
        rw [← b, x2]; exact n_m1 (by omega)
    generalize hL : S.2.2.2.2.2.1 = L at *
    obtain ⟨r, r1, r2⟩ := itw_one (f := sX10_mostUrgent_l9_step) (J := fun k a => ∃ u, u ≤ ni ∧ k = ni - u ∧ ((a = (-1, nI u, T0) ∧ ∀ w, w < u → gi L 3 15 w = 0) ∨ ∃ b, b < u ∧ a = (nI b, nI u, T0) ∧ gi L 3 15 b ≠ 0 ∧ ∀ w, w < u → bef L b w = false)) (P := fun r => (r = (-1, T0) ∧ ∀ w, w < ni → gi L 3 15 w = 0) ∨ ∃ b, b < ni ∧ r = (nI b, T0) ∧ gi L 3 15 b ≠ 0 ∧ ∀ w, w < ni → bef L b w = false) (fun k a => by
      rintro ⟨u, q1, rfl, q⟩
      unfold sX10_mostUrgent_l9_step
      by_cases e : ni ≤ u
      · have eu : u = ni := by omega
        subst eu
        rcases q with ⟨rfl, q⟩ | ⟨b, hb, rfl, q2, q3⟩
        · dsimp only
          rw [t4, if_pos (Int32.le_refl _)]
          exact Or.inl ⟨_, rfl, Or.inl ⟨rfl, q⟩⟩
        · dsimp only
          rw [t4, if_pos (Int32.le_refl _)]
          exact Or.inl ⟨_, rfl, Or.inr ⟨b, hb, rfl, q2, q3⟩⟩
      · have hle : ¬ nI ni ≤ nI u := by rw [n_le (by omega) (by omega)]; exact e
        have hu : u < ni := by omega
        rcases q with ⟨rfl, q⟩ | ⟨b, hb, rfl, q2, q3⟩
        · dsimp only
          rw [t4, if_neg hle, e_of_8 (by omega), obind_some, n_suc]
          rcases e8 u hu with ⟨a, c⟩ | ⟨a, c, d⟩
          · rw [if_pos c]
            refine Or.inr ⟨_, ni - (u + 1), by omega, rfl, u + 1, by omega, rfl, Or.inl ⟨rfl, fun w hw => ?_⟩⟩
            by_cases ew : w = u
            · subst ew; exact a
            · exact q w (by omega)
          · rw [if_neg c, if_pos rfl]
            refine Or.inr ⟨_, ni - (u + 1), by omega, rfl, u + 1, by omega, rfl, Or.inr ⟨u, by omega, rfl, a, fun w hw => ?_⟩⟩
            refine Bool.eq_false_iff.mpr fun z => ?_
            have z := of_decide_eq_true z
            by_cases ew : w = u
            · subst ew
              rcases z.2 with z | z
              · exact Int32.lt_irrefl z
              · omega
            · exact z.1 (q w (by omega))
        · dsimp only
          rw [t4, if_neg hle, e_of_8 (by omega), obind_some, n_suc]
          rcases e8 u hu with ⟨a, c⟩ | ⟨a, c, d⟩
          · rw [if_pos c]
            refine Or.inr ⟨_, ni - (u + 1), by omega, rfl, u + 1, by omega, rfl, Or.inr ⟨b, by omega, rfl, q2, fun w hw => ?_⟩⟩
            by_cases ew : w = u
            · subst ew
              exact Bool.eq_false_iff.mpr fun z => (of_decide_eq_true z).1 a
            · exact q3 w (by omega)
          · have db : gi T0 0 (6 + 21 * b + 8) 0 = gi L 3 16 b := by
              rcases e8 b (by omega) with ⟨a', -⟩ | ⟨-, -, d'⟩
              · exact absurd a' q2
              · exact d'
            rw [if_neg c, if_neg (n_m1 (by omega)), obind_some, e_of_8 (by omega), obind_some, d, db]
            by_cases c2 : gi L 3 16 b ≤ gi L 3 16 u
            · rw [if_pos c2]
              refine Or.inr ⟨_, ni - (u + 1), by omega, rfl, u + 1, by omega, rfl, Or.inr ⟨b, by omega, rfl, q2, fun w hw => ?_⟩⟩
              by_cases ew : w = u
              · subst ew
                refine Bool.eq_false_iff.mpr fun z => ?_
                rcases (of_decide_eq_true z).2 with z | z
                · exact absurd c2 (Int32.not_le.mpr z)
                · omega
              · exact q3 w (by omega)
            · rw [if_neg c2]
              refine Or.inr ⟨_, ni - (u + 1), by omega, rfl, u + 1, by omega, rfl, Or.inr ⟨u, by omega, rfl, a, fun w hw => ?_⟩⟩
              refine Bool.eq_false_iff.mpr fun z => ?_
              have z := of_decide_eq_true z
              have c3 := Int32.not_le.mp c2
              by_cases ew : w = u
              · subst ew
                rcases z.2 with z | z
                · exact Int32.lt_irrefl z
                · omega
              · have q4 := q3 w (by omega)
                refine absurd (show bef L b w = true from decide_eq_true ⟨z.1, Or.inl ?_⟩) (by rw [q4]; decide)
                rcases z.2 with z | z
                · exact Int32.lt_trans z c3
                · rw [z.1]; exact c3) (k := ni - 0) (a := ((-1 : Int32), (0 : Int32), T0)) ⟨0, by omega, rfl, Or.inl ⟨rfl, fun w hw => by omega⟩⟩
    refine ⟨r.1, ?_, ?_⟩
    · obtain ⟨r', p1, p2⟩ := itw_one (f := sX9_waitingLoan_l2_step S B 0) (J := fun k a => ∃ u, u ≤ ni ∧ k = ni - u ∧ a = nI u ∧ ∀ b, r.1 = nI b → b < ni → u ≤ b) (P := fun x => x = r.1) (fun k a => by
        rintro ⟨u, q1, rfl, rfl, q2⟩
        unfold sX9_waitingLoan_l2_step
        rw [hL, e9]
        by_cases e : ni ≤ u
        · have hle : nI ni ≤ nI u := by rw [n_le (by omega) (by omega)]; exact e
          rw [if_pos hle]
          rcases r2 with ⟨rfl, -⟩ | ⟨b, hb, rfl, -⟩
          · exact Or.inl ⟨_, rfl, rfl⟩
          · have := q2 b rfl hb; omega
        · have hle : ¬ nI ni ≤ nI u := by rw [n_le (by omega) (by omega)]; exact e
          have hu : u < ni := by omega
          rw [if_neg hle, e_itemAt (by omega), n_suc]
          by_cases a : gi L 3 15 u = 0
          · rw [a, if_pos (show bz 0 = 0 from rfl), olet_eq]
            refine Or.inr ⟨_, ni - (u + 1), by omega, rfl, u + 1, by omega, rfl, rfl, fun b hb hb2 => ?_⟩
            have q3 := q2 b hb hb2
            rcases r2 with ⟨rfl, -⟩ | ⟨b', hb', rfl, b2, -⟩
            · exact absurd hb (n_m1' (by omega))
            · have : b' = b := by
                have hb : nI b' = nI b := hb
                rw [n_eq (by omega) (by omega)] at hb; exact hb
              subst this
              by_cases eb : u = b'
              · subst eb; exact absurd a b2
              · omega
          · rw [if_neg (fun z => a (bz_0.mp z)), e_ahead2 hR hu, obind_some]
            rcases r2 with ⟨rfl, b1⟩ | ⟨b, hb, rfl, b2, b3⟩
            · exact absurd (b1 u hu) a
            · have q3 := q2 b rfl hb
              have hcl := ctn_le (bef L u) ni
              by_cases eb : u = b
              · subst eb
                rw [ctn_none b3, if_pos (show nI 0 = (0 : Int32) from rfl)]
                exact Or.inl ⟨_, rfl, rfl⟩
              · have hb4 : bef L u b = true := by
                  refine decide_eq_true ⟨b2, ?_⟩
                  have h5 := b3 u hu
                  by_cases c1 : gi L 3 16 b < gi L 3 16 u
                  · exact Or.inl c1
                  · refine absurd (show bef L b u = true from decide_eq_true ⟨a, ?_⟩) (by rw [h5]; decide)
                    by_cases c2 : gi L 3 16 u < gi L 3 16 b
                    · exact Or.inl c2
                    · exact Or.inr ⟨Int32.le_antisymm (Int32.not_lt.mp c1) (Int32.not_lt.mp c2), by omega⟩
                have hne : ctn (bef L u) ni ≠ 0 := fun z => by
                  rw [ctn_z z b hb] at hb4; cases hb4
                rw [if_neg (by rw [n_lit 0, n_eq (by omega) (by omega)]; exact hne), olet_eq]
                refine Or.inr ⟨_, ni - (u + 1), by omega, rfl, u + 1, by omega, rfl, rfl, fun b' hb' hb2 => ?_⟩
                have q4 := q2 b' hb' hb2
                have : b = b' := by
                  have hb' : nI b = nI b' := hb'
                  rw [n_eq (by omega) (by omega)] at hb'; exact hb'
                omega) (k := ni - 0) (a := (0 : Int32)) ⟨0, by omega, rfl, rfl, fun b _ _ => by omega⟩
      rw [p1, p2, obind_some]
    · rw [r1]
      rcases r2 with ⟨rfl, -⟩ | ⟨b, -, rfl, -⟩ <;> rfl
  obtain ⟨v, g1, g2⟩ := key
  exact pfa_ok hV g1 g2
theorem oifp_t {β : Type} {p : Prop} {x : Option β} (h : p) : oifp p x = x := if_pos h
theorem d_fin {a b : Int32} (hb : b ≠ 0) : Jvm.FP.Core.val64 (FP.ddiv (FP.i2d a) (FP.i2d b)) ≠ .nan := by
  have h := Jvm.FP.Core.ddiv_out (a := FP.i2d a) (b := FP.i2d b) ((Jvm.FP.Core.notNaN_iff _).mpr (Jvm.FP.Core.i2d_fin a).ne_nan) (Jvm.FP.Core.i2d_fin b) (fun z => Jvm.FP.Core.i2d_ne_zero hb ((Jvm.FP.Core.zero_bits2 _).mp z))
  exact (Jvm.FP.Core.notNaN_iff _).mp h
theorem d_vf {a b : Int32} (hb : b ≠ 0) : vf_n64 (FP.ddiv (FP.i2d a) (FP.i2d b)) := by
  unfold vf_n64
  rw [UInt64.le_iff_toNat_le, Jvm.FP.Core.mask_toNat]
  exact (Jvm.FP.Core.ne_nan _).mp (d_fin hb)
theorem d_cmp {a b : Int32} (hb : b ≠ 0) : Op.cmpValue (FP.dcmp (FP.ddiv (FP.i2d a) (FP.i2d b)) (FP.ddiv (FP.i2d a) (FP.i2d b))) .l = 0 := by
  have h := Jvm.FP.Core.dcmp_self (d_fin (a := a) hb)
  have h2 : FP.dcmp (FP.ddiv (FP.i2d a) (FP.i2d b)) (FP.ddiv (FP.i2d a) (FP.i2d b)) = some .eq := h
  rw [h2]
  rfl
/-- what the mean comes to -/
theorem e_mean (h : IV B (m + 1) S T) : (∃ s n : Int32, n ≠ 0 ∧ sX9_meanScore S B = some (.ok (FP.ddiv (FP.i2d s) (FP.i2d n))) ∧ sX10_meanScore T = some (FP.ddiv (FP.i2d s) (FP.i2d n), si T 100 6 0 0)) ∨ (sX9_meanScore S B = some (.error 3) ∧ ∃ b, sX10_meanScore T = some (b, si (si T 100 6 0 0) 100 6 0 1)) := by
  obtain ⟨np, nr, ni, hV⟩ := h
  have hR : Rel S.2.2.2.2.2.1 (si T 100 6 0 0) np nr ni := hV.1.th
  have hni : ni ≤ 16 := hR.1.1.2.2
  have e9 : gi S.2.2.2.2.2.1 0 9 0 = nI ni := hR.1.2.1.2.2
  have t4 : gi (si T 100 6 0 0) 5 (4 : Int32).toNatClampNeg 0 = nI ni := hR.1.2.2.1.2.2
  unfold sX9_meanScore sX10_meanScore sX9_requireItems
  rw [olet_eq, e9, t4]
  by_cases e : ni = 0
  · have e0 : nI ni = 0 := by subst e; rfl
    rw [if_pos e0, if_pos e0, oif_t hV.2.2.2.1.xr]
    refine Or.inr ⟨rfl, ?_⟩
    unfold sX10_meanScore_j20
    rw [e_thr1, olet_eq, if_neg one_ne]
    exact ⟨_, rfl⟩
  · have e0 : ¬ nI ni = 0 := by rw [n_lit 0, n_eq (by omega) (by omega)]; exact e
    rw [if_neg e0, if_neg e0]
    unfold sX10_meanScore_j20
    rw [e_thr0, olet_eq, if_pos rfl]
    dsimp only [oexc]
    unfold sX9_meanScore_l8 sX10_meanScore_l33
    have key2 := loop2 (f := sX9_meanScore_l8_step S B) (g := sX10_meanScore_l33_step) ni (fun u (c : Int32) => (c, nI u)) (fun u c => (c, nI u, si T 100 6 0 0)) (P := fun b b' => ∃ s : Int32, b = .ok (FP.ddiv (FP.i2d s) (FP.i2d (nI ni))) ∧ b' = (FP.ddiv (FP.i2d s) (FP.i2d (nI ni)), si T 100 6 0 0)) (fun c => by
      unfold sX9_meanScore_l8_step sX10_meanScore_l33_step
      dsimp only
      rw [e9, t4, if_pos (Int32.le_refl _), if_pos (Int32.le_refl _), olet_eq, if_neg e0, oifp_t (d_vf e0), oifp_t (d_vf e0)]
      exact ⟨_, _, rfl, rfl, c, rfl, rfl⟩) (fun u c hu => by
      unfold sX9_meanScore_l8_step sX10_meanScore_l33_step
      dsimp only
      have hle : ¬ nI ni ≤ nI u := by rw [n_le (by omega) (by omega)]; omega
      rw [e9, t4, if_neg hle, if_neg hle, e_itemAt (by omega), e_of_0 (by omega), obind_some, (hR.2.2.2.2.2 u hu).1.1]
      simp only [olet_eq]
      rw [n_suc]
      exact ⟨_, rfl, rfl⟩) (0 : Int32)
    obtain ⟨b, b', g1, g2, s, rfl, rfl⟩ := key2
    exact Or.inl ⟨s, nI ni, e0, g1, g2⟩
theorem call_meanScore (h : IV B (m + 1) S T) : PFX (uM (sX9_meanScore S B) S) (sX10_meanScore T) co3 (IV B m) := by
  have hk := e_mean h
  obtain ⟨np, nr, ni, hV⟩ := h
  rcases hk with ⟨s, n, hn, h1, h2⟩ | ⟨h1, b, h2⟩
  · rw [h1, h2]
    refine ⟨_, _, _, rfl, rfl, fun v hv => ?_, fun e he => by cases he⟩
    cases hv
    exact ⟨rfl, rfl, np, nr, ni, hV.th.mono (Nat.le_succ _)⟩
  · rw [h1, h2]
    refine ⟨_, _, _, rfl, rfl, fun v hv => by cases hv, fun e he => ?_⟩
    cases he
    exact ⟨rfl, by decide, fun z h1 h2 => ⟨np, nr, ni, hV.th.th.bump h1⟩⟩
theorem call_dc (h : IV B (m + 1) S T) : ∀ b T1, sX10_meanScore T = some (b, T1) → gi T1 100 6 0 = 0 → Op.cmpValue (FP.dcmp b b) .l = 0 := by
  intro b T1 h1 h2
  rcases e_mean h with ⟨s, n, hn, -, h4⟩ | ⟨-, b', h4⟩
  · rw [h4] at h1
    cases h1
    exact d_cmp hn
  · rw [h4] at h1
    cases h1
    exact absurd h2 one_ne
end RKM
