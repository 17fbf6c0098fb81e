/-! ===== LOANS, STEPS THAT BEGIN ===== -/
section LO
variable {S T : Mem} {np nr ni i : Nat}
theorem RelX.lent {x y : Int32} (h : RelX S T np nr ni i) (hi : i < ni) (hx : True) : RelX (si (si (si S 3 15 i 0) 0 14 0 x) 0 15 0 y) (si (si (si T 0 2 0 x) 0 3 0 y) 0 (6 + 21 * i + 8) 0 (-1)) np nr ni i := by
  obtain ⟨h1, h2, h3, h4, h5, h6, h7, h8, h9⟩ := h
  have hb := h1.1
  refine ⟨h1.cg (fun j hj => by repeat (first | rw [gi_ne (by omega)] | rw [gi_eq2 (by omega)])) (fun _ => rfl) (fun _ _ _ => rfl) (fun w i' hw => by repeat (first | rw [gi_ne (by omega)] | rw [gi_eq2 (by omega)])) (fun _ => rfl), ?_, h3.cg (fun _ => rfl) (fun _ => rfl) (fun j hj => by repeat (first | rw [gi_ne (by omega)] | rw [gi_eq2 (by omega)])), h4.cg (fun _ => rfl) (fun _ => rfl), fun i' hi' hn => (h5 i' hi' hn).cg (fun j => by repeat (first | rw [gi_ne (by omega)] | rw [gi_eq2 (by omega)])) (fun _ => rfl) (fun _ => rfl) (fun j hj => by repeat (first | rw [gi_ne (by omega)] | rw [gi_eq2 (by omega)])), ?_, ?_, ?_, ?_⟩
  · obtain ⟨q1, ⟨q2, q3, q4, q5⟩, q6, q7⟩ := h2
    refine ⟨?_, ⟨?_, ?_, ?_, ?_⟩, fun r' hr' => ?_, fun p hp => ?_⟩
    · repeat (first | rw [gi_ne (by omega)] | rw [gi_eq2 (by omega)])
      exact q1
    · repeat (first | rw [gi_ne (by omega)] | rw [gi_eq2 (by omega)])
      exact q2
    · repeat (first | rw [gi_ne (by omega)] | rw [gi_eq2 (by omega)])
      exact q3
    · repeat (first | rw [gi_ne (by omega)] | rw [gi_eq2 (by omega)])
    · repeat (first | rw [gi_ne (by omega)] | rw [gi_eq2 (by omega)])
    · repeat (first | rw [gi_ne (by omega)] | rw [gi_eq2 (by omega)])
      exact q6 r' hr'
    · repeat (first | rw [gi_ne (by omega)] | rw [gi_eq2 (by omega)])
      exact q7 p hp
  · unfold ItE at h6 ⊢
    repeat (first | rw [gi_ne (by omega)] | rw [gi_eq2 (by omega)])
    exact h6
  · unfold ItC at h7 ⊢
    repeat (first | rw [gi_ne (by omega)] | rw [gi_eq2 (by omega)])
    exact h7
  · obtain ⟨k, q1, q2, q3⟩ := h8
    refine ⟨k, q1, ?_, fun j hj => ?_⟩
    · repeat (first | rw [gi_ne (by omega)] | rw [gi_eq2 (by omega)])
      exact q2
    · repeat (first | rw [gi_ne (by omega)] | rw [gi_eq2 (by omega)])
      exact q3 j hj
  · refine Or.inl ⟨?_, ?_⟩
    · repeat (first | rw [gi_ne (by omega)] | rw [gi_eq2 (by omega)])
    · repeat (first | rw [gi_ne (by omega)] | rw [gi_eq2 (by omega)])
/-- what the hour does for the loan of one object -/
def lendS (S : Mem) (i : Nat) : Mem := if sX2_canBeLent S i (gi S 0 12 0) = 0 then S else si (si (si (si (si S 3 5 i 4) 3 6 i (gi S 3 18 i)) 3 15 i 0) 0 14 0 (gi S 0 14 0 + 1)) 0 15 0 (gi S 0 15 0 + (gi S 0 12 0 - gi S 3 16 i))
theorem sim_lend (h : Rel S T np nr ni) (hi : i < ni) : ∃ T', sX10_lendOut T (nI i) = some T' ∧ Rel (lendS S i) T' np nr ni ∧ FrT T T' := by
  have hX := h.X hi
  have hl := hX.lt hi
  have hI : InR S np ni := h.2.2.2.2.1
  have hE : ItE S T i := hX.2.2.2.2.2.1
  have hL : ItL S T i := hX.2.2.2.2.2.2.2.2
  have hS : ItS S T np nr i := (h.2.2.2.2.2 i hi).2.2.2.2
  have htm : gi T 0 0 0 = gi S 0 12 0 := h.2.1.2.1.1.symm
  have t0 : gi T 0 (6 + 21 * i + 0) 0 = gi S 3 3 i := hE.1.symm
  have t1 : gi T 0 (6 + 21 * i + 1) 0 = gi S 3 5 i := hE.2.1.symm
  have t3 : gi T 0 (6 + 21 * i + 3) 0 = gi S 3 7 i := hE.2.2.2.1.symm
  have no : sX2_canBeLent S i (gi S 0 12 0) = 0 → sX10_lendOut T (nI i) = some T → ∃ T', sX10_lendOut T (nI i) = some T' ∧ Rel (lendS S i) T' np nr ni ∧ FrT T T' := fun e1 e2 => by
    refine ⟨T, e2, ?_, FrT.refl⟩
    unfold lendS
    rw [if_pos e1]; exact h
  have j65 : sX10_lendOut_j65 T (nI i) = some T := by
    unfold sX10_lendOut_j65 sX10_lendOut_j66
    rw [if_pos rfl]
  by_cases e0 : gi S 3 5 i = 0
  · by_cases e1 : gi S 3 7 i = 0
    · rcases hL with ⟨a, b⟩ | ⟨a, b, c, d, ⟨du, du1, du2⟩, ⟨l, l1, l2, l3⟩⟩
      · refine no ?_ ?_
        · unfold sX2_canBeLent
          rw [if_pos e0, if_pos e1, a, if_pos (show bz 0 = 0 from rfl)]
        · unfold sX10_lendOut
          rw [e_of_1 hl, obind_some, t1, if_pos e0, e_of_3 hl, obind_some, t3, if_pos e1, e_of_8 hl, obind_some, b, if_pos rfl]; exact j65
      · have hbz : ¬ bz (gi S 3 15 i) = 0 := by unfold bz; rw [if_neg a]; decide
        have t8 : gi T 0 (6 + 21 * i + 8) 0 = gi S 3 16 i := b.symm
        have t9 : gi T 0 (6 + 21 * i + 9) 0 = gi S 3 17 i := c.symm
        have hm1 : ¬ gi S 3 16 i = (-1 : Int32) := by rw [du2]; exact n_m1 (by omega)
        by_cases e2 : gi S 0 12 0 < gi S 3 16 i
        · refine no ?_ ?_
          · unfold sX2_canBeLent
            rw [if_pos e0, if_pos e1, if_neg hbz, if_pos e2]
          · unfold sX10_lendOut
            rw [e_of_1 hl, obind_some, t1, if_pos e0, e_of_3 hl, obind_some, t3, if_pos e1, e_of_8 hl, obind_some, t8, if_neg hm1, obind_some, c0, htm, if_pos e2]; exact j65
        · by_cases e3 : gi S 3 3 i < gi S 3 17 i
          · refine no ?_ ?_
            · unfold sX2_canBeLent
              rw [if_pos e0, if_pos e1, if_neg hbz, if_neg e2, if_pos e3]
            · unfold sX10_lendOut
              rw [e_of_1 hl, obind_some, t1, if_pos e0, e_of_3 hl, obind_some, t3, if_pos e1, e_of_8 hl, obind_some, t8, if_neg hm1, obind_some, c0, htm, if_neg e2, e_of_0 hl, obind_some, e_of_9 hl, obind_some, t0, t9, if_pos e3]; exact j65
          · have eS : lendS S i = si (si (si (si (si S 3 5 i 4) 3 6 i (gi S 3 18 i)) 3 15 i 0) 0 14 0 (gi S 0 14 0 + 1)) 0 15 0 (gi S 0 15 0 + (gi S 0 12 0 - gi S 3 16 i)) := by
              unfold lendS
              rw [if_neg]
              unfold sX2_canBeLent
              rw [if_pos e0, if_pos e1, if_neg hbz, if_neg e2, if_neg e3]; decide
            have hX2 := ((hX.set_5 (v := 4) hi).set_6 (v := gi S 3 18 i) hi).lent (x := gi S 0 14 0 + 1) (y := gi S 0 15 0 + (gi S 0 12 0 - gi S 3 16 i)) hi trivial
            have eT : sX10_lendOut T (nI i) = some (si (si (si (si (si T 0 (6 + 21 * i + 1) 0 4) 0 (6 + 21 * i + 2) 0 (gi S 3 18 i)) 0 2 0 (gi S 0 14 0 + 1)) 0 3 0 (gi S 0 15 0 + (gi S 0 12 0 - gi S 3 16 i))) 0 (6 + 21 * i + 8) 0 (-1)) := by
              unfold sX10_lendOut
              rw [e_of_1 hl, obind_some, t1, if_pos e0, e_of_3 hl, obind_some, t3, if_pos e1, e_of_8 hl, obind_some, t8, if_neg hm1, obind_some, c0, htm, if_neg e2, e_of_0 hl, obind_some, e_of_9 hl, obind_some, t0, t9, if_neg e3]
              unfold sX10_lendOut_j66
              rw [if_neg (show ¬ (1 : Int32) = 0 by decide), e_set_1 hl, obind_some, e_of_10 hl, obind_some, e_set_2 hl, obind_some, c2, olet_eq, e_of_8 hl, obind_some, c3, c0, olet_eq, e_set_8 hl, obind_some]
              have u10 : gi (si T 0 (6 + 21 * i + 1) 0 4) 0 (6 + 21 * i + 10) 0 = gi S 3 18 i := by
                repeat (first | rw [gi_ne (by omega)] | rw [gi_eq2 (by omega)])
                exact d.symm
              rw [u10]
              have u2 : gi (si (si T 0 (6 + 21 * i + 1) 0 4) 0 (6 + 21 * i + 2) 0 (gi S 3 18 i)) 0 2 0 = gi S 0 14 0 := by
                repeat (first | rw [gi_ne (by omega)] | rw [gi_eq2 (by omega)])
                exact h.2.1.2.1.2.2.1.symm
              rw [u2]
              have u3 : gi (si (si (si T 0 (6 + 21 * i + 1) 0 4) 0 (6 + 21 * i + 2) 0 (gi S 3 18 i)) 0 2 0 (gi S 0 14 0 + 1)) 0 3 0 = gi S 0 15 0 := by
                repeat (first | rw [gi_ne (by omega)] | rw [gi_eq2 (by omega)])
                exact h.2.1.2.1.2.2.2.symm
              have u0 : gi (si (si (si T 0 (6 + 21 * i + 1) 0 4) 0 (6 + 21 * i + 2) 0 (gi S 3 18 i)) 0 2 0 (gi S 0 14 0 + 1)) 0 0 0 = gi S 0 12 0 := by
                repeat (first | rw [gi_ne (by omega)] | rw [gi_eq2 (by omega)])
                exact htm
              have u8 : gi (si (si (si T 0 (6 + 21 * i + 1) 0 4) 0 (6 + 21 * i + 2) 0 (gi S 3 18 i)) 0 2 0 (gi S 0 14 0 + 1)) 0 (6 + 21 * i + 8) 0 = gi S 3 16 i := by
                repeat (first | rw [gi_ne (by omega)] | rw [gi_eq2 (by omega)])
                exact t8
              rw [u3, u0, u8]
            refine ⟨_, eT, ?_, ((((FrT.set (by omega)).trans (FrT.set (by omega))).trans (FrT.set (by omega))).trans (FrT.set (by omega))).trans (FrT.set (by omega))⟩
            rw [eS]
            rcases hS with ⟨a5, a6, a9, a10⟩ | ⟨a5, _⟩ | ⟨a5, _⟩ | ⟨a5, _⟩ | ⟨a5, _⟩
            · refine hX2.all (hI.cg (fun _ => rfl) (fun _ => rfl)) (Or.inr (Or.inr (Or.inr (Or.inr ⟨?_, ?_, ⟨l, l1, l2, ?_⟩, ?_⟩))))
              · repeat (first | rw [gi_ne (by omega)] | rw [gi_eq2 (by omega)])
              · repeat (first | rw [gi_ne (by omega)] | rw [gi_eq2 (by omega)])
                exact a9
              · repeat (first | rw [gi_ne (by omega)] | rw [gi_eq2 (by omega)])
                exact l3
              · repeat (first | rw [gi_ne (by omega)] | rw [gi_eq2 (by omega)])
                exact a10
            all_goals exact absurd (e0.symm.trans a5) (by decide)
    · refine no ?_ ?_
      · unfold sX2_canBeLent
        rw [if_pos e0, if_neg e1]
      · unfold sX10_lendOut
        rw [e_of_1 hl, obind_some, t1, if_pos e0, e_of_3 hl, obind_some, t3, if_neg e1]; exact j65
  · refine no ?_ ?_
    · unfold sX2_canBeLent
      rw [if_neg e0]
    · unfold sX10_lendOut
      rw [e_of_1 hl, obind_some, t1, if_neg e0]; exact j65
end LO
/-! a queue's first place goes -/
def shq (S : Mem) (i : Nat) : Nat → Mem
  | 0 => S
  | p + 1 => si (shq S i p) 4 p i (gi (shq S i p) 4 (p + 1) i)
def shT (T : Mem) (b : Nat) : Nat → Mem
  | 0 => T
  | p + 1 => si (shT T b p) 0 (b + p) 0 (gi (shT T b p) 0 (b + p + 1) 0)
theorem shq_g {S : Mem} {i : Nat} : ∀ p c j x, gi (shq S i p) c j x = if c = 4 ∧ x = i ∧ j < p then gi S 4 (j + 1) i else gi S c j x := by
  intro p
  induction p with
  | zero => intro c j x; rw [if_neg (by omega)]; rfl
  | succ p ih =>
    intro c j x
    show gi (si (shq S i p) 4 p i (gi (shq S i p) 4 (p + 1) i)) c j x = _
    by_cases e : c = 4 ∧ j = p ∧ x = i
    · obtain ⟨rfl, rfl, rfl⟩ := e
      rw [gi_eq2 ⟨rfl, rfl, rfl⟩, ih, if_neg (by omega), if_pos (by omega)]
    · rw [gi_ne (by omega), ih]
      by_cases e2 : c = 4 ∧ x = i ∧ j < p
      · rw [if_pos e2, if_pos (by omega)]
      · rw [if_neg e2, if_neg (by omega)]
theorem shq_q {S : Mem} {i : Nat} : ∀ p c x, gq (shq S i p) c x = gq S c x := by
  intro p
  induction p with
  | zero => intro c x; rfl
  | succ p ih => intro c x; exact ih c x
theorem shT_g {T : Mem} {b : Nat} : ∀ p c j x, gi (shT T b p) c j x = if c = 0 ∧ x = 0 ∧ b ≤ j ∧ j < b + p then gi T 0 (j + 1) 0 else gi T c j x := by
  intro p
  induction p with
  | zero => intro c j x; rw [if_neg (by omega)]; rfl
  | succ p ih =>
    intro c j x
    show gi (si (shT T b p) 0 (b + p) 0 (gi (shT T b p) 0 (b + p + 1) 0)) c j x = _
    by_cases e : c = 0 ∧ j = b + p ∧ x = 0
    · obtain ⟨rfl, rfl, rfl⟩ := e
      rw [gi_eq2 ⟨rfl, rfl, rfl⟩, ih, if_neg (by omega), if_pos (by omega)]
    · rw [gi_ne (by omega), ih]
      by_cases e2 : c = 0 ∧ x = 0 ∧ b ≤ j ∧ j < b + p
      · rw [if_pos e2, if_pos (by omega)]
      · rw [if_neg e2, if_neg (by omega)]
theorem shT_q {T : Mem} {b : Nat} : ∀ p c x, gq (shT T b p) c x = gq T c x := by
  intro p
  induction p with
  | zero => intro c x; rfl
  | succ p ih => intro c x; exact ih c x
theorem e_dropFirst {S : Mem} {i k : Nat} {v : Int32} (hk1 : 1 ≤ k) (hk : k ≤ 8) (h7 : gi S 3 7 i = nI k) (hv : gi S 4 0 i = v) : sX2_dropFirst S i = some (v, si (si (shq S i (k - 1)) 3 7 i (nI (k - 1))) 3 8 i (-1)) := by
  have eF : sX2_firstQueued S i = v := by
    unfold sX2_firstQueued
    rw [h7, if_neg (show ¬ nI k ≤ 0 by rw [n_lit 0, n_le (by omega) (by omega)]; omega), if_neg (show ¬ (8 : Int32) ≤ 0 by decide), c0, hv]
  unfold sX2_dropFirst sX2_dropFirst_l7
  rw [eF, olet_eq]
  have hj : ∀ p, sX2_dropFirst_j48 (shq S i p) i v = some (v, si (si (shq S i p) 3 7 i (nI (k - 1))) 3 8 i (-1)) := fun p => by
    have e7 : gi (shq S i p) 3 7 i = nI k := by rw [shq_g, if_neg (by omega)]; exact h7
    unfold sX2_dropFirst_j48
    rw [e7, if_neg (show ¬ nI k ≤ 0 by rw [n_lit 0, n_le (by omega) (by omega)]; omega)]
    have e8 : nI k - (1 : Int32) = nI (k - 1) := pk_sub (b := 1) hk1
    rw [e8]
    rfl
  obtain ⟨b, h1, h2⟩ := itw_one (f := sX2_dropFirst_l7_step i) (J := fun m a => ∃ p, p + 1 ≤ k ∧ m = k - p ∧ a = (v, nI p, shq S i p)) (P := fun b => b = (v, si (si (shq S i (k - 1)) 3 7 i (nI (k - 1))) 3 8 i (-1))) (fun m a => by
    rintro ⟨p, h1, rfl, rfl⟩
    unfold sX2_dropFirst_l7_step
    dsimp only
    have e7 : gi (shq S i p) 3 7 i = nI k := by rw [shq_g, if_neg (by omega)]; exact h7
    rw [e7, n_suc]
    by_cases e : k ≤ p + 1
    · have hle : nI k ≤ nI (p + 1) := by rw [n_le (by omega) (by omega)]; exact e
      rw [if_pos hle, hj p]
      refine Or.inl ⟨_, rfl, ?_⟩
      rw [show p = k - 1 by omega]
    · have hle : ¬ nI k ≤ nI (p + 1) := by rw [n_le (by omega) (by omega)]; exact e
      have hl2 : ¬ (8 : Int32) ≤ nI (p + 1) := by rw [n_lit 8, n_le (by omega) (by omega)]; omega
      rw [if_neg hle, if_neg hl2, n_inb (by omega) (by omega), oif_t rfl, n_inb (by omega) (by omega), oif_t rfl, n_cl (by omega), n_cl (by omega), olet_eq]
      exact Or.inr ⟨_, k - (p + 1), by omega, rfl, p + 1, by omega, rfl, rfl⟩) (k := k - 0) (a := (v, (0 : Int32), S)) ⟨0, by omega, rfl, rfl⟩
  rw [h1, h2]
theorem e_unqueue {T : Mem} {i k : Nat} (hi : i < 16) (hk1 : 1 ≤ k) (hk : k ≤ 8) (h7 : gi T 0 (6 + 21 * i + 3) 0 = nI k) : sX10_unqueue T (nI i) = some (si (shT T (6 + 21 * i + 13) (k - 1)) 0 (6 + 21 * i + 3) 0 (nI (k - 1))) := by
  unfold sX10_unqueue sX10_unqueue_l2
  obtain ⟨b, h1, h2⟩ := itw_one (f := sX10_unqueue_l2_step (nI i)) (J := fun m a => ∃ p, p + 1 ≤ k ∧ m = k - p ∧ a = (nI (p + 1), shT T (6 + 21 * i + 13) p)) (P := fun b => b = si (shT T (6 + 21 * i + 13) (k - 1)) 0 (6 + 21 * i + 3) 0 (nI (k - 1))) (fun m a => by
    rintro ⟨p, h1, rfl, rfl⟩
    unfold sX10_unqueue_l2_step
    dsimp only
    have e7 : gi (shT T (6 + 21 * i + 13) p) 0 (6 + 21 * i + 3) 0 = nI k := by rw [shT_g, if_neg (by omega)]; exact h7
    rw [e_of_3 hi, obind_some, e7]
    by_cases e : k ≤ p + 1
    · have hle : nI k ≤ nI (p + 1) := by rw [n_le (by omega) (by omega)]; exact e
      rw [if_pos hle, e_add_3 hi, obind_some, e7]
      refine Or.inl ⟨_, rfl, ?_⟩
      have e8 : nI k + (-1 : Int32) = nI (k - 1) := by
        have := @n_predm (k - 1)
        rw [show k - 1 + 1 = k by omega] at this
        exact this
      rw [e8, show p = k - 1 by omega]
    · have hle : ¬ nI k ≤ nI (p + 1) := by rw [n_le (by omega) (by omega)]; exact e
      have e9 : (13 : Int32) + nI (p + 1) = nI (13 + (p + 1)) := by rw [n_lit 13, nI_add]
      have e10 : nI (13 + (p + 1)) - (1 : Int32) = nI (13 + p) := pk_sub (b := 1) (by omega)
      rw [if_neg hle, e9, e10, e_of hi (by omega), obind_some, e_set hi (by omega), obind_some, n_suc]
      refine Or.inr ⟨_, k - (p + 1), by omega, rfl, p + 1, by omega, rfl, ?_⟩
      show _ = (nI (p + 1 + 1), si (shT T (6 + 21 * i + 13) p) 0 (6 + 21 * i + 13 + p) 0 (gi (shT T (6 + 21 * i + 13) p) 0 (6 + 21 * i + 13 + p + 1) 0))
      rw [show 6 + 21 * i + (13 + p) = 6 + 21 * i + 13 + p by omega, show 6 + 21 * i + (13 + (p + 1)) = 6 + 21 * i + 13 + p + 1 by omega]) (k := k - 0) (a := ((1 : Int32), T)) ⟨0, by omega, rfl, rfl⟩
  rw [h1, h2]
theorem ctn_up {f g : Nat → Bool} {i : Nat} (hf : f i = false) (hg : g i = true) (h : ∀ k, k ≠ i → f k = g k) : ∀ n, i < n → ctn g n = ctn f n + 1 := by
  intro n
  induction n with
  | zero => intro h; omega
  | succ n ih =>
    intro hi
    by_cases e : i = n
    · subst e
      rw [ctn_t hg, ctn_f (by rw [hf]; decide), ctn_cg (fun k hk => (h k (by omega)).symm)]
    · have := ih (by omega)
      by_cases e2 : f n = true
      · rw [ctn_t e2, ctn_t ((h n (by omega)).symm.trans e2), this]
      · rw [ctn_f e2, ctn_f (fun z => e2 ((h n (by omega)).trans z)), this]
/-- a step begins -/
theorem sim_begin {S T : Mem} {np nr ni i : Nat} (h : Rel S T np nr ni) (hi : i < ni) (h5 : gi S 3 5 i = 0) (h7 : gi S 3 7 i ≠ 0) : ∃ S' T', sX7_startStep S i = some S' ∧ sX10_begin T (nI i) = some T' ∧ Rel S' T' np nr ni ∧ FrT T T' ∧ ctn (inst S' 1) ni = ctn (inst S 1) ni + 1 ∧ ∀ j, gi S' 0 j 0 = gi S 0 j 0 := by
  obtain ⟨hC, hSa, hB, hO, hI, hIt⟩ := h
  have hni : ni ≤ 16 := hC.1.2.2
  have hnr : nr ≤ 10 := hC.1.2.1
  have hl : i < 16 := by omega
  obtain ⟨hE, hCx, ⟨k, k1, k2, k3⟩, hL, hSt⟩ := hIt i hi
  have kpos : 1 ≤ k := by
    rcases Nat.eq_zero_or_pos k with z | z
    · subst z; exact absurd k2 h7
    · exact z
  obtain ⟨q1, r, q2, q3⟩ := k3 0 kpos
  have t13 : gi T 0 (6 + 21 * i + 13) 0 = nI r := q1.symm.trans q3
  obtain ⟨hr10, hw, ⟨wk, wk1, wk2, wk3⟩, -, -, -, -, -, -⟩ := hC.re q2
  have t3 : gi T 0 (6 + 21 * i + 3) 0 = nI k := hE.2.2.2.1.symm.trans k2
  have eS : sX7_startStep S i = some (si (si (si (si (si (shq S i (k - 1)) 3 7 i (nI (k - 1))) 3 8 i (-1)) 3 9 i (nI r)) 3 5 i 1) 3 6 i (nI wk)) := by
    unfold sX7_startStep
    rw [e_dropFirst kpos k1 k2 q3, obind_some]
    simp only [olet_eq]
    have u : gi (si (si (si (si (shq S i (k - 1)) 3 7 i (nI (k - 1))) 3 8 i (-1)) 3 9 i (nI r)) 3 5 i 1) 3 9 i = nI r := by repeat (first | rw [gi_ne (by omega)] | rw [gi_eq2 (by omega)])
    rw [u, e_recipeAt hr10]
    have u2 : gi (si (si (si (si (shq S i (k - 1)) 3 7 i (nI (k - 1))) 3 8 i (-1)) 3 9 i (nI r)) 3 5 i 1) 2 0 r = nI wk := by
      repeat (first | rw [gi_ne (by omega)] | rw [gi_eq2 (by omega)])
      rw [shq_g, if_neg (by omega)]; exact wk3
    rw [u2]
  have eT : sX10_begin T (nI i) = some (si (shT (si (si (si (si T 0 (6 + 21 * i + 1) 0 1) 0 (6 + 21 * i + 5) 0 (nI r)) 0 (6 + 21 * i + 2) 0 (nI wk)) 0 (6 + 21 * i + 4) 0 (-1)) (6 + 21 * i + 13) (k - 1)) 0 (6 + 21 * i + 3) 0 (nI (k - 1))) := by
    unfold sX10_begin
    rw [e_of_13 hl, obind_some, t13, e_set_1 hl, obind_some, e_set_5 hl, obind_some, e_re_0 hr10, obind_some]
    have u : gi (si (si T 0 (6 + 21 * i + 1) 0 1) 0 (6 + 21 * i + 5) 0 (nI r)) 5 (11 + 7 * r + 0) 0 = nI wk := (hw 0 (by omega)).symm.trans wk3
    rw [u, e_set_2 hl, obind_some, e_set_4 hl, obind_some, e_unqueue hl kpos k1 (by
      repeat (first | rw [gi_ne (by omega)] | rw [gi_eq2 (by omega)])
      exact t3), obind_some]
  refine ⟨_, _, eS, eT, ?_, ?_, ?_, fun j => by
    repeat (first | rw [gi_ne (by omega)] | rw [gi_eq2 (by omega)])
    rw [shq_g, if_neg (by omega)]⟩
  · have g3 : ∀ j x, gi (shq S i (k - 1)) 3 j x = gi S 3 j x := fun j x => by rw [shq_g, if_neg (by omega)]
    have gc : ∀ c j x, c ≠ 4 → gi (shq S i (k - 1)) c j x = gi S c j x := fun c j x hc => by rw [shq_g, if_neg (by omega)]
    refine ⟨hC.cg (fun j hj => by
      repeat (first | rw [gi_ne (by omega)] | rw [gi_eq2 (by omega)])
      exact gc _ _ _ (by omega)) (fun p => by
      repeat (first | rw [gi_ne (by omega)] | rw [gi_eq2 (by omega)])
      exact gc _ _ _ (by omega)) (fun w x hw => by
      repeat (first | rw [gi_ne (by omega)] | rw [gi_eq2 (by omega)])
      exact gc _ _ _ (by omega)) (fun w x hw => by
      repeat (first | rw [gi_ne (by omega)] | rw [gi_eq2 (by omega)])
      exact gc _ _ _ (by omega)) (fun j => by
      repeat (first | rw [gi_ne (by omega)] | rw [gi_eq2 (by omega)])
      rw [shT_g, if_neg (by omega)]
      rfl), hSa.cg (fun j hj => by
      repeat (first | rw [gi_ne (by omega)] | rw [gi_eq2 (by omega)])
      exact gc _ _ _ (by omega)) (fun p => by
      repeat (first | rw [gi_ne (by omega)] | rw [gi_eq2 (by omega)])
      exact gc _ _ _ (by omega)) (fun x => by
      repeat (first | rw [gi_ne (by omega)] | rw [gi_eq2 (by omega)])
      exact gc _ _ _ (by omega)) (fun j hj => by
      repeat (first | rw [gi_ne (by omega)] | rw [gi_eq2 (by omega)])
      rw [shT_g, if_neg (by omega)]
      repeat (first | rw [gi_ne (by omega)] | rw [gi_eq2 (by omega)])) hnr hC.1.1, hB.cg (fun j => by
      repeat (first | rw [gi_ne (by omega)] | rw [gi_eq2 (by omega)])
      exact gc _ _ _ (by omega)) (fun j => by
      repeat (first | rw [gi_ne (by omega)] | rw [gi_eq2 (by omega)])
      exact gc _ _ _ (by omega)) (fun j hj => by
      repeat (first | rw [gi_ne (by omega)] | rw [gi_eq2 (by omega)])
      rw [shT_g, if_neg (by omega)]
      repeat (first | rw [gi_ne (by omega)] | rw [gi_eq2 (by omega)])), hO.cg (fun x => shq_q _ _ _) (fun x => shT_q _ _ _), hI.cg (fun p => by
      repeat (first | rw [gi_ne (by omega)] | rw [gi_eq2 (by omega)])
      exact gc _ _ _ (by omega)) (fun x => by
      repeat (first | rw [gi_ne (by omega)] | rw [gi_eq2 (by omega)])
      exact gc _ _ _ (by omega)), fun i' hi' => ?_⟩
    by_cases en : i' = i
    · subst en
      have a10 : gi S 3 10 i' = -1 := by
        rcases hSt with ⟨_, _, _, z⟩ | ⟨z, _⟩ | ⟨z, _⟩ | ⟨z, _⟩ | ⟨z, _⟩
        · exact z
        all_goals exact absurd (h5.symm.trans z) (by decide)
      refine ⟨?_, ?_, ⟨k - 1, by omega, ?_, fun j hj => ?_⟩, ?_, Or.inr (Or.inl ⟨?_, ⟨r, q2, ?_⟩, ⟨wk, wk1, by omega, ?_⟩, ?_⟩)⟩
      · unfold ItE at hE ⊢
        repeat (first | rw [gi_ne (by omega)] | rw [gi_eq2 (by omega)])
        simp only [g3, shT_g]
        rw [if_neg (by omega), if_neg (by omega), if_neg (by omega), if_neg (by omega), if_neg (by omega), if_neg (by omega), if_neg (by omega)]
        repeat (first | rw [gi_ne (by omega)] | rw [gi_eq2 (by omega)])
        exact ⟨hE.1, by first | rfl | trivial, by first | rfl | trivial, by first | rfl | trivial, by first | rfl | trivial, by first | rfl | trivial, hE.2.2.2.2.2.2.1, hE.2.2.2.2.2.2.2⟩
      · unfold ItC at hCx ⊢
        repeat (first | rw [gi_ne (by omega)] | rw [gi_eq2 (by omega)])
        rw [g3]; exact hCx
      · repeat (first | rw [gi_ne (by omega)] | rw [gi_eq2 (by omega)])
      · obtain ⟨u1, u2⟩ := k3 (j + 1) (by omega)
        repeat (first | rw [gi_ne (by omega)] | rw [gi_eq2 (by omega)])
        rw [shq_g, if_pos (by omega), shT_g, if_pos (by omega)]
        repeat (first | rw [gi_ne (by omega)] | rw [gi_eq2 (by omega)])
        exact ⟨by rw [u1]; rfl, u2⟩
      · unfold ItL at hL ⊢
        repeat (first | rw [gi_ne (by omega)] | rw [gi_eq2 (by omega)])
        simp only [g3, shT_g]
        rw [if_neg (by omega), if_neg (by omega), if_neg (by omega)]
        repeat (first | rw [gi_ne (by omega)] | rw [gi_eq2 (by omega)])
        exact hL
      · repeat (first | rw [gi_ne (by omega)] | rw [gi_eq2 (by omega)])
      · repeat (first | rw [gi_ne (by omega)] | rw [gi_eq2 (by omega)])
      · repeat (first | rw [gi_ne (by omega)] | rw [gi_eq2 (by omega)])
      · repeat (first | rw [gi_ne (by omega)] | rw [gi_eq2 (by omega)])
        rw [g3]; exact a10
    · refine (hIt i' hi').cg (fun j => by
        repeat (first | rw [gi_ne (by omega)] | rw [gi_eq2 (by omega)])
        exact g3 _ _) (fun j => by
        repeat (first | rw [gi_ne (by omega)] | rw [gi_eq2 (by omega)])
        rw [shq_g, if_neg (by omega)]) (fun x => by
        repeat (first | rw [gi_ne (by omega)] | rw [gi_eq2 (by omega)])
        exact gc _ _ _ (by omega)) (fun j hj => by
        repeat (first | rw [gi_ne (by omega)] | rw [gi_eq2 (by omega)])
        rw [shT_g, if_neg (by omega)]
        repeat (first | rw [gi_ne (by omega)] | rw [gi_eq2 (by omega)]))
  · have a1 : FrT T (si (si (si (si T 0 (6 + 21 * i + 1) 0 1) 0 (6 + 21 * i + 5) 0 (nI r)) 0 (6 + 21 * i + 2) 0 (nI wk)) 0 (6 + 21 * i + 4) 0 (-1)) := (((FrT.set (by omega)).trans (FrT.set (by omega))).trans (FrT.set (by omega))).trans (FrT.set (by omega))
    refine (a1.trans ⟨⟨fun j hj => ?_, fun x _ => shT_q _ _ _, fun c j x hc _ => ?_, fun c x _ => shT_q _ _ _⟩, ?_⟩).trans (FrT.set (by omega))
    · rw [shT_g, if_neg (by omega)]
    · rw [shT_g, if_neg (by omega)]
    · rw [shT_g, if_neg (by omega)]
  · refine ctn_up (i := i) ?_ ?_ (fun x hx => ?_) ni hi
    · unfold inst
      rw [h5]; rfl
    · unfold inst
      repeat (first | rw [gi_ne (by omega)] | rw [gi_eq2 (by omega)])
      rfl
    · unfold inst
      repeat (first | rw [gi_ne (by omega)] | rw [gi_eq2 (by omega)])
      rw [shq_g, if_neg (by omega)]
