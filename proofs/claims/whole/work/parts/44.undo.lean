/-! ===== A STEP BACK, SNAPSHOTS ===== -/
theorem e_inR (T : Mem) (a b c : Int64) : sX10_inRange T a b c = if b.toInt ≤ a.toInt ∧ a.toInt ≤ c.toInt then 1 else 0 := by
  unfold sX10_inRange
  by_cases h1 : b ≤ a
  · have e1 : ¬ lg_cmp a b < 0 := fun z => Int32.not_lt.mpr ((lg_cmp_ge a b).mpr h1) z
    rw [if_neg e1]
    by_cases h2 : a ≤ c
    · have e2 : ¬ 0 < lg_cmp a c := fun z => Int32.not_lt.mpr ((lg_cmp_le a c).mpr h2) z
      rw [if_neg e2, if_pos ⟨Int64.le_iff_toInt_le.mp h1, Int64.le_iff_toInt_le.mp h2⟩]
    · have e2 : 0 < lg_cmp a c := Int32.not_le.mp (fun z => h2 ((lg_cmp_le a c).mp z))
      rw [if_pos e2, if_neg (fun z => h2 (Int64.le_iff_toInt_le.mpr z.2))]
  · have e1 : lg_cmp a b < 0 := Int32.not_le.mp (fun z => h1 ((lg_cmp_ge a b).mp z))
    rw [if_pos e1, if_neg (fun z => h1 (Int64.le_iff_toInt_le.mpr z.1))]
/-- an int is one of the small numbers, or not -/
theorem n_ex (p : Int32) : (∃ i, i < 2147483648 ∧ p = nI i) ∨ p.toInt < 0 := by
  by_cases h : p.toInt < 0
  · exact Or.inr h
  · have h2 := Int32.toInt_lt p
    refine Or.inl ⟨p.toInt.toNat, by omega, ?_⟩
    rw [← Int32.toInt_inj, n_int (by omega)]
    omega
theorem n_i64 {i : Nat} (h : i < 2147483648) : (nI i).toInt64.toInt = (i : Int) := by
  rw [Int32.toInt_toInt64, n_int h]
/-- places 0 .. n-1 -/
theorem n_cases (p : Int32) {n : Nat} (hn : n < 2147483648) : (∃ i, i < n ∧ p = nI i ∧ ¬ p < 0 ∧ p < nI n ∧ ¬ nI n ≤ p ∧ p.toInt64.toInt = i) ∨ ((p < 0 ∨ (¬ p < 0 ∧ ¬ p < nI n ∧ nI n ≤ p)) ∧ ((p.toInt64.toInt < 0) ∨ (n : Int) ≤ p.toInt64.toInt)) := by
  rcases n_ex p with ⟨i, hi, rfl⟩ | h
  · rw [n_i64 hi]
    by_cases e : i < n
    · exact Or.inl ⟨i, e, rfl, n_nn hi, by rw [n_lt hi hn]; exact e, by rw [n_le hn hi]; omega, rfl⟩
    · exact Or.inr ⟨Or.inr ⟨n_nn hi, by rw [n_lt hi hn]; exact e, by rw [n_le hn hi]; omega⟩, Or.inr (by omega)⟩
  · exact Or.inr ⟨Or.inl (by rw [Int32.lt_iff_toInt_lt]; exact h), Or.inl (by rw [Int32.toInt_toInt64]; exact h)⟩
section UN
variable {B m np nr ni : Nat} {S : XT} {T T' : Mem}
theorem call_undo (h : IV B m S T) : PFA (sX9_undo S B) (sX10_undo T) (IV B m) := by
  obtain ⟨z, X, P, R, C, L, W⟩ := S
  obtain ⟨np, nr, ni, h⟩ := h
  obtain ⟨hR, ⟨e, k, f, h1, h2, h3, h4, h5, h6, h7, h8⟩, hSn, hB, hT, hO, hNC, hNL⟩ := h
  dsimp only at hR h4 h5 h6 h7 h8 hSn hB hT hO hNC hNL
  unfold sX9_undo sX1_stepBack sX10_undo
  simp only [olet_eq]
  rw [h5, gi_ne (by omega), h7]
  by_cases ek : k = 0
  · subst ek
    rw [if_pos (show nI 0 = 0 from rfl), if_pos (show nI 0 = 0 from rfl), obind_some, if_pos rfl]
    exact ⟨_, _, _, rfl, rfl, np, nr, ni, hR.th, HiR.frp ⟨e, 0, f, h1, h2, h3, h4, h5, h6, h7, h8⟩ (FrP.set (by omega)), hSn.frp (FrP.set (by omega)), hB, hT.frp (FrP.set (by omega)), hO.frp (FrP.set (by omega)), hNC, hNL⟩
  · have hk0 : ¬ nI k = 0 := by rw [n_lit 0, n_eq (by omega) (by omega)]; exact ek
    obtain ⟨k', rfl⟩ : ∃ k', k = k' + 1 := ⟨k - 1, by omega⟩
    have hm : (e + 9) % 10 < 10 := Nat.mod_lt _ (by omega)
    have hb : (f + k') % 10 < 10 := Nat.mod_lt _ (by omega)
    have ee : nI e + (10 : Int32) - (1 : Int32) - (nI e + (10 : Int32) - (1 : Int32)) / (10 : Int32) * (10 : Int32) = nI ((e + 9) % 10) := by
      rw [n_lit 10, nI_add, show e + 10 = (e + 9) + 1 by omega, n_pred]
      exact pk_rem (by omega) (by omega) (by omega)
    rw [if_neg hk0, if_neg hk0, h4, ee, n_inb (by omega) (by omega), oif_t rfl, n_cl (by omega), n_pred]
    obtain ⟨a, z', P', W', r1, r2, r3, r4, r5⟩ := e_row (X := si (si X 1 1 0 (nI ((e + 9) % 10))) 1 2 0 (nI k')) (R := R) (C := C) (L := L) (k := (e + 9) % 10) (by omega) hB
    obtain ⟨g1, g2⟩ := h8 k' (by omega)
    rw [show (e + 10 - (k' + 1) + k') % 10 = (e + 9) % 10 by omega] at g1 g2
    obtain ⟨g3, g4⟩ := r5 _ g1
    obtain ⟨M, m1, m2, m3⟩ := sim_copy (A := L) g2 hNL
    rw [r1, obind_some]
    dsimp only
    rw [g4, m1, obind_some, obind_some]
    dsimp only
    rw [if_neg (show ¬ (1 : Int32) = 0 by decide)]
    repeat (first | rw [gi_ne (by omega)] | rw [gi_eq2 (by omega)])
    rw [h6, nI_add, e_rem10 (by omega), n_lit 3, nI_add, n_lit 0, e_copyB (by omega) (by omega) (by omega), obind_some]
    have gg : ∀ c j i, c ≠ 100 → gi (si (si T 100 6 0 (nI 0)) 100 4 0 (nI k')) c j i = gi T c j i := fun c j i hc => by
      rw [gi_ne (by omega), gi_ne (by omega)]
    have g0 : ∀ c j i, c ≠ 0 → gi (cpB (si (si T 100 6 0 (nI 0)) 100 4 0 (nI k')) (3 + (f + k') % 10) 0) c j i = gi (si (si T 100 6 0 (nI 0)) 100 4 0 (nI k')) c j i := fun c j i hc => by
      rw [gi_cpB, if_neg (by omega)]
    have hRT : ∀ {A : Mem} {k : Nat}, Rel A (blkM T k) np nr ni → Rel A (blkM (si (si T 100 6 0 (nI 0)) 100 4 0 (nI k')) k) np nr ni := fun hA => hA.blk (fun j _ => gg _ _ _ (by decide)) (fun j _ => gg _ _ _ (by decide)) (fun i _ => rfl)
    refine ⟨_, _, _, rfl, by rw [g0 _ _ _ (by decide), gi_eq2 ⟨rfl, rfl, rfl⟩], np, nr, ni, ?_, ?_, ?_, r2, ?_, ?_, hNC, m3⟩
    · dsimp only
      have := Rel.cpd (b := 0) (hRT m2)
      rw [blk_0] at this
      exact this
    · refine ⟨(e + 9) % 10, k', f, hm, by omega, h3, ?_, ?_, ?_, ?_, fun j hj => ?_⟩
      · dsimp only
        rw [gi_ne (by omega), gi_eq2 ⟨rfl, rfl, rfl⟩]
      · dsimp only
        rw [gi_eq2 ⟨rfl, rfl, rfl⟩]
      · rw [g0 _ _ _ (by decide), gi_ne (by omega), gi_ne (by omega), h6]
      · rw [g0 _ _ _ (by decide), gi_eq2 ⟨rfl, rfl, rfl⟩]
      · dsimp only
        obtain ⟨q1, q2⟩ := h8 j (by omega)
        rw [show ((e + 9) % 10 + 10 - k' + j) % 10 = (e + 10 - (k' + 1) + j) % 10 by omega]
        obtain ⟨q3, q4⟩ := r5 _ q1
        rw [q4]
        exact ⟨q3, (hRT q2).cpo (by omega)⟩
    · intro x hx
      obtain ⟨s1, s2⟩ := hSn x hx
      dsimp only
      rw [gi_ne (by omega), gi_ne (by omega), g0 _ _ _ (by decide), gg _ _ _ (by decide)]
      refine ⟨s1, fun hz => ?_⟩
      obtain ⟨q1, q2⟩ := s2 hz
      obtain ⟨q3, q4⟩ := r5 _ q1
      rw [q4]
      exact ⟨q3, (hRT q2).cpo (by omega)⟩
    · refine hT.cg (fun j => ?_) (fun j hj => ?_)
      · rw [g0 _ _ _ (by decide), gg _ _ _ (by decide)]
      · rw [g0 _ _ _ (by decide), gi_ne (by omega), gi_ne (by omega)]
    · refine hO.cg ?_ (fun j => ?_) (fun j => ?_) ?_
      · dsimp only
        rw [gi_ne (by omega), gi_ne (by omega)]
      · dsimp only
        rw [gi_ne (by omega), gi_ne (by omega)]
      · rw [g0 _ _ _ (by decide), gg _ _ _ (by decide)]
      · rw [g0 _ _ _ (by decide), gi_ne (by omega), gi_ne (by omega)]
theorem i64_0 : (0 : Int64).toInt = 0 := by decide
theorem i64_1 : (1 : Int64).toInt = 1 := by decide
theorem call_restore (h : IV B m S T) (p : Int32) : PFA (sX9_restoreSnapshot S B p) (sX10_restoreSnapshot T p) (IV B m) := by
  have h0 := h
  obtain ⟨z, X, P, R, C, L, W⟩ := S
  obtain ⟨np, nr, ni, h⟩ := h
  have hv := h
  obtain ⟨hR, ⟨e, k, f, h1, h2, h3, h4, h5, h6, h7, h8⟩, hSn, hB, hT, hO, hNC, hNL⟩ := h
  dsimp only at hR h4 h5 h6 h7 h8 hSn hB hT hO hNC hNL
  unfold sX9_restoreSnapshot sX10_restoreSnapshot
  dsimp only
  rw [olet_eq, e_inR, i64_0, i64_1]
  have bad : PFA (some ((0 : Int32), (z, X, P, R, C, L, W))) (some ((0 : Int32), si T 100 6 0 0)) (IV B m) := ⟨_, _, _, rfl, rfl, np, nr, ni, hv.th⟩
  rcases n_cases p (n := 2) (by omega) with ⟨i, hi, rfl, c1, c2, c3, c4⟩ | ⟨c1, c2⟩
  · rw [if_neg c1, if_neg (show ¬ (2 : Int32) ≤ nI i from c3), if_pos (show (0 : Int) ≤ (nI i).toInt64.toInt ∧ (nI i).toInt64.toInt ≤ 1 by omega), if_neg (show ¬ (1 : Int32) = 0 by decide), n_inb (by omega) (by omega), oif_t rfl, n_cl (by omega), gi_ne (by omega)]
    obtain ⟨s1, s2⟩ := hSn i hi
    by_cases es : gi X 2 i 0 = 0
    · rw [if_pos es, if_pos (s1.mp es)]
      exact bad
    · have et : gi T 2 i 0 ≠ 0 := fun q => es (s1.mpr q)
      obtain ⟨g1, g2⟩ := s2 et
      obtain ⟨a, z', P', W', r1, r2, r3, r4, r5⟩ := e_row (X := X) (R := R) (C := C) (L := L) (k := 10 + i) (by omega) hB
      obtain ⟨g3, g4⟩ := r5 _ g1
      obtain ⟨M, m1, m2, m3⟩ := sim_copy (A := L) g2 hNL
      rw [if_neg es, if_neg et, r1, obind_some]
      dsimp only
      rw [g4, m1, obind_some, n_lit 1, nI_add, n_lit 0, e_copyB (by omega) (by omega) (by omega), obind_some, olet_eq]
      have gg : ∀ c j i, c ≠ 100 → gi (si T 100 6 0 (nI 0)) c j i = gi T c j i := fun c j i hc => by
        rw [gi_ne (by omega)]
      have g0 : ∀ c j x, c ≠ 0 → gi (cpB (si T 100 6 0 (nI 0)) (1 + i) 0) c j x = gi (si T 100 6 0 (nI 0)) c j x := fun c j x hc => by
        rw [gi_cpB, if_neg (by omega)]
      have hRT : ∀ {A : Mem} {k : Nat}, Rel A (blkM T k) np nr ni → Rel A (blkM (si T 100 6 0 (nI 0)) k) np nr ni := fun hA => hA.blk (fun j _ => gg _ _ _ (by decide)) (fun j _ => gg _ _ _ (by decide)) (fun i _ => rfl)
      have hst : ∀ {A : Mem} {k v}, Rel A (blkM (cpB (si T 100 6 0 (nI 0)) (1 + i) 0) k) np nr ni → Rel A (blkM (si (cpB (si T 100 6 0 (nI 0)) (1 + i) 0) 100 4 0 v) k) np nr ni := fun hA => hA.blk (fun j _ => gi_ne (by omega)) (fun j _ => gi_ne (by omega)) (fun i _ => rfl)
      refine ⟨_, _, _, rfl, rfl, np, nr, ni, ?_, ?_, ?_, r2, ?_, ?_, hNC, m3⟩
      · dsimp only
        have := hst (v := nI 0) (Rel.cpd (b := 0) (hRT m2))
        rw [blk_0] at this
        exact this
      · refine ⟨e, 0, f, h1, by omega, h3, ?_, ?_, ?_, ?_, fun j hj => absurd hj (Nat.not_lt_zero _)⟩
        · dsimp only
          rw [gi_ne (by omega), h4]
        · dsimp only
          rw [gi_eq2 ⟨rfl, rfl, rfl⟩]
        · rw [gi_ne (by omega), g0 _ _ _ (by decide), gi_ne (by omega), h6]
        · rw [gi_eq2 ⟨rfl, rfl, rfl⟩]
      · intro x hx
        obtain ⟨s1, s2⟩ := hSn x hx
        dsimp only
        rw [gi_ne (by omega), gi_ne (by omega), g0 _ _ _ (by decide), gg _ _ _ (by decide)]
        refine ⟨s1, fun hz => ?_⟩
        obtain ⟨q1, q2⟩ := s2 hz
        obtain ⟨q3, q4⟩ := r5 _ q1
        rw [q4]
        exact ⟨q3, hst ((hRT q2).cpo (by omega))⟩
      · refine hT.cg (fun j => ?_) (fun j hj => ?_)
        · rw [gi_ne (by omega), g0 _ _ _ (by decide), gg _ _ _ (by decide)]
        · rw [gi_ne (by omega), g0 _ _ _ (by decide), gi_ne (by omega)]
      · refine hO.cg ?_ (fun j => ?_) (fun j => ?_) ?_
        · dsimp only
          rw [gi_ne (by omega)]
        · dsimp only
          rw [gi_ne (by omega)]
        · rw [gi_ne (by omega), g0 _ _ _ (by decide), gg _ _ _ (by decide)]
        · rw [gi_ne (by omega), g0 _ _ _ (by decide), gi_ne (by omega)]
  · rw [if_neg (show ¬ ((0 : Int) ≤ p.toInt64.toInt ∧ p.toInt64.toInt ≤ 1) by omega), if_pos rfl]
    rcases c1 with c1 | ⟨c1, c3, c4⟩
    · rw [if_pos c1]; exact bad
    · rw [if_neg c1, if_pos (show (2 : Int32) ≤ p from c4)]; exact bad
theorem call_save (h : IV B m S T) (p : Int32) : PFA (sX9_saveSnapshot S B p) (sX10_saveSnapshot T p) (IV B m) := by
  obtain ⟨z, X, P, R, C, L, W⟩ := S
  obtain ⟨np, nr, ni, h⟩ := h
  have hv := h
  obtain ⟨hR, ⟨e, k, f, h1, h2, h3, h4, h5, h6, h7, h8⟩, hSn, hB, hT, hO, hNC, hNL⟩ := h
  dsimp only at hR h4 h5 h6 h7 h8 hSn hB hT hO hNC hNL
  unfold sX9_saveSnapshot sX10_saveSnapshot
  rw [olet_eq, e_inR, i64_0, i64_1]
  have bad : PFA (some ((0 : Int32), (z, X, P, R, C, L, W))) (some ((0 : Int32), si T 100 6 0 0)) (IV B m) := ⟨_, _, _, rfl, rfl, np, nr, ni, hv.th⟩
  rcases n_cases p (n := 2) (by omega) with ⟨i, hi, rfl, c1, c2, c3, c4⟩ | ⟨c1, c2⟩
  · rw [if_neg c1, if_neg (show ¬ (2 : Int32) ≤ nI i from c3), if_pos (show (0 : Int) ≤ (nI i).toInt64.toInt ∧ (nI i).toInt64.toInt ≤ 1 by omega), if_neg (show ¬ (1 : Int32) = 0 by decide), n_cl (by omega)]
    obtain ⟨a, z', P', W', r1, r2, r3, r4, r5⟩ := e_row (X := X) (R := R) (C := C) (L := L) (k := 10 + i) (by omega) hB
    obtain ⟨M, m1, m2, m3⟩ := sim_copy hR r4
    rw [r1, obind_some]
    dsimp only
    rw [m1, obind_some, n_lit 1, nI_add, n_lit 0, e_copyB (by omega) (by omega) (by omega), obind_some, n_inb (by omega) (by omega), oif_t rfl, olet_eq]
    have gg : ∀ c j i, c ≠ 100 → gi (si T 100 6 0 (nI 0)) c j i = gi T c j i := fun c j i hc => by
      rw [gi_ne (by omega)]
    obtain ⟨d1, d2, d3⟩ := FrP.cpB_ (T := si T 100 6 0 (nI 0)) 0 (1 + i) (by omega)
    have hRT : ∀ {A : Mem} {k : Nat}, Rel A (blkM T k) np nr ni → Rel A (blkM (si T 100 6 0 (nI 0)) k) np nr ni := fun hA => hA.blk (fun j _ => gg _ _ _ (by decide)) (fun j _ => gg _ _ _ (by decide)) (fun i _ => rfl)
    have hst : ∀ {A : Mem} {k v}, Rel A (blkM (cpB (si T 100 6 0 (nI 0)) 0 (1 + i)) k) np nr ni → Rel A (blkM (si (cpB (si T 100 6 0 (nI 0)) 0 (1 + i)) 2 i 0 v) k) np nr ni := fun hA => hA.blk (fun j _ => gi_ne (by omega)) (fun j _ => gi_ne (by omega)) (fun i _ => rfl)
    have hup : ∀ x, x ≠ 10 + i → upW W' (10 + i) M x = W' x := fun x hx => if_neg hx
    have hue : upW W' (10 + i) M (10 + i) = M := if_pos rfl
    refine ⟨_, _, _, rfl, rfl, np, nr, ni, ?_, ?_, ?_, ?_, ?_, ?_, hNC, hNL⟩
    · dsimp only
      refine hR.tcg (fun j hj => ?_) (fun j hj => ?_) (fun j hj => ?_)
      · rw [gi_ne (by omega), d1 j hj, gg _ _ _ (by decide)]
      · rw [gi_ne (by omega), d2 _ _ _ (by decide), gg _ _ _ (by decide)]
      · rw [gq_si, d3 j hj]; rfl
    · refine ⟨e, k, f, h1, by omega, h3, ?_, ?_, ?_, ?_, fun j hj => ?_⟩
      · dsimp only
        rw [gi_ne (by omega), h4]
      · dsimp only
        rw [gi_ne (by omega), h5]
      · rw [gi_ne (by omega), d2 _ _ _ (by decide), gi_ne (by omega), h6]
      · rw [gi_ne (by omega), d2 _ _ _ (by decide), gi_ne (by omega), h7]
      · dsimp only
        obtain ⟨q1, q2⟩ := h8 j hj
        obtain ⟨q3, q4⟩ := r5 _ q1
        rw [hup _ (by omega), q4]
        exact ⟨q3, hst ((hRT q2).cpo (by omega))⟩
    · intro x hx
      dsimp only
      by_cases ex : x = i
      · subst ex
        rw [gi_eq2 ⟨rfl, rfl, rfl⟩, gi_eq2 ⟨rfl, rfl, rfl⟩, hue]
        exact ⟨Iff.rfl, fun _ => ⟨r3, hst (Rel.cpd (a := 0) (hRT (by rw [blk_0]; exact m2)))⟩⟩
      · obtain ⟨s1, s2⟩ := hSn x hx
        rw [gi_ne (by omega), gi_ne (by omega), d2 _ _ _ (by decide), gg _ _ _ (by decide), hup _ (by omega)]
        refine ⟨s1, fun hz => ?_⟩
        obtain ⟨q1, q2⟩ := s2 hz
        obtain ⟨q3, q4⟩ := r5 _ q1
        rw [q4]
        exact ⟨q3, hst ((hRT q2).cpo (by omega))⟩
    · refine ⟨r2.1, r2.2.1, r2.2.2.1, r2.2.2.2.1, fun x hx hn => ?_⟩
      dsimp only at hn ⊢
      by_cases ex : x = 10 + i
      · subst ex; rw [hue]; exact m3
      · rw [hup _ ex]; exact r2.2.2.2.2 x hx hn
    · refine hT.cg (fun j => ?_) (fun j hj => ?_)
      · rw [gi_ne (by omega), d2 _ _ _ (by decide), gg _ _ _ (by decide)]
      · rw [gi_ne (by omega), d2 _ _ _ (by decide), gi_ne (by omega)]
    · refine hO.cg ?_ (fun j => ?_) (fun j => ?_) ?_
      · dsimp only
        rw [gi_ne (by omega)]
      · dsimp only
        rw [gi_ne (by omega)]
      · rw [gi_ne (by omega), d2 _ _ _ (by decide), gg _ _ _ (by decide)]
      · rw [gi_ne (by omega), d2 _ _ _ (by decide), gi_ne (by omega)]
  · rw [if_neg (show ¬ ((0 : Int) ≤ p.toInt64.toInt ∧ p.toInt64.toInt ≤ 1) by omega), if_pos rfl]
    rcases c1 with c1 | ⟨c1, c3, c4⟩
    · rw [if_pos c1]; exact bad
    · rw [if_neg c1, if_pos (show (2 : Int32) ≤ p from c4)]; exact bad
end UN
