/-! ===== WRITE ===== -/
section WRI
variable {B m np nr ni : Nat} {S : XT} {T : Mem} {co : Nat → Option Int32}
def OuK (X T : Mem) (k : Nat) : Prop := gi X 0 8 0 = nI k ∧ gi T 100 10 0 = nI k ∧ ∀ j, j < k → gi X 3 j 0 = gi T 9 j 0
/-- what the output leaves of the program's own cells, and of the Model's -/
def FrX (X X' : Mem) : Prop := (∀ j, gi X' 1 j 0 = gi X 1 j 0) ∧ ∀ j, gi X' 2 j 0 = gi X 2 j 0
def FrO (T T' : Mem) : Prop := (∀ c j i, c ≠ 9 → (c ≠ 100 ∨ j ≠ 10) → gi T' c j i = gi T c j i) ∧ ∀ c i, gq T' c i = gq T c i
theorem FrX.refl {X : Mem} : FrX X X := ⟨fun _ => rfl, fun _ => rfl⟩
theorem FrX.trans {X X' X'' : Mem} (h : FrX X X') (h2 : FrX X' X'') : FrX X X'' := ⟨fun j => (h2.1 j).trans (h.1 j), fun j => (h2.2 j).trans (h.2 j)⟩
theorem FrO.refl {T : Mem} : FrO T T := ⟨fun _ _ _ _ _ => rfl, fun _ _ => rfl⟩
theorem FrO.trans {T T' T'' : Mem} (h : FrO T T') (h2 : FrO T' T'') : FrO T T'' := ⟨fun c j i a b => (h2.1 c j i a b).trans (h.1 c j i a b), fun c i => (h2.2 c i).trans (h.2 c i)⟩
theorem Rel.fro {S T T' : Mem} (h : Rel S T np nr ni) (hF : FrO T T') : Rel S T' np nr ni := h.tcg (fun j _ => hF.1 _ _ _ (by decide) (Or.inl (by decide))) (fun j _ => hF.1 _ _ _ (by decide) (Or.inl (by decide))) (fun i _ => hF.2 _ _)
theorem IVn.out {X' T' : Mem} {k : Nat} (h : IVn B m S T np nr ni) (hX : FrX S.2.1 X') (hT : FrO T T') (hO : OuK X' T' k) (hk : k ≤ 24) : IVn B m (S.1, X', S.2.2) T' np nr ni := by
  obtain ⟨hR, ⟨e, kk, f, h1, h2, h3, h4, h5, h6, h7, h8⟩, hS, hB, ⟨⟨n, t1, t2, t3, t4⟩, t5, t6⟩, -, hN, hN2⟩ := h
  have hb : ∀ {S' : Mem} {k : Nat}, Rel S' (blkM T k) np nr ni → Rel S' (blkM T' k) np nr ni := fun hr => hr.blk (fun j _ => hT.1 _ _ _ (by decide) (Or.inl (by decide))) (fun j _ => hT.1 _ _ _ (by decide) (Or.inl (by decide))) (fun i _ => hT.2 _ _)
  have h100 : ∀ j, j ≠ 10 → gi T' 100 j 0 = gi T 100 j 0 := fun j hj => hT.1 _ _ _ (by decide) (Or.inr hj)
  refine ⟨hR.fro hT, ⟨e, kk, f, h1, h2, h3, (hX.1 1).trans h4, (hX.1 2).trans h5, (h100 3 (by decide)).trans h6, (h100 4 (by decide)).trans h7, fun j hj => ⟨(h8 j hj).1, hb (h8 j hj).2⟩⟩, ?_, hB, ⟨⟨n, t1, t2, (h100 12 (by decide)).trans t3, fun j hj => ⟨(t4 j hj).1.trans (hT.1 11 j 0 (by decide) (Or.inl (by decide))).symm, (t4 j hj).2⟩⟩, t5.trans (h100 14 (by decide)).symm, t6.trans (h100 15 (by decide)).symm⟩, ⟨k, hk, hO.1, hO.2.1, hO.2.2⟩, hN, hN2⟩
  intro w hw
  show (gi X' 2 w 0 = 0 ↔ gi T' 2 w 0 = 0) ∧ (gi T' 2 w 0 ≠ 0 → _ ∧ Rel _ (blkM T' (1 + w)) np nr ni)
  rw [hX.2, hT.1 2 w 0 (by decide) (Or.inl (by decide))]
  exact ⟨(hS w hw).1, fun hz => ⟨((hS w hw).2 hz).1, hb ((hS w hw).2 hz).2⟩⟩
theorem by8n : ∀ c, c < 128 → (nI c).toInt8.toInt32.toInt8.toInt32 = nI c := by decide +kernel
theorem sim_put {X T : Mem} {k c : Nat} (h : OuK X T k) (hk : k < 24) (hc : c < 128) (hS : S.2.1 = X) : ∃ X' T', sX9_put S B (nI c) = some (S.1, X', S.2.2) ∧ sX10_put T (nI c) = some T' ∧ OuK X' T' (k + 1) ∧ FrX X X' ∧ FrO T T' := by
  obtain ⟨h1, h2, h3⟩ := h
  refine ⟨si (si X 3 k 0 (nI c)) 0 8 0 (nI (k + 1)), si (si T 9 k 0 (nI c)) 100 10 0 (nI (k + 1)), ?_, ?_, ⟨gi_eq2 ⟨rfl, rfl, rfl⟩, gi_eq2 ⟨rfl, rfl, rfl⟩, fun j hj => ?_⟩, ⟨fun j => by rw [gi_ne (by omega), gi_ne (by omega)], fun j => by rw [gi_ne (by omega), gi_ne (by omega)]⟩, ⟨fun c j i h9 h10 => by rw [gi_ne (by omega), gi_ne (by omega)], fun c i => rfl⟩⟩
  · unfold sX9_put
    rw [hS, h1, if_neg (n_nn (by omega)), if_neg (by rw [n_lit 32, n_le (by omega) (by omega)]; omega), n_cl (by omega), by8n c hc]
    simp only [olet_eq]
    rw [gi_ne (by omega), h1, n_suc]
  · unfold sX10_put
    rw [h2, n_inb (by omega) (by omega), oif_t rfl, n_cl (by omega)]
    simp only [olet_eq]
    rw [gi_ne (by omega), h2, n_suc]
  · by_cases e : j = k
    · subst e
      rw [gi_ne (by omega), gi_eq2 ⟨rfl, rfl, rfl⟩, gi_ne (by omega), gi_eq2 ⟨rfl, rfl, rfl⟩]
    · rw [gi_ne (by omega), gi_ne (by omega), gi_ne (by omega), gi_ne (by omega)]
      exact h3 j (by omega)
/-- what stands at place j -/
def WJ (S : XT) (T0 : Mem) (bd : Nat) (X T : Mem) : Prop := FrX S.2.1 X ∧ FrO T0 T ∧ ∃ k, k ≤ bd ∧ OuK X T k
theorem wj_put {bd c : Nat} {T0 X T : Mem} (h : WJ S T0 bd X T) (hb : bd < 24) (hc : c < 128) : ∃ X' T', sX9_put (S.1, X, S.2.2) B (nI c) = some (S.1, X', S.2.2) ∧ sX10_put T (nI c) = some T' ∧ WJ S T0 (bd + 1) X' T' := by
  obtain ⟨h1, h2, k, h3, h4⟩ := h
  obtain ⟨X', T', p1, p2, p3, p4, p5⟩ := sim_put (B := B) (S := (S.1, X, S.2.2)) h4 (by omega) hc rfl
  exact ⟨X', T', p1, p2, h1.trans p4, h2.trans p5, k + 1, by omega, p3⟩
theorem w_j {y2 : Int32} {j i bd : Nat} {T0 X T' : Mem} (p1 : Int32) (hR : Rel S.2.2.2.2.2.1 T0 np nr ni) (hi : i < ni) (h : WJ S T0 bd X T') (hb : bd < 22) (hj : ∃ r, r < nr ∧ r < 10 ∧ sX10_of T' (nI i) ((13 : Int32) + nI j) = some (nI r) ∧ (∀ T1, FrO T' T1 → sX10_of T1 (nI i) ((13 : Int32) + nI j) = some (nI r)) ∧ y2 = nI r) : ∃ X1 T1, sX9_write_j38 (S.1, X, S.2.2) B p1 i (nI j) y2 = some (.inl (i, nI (j + 1), (S.1, X1, S.2.2))) ∧ sX10_write_j55 T' (nI i) (nI j) = some (.inl (nI (j + 1), T1)) ∧ WJ S T0 (bd + 2) X1 T1 := by
  obtain ⟨r, hr, hr10, q1, q2, rfl⟩ := hj
  obtain ⟨X1, T1, a1, a2, a3⟩ := wj_put (B := B) (c := 48 + r) h (by omega) (by omega)
  have hF : FrO T' T1 := by
    obtain ⟨-, hx, -⟩ := h
    obtain ⟨-, hy, -⟩ := a3
    refine ⟨fun c j i u v => (hy.1 c j i u v).trans (hx.1 c j i u v).symm, fun c i => (hy.2 c i).trans (hx.2 c i).symm⟩
  unfold sX9_write_j38 sX10_write_j55
  rw [q1, obind_some, n_lit 48, nI_add, a1, a2, obind_some, obind_some, q2 T1 hF, obind_some, e_appr (hR.fro a3.2.1) hi hr, obind_some]
  dsimp only
  rw [e_recipeAt (by omega)]
  by_cases e : sX5_asksApproval S.2.2.2.2.2.1 r (gi S.2.2.2.2.2.1 3 4 i) = 0
  · rw [if_pos e, if_pos e, olet_eq, n_suc]
    obtain ⟨b1, b2, k, b3, b4⟩ := a3
    exact ⟨X1, T1, rfl, rfl, b1, b2, k, by omega, b4⟩
  · obtain ⟨X2, T2, c1, c2, c3⟩ := wj_put (B := B) (c := 33) a3 (by omega) (by omega)
    rw [if_neg e, if_neg e, n_lit 33, c1, c2, obind_some, obind_some, olet_eq, n_suc]
    exact ⟨X2, T2, rfl, rfl, c3⟩
theorem call_write (h : IV B (m + 1) S T) (p1 : Int32) : PFX (uW (sX9_write S B p1)) (mI (sX10_write T p1)) co1 (IV B m) := by
  obtain ⟨np, nr, ni, hV⟩ := h
  rcases e_item hV p1 with ⟨i, hi, rfl, h1, -, h2⟩ | ⟨h1, -, h2⟩
  · refine pfx_do (np := np) (nr := nr) (ni := ni) ?_
    have hW := hV.th (v := 0)
    have hR := hW.1
    have hni : ni ≤ 16 := hR.1.1.2.2
    unfold sX9_write sX10_write
    rw [h1, olet_eq (si T 100 6 0 0), h2 _ (gi_ne (by omega)), if_neg one_ne]
    unfold sX10_write_j19
    rw [e_thr0, olet_eq ((0 : Int32), si T 100 6 0 0), if_pos rfl]
    dsimp only [oexc]
    have h6 : gi (si T 100 6 0 0) 100 6 0 = 0 := gi_eq2 ⟨rfl, rfl, rfl⟩
    clear h2 h1
    generalize si T 100 6 0 0 = T0 at hW hR h6 ⊢
    rw [olet_eq, olet_eq]
    obtain ⟨k, k1, k2, -, k4⟩ := e_q hR hi
    have hof : ∀ {T1 : Mem}, FrO T0 T1 → ∀ w, w < 21 → sX10_of T1 (nI i) (nI w) = sX10_of T0 (nI i) (nI w) := fun hF w hw => by
      rw [e_of (by omega) hw, e_of (by omega) hw, hF.1 0 _ 0 (by decide) (Or.inl (by decide))]
    have t3 : sX10_of T0 (nI i) (3 : Int32) = some (nI k) := by
      obtain ⟨k', -, k2', k3', -⟩ := e_q hR hi
      rw [k3', ← k2, k2']
    unfold sX9_write_l13 sX10_write_l35
    obtain ⟨b, b', g1, g2, v, X', T', rfl, rfl, hJ⟩ := itw_two (f := sX9_write_l13_step B (nI i)) (g := sX10_write_l35_step (nI i)) (J := fun q a a' => ∃ j X T', j ≤ k ∧ q = k - j ∧ a = (i, nI j, (S.1, X, S.2.2)) ∧ a' = (nI j, T') ∧ WJ S T0 (3 * j - 1) X T') (P := fun b b' => ∃ v X' T', b = .ok (v, (S.1, X', S.2.2)) ∧ b' = (v, T') ∧ WJ S T0 24 X' T') (fun q a a' => by
      rintro ⟨j, X, T', j1, rfl, rfl, rfl, hJ⟩
      unfold sX9_write_l13_step sX10_write_l35_step
      dsimp only
      rw [k2, show sX10_of T' (nI i) (3 : Int32) = some (nI k) from (hof hJ.2.1 3 (by omega)).trans t3, obind_some]
      by_cases e : k ≤ j
      · have hle : nI k ≤ nI j := by rw [n_le (by omega) (by omega)]; exact e
        rw [if_pos hle, if_pos hle]
        obtain ⟨b1, b2, kk, b3, b4⟩ := hJ
        refine Or.inl ⟨_, _, rfl, rfl, gi X 0 8 0, X, T', rfl, ?_, b1, b2, kk, by omega, b4⟩
        rw [b4.1, b4.2.1]
      · have hle : ¬ nI k ≤ nI j := by rw [n_le (by omega) (by omega)]; exact e
        obtain ⟨r, hr, hr10, r1, r2⟩ := k4 j (by omega)
        rw [if_neg hle, if_neg hle, r1, obind_some]
        have hr3 : ∀ {T1 : Mem}, FrO T0 T1 → sX10_of T1 (nI i) ((13 : Int32) + nI j) = some (nI r) := fun hF => by
          rw [← r2, n_lit 13, nI_add]; exact hof hF _ (by omega)
        by_cases e0 : j = 0
        · subst e0
          rw [if_pos (show nI 0 ≤ (0 : Int32) by decide), if_pos (show nI 0 ≤ (0 : Int32) by decide)]
          obtain ⟨X1, T1, a1, a2, a3⟩ := w_j (B := B) (y2 := nI r) (nI i) hR hi hJ (by omega) ⟨r, hr, hr10, hr3 hJ.2.1, fun T1 hF => hr3 (hJ.2.1.trans hF), rfl⟩
          exact Or.inr ⟨_, _, k - (0 + 1), by omega, a1, a2, 0 + 1, X1, T1, by omega, rfl, rfl, rfl, a3⟩
        · have hn0 : ¬ nI j ≤ (0 : Int32) := by rw [n_lit 0, n_le (by omega) (by omega)]; omega
          obtain ⟨X2, T2, c1, c2, c3⟩ := wj_put (B := B) (c := 44) hJ (by omega) (by omega)
          rw [if_neg hn0, if_neg hn0, n_lit 44, c1, c2, obind_some, obind_some]
          obtain ⟨X1, T1, a1, a2, a3⟩ := w_j (B := B) (y2 := nI r) (nI i) hR hi c3 (by omega) ⟨r, hr, hr10, hr3 c3.2.1, fun T1 hF => hr3 (c3.2.1.trans hF), rfl⟩
          refine Or.inr ⟨_, _, k - (j + 1), by omega, a1, a2, j + 1, X1, T1, by omega, rfl, rfl, rfl, ?_⟩
          obtain ⟨b1, b2, kk, b3, b4⟩ := a3
          exact ⟨b1, b2, kk, by omega, b4⟩) (k := k - 0) (a := (i, (0 : Int32), (S.1, si S.2.1 0 8 0 0, S.2.2))) (a' := ((0 : Int32), si T0 100 10 0 0)) ⟨0, si S.2.1 0 8 0 0, si T0 100 10 0 0, by omega, rfl, rfl, rfl, ⟨fun j => gi_ne (by omega), fun j => gi_ne (by omega)⟩, ⟨fun c j i h9 h10 => gi_ne (by omega), fun c i => rfl⟩, 0, by omega, gi_eq2 ⟨rfl, rfl, rfl⟩, gi_eq2 ⟨rfl, rfl, rfl⟩, fun j hj => by omega⟩
    obtain ⟨b1, b2, kk, b3, b4⟩ := hJ
    exact ⟨v, _, T', g1, g2, hW.out b1 b2 b4 b3, (b2.1 100 6 0 (by decide) (Or.inr (by decide))).trans h6⟩
  · refine pfx_bad (e := 1) (b := 0) (w := 1) hV ?_ ?_ rfl (by decide)
    · unfold sX9_write
      rw [h1]
      rfl
    · unfold sX10_write
      rw [olet_eq, h2 _ (gi_ne (by omega)), if_pos rfl]
      unfold sX10_write_j19
      rw [e_thr1, olet_eq, if_neg one_ne]
end WRI
