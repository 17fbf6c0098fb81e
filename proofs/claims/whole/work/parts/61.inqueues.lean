/-! ===== HOW OFTEN IN QUEUES ===== -/
section INQ
variable {B m np nr ni : Nat} {S : XT} {T : Mem} {co : Nat → Option Int32}
theorem e_times {L T0 : Mem} {u : Nat} {p a0 : Int32} (h : Rel L T0 np nr ni) (hu : u < ni) : ∃ r, sX2_timesQueued L u p = some r ∧ sX10_inQueues_l45 p (a0, nI u, (0 : Int32), T0) = some (.inl (a0 + r, nI u + 1, T0)) := by
  obtain ⟨k, k1, k2, k3, k4⟩ := e_q h hu
  unfold sX2_timesQueued sX2_timesQueued_l4 sX10_inQueues_l45
  have key2 := loop2 (f := sX2_timesQueued_l4_step L u p) (g := sX10_inQueues_l45_step p) k (fun j (c : Int32) => (c, nI j)) (fun j c => (a0 + c, nI u, nI j, T0)) (P := fun b b' => b' = .inl (a0 + b, nI u + 1, T0)) (fun c => by
    unfold sX2_timesQueued_l4_step sX10_inQueues_l45_step
    dsimp only
    rw [k2, k3, obind_some, if_pos (Int32.le_refl _), if_pos (Int32.le_refl _)]
    exact ⟨_, _, rfl, rfl, rfl⟩) (fun j c hj => by
    unfold sX2_timesQueued_l4_step sX10_inQueues_l45_step
    dsimp only
    have hle : ¬ nI k ≤ nI j := by rw [n_le (by omega) (by omega)]; omega
    obtain ⟨r, r1, r2, r3, r4⟩ := k4 j hj
    rw [k2, k3, obind_some, if_neg hle, if_neg hle, r3, r4, obind_some, obind_some, n_suc]
    by_cases e : nI r = p
    · rw [if_pos e, if_pos e, olet_eq, Int32.add_assoc]
      exact ⟨_, rfl, rfl⟩
    · rw [if_neg e, if_neg e, olet_eq, add_0]
      exact ⟨_, rfl, rfl⟩) (0 : Int32)
  obtain ⟨b, b', g1, g2, rfl⟩ := key2
  rw [add_0] at g2
  exact ⟨b, g1, g2⟩
theorem call_inQueues (h : IV B (m + 1) S T) (p1 : Int32) : PFX (uP (sX9_inQueues S B p1) S) (mI (sX10_inQueues T p1)) co1 (IV B m) := by
  obtain ⟨np, nr, ni, hV⟩ := h
  have hR : Rel S.2.2.2.2.2.1 (si T 100 6 0 0) np nr ni := hV.1.th
  have hni : ni ≤ 16 := hR.1.1.2.2
  have hnr : nr ≤ 10 := hR.1.1.2.1
  have hnp : np ≤ 6 := hR.1.1.1
  rcases e_reqR hV p1 with ⟨i, hi, rfl, h1, h2⟩ | ⟨h1, h2⟩
  · have key : ∃ v, sX9_inQueues S B (nI i) = some (.ok v) ∧ sX10_inQueues T (nI i) = some (v, si T 100 6 0 0) := by
      unfold sX9_inQueues sX10_inQueues
      rw [h1, olet_eq (si T 100 6 0 0), h2 _ (gi_ne (by omega)), if_neg one_ne]
      unfold sX10_inQueues_j19
      rw [e_thr0, olet_eq ((0 : Int32), si T 100 6 0 0), if_pos rfl]
      dsimp only [oexc]
      clear h2 hV h1
      generalize si T 100 6 0 0 = T0 at hR ⊢
      have e9 : gi S.2.2.2.2.2.1 0 9 0 = nI ni := hR.1.2.1.2.2
      have t4 : gi T0 5 (4 : Int32).toNatClampNeg 0 = nI ni := hR.1.2.2.1.2.2
      unfold sX9_inQueues_l9 sX10_inQueues_l32
      have key2 := loop2 (f := sX9_inQueues_l9_step S B (nI i)) (g := sX10_inQueues_l32_step (nI i)) ni (fun u (c : Int32) => (c, nI u)) (fun u c => (c, nI u, T0)) (P := fun b b' => ∃ v, b = .ok v ∧ b' = (v, T0)) (fun c => by
        unfold sX9_inQueues_l9_step sX10_inQueues_l32_step
        dsimp only
        rw [e9, t4, if_pos (Int32.le_refl _), if_pos (Int32.le_refl _)]
        exact ⟨_, _, rfl, rfl, c, rfl, rfl⟩) (fun u c hu => by
        unfold sX9_inQueues_l9_step sX10_inQueues_l32_step
        dsimp only
        have hle : ¬ nI ni ≤ nI u := by rw [n_le (by omega) (by omega)]; omega
        obtain ⟨r, r1, r2⟩ := e_times (p := nI i) (a0 := c) hR hu
        rw [e9, t4, if_neg hle, if_neg hle, e_itemAt (by omega), r1, r2, obind_some, olet_eq, n_suc]
        exact ⟨_, rfl, rfl⟩) (0 : Int32)
      obtain ⟨b, b', g1, g2, v, rfl, rfl⟩ := key2
      exact ⟨v, g1, g2⟩
    obtain ⟨v, g1, g2⟩ := key
    exact pfp_ok hV g1 g2
  · refine pfp_bad (e := 1) (b := 0) (w := 1) hV ?_ ?_ rfl (by decide)
    · unfold sX9_inQueues
      rw [h1]
      rfl
    · unfold sX10_inQueues
      rw [olet_eq, h2 _ (gi_ne (by omega)), if_pos rfl]
      unfold sX10_inQueues_j19
      rw [e_thr1, olet_eq, if_neg one_ne]
end INQ
