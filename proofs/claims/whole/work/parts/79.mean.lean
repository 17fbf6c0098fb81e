/-! ===== THE MEAN ===== -/
section MEAN
variable {B m np nr ni : Nat} {S : XT} {T : Mem}
theorem d_fin {a b : Int32} (hb : b ≠ 0) : Jvm.FP.Core.val64 (FP.ddiv (FP.i2d a) (FP.i2d b)) ≠ Jvm.FP.Core.Datum.nan := by
  have h := Jvm.FP.Core.ddiv_out (a := FP.i2d a) (b := FP.i2d b) ((Jvm.FP.Core.notNaN_iff _).mpr (Jvm.FP.Core.i2d_fin a).ne_nan) (Jvm.FP.Core.i2d_fin b) (fun z => Jvm.FP.Core.i2d_ne_zero hb ((Jvm.FP.Core.zero_bits2 _).mp z))
  exact (Jvm.FP.Core.notNaN_iff _).mp h
theorem d_vf {a b : Int32} (hb : b ≠ 0) : vf_n64 (FP.ddiv (FP.i2d a) (FP.i2d b)) := by
  unfold vf_n64
  rw [UInt64.le_iff_toNat_le, Jvm.FP.Core.mask_toNat]
  exact (Jvm.FP.Core.ne_nan _).mp (d_fin hb)
theorem d_cmp {a b : Int32} (hb : b ≠ 0) : Op.cmpValue (FP.dcmp (FP.ddiv (FP.i2d a) (FP.i2d b)) (FP.ddiv (FP.i2d a) (FP.i2d b))) .l = 0 := by
  have h := Jvm.FP.Core.dcmp_self (d_fin (a := a) hb)
  have h2 : FP.dcmp (FP.ddiv (FP.i2d a) (FP.i2d b)) (FP.ddiv (FP.i2d a) (FP.i2d b)) = some .eq := h
  rw [h2]
  rfl
/-- what the mean comes to -/
theorem e_mean (h : IV B (m + 1) S T) : (∃ s n : Int32, n ≠ 0 ∧ sX9_meanScore S B = some (.ok (FP.ddiv (FP.i2d s) (FP.i2d n))) ∧ sX10_meanScore T = some (FP.ddiv (FP.i2d s) (FP.i2d n), si T 100 6 0 0)) ∨ (sX9_meanScore S B = some (.error 3) ∧ ∃ b, sX10_meanScore T = some (b, si (si T 100 6 0 0) 100 6 0 1)) := by
  obtain ⟨np, nr, ni, hV⟩ := h
  have hR : Rel S.2.2.2.2.2.1 (si T 100 6 0 0) np nr ni := hV.1.th
  have hni : ni ≤ 16 := hR.1.1.2.2
  have e9 : gi S.2.2.2.2.2.1 0 9 0 = nI ni := hR.1.2.1.2.2
  have t4 : gi (si T 100 6 0 0) 5 (4 : Int32).toNatClampNeg 0 = nI ni := hR.1.2.2.1.2.2
  unfold sX9_meanScore sX10_meanScore sX9_requireItems
  rw [olet_eq, e9, t4]
  by_cases e : ni = 0
  · have e0 : nI ni = 0 := by subst e; rfl
    rw [if_pos e0, if_pos e0, oif_t hV.2.2.2.1.xr]
    refine Or.inr ⟨rfl, ?_⟩
    unfold sX10_meanScore_j20
    rw [e_thr1, olet_eq, if_neg one_ne]
    exact ⟨_, rfl⟩
  · have e0 : ¬ nI ni = 0 := by rw [n_lit 0, n_eq (by omega) (by omega)]; exact e
    rw [if_neg e0, if_neg e0]
    unfold sX10_meanScore_j20
    rw [e_thr0, olet_eq, if_pos rfl]
    dsimp only [oexc]
    unfold sX9_meanScore_l8 sX10_meanScore_l33
    have key2 := loop2 (f := sX9_meanScore_l8_step S B) (g := sX10_meanScore_l33_step) ni (fun u (c : Int32) => (c, nI u)) (fun u c => (c, nI u, si T 100 6 0 0)) (P := fun b b' => ∃ s : Int32, b = .ok (FP.ddiv (FP.i2d s) (FP.i2d (nI ni))) ∧ b' = (FP.ddiv (FP.i2d s) (FP.i2d (nI ni)), si T 100 6 0 0)) (fun c => by
      unfold sX9_meanScore_l8_step sX10_meanScore_l33_step
      dsimp only
      rw [e9, t4, if_pos (Int32.le_refl _), if_pos (Int32.le_refl _), olet_eq, if_neg e0, oifp_t (d_vf e0), oifp_t (d_vf e0)]
      exact ⟨_, _, rfl, rfl, c, rfl, rfl⟩) (fun u c hu => by
      unfold sX9_meanScore_l8_step sX10_meanScore_l33_step
      dsimp only
      have hle : ¬ nI ni ≤ nI u := by rw [n_le (by omega) (by omega)]; omega
      rw [e9, t4, if_neg hle, if_neg hle, e_itemAt (by omega), e_of_0 (by omega), obind_some, (hR.2.2.2.2.2 u hu).1.1]
      simp only [olet_eq]
      rw [n_suc]
      exact ⟨_, rfl, rfl⟩) (0 : Int32)
    obtain ⟨b, b', g1, g2, s, rfl, rfl⟩ := key2
    exact Or.inl ⟨s, nI ni, e0, g1, g2⟩
theorem call_meanScore (h : IV B (m + 1) S T) : PFX (uM (sX9_meanScore S B) S) (sX10_meanScore T) co3 (IV B m) := by
  have hk := e_mean h
  obtain ⟨np, nr, ni, hV⟩ := h
  rcases hk with ⟨s, n, hn, h1, h2⟩ | ⟨h1, b, h2⟩
  · rw [h1, h2]
    refine ⟨_, _, _, rfl, rfl, fun v hv => ?_, fun e he => by cases he⟩
    cases hv
    exact ⟨rfl, rfl, np, nr, ni, hV.th.mono (Nat.le_succ _)⟩
  · rw [h1, h2]
    refine ⟨_, _, _, rfl, rfl, fun v hv => (by cases hv), fun e he => ?_⟩
    cases he
    rw [gi_eq2 ⟨rfl, rfl, rfl⟩]
    exact ⟨rfl, one_ne, fun z h1 h2 => ⟨np, nr, ni, hV.th.th.bump h1⟩⟩
theorem call_dc (h : IV B (m + 1) S T) : ∀ b T1, sX10_meanScore T = some (b, T1) → gi T1 100 6 0 = 0 → Op.cmpValue (FP.dcmp b b) .l = 0 := by
  intro b T1 h1 h2
  rcases e_mean h with ⟨s, n, hn, -, h4⟩ | ⟨-, b', h4⟩
  · rw [h4] at h1
    cases h1
    exact d_cmp hn
  · rw [h4] at h1
    cases h1
    exact absurd h2 one_ne
end MEAN
