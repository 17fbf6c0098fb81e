/-! ===== HOURS ===== -/
theorem ctn_none {f : Nat → Bool} : ∀ {n : Nat}, (∀ k, k < n → f k = false) → ctn f n = 0 := by
  intro n
  induction n with
  | zero => intro _; rfl
  | succ n ih =>
    intro h
    rw [ctn_f (by rw [h n (by omega)]; exact Bool.false_ne_true), ih (fun k hk => h k (by omega))]
section HR
variable {S T : Mem} {np nr ni : Nat}
def hadT (T : Mem) : Nat → Bool := fun i => decide (gi T 7 i 0 ≠ 0)
theorem Rel.e10 (h : Rel S T np nr ni) : ∀ i, i < ni → gi S 3 10 i = gi T 0 (6 + 21 * i + 6) 0 := fun i hi => (h.2.2.2.2.2 i hi).1.2.2.2.2.2.2.1
theorem Rel.e5 (h : Rel S T np nr ni) : ∀ i, i < ni → gi S 3 5 i = gi T 0 (6 + 21 * i + 1) 0 := fun i hi => (h.2.2.2.2.2 i hi).1.2.1
theorem sim_fill_l {v : Int32} (h : Rel S T np nr ni) (h7 : ∀ i, i < 16 → gi T 7 i 0 = 0) (hv : sX10_nextWaiting T = some v) : ∃ S' T', sX7_fillPresses S = some S' ∧ sX10_givePresses_l26 (v, T) = some T' ∧ Rel S' T' np nr ni ∧ FrT T T' := by
  unfold sX7_fillPresses sX7_fillPresses_l4 sX10_givePresses_l26
  refine itw_two (f := sX7_fillPresses_l4_step) (g := sX10_givePresses_l26_step) (J := fun k a a' => ∃ u, u ≤ ni ∧ k = ni - u ∧ a.2.1 = nI u ∧ Rel a.2.2 a'.2 np nr ni ∧ FrT T a'.2 ∧ ctn (hadT a'.2) ni = u ∧ sX10_nextWaiting a'.2 = some a'.1 ∧ ∀ i, i < ni → gi a.2.2 3 5 i = 2 → (gi a'.2 7 i 0 = 0 ↔ a.1.toInt < kyn a.2.2 i)) (P := fun S' T' => Rel S' T' np nr ni ∧ FrT T T') (fun k a a' => ?_) (k := ni - 0) ⟨0, by omega, rfl, rfl, h, FrT.refl, ctn_none (fun i hi => decide_eq_false (fun z => z (h7 i (by have := h.1.1.2.2; omega)))), hv, fun i hi _ => ?_⟩
  · obtain ⟨κ, z, S⟩ := a
    obtain ⟨v, T1⟩ := a'
    rintro ⟨u, h1, rfl, h2, hR, hF, hc, hnw, hk⟩
    dsimp only at h2 hR hF hc hnw hk
    subst h2
    have hni : ni ≤ 16 := hR.1.1.2.2
    have e9 : gi S 0 9 0 = nI ni := hR.1.2.1.2.2
    unfold sX7_fillPresses_l4_step sX10_givePresses_l26_step
    dsimp only
    rw [e9]
    obtain ⟨v', w1, w2⟩ := e_nwT hR
    have w3 : v' = v := Option.some.inj (w1.symm.trans hnw)
    subst w3
    rcases w2 with ⟨rfl, w4⟩ | ⟨i, hi, rfl, w5, w6, w7⟩
    · refine Or.inl ?_
      have eT : (if (-1 : Int32) = (-1 : Int32) then (oinr (some T1) : Option ((Int32 × Mem) ⊕ Mem)) else none) = some (.inr T1) := by rw [if_pos rfl]; rfl
      rw [if_pos (show (-1 : Int32) = -1 from rfl)]
      by_cases e : ni ≤ u
      · have hle : nI ni ≤ nI u := by rw [n_le (by omega) (by omega)]; exact e
        rw [if_pos hle]
        exact ⟨_, _, rfl, rfl, hR, hF⟩
      · have hle : ¬ nI ni ≤ nI u := by rw [n_le (by omega) (by omega)]; exact e
        obtain ⟨r, r1, r2⟩ := e_nwS hR κ
        rcases r2 with ⟨rfl, r3⟩ | ⟨i, hi, rfl, r3, r4, r5⟩
        · rw [if_neg hle, r1, obind_some]
          exact ⟨_, _, rfl, rfl, hR, hF⟩
        · exact absurd ((hk i hi r3).mpr r4) (w4 i hi r3)
    · refine Or.inr ?_
      have hl : i < 16 := by omega
      obtain ⟨k1, k2, -, -, -⟩ := e_key hR hi w5
      have fT : hadT (si T1 7 i 0 1) i = true := decide_eq_true (by rw [gi_eq2 ⟨rfl, rfl, rfl⟩]; decide)
      have fk : ∀ k, k ≠ i → hadT T1 k = hadT (si T1 7 i 0 1) k := fun k hk => by
        unfold hadT; rw [gi_ne (by omega)]
      have hcu : ctn (hadT (si T1 7 i 0 1)) ni = u + 1 := by
        rw [ctn_up (f := hadT T1) (decide_eq_false (fun z => z w6)) fT fk ni hi, hc]
      have hu : u + 1 ≤ ni := hcu ▸ ctn_le _ _
      have hle : ¬ nI ni ≤ nI u := by rw [n_le (by omega) (by omega)]; omega
      obtain ⟨r, r1, r2⟩ := e_nwS hR κ
      rcases r2 with ⟨rfl, r3⟩ | ⟨i2, hi2, rfl, r3, r4, r5⟩
      · have := (hk i hi w5).mp w6
        have := r3 i hi w5
        omega
      have z1 := r5 i hi w5 ((hk i hi w5).mp w6)
      have z2 := w7 i2 hi2 r3 ((hk i2 hi2 r3).mpr r4)
      have z3 : i2 = i := kyn_inj (S := S) (by omega) (by omega) (by omega)
      subst z3
      rw [if_neg hle, r1, obind_some, if_neg (n_m1 (by omega)), n_inb hl (by omega), oif_t rfl, n_cl (by omega), olet_eq]
      dsimp only [oopt]
      rw [k1, olet_eq]
      have hR1 : Rel S (si T1 7 i2 0 1) np nr ni := hR.had
      have hiff : ∀ i, i < ni → gi S 3 5 i = 2 → (gi (si T1 7 i2 0 1) 7 i 0 = 0 ↔ (nI (kyn S i2)).toInt < kyn S i) := fun i hi hw => by
        rw [n_int (by omega)]
        by_cases en : i = i2
        · subst en
          rw [gi_eq2 ⟨rfl, rfl, rfl⟩]
          exact ⟨fun z => absurd z (by decide), fun z => absurd z (by omega)⟩
        · rw [gi_ne (by omega), hk i hi hw]
          constructor
          · intro z
            have y1 := r5 i hi hw z
            have y2 : kyn S i ≠ kyn S i2 := fun q => en (kyn_inj (S := S) (by omega) (by omega) q)
            omega
          · intro z
            omega
      obtain ⟨w, x1, x2, x3⟩ := sim_fit hR1.1 hR1.2.2.2.2.1 hR1.e10 hi (fl := 1)
      rw [x1, x2, obind_some, obind_some, n_suc]
      rcases x3 with ⟨rfl, _⟩ | ⟨p, hp, rfl, _, x4⟩
      · rw [if_pos (show (-1 : Int32) = -1 from rfl)]
        obtain ⟨v2, y1, y2⟩ := e_nwT hR1
        rw [y1, obind_some]
        exact ⟨_, _, ni - (u + 1), by omega, rfl, rfl, u + 1, hu, rfl, rfl, hR1, hF.trans FrT.set7, hcu, y1, hiff⟩
      · have hnp : np ≤ 6 := hR.1.1.1
        have x5 : gi S 1 1 p = -1 := by
          rcases x4 with z | z
          · exact absurd z (by decide)
          · exact z
        obtain ⟨S', Ta, T', y1, y2, y3, y4, y5, y6, y7, y8, y9, y10⟩ := sim_enter hR1 hi w5 hp x5
        rw [if_neg (n_m1 (by omega)), if_neg (n_m1 (by omega)), y1, obind_some, e_of_5 hl, obind_some, e_of_0 hl, obind_some, e_of_12 hl, obind_some, y2, obind_some, n_lit 352, nI_add, n_inb (by omega) (by omega), oif_t rfl, oif_t rfl, n_cl (by omega), olet_eq, y3, obind_some]
        obtain ⟨v2, q1, q2⟩ := e_nwT y4
        rw [q1, obind_some]
        refine ⟨_, _, ni - (u + 1), by omega, rfl, rfl, u + 1, hu, rfl, rfl, y4, (hF.trans FrT.set7).trans y5, ?_, q1, fun i hi hw => ?_⟩
        · rw [← hcu]
          refine ctn_cg (fun k _ => ?_)
          unfold hadT; rw [y9]
        · have en : i ≠ i2 := fun z => by
            subst z
            exact absurd (y6.symm.trans hw) (by decide)
          have hky : ∀ x, kyn S' x = kyn S x := fun x => by unfold kyn; rw [y8]
          dsimp only at hw ⊢
          rw [y9, hky]
          exact hiff i hi ((y7 i en).symm.trans hw)
  · dsimp only
    have : i < 16 := by have := h.1.1.2.2; omega
    rw [h7 i this]
    refine ⟨fun _ => ?_, fun _ => rfl⟩
    rw [show (-1 : Int32).toInt = -1 from rfl]
    omega
theorem sim_fill (h : Rel S T np nr ni) : ∃ S' T', sX7_fillPresses S = some S' ∧ sX10_givePresses T = some T' ∧ Rel S' T' np nr ni ∧ FrT T T' := by
  unfold sX10_givePresses sX10_givePresses_l2
  obtain ⟨b, h1, S', h2, h3, h4⟩ := itw_one (f := sX10_givePresses_l2_step) (J := fun k a => ∃ u, u ≤ 16 ∧ k = 16 - u ∧ a.1 = nI u ∧ Rel S a.2 np nr ni ∧ FrT T a.2 ∧ ∀ i, i < u → gi a.2 7 i 0 = 0) (P := fun T' => ∃ S', sX7_fillPresses S = some S' ∧ Rel S' T' np nr ni ∧ FrT T T') (fun k a => by
    obtain ⟨z, T1⟩ := a
    rintro ⟨u, h1, rfl, h2, hR, hF, h7⟩
    dsimp only at h2 hR hF h7
    subst h2
    unfold sX10_givePresses_l2_step
    dsimp only
    by_cases e : u = 16
    · subst e
      rw [if_pos (show (16 : Int32) ≤ nI 16 by decide)]
      obtain ⟨v, w1, _⟩ := e_nwT hR
      obtain ⟨S', T', q1, q2, q3, q4⟩ := sim_fill_l hR h7 w1
      rw [w1, obind_some, q2]
      exact Or.inl ⟨_, rfl, S', q1, q3, hF.trans q4⟩
    · have hle : ¬ (16 : Int32) ≤ nI u := by rw [n_lit 16, n_le (by omega) (by omega)]; omega
      rw [if_neg hle, n_inb (by omega) (by omega), oif_t rfl, n_cl (by omega), olet_eq, n_suc]
      refine Or.inr ⟨_, 16 - (u + 1), by omega, rfl, u + 1, by omega, rfl, rfl, hR.had, hF.trans FrT.set7, fun i hi => ?_⟩
      dsimp only
      by_cases ei : i = u
      · subst ei; rw [gi_eq2 ⟨rfl, rfl, rfl⟩]
      · rw [gi_ne (by omega)]; exact h7 i (by omega)) (k := 16 - 0) (a := ((0 : Int32), T)) ⟨0, by omega, rfl, rfl, h, FrT.refl, fun i hi => absurd hi (Nat.not_lt_zero _)⟩
  exact ⟨S', b, h2, h1, h3, h4⟩
/-- the hour's last act -/
def tickS (S : Mem) : Mem := si S 0 12 0 (gi S 0 12 0 + 1)
def tickT (T : Mem) : Mem := si T 0 0 0 (gi T 0 0 0 + 1)
theorem Rel.tick {t : Nat} (h : Rel S T np nr ni) (h1 : gi S 0 12 0 = nI t) (ht : t < 20000) : Rel (tickS S) (tickT T) np nr ni := by
  obtain ⟨hC, hSa, hB, hO, hI, hIt⟩ := h
  have hnr : nr ≤ 10 := hC.1.2.1
  have hnp : np ≤ 6 := hC.1.1
  have hni : ni ≤ 16 := hC.1.2.2
  obtain ⟨q1, ⟨q2, q3, q4, q5⟩, q6, q7⟩ := hSa
  unfold tickS tickT
  refine ⟨hC.cg (fun j hj => by repeat (first | rw [gi_ne (by omega)] | rw [gi_eq2 (by omega)])) (fun _ => rfl) (fun _ _ _ => rfl) (fun _ _ _ => rfl) (fun _ => rfl), ⟨⟨t + 1, by omega, ?_⟩, ⟨?_, ?_, ?_, ?_⟩, fun r hr => ?_, fun p hp => ?_⟩, hB.cg (fun _ => rfl) (fun _ => rfl) (fun j hj => by repeat (first | rw [gi_ne (by omega)] | rw [gi_eq2 (by omega)])), hO.cg (fun _ => rfl) (fun _ => rfl), hI.cg (fun _ => rfl) (fun _ => rfl), fun i hi => (hIt i hi).cg (fun _ => rfl) (fun _ => rfl) (fun _ => rfl) (fun j hj => by repeat (first | rw [gi_ne (by omega)] | rw [gi_eq2 (by omega)]))⟩
  · rw [gi_eq2 ⟨rfl, rfl, rfl⟩, h1, n_suc]
  · rw [gi_eq2 ⟨rfl, rfl, rfl⟩, gi_eq2 ⟨rfl, rfl, rfl⟩, q2]
  · repeat (first | rw [gi_ne (by omega)] | rw [gi_eq2 (by omega)])
    exact q3
  · repeat (first | rw [gi_ne (by omega)] | rw [gi_eq2 (by omega)])
    exact q4
  · repeat (first | rw [gi_ne (by omega)] | rw [gi_eq2 (by omega)])
    exact q5
  · repeat (first | rw [gi_ne (by omega)] | rw [gi_eq2 (by omega)])
    exact q6 r hr
  · repeat (first | rw [gi_ne (by omega)] | rw [gi_eq2 (by omega)])
    exact q7 p hp
theorem FrH.tick : FrH T (tickT T) := FrH.set (by omega)
theorem sub_m1x {x : Int32} {c : Nat} : x - nI c + (-1 : Int32) = x - nI (c + 1) := by
  rw [← n_suc]
  apply Int32.toBitVec_inj.1
  simp only [Int32.toBitVec_add, Int32.toBitVec_sub]
  show x.toBitVec - (nI c).toBitVec + (-1 : BitVec 32) = x.toBitVec - ((nI c).toBitVec + 1)
  generalize x.toBitVec = x
  generalize (nI c).toBitVec = y
  rw [BitVec.sub_eq_add_neg, BitVec.sub_eq_add_neg, BitVec.neg_add, BitVec.sub_eq_add_neg, BitVec.add_assoc]
theorem e_freeS (hC : CfR S T np nr ni) : sX7_freeBenches S = some (gi S 0 10 0 - nI (ctn (inst S 1) ni)) := by
  have hni : ni ≤ 16 := hC.1.2.2
  have e9 : gi S 0 9 0 = nI ni := hC.2.1.2.2
  unfold sX7_freeBenches sX7_freeBenches_l7
  obtain ⟨v, h1, h2⟩ := itw_one (f := sX7_freeBenches_l7_step S) (J := fun k a => ∃ o, o ≤ ni ∧ k = ni - o ∧ a = (gi S 0 10 0 - nI (ctn (inst S 1) o), nI o)) (P := fun v => v = gi S 0 10 0 - nI (ctn (inst S 1) ni)) (fun k a => by
    rintro ⟨o, h1, rfl, rfl⟩
    unfold sX7_freeBenches_l7_step
    dsimp only
    rw [e9]
    by_cases e : ni ≤ o
    · have hle : nI ni ≤ nI o := by rw [n_le (by omega) (by omega)]; exact e
      have e2 : o = ni := by omega
      subst e2
      exact Or.inl ⟨_, by rw [if_pos hle]; rfl, rfl⟩
    · have hle : ¬ nI ni ≤ nI o := by rw [n_le (by omega) (by omega)]; exact e
      have hl2 : ¬ (16 : Int32) ≤ nI o := by rw [n_lit 16, n_le (by omega) (by omega)]; omega
      rw [if_neg hle, if_neg hl2, n_inb (by omega) (by omega), oif_t rfl, n_cl (by omega), n_suc]
      by_cases e2 : gi S 3 5 o = 1
      · refine Or.inr ⟨_, ni - (o + 1), by omega, by rw [if_pos e2, sub_m1x], o + 1, by omega, rfl, ?_⟩
        rw [ctn_t (show inst S 1 o = true from decide_eq_true e2)]
      · refine Or.inr ⟨_, ni - (o + 1), by omega, by rw [if_neg e2], o + 1, by omega, rfl, ?_⟩
        rw [ctn_f (show ¬ inst S 1 o = true by unfold inst; rw [decide_eq_false e2]; exact Bool.false_ne_true)]) (k := ni - 0) (a := (gi S 0 10 0, (0 : Int32))) ⟨0, by omega, rfl, by
      have : gi S 0 10 0 - nI (ctn (inst S 1) 0) = gi S 0 10 0 := by
        apply Int32.toBitVec_inj.1
        rw [Int32.toBitVec_sub]
        show (gi S 0 10 0).toBitVec - (0 : BitVec 32) = _
        exact BitVec.sub_zero _
      rw [this]; rfl⟩
  rw [h1, h2]
theorem fr_le : ∀ b, b < 5 → ∀ c, c < 17 → ∀ u, u < 17 → (nI b - nI c ≤ nI u ↔ b ≤ c + u) := by decide +kernel
theorem fr_inj : ∀ b, b < 5 → ∀ d, d < 5 → ∀ c, c < 17 → nI b - nI c = nI d - nI c → b = d := by decide +kernel
theorem sim_steps {v : Int32} {t : Nat} (h : Rel S T np nr ni) (hv : sX10_nextObject T = some v) (ht : gi S 0 12 0 = nI t) (ht2 : t < 20000) : ∃ S2 T', sX7_startSteps S = some S2 ∧ sX10_hour_l55 (v, T) = some T' ∧ Rel (tickS S2) T' np nr ni ∧ FrH T T' ∧ gi S2 0 12 0 = nI t := by
  have hni : ni ≤ 16 := h.1.1.2.2
  obtain ⟨h10, _, ⟨b, b1, b2, b3⟩, _⟩ := h.1.2.2.2.1
  have h10b : gi S 0 10 0 = nI b := h10.trans b3
  have hc0 : ctn (inst S 1) ni ≤ ni := ctn_le _ _
  unfold sX7_startSteps sX7_startSteps_l7 sX10_hour_l55
  rw [e_freeS h.1, obind_some, h10b]
  generalize hg : ctn (inst S 1) ni = c at hc0 ⊢
  refine itw_two (f := sX7_startSteps_l7_step) (g := sX10_hour_l55_step) (J := fun k a a' => ∃ u, k = 17 - u ∧ a.1 = nI b - nI c ∧ a.2.1 = nI u ∧ c + u = ctn (inst a.2.2 1) ni ∧ Rel a.2.2 a'.2 np nr ni ∧ FrT T a'.2 ∧ sX10_nextObject a'.2 = some a'.1 ∧ gi a.2.2 0 10 0 = nI b ∧ gi a.2.2 0 12 0 = nI t) (P := fun S2 T' => Rel (tickS S2) T' np nr ni ∧ FrH T T' ∧ gi S2 0 12 0 = nI t) (fun k a a' => ?_) (k := 17 - 0) (a := (nI b - nI c, (0 : Int32), S)) (a' := (v, T)) ⟨0, rfl, rfl, rfl, hg.symm, h, FrT.refl, hv, h10b, ht⟩
  obtain ⟨q, z, S1⟩ := a
  obtain ⟨w, T1⟩ := a'
  rintro ⟨u, rfl, h1, h2, hcu, hR, hF, hnx, hb, htt⟩
  dsimp only at h1 h2 hcu hR hF hnx hb htt
  subst h1
  subst h2
  have hcn : ctn (inst S1 1) ni ≤ ni := ctn_le _ _
  unfold sX7_startSteps_l7_step sX10_hour_l55_step
  dsimp only
  rw [show (0 : Int32).toNatClampNeg = 0 from rfl]
  obtain ⟨w', n1, n2, n3⟩ := sim_next hR
  have n4 : w' = w := Option.some.inj (n2.symm.trans hnx)
  subst n4
  rcases n3 with ⟨rfl, n5⟩ | ⟨i, hi, rfl, n5⟩
  · rw [if_pos (show (-1 : Int32) = -1 from rfl)]
    refine Or.inl ?_
    by_cases e : nI b - nI c ≤ nI u
    · rw [if_pos e]
      exact ⟨_, _, rfl, rfl, hR.tick htt ht2, hF.1.trans FrH.tick, htt⟩
    · rw [if_neg e, n1, obind_some, if_pos rfl]
      exact ⟨_, _, rfl, rfl, hR.tick htt ht2, hF.1.trans FrH.tick, htt⟩
  · obtain ⟨r, r1, r2, r3⟩ := sim_reason hR hi
    have r4 : r = 0 := Option.some.inj (r1.symm.trans n5)
    obtain ⟨r5, r6, d, d1, d2, d3⟩ := r3 r4
    rw [e_freeS hR.1, hb] at d2
    have hbd : b = d := fr_inj b (by omega) d (by omega) _ (by omega) (Option.some.inj d2)
    subst hbd
    have e : ¬ nI b - nI c ≤ nI u := by
      rw [fr_le b (by omega) c (by omega) u (by omega)]; omega
    obtain ⟨S', T', y1, y2, y3, y4, y5, y6⟩ := sim_begin hR hi r5 r6
    obtain ⟨v2, m1, m2, m3⟩ := sim_next y3
    rw [if_neg e, n1, obind_some, if_neg (n_m1 (by omega)), if_neg (n_m1 (by omega)), e_itemAt (by omega), y1, y2, obind_some, obind_some, m2, obind_some, n_suc]
    exact Or.inr ⟨_, _, 17 - (u + 1), by omega, rfl, rfl, u + 1, rfl, rfl, rfl, by dsimp only; omega, y3, hF.trans y4, m2, (y6 10).trans hb, (y6 12).trans htt⟩
theorem sim_loans {t : Nat} (h : Rel S T np nr ni) (ht : gi S 0 12 0 = nI t) (ht2 : t < 20000) : ∃ S1 T', sX7_startLoans S = some S1 ∧ sX10_hour_l29 ((0 : Int32), T) = some T' ∧ ∃ S2, sX7_startSteps S1 = some S2 ∧ Rel (tickS S2) T' np nr ni ∧ FrH T T' ∧ gi S2 0 12 0 = nI t := by
  have hni : ni ≤ 16 := h.1.1.2.2
  unfold sX7_startLoans sX7_startLoans_l2 sX10_hour_l29
  refine itw_two (f := sX7_startLoans_l2_step) (g := sX10_hour_l29_step) (J := fun k a a' => ∃ u, u ≤ ni ∧ k = ni - u ∧ a.1 = nI u ∧ a'.1 = nI u ∧ Rel a.2 a'.2 np nr ni ∧ FrT T a'.2 ∧ gi a.2 0 12 0 = nI t) (P := fun S1 T' => ∃ S2, sX7_startSteps S1 = some S2 ∧ Rel (tickS S2) T' np nr ni ∧ FrH T T' ∧ gi S2 0 12 0 = nI t) (fun k a a' => ?_) (k := ni - 0) (a := ((0 : Int32), S)) (a' := ((0 : Int32), T)) ⟨0, by omega, rfl, rfl, rfl, h, FrT.refl, ht⟩
  obtain ⟨z, S1⟩ := a
  obtain ⟨z2, T1⟩ := a'
  rintro ⟨u, h1, rfl, h2, h3, hR, hF, htt⟩
  dsimp only at h2 h3 hR hF htt
  subst h2
  subst h3
  have e9 : gi S1 0 9 0 = nI ni := hR.1.2.1.2.2
  have e9' : gi T1 5 (4 : Int32).toNatClampNeg 0 = nI ni := hR.1.2.2.1.2.2
  unfold sX7_startLoans_l2_step sX10_hour_l29_step
  dsimp only
  rw [e9, e9']
  by_cases e : ni ≤ u
  · have hle : nI ni ≤ nI u := by rw [n_le (by omega) (by omega)]; exact e
    obtain ⟨v, n1, n2, _⟩ := sim_next hR
    obtain ⟨S2, T', q1, q2, q3, q4, q5⟩ := sim_steps hR n2 htt ht2
    rw [if_pos hle, if_pos hle, n2, obind_some, q2]
    exact Or.inl ⟨_, _, rfl, rfl, S2, q1, q3, hF.1.trans q4, q5⟩
  · have hle : ¬ nI ni ≤ nI u := by rw [n_le (by omega) (by omega)]; exact e
    have hu : u < ni := by omega
    obtain ⟨T', q1, q2, q3⟩ := sim_lend hR hu
    rw [if_neg hle, if_neg hle, e_itemAt (by omega), q1, obind_some, n_suc]
    refine Or.inr ⟨(nI (u + 1), lendS S1 u), _, ni - (u + 1), by omega, ?_, rfl, u + 1, by omega, rfl, rfl, rfl, q2, hF.trans q3, ?_⟩
    · unfold lendS
      by_cases el : sX2_canBeLent S1 u (gi S1 0 12 0) = 0
      · rw [if_pos el, if_pos el]
      · rw [if_neg el, if_neg el]
        simp only [olet_eq]
        repeat (first | rw [gi_ne (by omega)] | rw [gi_eq2 (by omega)])
    · dsimp only
      rw [q2.2.1.2.1.1, q3.2, ← hR.2.1.2.1.1]
      exact htt
theorem sim_hour {t : Nat} (p1 y : Int32) (h : Rel S T np nr ni) (ht : gi S 0 12 0 = nI t) (ht2 : t < 20000) : ∃ S' T', sX7_passHours_l19 p1 (y, (0 : Int32), S) = some (.inl (y + 1, S')) ∧ sX10_hour T = some T' ∧ Rel S' T' np nr ni ∧ FrH T T' ∧ gi S' 0 12 0 = nI (t + 1) := by
  have hni : ni ≤ 16 := h.1.1.2.2
  unfold sX7_passHours_l19 sX10_hour sX10_hour_l2
  obtain ⟨b, b', h1, h2, S', h3, h4⟩ := itw_two (f := sX7_passHours_l19_step p1) (g := sX10_hour_l2_step) (J := fun k a a' => ∃ u, u ≤ ni ∧ k = ni - u ∧ a.1 = y ∧ a.2.1 = nI u ∧ a'.1 = nI u ∧ Rel a.2.2 a'.2 np nr ni ∧ FrT T a'.2 ∧ gi a.2.2 0 12 0 = nI t) (P := fun b T' => ∃ S', b = .inl (y + 1, S') ∧ Rel S' T' np nr ni ∧ FrH T T' ∧ gi S' 0 12 0 = nI (t + 1)) (fun k a a' => by
    obtain ⟨y', z, S1⟩ := a
    obtain ⟨z2, T1⟩ := a'
    rintro ⟨u, h1, rfl, h0, h2, h3, hR, hF, htt⟩
    dsimp only at h0 h2 h3 hR hF htt
    subst h0
    subst h2
    subst h3
    have e9 : gi S1 0 9 0 = nI ni := hR.1.2.1.2.2
    have e9' : gi T1 5 (4 : Int32).toNatClampNeg 0 = nI ni := hR.1.2.2.1.2.2
    unfold sX7_passHours_l19_step sX10_hour_l2_step
    dsimp only
    rw [e9, e9']
    by_cases e : ni ≤ u
    · have hle : nI ni ≤ nI u := by rw [n_le (by omega) (by omega)]; exact e
      obtain ⟨S2, T2, q1, q2, q3, q4⟩ := sim_fill hR
      have ht3 : gi S2 0 12 0 = nI t := by
        rw [q3.2.1.2.1.1, q4.2, ← hR.2.1.2.1.1]; exact htt
      obtain ⟨S3, T3, m1, m2, S4, m3, m4, m5, m6⟩ := sim_loans q3 ht3 ht2
      rw [if_pos hle, if_pos hle, q1, q2, obind_some, obind_some, m1, obind_some, m3, obind_some, m2]
      refine Or.inl ⟨_, _, rfl, rfl, tickS S4, rfl, m4, (hF.1.trans q4.1).trans m5, ?_⟩
      unfold tickS
      rw [gi_eq2 ⟨rfl, rfl, rfl⟩, m6, n_suc]
    · have hle : ¬ nI ni ≤ nI u := by rw [n_le (by omega) (by omega)]; exact e
      have hu : u < ni := by omega
      obtain ⟨S2, T2, q1, q2, q3, q4⟩ := sim_goOn hR hu
      rw [if_neg hle, if_neg hle, e_itemAt (by omega), q1, q2, obind_some, obind_some, n_suc]
      refine Or.inr ⟨_, _, ni - (u + 1), by omega, rfl, rfl, u + 1, by omega, rfl, rfl, rfl, rfl, q3, hF.trans q4, ?_⟩
      dsimp only
      rw [q3.2.1.2.1.1, q4.2, ← hR.2.1.2.1.1]; exact htt) (k := ni - 0) (a := (y, (0 : Int32), S)) (a' := ((0 : Int32), T)) ⟨0, by omega, rfl, rfl, rfl, rfl, h, FrT.refl, ht⟩
  subst h3
  exact ⟨S', b', h1, h2, h4⟩
theorem sim_hours (p1 : Int32) (h : Rel S T np nr ni) : ∃ S' T', sX7_passHours S p1 = some S' ∧ sX10_hours T p1 = some T' ∧ Rel S' T' np nr ni ∧ FrH T T' := by
  unfold sX7_passHours sX7_passHours_l2 sX10_hours sX10_hours_l2
  obtain ⟨t, t1, t2⟩ := h.2.1.1
  refine itw_two (f := sX7_passHours_l2_step p1) (g := sX10_hours_l2_step p1) (J := fun k a a' => ∃ t, t ≤ 20000 ∧ k = 20000 - t ∧ a.1 = a'.1 ∧ Rel a.2 a'.2 np nr ni ∧ FrH T a'.2 ∧ gi a.2 0 12 0 = nI t) (P := fun S' T' => Rel S' T' np nr ni ∧ FrH T T') (fun k a a' => ?_) (k := 20000 - t) (a := ((0 : Int32), S)) (a' := ((0 : Int32), T)) ⟨t, t1, rfl, rfl, h, FrH.refl, t2⟩
  obtain ⟨y, S1⟩ := a
  obtain ⟨y', T1⟩ := a'
  rintro ⟨t, h1, rfl, h2, hR, hF, htt⟩
  dsimp only at h2 hR hF htt
  subst h2
  have htT : gi T1 0 0 0 = nI t := hR.2.1.2.1.1.symm.trans htt
  unfold sX7_passHours_l2_step sX10_hours_l2_step
  dsimp only
  rw [show (0 : Int32).toNatClampNeg = 0 from rfl, htt, htT]
  by_cases e : p1 ≤ y
  · rw [if_pos e, if_pos e]
    exact Or.inl ⟨_, _, rfl, rfl, hR, hF⟩
  · rw [if_neg e, if_neg e]
    by_cases e2 : t = 20000
    · subst e2
      rw [if_pos (show (20000 : Int32) ≤ nI 20000 by decide), if_pos (show (20000 : Int32) ≤ nI 20000 by decide)]
      exact Or.inl ⟨_, _, rfl, rfl, hR, hF⟩
    · have hle : ¬ (20000 : Int32) ≤ nI t := by rw [n_lit 20000, n_le (by omega) (by omega)]; omega
      obtain ⟨S2, T2, q1, q2, q3, q4, q5⟩ := sim_hour p1 y hR htt (by omega)
      rw [if_neg hle, if_neg hle, q1, q2, obind_some]
      exact Or.inr ⟨_, _, 20000 - (t + 1), by omega, rfl, rfl, t + 1, by omega, rfl, rfl, q3, hF.trans q4, q5⟩
end HR
