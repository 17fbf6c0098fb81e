/-! ===== STATEMENTS ===== -/
section STM
variable {R T R1 T1 R' T' D D' : Mem} {n np nr ni : Nat}
theorem pk_4 (T : Mem) : sX10_longer T (sX10_pack T (98 : Int32) (101 : Int32) (110 : Int32) (99 : Int32) (104 : Int32) (101 : Int32)) (115 : Int32) = lN (pkc 4) := by
  unfold sX10_longer sX10_pack sX10_pack_j65
  simp only [olet_eq]
  decide +kernel
theorem pk_5 (T : Mem) : sX10_pack T (108 : Int32) (105 : Int32) (102 : Int32) (101 : Int32) (0 : Int32) (0 : Int32) = lN (pkc 5) := by
  unfold sX10_pack sX10_pack_j65
  simp only [olet_eq]
  decide +kernel
theorem pk_6 (T : Mem) : sX10_pack T (112 : Int32) (114 : Int32) (101 : Int32) (115 : Int32) (115 : Int32) (0 : Int32) = lN (pkc 6) := by
  unfold sX10_pack sX10_pack_j65
  simp only [olet_eq]
  decide +kernel
theorem pk_7 (T : Mem) : sX10_pack T (114 : Int32) (101 : Int32) (99 : Int32) (105 : Int32) (112 : Int32) (101 : Int32) = lN (pkc 7) := by
  unfold sX10_pack sX10_pack_j65
  simp only [olet_eq]
  decide +kernel
theorem pk_8 (T : Mem) : sX10_pack T (111 : Int32) (98 : Int32) (106 : Int32) (101 : Int32) (99 : Int32) (116 : Int32) = lN (pkc 8) := by
  unfold sX10_pack sX10_pack_j65
  simp only [olet_eq]
  decide +kernel
theorem pkc_nd : ∀ k, k < 15 → ∀ k', k' < 15 → (k < 4 ∨ k' < 4 ∨ k = k' ∨ ¬ pkc k = pkc k') := by decide +kernel
theorem pkc_ne (k : Nat) (h1 : k < 15) (k' : Nat) (h2 : k' < 15) (h3 : 4 ≤ k) (h4 : 4 ≤ k') (h5 : k ≠ k') : pkc k ≠ pkc k' := by
  rcases pkc_nd k h1 k' h2 with h | h | h | h
  · omega
  · omega
  · exact absurd h h5
  · exact h
/-! the draft -/
def rlo (w : Nat) : Nat := [1, 0, 0, 0, 0, 0, 1].getD w 0
def rhi (w : Nat) : Nat := [40, 200, 1, 3, 500, 100, 100000000].getD w 0
def PrD (D T : Mem) (p : Nat) : Prop := gi D 1 1 p = -1 ∧ gi D 1 2 p = 0 ∧ ∃ k, 1 ≤ k ∧ k ≤ 100 ∧ gi D 1 0 p = nI k ∧ gi T 5 (134 + p) 0 = nI k
def ReD (D T : Mem) (r : Nat) : Prop := gi D 2 7 r = 0 ∧ ∃ v : Nat → Nat, ∀ w, w < 7 → gi D 2 w r = nI (v w) ∧ gi T 5 (140 + 7 * r + w) 0 = nI (v w) ∧ rlo w ≤ v w ∧ v w ≤ rhi w
def ItD (D T : Mem) (i : Nat) : Prop := (gi D 3 5 i = 0 ∧ gi D 3 6 i = 0 ∧ gi D 3 7 i = 0 ∧ gi D 3 8 i = -1 ∧ gi D 3 9 i = -1 ∧ gi D 3 10 i = -1 ∧ gi D 3 13 i = 0 ∧ gi D 3 15 i = 0 ∧ gq D 3 i = 0) ∧ (∃ k, 1 ≤ k ∧ k ≤ 100 ∧ gi D 3 2 i = nI k ∧ gi T 5 (210 + 3 * i + 0) 0 = nI k) ∧ (∃ k, k ≤ 1000 ∧ gi D 3 3 i = nI k ∧ gi T 5 (210 + 3 * i + 2) 0 = nI k) ∧ ∃ k, k ≤ 3 ∧ gi D 3 4 i = nI k ∧ gi T 5 (210 + 3 * i + 1) 0 = nI k
/-- the flags; how many; benches and life; what is at its start -/
def DrH (R D T : Mem) (np nr ni : Nat) : Prop := ErR R T ∧ (gi R 0 6 0 = gi T 100 20 0 ∧ gi R 0 7 0 = gi T 100 21 0) ∧ (np ≤ 6 ∧ nr ≤ 10 ∧ ni ≤ 16) ∧ (gi D 0 7 0 = nI np ∧ gi D 0 8 0 = nI nr ∧ gi D 0 9 0 = nI ni) ∧ (gi T 5 131 0 = nI np ∧ gi T 5 132 0 = nI nr ∧ gi T 5 133 0 = nI ni) ∧ (∃ b, 1 ≤ b ∧ b ≤ 4 ∧ gi D 0 10 0 = nI b ∧ gi T 5 129 0 = nI b) ∧ (∃ b, 1 ≤ b ∧ b ≤ 500 ∧ gi D 0 11 0 = nI b ∧ gi T 5 130 0 = nI b) ∧ NumR D ∧ (gi D 0 12 0 = 0 ∧ gi D 0 13 0 = 0 ∧ gi D 0 14 0 = 0 ∧ gi D 0 15 0 = 0) ∧ gi D 5 1 0 = 0 ∧ gi D 5 2 0 = 0
def DrR (R D T : Mem) (np nr ni : Nat) : Prop := DrH R D T np nr ni ∧ (∀ p, p < np → PrD D T p) ∧ (∀ r, r < nr → ReD D T r) ∧ ∀ i, i < ni → ItD D T i
theorem PrD.cg {p : Nat} (h : PrD D T p) (hD : ∀ w, gi D' 1 w p = gi D 1 w p) (hT : gi T' 5 (134 + p) 0 = gi T 5 (134 + p) 0) : PrD D' T' p := by
  unfold PrD
  rw [hD, hD, hD, hT]; exact h
theorem ReD.cg {r : Nat} (h : ReD D T r) (hD : ∀ w, gi D' 2 w r = gi D 2 w r) (hT : ∀ w, w < 7 → gi T' 5 (140 + 7 * r + w) 0 = gi T 5 (140 + 7 * r + w) 0) : ReD D' T' r := by
  obtain ⟨h1, v, h2⟩ := h
  exact ⟨(hD 7).trans h1, v, fun w hw => ⟨(hD w).trans (h2 w hw).1, (hT w hw).trans (h2 w hw).2.1, (h2 w hw).2.2⟩⟩
theorem ItD.cg {i : Nat} (h : ItD D T i) (hD : ∀ w, gi D' 3 w i = gi D 3 w i) (hq : gq D' 3 i = gq D 3 i) (hT : ∀ w, w < 3 → gi T' 5 (210 + 3 * i + w) 0 = gi T 5 (210 + 3 * i + w) 0) : ItD D' T' i := by
  unfold ItD
  rw [hD, hD, hD, hD, hD, hD, hD, hD, hD, hD, hD, hq, hT 0 (by omega), hT 1 (by omega), hT 2 (by omega)]
  exact h
/-- what a good statement comes to -/
def StG (T0 : Mem) (n e : Nat) (x : Option (Int32 × (Mem × Mem))) (y : Option (Int32 × Mem)) (D : Mem) : Prop := (∃ R' T', x = some (0, (R', D)) ∧ y = some (0, T') ∧ ErR R' T' ∧ FrQ T0 T') ∨ ∃ R' D' T' e' np' nr' ni', x = some (1, (R', D')) ∧ y = some (1, T') ∧ Ahd R' T' n e' ∧ e < e' ∧ FrQ T0 T' ∧ DrR R' D' T' np' nr' ni'
theorem st_end {G : Mem → Mem → Prop} {w : Int32} {k e : Nat} {y : Option (Int32 × Mem)} (hk : sX4_rangesOf R w = k) (h : OUT T1 G (NB w k 0 R) y) (hT : FrQ T T1) (hG : ∀ R' T', G R' T' → ∃ e' np' nr' ni', Ahd (sX4_addTo (R', D) w).1 T' n e' ∧ e < e' ∧ FrQ T T' ∧ DrR (sX4_addTo (R', D) w).1 (sX4_addTo (R', D) w).2 T' np' nr' ni') : StG T n e (obind (sX4_readNumbers R w) fun r10 => if r10.1 = 0 then some (((0 : Int32), (r10.2, D))) else olet (sX4_addTo (r10.2, D) w) fun S16 => some (((1 : Int32), S16))) y D := by
  have e1 : sX4_readNumbers R w = NB w k 0 R := by
    unfold sX4_readNumbers
    rw [hk]; rfl
  rw [e1]
  rcases h with ⟨R', T', a1, a2, a3, a4⟩ | ⟨R', T', a1, a2, a3⟩
  · refine Or.inl ⟨R', T', ?_, a2, a3, hT.trans a4⟩
    rw [a1, obind_some, if_pos rfl]
  · obtain ⟨e', np', nr', ni', b1, b2, b3, b4⟩ := hG R' T' a3
    refine Or.inr ⟨_, _, T', e', np', nr', ni', ?_, a2, b1, b2, b3, b4⟩
    rw [a1, obind_some, if_neg one_ne, olet_eq]
theorem st_fail {s e kd : Nat} {c : Int32} {x : Option (Int32 × (Mem × Mem))} {y : Option (Int32 × Mem)} (h : TkR R T1 n s e kd) (hT : FrQ T T1) (hx : x = some ((sX4_failed R c).1, ((sX4_failed R c).2, D))) (hy : y = some ((sX10_fail T1 c).1, (sX10_fail T1 c).2)) : StG T n e x y D := by
  obtain ⟨f1, f2, f3, f4⟩ := e_fail (c := c) h
  exact Or.inl ⟨_, _, by rw [hx, f1], by rw [hy, f2], f3, hT.trans f4⟩
/-- a number into the draft -/
theorem c_into {R0 T0 : Mem} {G : Mem → Mem → Prop} {w A L H : Int32} {k q p at_ : Nat} {a lo hi v : Nat → Nat} {K : Int32 × Mem → Option (Int32 × Mem)} (h : NS R0 T0 n 5 a lo hi q p v R T) (hA : A = nI at_) (hL : L = nI (lo q)) (hH : H = nI (hi q)) (ha : a q = 129 + at_) (hat : at_ < 129) (hinj : ∀ j, j < q → a j ≠ a q) (hq : 2 * q + 1 < rn k) (hr : rn k ≤ 14) (h1 : rv k (2 * q) = nI (lo q)) (h2 : rv k (2 * q + 1) = nI (hi q)) (hlo : lo q < 1000000000) (hhi : hi q < 1000000000) (hK : ∀ R' T' v' p', p < p' → NS R0 T0 n 5 a lo hi (q + 1) p' v' R' T' → OUT T0 G (NB w k (q + 1) R') (K (1, T'))) : OUT T0 G (NB w k q R) (obind (sX10_readInto T A L H) fun r => if r.1 = 0 then some (0, r.2) else K r) := by
  subst hA; subst hL; subst hH
  refine c_num (g := fun r1 => if r1.1 = 0 then some (((0 : Int32), r1.2)) else oif (inb ((129 : Int32) + nI at_) 258) (olet (si r1.2 5 ((129 : Int32) + nI at_).toNatClampNeg 0 (gi r1.2 100 18 0)) fun S6 => some (((1 : Int32), S6)))) h rfl (fun T' => if_pos rfl) (fun T' _ => ?_) (Or.inl ⟨rfl, by omega⟩) hinj hq hr h1 h2 hlo hhi hK
  dsimp only
  rw [if_neg one_ne, n_lit 129, nI_add, n_inb (by omega) (by omega), oif_t rfl, olet_eq, n_cl (by omega), ha]
theorem NS.start {cc p : Nat} {a lo hi v : Nat → Nat} (h : Ahd R T n p) : NS R T n cc a lo hi 0 p v R T := ⟨h, FrQ.refl, fun j hj => by omega, fun _ _ _ _ _ => rfl, fun _ _ _ _ => rfl⟩
theorem e_num {q : Nat} (hq : q < 7) : sX4_number R (nI q) = gi R 3 q 0 := by
  unfold sX4_number
  rw [if_neg (n_nn (by omega)), if_neg (by rw [n_lit 7, n_le (by omega) (by omega)]; omega), n_cl (by omega)]
/-- benches, life -/
theorem st_set {s e kd : Nat} {u : Nat} {W : Int32} {hi : Nat} (hu : u < 2) (hW : W = nI u) (h : TkR R T n s e kd) (hD : DrR R D T np nr ni) (hf : gi R 0 (6 + u) 0 = 0) (hh : 1 ≤ hi ∧ hi ≤ 500) (h4 : u = 0 → hi ≤ 4) (hr : rvl u = [1, nI hi]) {H : Int32} (hH : H = nI hi) : StG T n e (obind (sX4_readNumbers R W) fun r10 => if r10.1 = 0 then some (((0 : Int32), (r10.2, D))) else olet (sX4_addTo (r10.2, D) W) fun S16 => some (((1 : Int32), S16))) (obind (sX10_readSetting (si T 100 (20 + u) 0 1) W H 0) fun r => some (r.1, r.2)) D := by
  subst hW; subst hH
  have hu2 : u = 0 ∨ u = 1 := by omega
  obtain ⟨T1, a1, a2, a3⟩ := (h.tcg (T' := si T 100 (20 + u) 0 1) (fun j => gi_ne (by omega)) (fun j hj => gi_ne (by omega)) rfl).adv
  have hT1 : FrQ T T1 := (FrQ.set (by omega)).trans a3.Q
  have k1 : sX4_rangesOf R (nI u) = u := by rcases hu2 with rfl | rfl <;> rfl
  have hrn : rn u = 2 := by unfold rn; rw [hr]; rfl
  have hr0 : rv u 0 = nI 1 := by unfold rv; rw [hr]; rfl
  have hr1 : rv u 1 = nI hi := by unfold rv; rw [hr]; rfl
  refine st_end (G := fun R' T' => ∃ v p', e < p' ∧ NS R T1 n 5 (fun _ => 129 + u) (fun _ => 1) (fun _ => hi) 1 p' v R' T') k1 ?_ hT1 (fun R' T' hG => ?_)
  · unfold sX10_readSetting
    rw [if_pos rfl, a1, obind_some, o_if]
    have h0 := NS.start (cc := 5) (a := fun _ => 129 + u) (lo := fun _ => 1) (hi := fun _ => hi) (v := fun _ => 0) a2
    have key := c_into (G := fun R' T' => ∃ v p', e < p' ∧ NS R T1 n 5 (fun _ => 129 + u) (fun _ => 1) (fun _ => hi) 1 p' v R' T') (w := nI u) (k := u) (at_ := u) (A := nI u) (L := 1) (H := nI hi) (K := fun r5 => obind (sX10_readEnd r5.2) fun r9 => if r9.1 = 0 then some (((0 : Int32), r9.2)) else some (((1 : Int32), r9.2))) h0 rfl rfl rfl rfl (by omega) (fun j hj => by omega) (by omega) (by omega) hr0 hr1 (by omega) (by omega) (fun R' T' v' p' hp hN => c_end (K := fun r9 => some (((1 : Int32), r9.2))) hN (Or.inl rfl) (by omega) (by omega) (fun T' => rfl) (fun R'' T'' p'' hp2 hN2 => ⟨v', p'', by omega, hN2⟩))
    rcases key with ⟨R', T', b1, b2, b3⟩ | ⟨R', T', b1, b2, b3⟩
    · refine Or.inl ⟨R', T', b1, ?_, b3⟩
      rw [show (obind (sX10_readInto T1 (nI u) 1 (nI hi)) fun r5 => if r5.1 = 0 then some (((0 : Int32), r5.2)) else obind (sX10_readEnd r5.2) fun r9 => if r9.1 = 0 then some (((0 : Int32), r9.2)) else some (((1 : Int32), r9.2))) = some (0, T') from b2, obind_some, if_pos rfl]
    · refine Or.inr ⟨R', T', b1, ?_, b3⟩
      rw [show (obind (sX10_readInto T1 (nI u) 1 (nI hi)) fun r5 => if r5.1 = 0 then some (((0 : Int32), r5.2)) else obind (sX10_readEnd r5.2) fun r9 => if r9.1 = 0 then some (((0 : Int32), r9.2)) else some (((1 : Int32), r9.2))) = some (1, T') from b2, obind_some, if_neg one_ne]
  · obtain ⟨v, p', pe, n1, n2, n3, n4, n5⟩ := hG
    obtain ⟨b1, b2, b3, b4⟩ := n3 0 (by omega)
    obtain ⟨⟨f0, ⟨f1, f2⟩, d2, d3, d4, ⟨bb, d5⟩, ⟨bl, d6⟩, d7, d8, d9⟩, dP, dR, dI⟩ := hD
    have g5 : ∀ j, j ≠ 129 + u → gi T' 5 j 0 = gi T 5 j 0 := fun j hj => by
      rw [n5 5 j (Or.inl (by decide)) (Or.inr fun x hx => hj), a3.1 5 j 0 (Or.inl (by decide)), gi_ne (by omega)]
    have g100 : ∀ j, j = 20 ∨ j = 21 → gi T' 100 j 0 = if j = 20 + u then 1 else gi T 100 j 0 := fun j hj => by
      rw [n5 100 j (Or.inr (by omega)) (Or.inl (by decide)), a3.1 100 j 0 (Or.inr (by omega)), gi_si]
      by_cases q : j = 20 + u
      · rw [if_pos ⟨rfl, q, rfl⟩, if_pos q]
      · rw [if_neg (by omega), if_neg q]
    have gE : ∀ j, j = 14 ∨ j = 15 → gi T' 100 j 0 = gi T 100 j 0 := fun j hj => by
      rw [n5 100 j (Or.inr (by omega)) (Or.inl (by decide)), a3.1 100 j 0 (Or.inr (by omega)), gi_ne (by omega)]
    have gR : ∀ j, gi R' 0 j 0 = gi R 0 j 0 := fun j => n4 0 j 0 (by decide) (Or.inl (by decide))
    have hadd : sX4_addTo (R', D) (nI u) = (si R' 0 (6 + u) 0 1, si D 0 (10 + u) 0 (nI (v 0))) := by
      have q0 : sX4_number R' (0 : Int32) = nI (v 0) := (e_num (q := 0) (by omega)).trans b1
      unfold sX4_addTo
      simp only [olet_eq]
      rcases hu2 with rfl | rfl
      · rw [if_pos (show nI 0 = (0 : Int32) from rfl), q0]
      · rw [if_neg (show ¬ nI 1 = (0 : Int32) by decide), if_pos (show nI 1 = (1 : Int32) from rfl), q0]
    rw [hadd]
    dsimp only
    refine ⟨p', np, nr, ni, n1.cg (gi_ne (by omega)) (gi_ne (by omega)) (fun j => gi_ne (by omega)) (fun _ => rfl) (fun _ _ => rfl) rfl, pe, hT1.trans n2, ⟨⟨?_, ?_⟩, ⟨?_, ?_⟩, d2, ⟨?_, ?_, ?_⟩, ⟨?_, ?_, ?_⟩, ?_, ?_, fun i hi => ?_, ⟨?_, ?_, ?_, ?_⟩, ?_, ?_⟩, fun p hp => (dP p hp).cg (fun w => gi_ne (by omega)) (g5 _ (by omega)), fun r hr => (dR r hr).cg (fun w => gi_ne (by omega)) (fun w hw => g5 _ (by omega)), fun i hi => (dI i hi).cg (fun w => gi_ne (by omega)) rfl (fun w hw => g5 _ (by omega))⟩
    · rw [gi_ne (by omega), gR, gE 14 (by omega)]; exact f0.1
    · rw [gi_ne (by omega), gR, gE 15 (by omega)]; exact f0.2
    · rw [g100 20 (by omega), gi_si, gR]
      rcases hu2 with rfl | rfl
      · rw [if_pos ⟨rfl, rfl, rfl⟩, if_pos rfl]
      · rw [if_neg (by omega), if_neg (by omega)]; exact f1
    · rw [g100 21 (by omega), gi_si, gR]
      rcases hu2 with rfl | rfl
      · rw [if_neg (by omega), if_neg (by omega)]; exact f2
      · rw [if_pos ⟨rfl, rfl, rfl⟩, if_pos rfl]
    · rw [gi_ne (by omega)]; exact d3.1
    · rw [gi_ne (by omega)]; exact d3.2.1
    · rw [gi_ne (by omega)]; exact d3.2.2
    · rw [g5 _ (by omega)]; exact d4.1
    · rw [g5 _ (by omega)]; exact d4.2.1
    · rw [g5 _ (by omega)]; exact d4.2.2
    · rcases hu2 with rfl | rfl
      · exact ⟨v 0, b3, Nat.le_trans b4 (h4 rfl), gi_eq2 ⟨rfl, rfl, rfl⟩, b2⟩
      · refine ⟨bb, d5.1, d5.2.1, ?_, ?_⟩
        · rw [gi_ne (by omega)]; exact d5.2.2.1
        · rw [g5 _ (by omega)]; exact d5.2.2.2
    · rcases hu2 with rfl | rfl
      · refine ⟨bl, d6.1, d6.2.1, ?_, ?_⟩
        · rw [gi_ne (by omega)]; exact d6.2.2.1
        · rw [g5 _ (by omega)]; exact d6.2.2.2
      · exact ⟨v 0, b3, Nat.le_trans b4 hh.2, gi_eq2 ⟨rfl, rfl, rfl⟩, b2⟩
    · rw [gi_ne (by omega)]; exact d7 i hi
    · rw [gi_ne (by omega)]; exact d8.1
    · rw [gi_ne (by omega)]; exact d8.2.1
    · rw [gi_ne (by omega)]; exact d8.2.2.1
    · rw [gi_ne (by omega)]; exact d8.2.2.2
    · rw [gi_ne (by omega)]; exact d9.1
    · rw [gi_ne (by omega)]; exact d9.2
/-- one more of a kind: how many there are stands at 129 + c -/
theorem st_begin {s e kd c cnt mx : Nat} {C M : Int32} (hC : C = nI c) (hM : M = nI mx) (hc : c < 129) (h : TkR R T n s e kd) (h5 : gi T 5 (129 + c) 0 = nI cnt) (hcm : cnt ≤ mx) (hmx : mx < 100) : (cnt = mx ∧ sX10_beginRow T C M = some ((sX10_fail T 4).1, (sX10_fail T 4).2)) ∨ (cnt < mx ∧ ∃ T1, sX10_beginRow T C M = some (1, si T1 5 (129 + c) 0 (nI (cnt + 1))) ∧ Ahd R T1 n e ∧ FrA T T1) := by
  subst hC; subst hM
  obtain ⟨T1, a1, a2, a3⟩ := h.adv
  unfold sX10_beginRow
  rw [n_lit 129, nI_add, n_inb (by omega) (by omega), oif_t rfl, n_cl (by omega), h5, if_en (by omega) (by omega)]
  by_cases q : cnt = mx
  · rw [if_pos q, olet_eq]
    exact Or.inl ⟨q, rfl⟩
  · rw [if_neg q, a1, obind_some, oif_t rfl, oif_t rfl, olet_eq, a3.1 5 (129 + c) 0 (Or.inl (by decide)), h5, n_suc]
    exact Or.inr ⟨by omega, T1, rfl, a2, a3⟩
end STM
