/-! ===== COMMANDS ARE READ ===== -/
section CMD
variable {R T R1 T1 R' T' : Mem} {n : Nat}
theorem pk_9 (T : Mem) : sX10_pack T (112 : Int32) (108 : Int32) (97 : Int32) (110 : Int32) (0 : Int32) (0 : Int32) = lN (pkc 9) := by
  unfold sX10_pack sX10_pack_j65
  simp only [olet_eq]
  decide +kernel
theorem pk_10 (T : Mem) : sX10_pack T (99 : Int32) (97 : Int32) (110 : Int32) (99 : Int32) (101 : Int32) (108 : Int32) = lN (pkc 10) := by
  unfold sX10_pack sX10_pack_j65
  simp only [olet_eq]
  decide +kernel
theorem pk_11 (T : Mem) : sX10_longer T (sX10_pack T (97 : Int32) (112 : Int32) (112 : Int32) (114 : Int32) (111 : Int32) (118 : Int32)) (101 : Int32) = lN (pkc 11) := by
  unfold sX10_longer sX10_pack sX10_pack_j65
  simp only [olet_eq]
  decide +kernel
theorem pk_12 (T : Mem) : sX10_pack T (108 : Int32) (101 : Int32) (110 : Int32) (100 : Int32) (0 : Int32) (0 : Int32) = lN (pkc 12) := by
  unfold sX10_pack sX10_pack_j65
  simp only [olet_eq]
  decide +kernel
theorem pk_13 (T : Mem) : sX10_pack T (114 : Int32) (101 : Int32) (99 : Int32) (97 : Int32) (108 : Int32) (108 : Int32) = lN (pkc 13) := by
  unfold sX10_pack sX10_pack_j65
  simp only [olet_eq]
  decide +kernel
theorem pk_14 (T : Mem) : sX10_pack T (116 : Int32) (105 : Int32) (99 : Int32) (107 : Int32) (0 : Int32) (0 : Int32) = lN (pkc 14) := by
  unfold sX10_pack sX10_pack_j65
  simp only [olet_eq]
  decide +kernel
/-- which numbers a command has -/
def ccn (w : Nat) : Nat := [2, 1, 1, 4, 1, 1].getD w 0
def clo (w x : Nat) : Nat := ([[0, 0], [0], [0], [0, 0, 0, 1], [0], [1]].getD w []).getD x 0
def chi (w x : Nat) : Nat := ([[15, 9], [15], [15], [15, 20000, 1000, 500], [15], [1000]].getD w []).getD x 0
def crk (w : Nat) : Nat := [5, 6, 6, 7, 6, 8].getD w 0
def CmD (R T : Mem) (c : Nat) : Prop := ∃ (w : Nat) (v : Nat → Nat), w ≤ 5 ∧ gi R 4 (5 * c) 0 = nI (5 + w) ∧ gi T 22 (5 * c) 0 = nI w ∧ ∀ x, x < ccn w → gi R 4 (5 * c + 1 + x) 0 = nI (v x) ∧ gi T 22 (5 * c + 1 + x) 0 = nI (v x) ∧ clo w x ≤ v x ∧ v x ≤ chi w x
def CmR (R T : Mem) (k : Nat) : Prop := gi R 0 3 0 = nI k ∧ gi T 100 23 0 = nI k ∧ k ≤ 40 ∧ ∀ c, c < k → CmD R T c
theorem ccn_le {w : Nat} (h : w ≤ 5) : 1 ≤ ccn w ∧ ccn w ≤ 4 := by
  have : w = 0 ∨ w = 1 ∨ w = 2 ∨ w = 3 ∨ w = 4 ∨ w = 5 := by omega
  rcases this with rfl | rfl | rfl | rfl | rfl | rfl <;> decide
theorem CmD.cg {c : Nat} (h : CmD R T c) (hR : ∀ y, y < 5 → gi R' 4 (5 * c + y) 0 = gi R 4 (5 * c + y) 0) (hT : ∀ y, y < 5 → gi T' 22 (5 * c + y) 0 = gi T 22 (5 * c + y) 0) : CmD R' T' c := by
  obtain ⟨w, v, h1, h2, h3, h4⟩ := h
  have hc := (ccn_le h1).2
  refine ⟨w, v, h1, (hR 0 (by omega)).trans h2, (hT 0 (by omega)).trans h3, fun x hx => ?_⟩
  obtain ⟨a, b, d⟩ := h4 x hx
  refine ⟨?_, ?_, d⟩
  · rw [show 5 * c + 1 + x = 5 * c + (1 + x) by omega, hR _ (by omega), show 5 * c + (1 + x) = 5 * c + 1 + x by omega]; exact a
  · rw [show 5 * c + 1 + x = 5 * c + (1 + x) by omega, hT _ (by omega), show 5 * c + (1 + x) = 5 * c + 1 + x by omega]; exact b
theorem c_of {R0 T0 : Mem} {G : Mem → Mem → Prop} {w A L H : Int32} {k q p cnt : Nat} {a lo hi v : Nat → Nat} {K : Int32 × Mem → Option (Int32 × Mem)} (h : NS R0 T0 n 22 a lo hi q p v R T) (hcnt : gi T0 100 23 0 = nI cnt) (hc : cnt < 40) (hA : A = nI (q + 1)) (hq4 : q < 4) (hL : L = nI (lo q)) (hH : H = nI (hi q)) (ha : a = fun x => 5 * cnt + 1 + x) (hq : 2 * q + 1 < rn k) (hr : rn k ≤ 14) (h1 : rv k (2 * q) = nI (lo q)) (h2 : rv k (2 * q + 1) = nI (hi q)) (hlo : lo q < 1000000000) (hhi : hi q < 1000000000) (hK : ∀ R' T' v' p', p < p' → NS R0 T0 n 22 a lo hi (q + 1) p' v' R' T' → OUT T0 G (NB w k (q + 1) R') (K (1, T'))) : OUT T0 G (NB w k q R) (obind (sX10_readNumberOf T A L H) fun r => if r.1 = 0 then some (0, r.2) else K r) := by
  subst hA; subst hL; subst hH; subst ha
  have hT : gi T 100 23 0 = nI cnt := (h.2.2.2.2 100 23 (Or.inr (by decide)) (Or.inl (by decide))).trans hcnt
  refine c_num (g := fun r1 => if r1.1 = 0 then some (((0 : Int32), r1.2)) else oif (inb (((5 : Int32) * (gi r1.2 100 23 0)) + nI (q + 1)) 200) (olet (si r1.2 22 (((5 : Int32) * (gi r1.2 100 23 0)) + nI (q + 1)).toNatClampNeg 0 (gi r1.2 100 18 0)) fun S6 => some (((1 : Int32), S6)))) h rfl (fun T' => if_pos rfl) (fun T' hF => ?_) (Or.inr rfl) (fun j hj => by show 5 * cnt + 1 + j ≠ 5 * cnt + 1 + q; omega) hq hr h1 h2 hlo hhi hK
  dsimp only
  rw [if_neg one_ne, hF.1 100 23 0 (Or.inr (by decide)), hT, n_lit 5, pk_mul, nI_add, n_inb (by omega) (by omega), oif_t rfl, olet_eq, n_cl (by omega), show 5 * cnt + (q + 1) = 5 * cnt + 1 + q by omega]
theorem o_as {F : Option (Int32 × Mem)} {H G : Int32 × Mem → Option (Int32 × Mem)} (hG : ∀ T, G (0, T) = some (0, T)) : obind (obind F fun r => if r.1 = 0 then some (0, r.2) else H r) G = obind F fun r => if r.1 = 0 then some (0, r.2) else obind (H r) G := by
  cases F with
  | none => rfl
  | some r =>
    show obind (if r.1 = 0 then some (0, r.2) else H r) G = if r.1 = 0 then some (0, r.2) else obind (H r) G
    by_cases e : r.1 = 0
    · rw [if_pos e, if_pos e]; exact hG r.2
    · rw [if_neg e, if_neg e]
theorem o_id {F : Option (Int32 × Mem)} {G : Int32 × Mem → Option (Int32 × Mem)} : obind (obind F fun r => some (r.1, r.2)) G = obind F G := by
  cases F with
  | none => rfl
  | some r => rfl
/-- the arguments -/
theorem sim_args {R0 T0 : Mem} {G : Mem → Mem → Prop} {wc : Int32} {w p cnt : Nat} {v : Nat → Nat} {K : Int32 × Mem → Option (Int32 × Mem)} (hw : w ≤ 5) (h : NS R0 T0 n 22 (fun x => 5 * cnt + 1 + x) (clo w) (chi w) 0 p v R T) (hcnt : gi T0 100 23 0 = nI cnt) (hc : cnt < 40) (hK : ∀ R' T' v' p', p < p' → NS R0 T0 n 22 (fun x => 5 * cnt + 1 + x) (clo w) (chi w) (ccn w) p' v' R' T' → OUT T0 G (NB wc (crk w) (ccn w) R') (K (1, T'))) : OUT T0 G (NB wc (crk w) 0 R) (obind (sX10_readArguments T (nI w)) fun r => if r.1 = 0 then some (0, r.2) else K r) := by
  have : w = 0 ∨ w = 1 ∨ w = 2 ∨ w = 3 ∨ w = 4 ∨ w = 5 := by omega
  unfold sX10_readArguments
  rcases this with rfl | rfl | rfl | rfl | rfl | rfl
  · rw [if_neg (by decide), o_as (fun T => if_pos rfl)]
    refine c_of (k := 5) h hcnt hc rfl (by omega) rfl rfl rfl (by decide) (by decide) rfl rfl (by decide) (by decide) (fun R1 T1 v1 p1 hp1 hN1 => ?_)
    dsimp only
    rw [if_pos (show nI 0 = (0 : Int32) from rfl), o_id]
    exact c_of (k := 5) hN1 hcnt hc rfl (by omega) rfl rfl rfl (by decide) (by decide) rfl rfl (by decide) (by decide) (fun R2 T2 v2 p2 hp2 hN2 => hK R2 T2 v2 p2 (by omega) hN2)
  · rw [if_neg (by decide), o_as (fun T => if_pos rfl)]
    refine c_of (k := 6) h hcnt hc rfl (by omega) rfl rfl rfl (by decide) (by decide) rfl rfl (by decide) (by decide) (fun R1 T1 v1 p1 hp1 hN1 => ?_)
    dsimp only
    rw [if_neg (show ¬ nI 1 = (0 : Int32) by decide), if_neg (show ¬ nI 1 = (3 : Int32) by decide), obind_some, if_neg one_ne]
    exact hK R1 T1 v1 p1 hp1 hN1
  · rw [if_neg (by decide), o_as (fun T => if_pos rfl)]
    refine c_of (k := 6) h hcnt hc rfl (by omega) rfl rfl rfl (by decide) (by decide) rfl rfl (by decide) (by decide) (fun R1 T1 v1 p1 hp1 hN1 => ?_)
    dsimp only
    rw [if_neg (show ¬ nI 2 = (0 : Int32) by decide), if_neg (show ¬ nI 2 = (3 : Int32) by decide), obind_some, if_neg one_ne]
    exact hK R1 T1 v1 p1 hp1 hN1
  · rw [if_neg (by decide), o_as (fun T => if_pos rfl)]
    refine c_of (k := 7) h hcnt hc rfl (by omega) rfl rfl rfl (by decide) (by decide) rfl rfl (by decide) (by decide) (fun R1 T1 v1 p1 hp1 hN1 => ?_)
    dsimp only
    rw [if_neg (show ¬ nI 3 = (0 : Int32) by decide), if_pos (show nI 3 = (3 : Int32) from rfl), o_as (fun T => if_pos rfl)]
    refine c_of (k := 7) hN1 hcnt hc rfl (by omega) rfl rfl rfl (by decide) (by decide) rfl rfl (by decide) (by decide) (fun R2 T2 v2 p2 hp2 hN2 => ?_)
    dsimp only
    rw [o_as (fun T => if_pos rfl)]
    refine c_of (k := 7) hN2 hcnt hc rfl (by omega) rfl rfl rfl (by decide) (by decide) rfl rfl (by decide) (by decide) (fun R3 T3 v3 p3 hp3 hN3 => ?_)
    dsimp only
    rw [o_as (fun T => if_pos rfl)]
    refine c_of (k := 7) hN3 hcnt hc rfl (by omega) rfl rfl rfl (by decide) (by decide) rfl rfl (by decide) (by decide) (fun R4 T4 v4 p4 hp4 hN4 => ?_)
    rw [obind_some, if_neg one_ne]
    exact hK R4 T4 v4 p4 (by omega) hN4
  · rw [if_neg (by decide), o_as (fun T => if_pos rfl)]
    refine c_of (k := 6) h hcnt hc rfl (by omega) rfl rfl rfl (by decide) (by decide) rfl rfl (by decide) (by decide) (fun R1 T1 v1 p1 hp1 hN1 => ?_)
    dsimp only
    rw [if_neg (show ¬ nI 4 = (0 : Int32) by decide), if_neg (show ¬ nI 4 = (3 : Int32) by decide), obind_some, if_neg one_ne]
    exact hK R1 T1 v1 p1 hp1 hN1
  · rw [if_pos (show nI 5 = (5 : Int32) from rfl), o_id]
    exact c_of (k := 8) h hcnt hc rfl (by omega) rfl rfl rfl (by decide) (by decide) rfl rfl (by decide) (by decide) (fun R1 T1 v1 p1 hp1 hN1 => hK R1 T1 v1 p1 hp1 hN1)
theorem NS.re {R0 T0 : Mem} {a lo hi v : Nat → Nat} {q p : Nat} {u : Int32} (h : NS R0 T0 n 22 a lo hi q p v R T) : NS R0 (si T0 100 23 0 u) n 22 a lo hi q p v R (si T 100 23 0 u) := by
  obtain ⟨n1, n2, n3, n4, n5⟩ := h
  refine ⟨n1.cg rfl rfl (fun _ => rfl) (fun j => gi_ne (by omega)) (fun j hj => gi_ne (by omega)) rfl, ?_, fun j hj => ?_, n4, fun c j hc hj => ?_⟩
  · refine ⟨fun j hj => ?_, n2.2.1, fun j hj => ?_, fun j => ?_, fun j => ?_, fun j hj => ?_⟩
    · rw [gi_ne (by omega), gi_ne (by omega)]; exact n2.1 j hj
    · rw [gi_ne (by omega), gi_ne (by omega)]; exact n2.2.2.1 j hj
    · rw [gi_ne (by omega), gi_ne (by omega)]; exact n2.2.2.2.1 j
    · rw [gi_ne (by omega), gi_ne (by omega)]; exact n2.2.2.2.2.1 j
    · rw [gi_ne (by omega), gi_ne (by omega)]; exact n2.2.2.2.2.2 j hj
  · rw [gi_ne (by omega)]; exact n3 j hj
  · rw [gi_si, gi_si]
    by_cases e : c = 100 ∧ j = 23 ∧ 0 = 0
    · rw [if_pos e, if_pos e]
    · rw [if_neg e, if_neg e]; exact n5 c j hc hj
theorem OUT.base {T0' T0 : Mem} {G : Mem → Mem → Prop} {x y : Option (Int32 × Mem)} (h : OUT T0' G x y) (hF : FrQ T0 T0') : OUT T0 G x y := by
  rcases h with ⟨R', T', a, b, c, d⟩ | h
  · exact Or.inl ⟨R', T', a, b, c, hF.trans d⟩
  · exact Or.inr h
/-- what a command comes to -/
def CmG (T0 : Mem) (n e k : Nat) (x y : Option (Int32 × Mem)) : Prop := (∃ R' T', x = some (0, R') ∧ y = some (0, T') ∧ ErR R' T' ∧ FrQ T0 T') ∨ ∃ R' T' e', x = some (1, R') ∧ y = some (1, T') ∧ Ahd R' T' n e' ∧ e < e' ∧ FrQ T0 T' ∧ CmR R' T' (k + 1) ∧ ErR R' T'
theorem e_keepC {k : Nat} {wc : Int32} (h : gi R 0 3 0 = nI k) (hk : k < 40) : sX4_keepCommand R wc = some (si (si (si (si (si (si R 4 (5 * k) 0 wc) 4 (5 * k + 1) 0 (gi R 3 0 0)) 4 (5 * k + 2) 0 (gi R 3 1 0)) 4 (5 * k + 3) 0 (gi R 3 2 0)) 4 (5 * k + 4) 0 (gi R 3 3 0)) 0 3 0 (nI (k + 1))) := by
  have h0 : ∀ R : Mem, sX4_number R (0 : Int32) = gi R 3 0 0 := fun R => e_num (q := 0) (by omega)
  have h1 : ∀ R : Mem, sX4_number R (nI 1) = gi R 3 1 0 := fun R => e_num (q := 1) (by omega)
  have h2 : ∀ R : Mem, sX4_number R (nI 2) = gi R 3 2 0 := fun R => e_num (q := 2) (by omega)
  have h3 : ∀ R : Mem, sX4_number R (nI 3) = gi R 3 3 0 := fun R => e_num (q := 3) (by omega)
  unfold sX4_keepCommand
  rw [h, n_lit 5, pk_mul, show k * 5 = 5 * k by omega, olet_eq, if_neg (n_nn (by omega)), n_lit 4, nI_add, if_neg (by rw [n_lit 200, n_le (by omega) (by omega)]; omega)]
  rw [n_lit 1, n_lit 2, n_lit 3, nI_add, nI_add, nI_add]
  rw [n_inb (by omega) (by omega), oif_t rfl, n_inb (by omega) (by omega), n_inb (by omega) (by omega), n_inb (by omega) (by omega), n_inb (by omega) (by omega)]
  simp only [olet_eq, oif_t]
  rw [n_cl (by omega), n_cl (by omega), n_cl (by omega), n_cl (by omega), n_cl (by omega)]
  rw [h0, h1, h2, h3]
  repeat (first | rw [gi_ne (by omega)] | rw [gi_eq2 (by omega)])
  rw [h, nI_add]
theorem st_cmd {s e kd k w : Nat} {wc : Int32} (hw : w ≤ 5) (hwc : wc = nI (5 + w)) (h : TkR R T n s e kd) (hC : CmR R T k) (hE : ErR R T) (hk : k < 40) (hr : sX4_rangesOf R wc = crk w) : CmG T n e k (obind (sX4_readNumbers R wc) fun r6 => if r6.1 = 0 then some (((0 : Int32), r6.2)) else obind (sX4_keepCommand r6.2 wc) fun r10 => some (((1 : Int32), r10))) (obind (sX10_advance T) fun r6 => oif (inb ((5 : Int32) * (gi r6 100 23 0)) 200) (olet (si r6 22 ((5 : Int32) * (gi r6 100 23 0)).toNatClampNeg 0 (nI w)) fun S10 => obind (sX10_readArguments S10 (nI w)) fun r11 => if r11.1 = 0 then some (((0 : Int32), r11.2)) else olet (si r11.2 100 23 0 ((gi r11.2 100 23 0) + (1 : Int32))) fun S15 => obind (sX10_readEnd S15) fun r16 => some ((r16.1, r16.2)))) := by
  obtain ⟨c1, c2, c3, c4⟩ := hC
  obtain ⟨T1, a1, a2, a3⟩ := h.adv
  have h23 : gi T1 100 23 0 = nI k := (a3.1 100 23 0 (Or.inr (by decide))).trans c2
  have hA : Ahd R (si T1 22 (5 * k) 0 (nI w)) n e := a2.cg rfl rfl (fun _ => rfl) (fun j => gi_ne (by omega)) (fun j hj => gi_ne (by omega)) rfl
  have hQ : FrQ T (si T1 22 (5 * k) 0 (nI w)) := a3.Q.trans (FrQ.set (by omega))
  have hcc := ccn_le hw
  have hk2 : ∀ T9 : Mem, gi T9 100 23 0 = nI k → FrQ T9 (si T9 100 23 0 (nI (k + 1))) := fun T9 _ => FrQ.set (by omega)
  have key := sim_args (G := fun R' T' => ∃ v p', e < p' ∧ NS R (si (si T1 22 (5 * k) 0 (nI w)) 100 23 0 (nI (k + 1))) n 22 (fun x => 5 * k + 1 + x) (clo w) (chi w) (ccn w) p' v R' T') (wc := wc) (cnt := k) (K := fun r11 => olet (si r11.2 100 23 0 ((gi r11.2 100 23 0) + (1 : Int32))) fun S15 => obind (sX10_readEnd S15) fun r16 => some ((r16.1, r16.2))) hw (NS.start (cc := 22) (a := fun x => 5 * k + 1 + x) (lo := clo w) (hi := chi w) (v := fun _ => 0) hA) ((gi_ne (by omega)).trans h23) hk (fun R' T' v' p' hp hN => by
    have h9 : gi T' 100 23 0 = nI k := (hN.2.2.2.2 100 23 (Or.inr (by decide)) (Or.inl (by decide))).trans ((gi_ne (by omega)).trans h23)
    rw [olet_eq, h9, n_suc, o_if]
    have hrn : rn (crk w) = 2 * ccn w ∧ rn (crk w) ≤ 14 := by
      have : w = 0 ∨ w = 1 ∨ w = 2 ∨ w = 3 ∨ w = 4 ∨ w = 5 := by omega
      rcases this with rfl | rfl | rfl | rfl | rfl | rfl <;> decide
    exact (c_end (K := fun r => some (r.1, r.2)) (hN.re (u := nI (k + 1))) (Or.inr rfl) hrn.1 hrn.2 (fun T' => rfl) (fun R'' T'' p'' hp2 hN2 => ⟨v', p'', by omega, hN2⟩)).base (FrQ.set (by omega)))
  rw [a1, obind_some, h23, n_lit 5, pk_mul, n_inb (by omega) (by omega), oif_t rfl, olet_eq, n_cl (by omega)]
  have e1 : sX4_readNumbers R wc = NB wc (crk w) 0 R := by
    unfold sX4_readNumbers
    rw [hr]; rfl
  rw [e1]
  rcases key with ⟨R', T', b1, b2, b3, b4⟩ | ⟨R', T', b1, b2, v, p', pe, n1, n2, n3, n4, n5⟩
  · refine Or.inl ⟨R', T', ?_, b2, b3, hQ.trans b4⟩
    rw [b1, obind_some, if_pos rfl]
  · have r3 : gi R' 0 3 0 = nI k := (n4 0 3 0 (by decide) (Or.inl (by decide))).trans c1
    have g22 : ∀ j, (j < 5 * k + 1 ∨ 5 * k + 1 + ccn w ≤ j) → gi T' 22 j 0 = if j = 5 * k then nI w else gi T 22 j 0 := fun j hj => by
      rw [n5 22 j (Or.inl (by decide)) (Or.inr fun x hx => by dsimp only; omega), gi_ne (by omega), gi_si]
      by_cases q : j = 5 * k
      · rw [if_pos ⟨rfl, q, rfl⟩, if_pos q]
      · rw [if_neg (by omega), if_neg q, a3.1 22 j 0 (Or.inl (by decide))]
    have g100 : ∀ j, j = 14 ∨ j = 15 → gi T' 100 j 0 = gi T 100 j 0 := fun j hj => by
      rw [n5 100 j (Or.inr (by omega)) (Or.inl (by decide)), gi_ne (by omega), gi_ne (by omega), a3.1 100 j 0 (Or.inr (by omega))]
    refine Or.inr ⟨si (si (si (si (si (si R' 4 (5 * k) 0 wc) 4 (5 * k + 1) 0 (gi R' 3 0 0)) 4 (5 * k + 2) 0 (gi R' 3 1 0)) 4 (5 * k + 3) 0 (gi R' 3 2 0)) 4 (5 * k + 4) 0 (gi R' 3 3 0)) 0 3 0 (nI (k + 1)), T', p', ?_, b2, n1.cg ?_ ?_ (fun j => ?_) (fun _ => rfl) (fun _ _ => rfl) rfl, pe, (hQ.trans (FrQ.set (by omega))).trans n2, ⟨gi_eq2 ⟨rfl, rfl, rfl⟩, ?_, by omega, fun c hc => ?_⟩, ⟨?_, ?_⟩⟩
    · rw [b1, obind_some, if_neg one_ne, e_keepC r3 hk, obind_some]
    · repeat (first | rw [gi_ne (by omega)] | rw [gi_eq2 (by omega)])
    · repeat (first | rw [gi_ne (by omega)] | rw [gi_eq2 (by omega)])
    · repeat (first | rw [gi_ne (by omega)] | rw [gi_eq2 (by omega)])
    · rw [n5 100 23 (Or.inr (by decide)) (Or.inl (by decide)), gi_eq2 ⟨rfl, rfl, rfl⟩]
    · by_cases ec : c = k
      · subst ec
        refine ⟨w, v, hw, ?_, ?_, fun x hx => ?_⟩
        · repeat (first | rw [gi_ne (by omega)] | rw [gi_eq2 (by omega)])
          exact hwc
        · rw [g22 _ (by omega), if_pos rfl]
        · obtain ⟨d1, d2, d3⟩ := n3 x hx
          refine ⟨?_, d2, d3⟩
          have : x = 0 ∨ x = 1 ∨ x = 2 ∨ x = 3 := by omega
          rcases this with rfl | rfl | rfl | rfl
          all_goals repeat (first | rw [gi_ne (by omega)] | rw [gi_eq2 (by omega)])
          all_goals exact d1
      · refine (c4 c (by omega)).cg (fun y hy => ?_) (fun y hy => ?_)
        · rw [gi_ne (by omega), gi_ne (by omega), gi_ne (by omega), gi_ne (by omega), gi_ne (by omega), gi_ne (by omega)]
          exact n4 4 _ 0 (by decide) (Or.inl (by decide))
        · rw [g22 _ (by omega), if_neg (by omega)]
    · rw [gi_ne (by omega), gi_ne (by omega), gi_ne (by omega), gi_ne (by omega), gi_ne (by omega), gi_ne (by omega), n4 0 4 0 (by decide) (Or.inl (by decide)), g100 14 (by omega)]
      exact hE.1
    · rw [gi_ne (by omega), gi_ne (by omega), gi_ne (by omega), gi_ne (by omega), gi_ne (by omega), gi_ne (by omega), n4 0 5 0 (by decide) (Or.inl (by decide)), g100 15 (by omega)]
      exact hE.2
theorem cm_fail {s e kd k : Nat} {c : Int32} {x y : Option (Int32 × Mem)} (h : TkR R T n s e kd) (hx : x = some ((sX4_failed R c).1, (sX4_failed R c).2)) (hy : y = some ((sX10_fail T c).1, (sX10_fail T c).2)) : CmG T n e k x y := by
  obtain ⟨f1, f2, f3, f4⟩ := e_fail (c := c) h
  exact Or.inl ⟨_, _, by rw [hx, f1], by rw [hy, f2], f3, f4⟩
/-- a command -/
theorem sim_cmd {s e kd k : Nat} (h : TkR R T n s e kd) (hC : CmR R T k) (hE : ErR R T) : CmG T n e k (sX4_readCommand R) (sX10_readCommand T) := by
  have hC2 := hC
  obtain ⟨c1, c2, c3, -⟩ := hC2
  -- with the word known
  have go : ∀ w, w ≤ 5 → sX4_commandWord R = nI (5 + w) → sX10_commandHere T = nI w → sX4_rangesOf R (nI (5 + w)) = crk w → CmG T n e k (sX4_readCommand R) (sX10_readCommand T) := fun w hw h1 h2 h3 => by
    unfold sX4_readCommand sX10_readCommand
    rw [h1, h2, olet_eq (nI (5 + w)), if_neg (n_m1 (by omega)), olet_eq (nI w), if_neg (n_m1 (by omega)), c1, c2]
    by_cases q : k < 40
    · rw [if_pos (show nI k < (40 : Int32) by rw [n_lit 40, n_lt (by omega) (by omega)]; exact q), if_neg (show ¬ nI k = (40 : Int32) by rw [n_lit 40, n_eq (by omega) (by omega)]; omega)]
      exact st_cmd hw rfl h hC hE q h3
    · rw [if_neg (show ¬ nI k < (40 : Int32) by rw [n_lit 40, n_lt (by omega) (by omega)]; exact q), if_pos (show nI k = (40 : Int32) by rw [n_lit 40, n_eq (by omega) (by omega)]; omega), olet_eq, olet_eq]
      exact cm_fail (c := 4) h rfl rfl
  have w9 := e_wr h (k := 9) (by omega)
  have w10 := e_wr h (k := 10) (by omega)
  have w11 := e_wr h (k := 11) (by omega)
  have w12 := e_wr h (k := 12) (by omega)
  have w13 := e_wr h (k := 13) (by omega)
  have w14 := e_wr h (k := 14) (by omega)
  have u9 := e_wt h (k := 9) (by omega) (pk_9 T)
  have u10 := e_wt h (k := 10) (by omega) (pk_10 T)
  have u11 := e_wt h (k := 11) (by omega) (pk_11 T)
  have u12 := e_wt h (k := 12) (by omega) (pk_12 T)
  have u13 := e_wt h (k := 13) (by omega) (pk_13 T)
  have u14 := e_wt h (k := 14) (by omega) (pk_14 T)
  by_cases d9 : WD T n s e kd 9
  · refine go 0 (by omega) ?_ ?_ rfl
    · unfold sX4_commandWord; rw [w9.1 d9, if_neg one_ne]; rfl
    · unfold sX10_commandHere; rw [u9.1 d9, if_neg one_ne]; rfl
  by_cases d10 : WD T n s e kd 10
  · refine go 1 (by omega) ?_ ?_ rfl
    · unfold sX4_commandWord; rw [w9.2 d9, if_pos rfl, w10.1 d10, if_neg one_ne]; rfl
    · unfold sX10_commandHere; rw [u9.2 d9, if_pos rfl, u10.1 d10, if_neg one_ne]; rfl
  by_cases d11 : WD T n s e kd 11
  · refine go 2 (by omega) ?_ ?_ rfl
    · unfold sX4_commandWord; rw [w9.2 d9, if_pos rfl, w10.2 d10, if_pos rfl, w11.1 d11, if_neg one_ne]; rfl
    · unfold sX10_commandHere; rw [u9.2 d9, if_pos rfl, u10.2 d10, if_pos rfl, u11.1 d11, if_neg one_ne]; rfl
  by_cases d12 : WD T n s e kd 12
  · refine go 3 (by omega) ?_ ?_ rfl
    · unfold sX4_commandWord; rw [w9.2 d9, if_pos rfl, w10.2 d10, if_pos rfl, w11.2 d11, if_pos rfl, w12.1 d12, if_neg one_ne]; rfl
    · unfold sX10_commandHere; rw [u9.2 d9, if_pos rfl, u10.2 d10, if_pos rfl, u11.2 d11, if_pos rfl, u12.1 d12, if_neg one_ne]; rfl
  by_cases d13 : WD T n s e kd 13
  · refine go 4 (by omega) ?_ ?_ rfl
    · unfold sX4_commandWord; rw [w9.2 d9, if_pos rfl, w10.2 d10, if_pos rfl, w11.2 d11, if_pos rfl, w12.2 d12, if_pos rfl, w13.1 d13, if_neg one_ne]; rfl
    · unfold sX10_commandHere; rw [u9.2 d9, if_pos rfl, u10.2 d10, if_pos rfl, u11.2 d11, if_pos rfl, u12.2 d12, if_pos rfl, u13.1 d13, if_neg one_ne]; rfl
  by_cases d14 : WD T n s e kd 14
  · refine go 5 (by omega) ?_ ?_ rfl
    · unfold sX4_commandWord; rw [w9.2 d9, if_pos rfl, w10.2 d10, if_pos rfl, w11.2 d11, if_pos rfl, w12.2 d12, if_pos rfl, w13.2 d13, if_pos rfl, w14.1 d14, if_neg one_ne]; rfl
    · unfold sX10_commandHere; rw [u9.2 d9, if_pos rfl, u10.2 d10, if_pos rfl, u11.2 d11, if_pos rfl, u12.2 d12, if_pos rfl, u13.2 d13, if_pos rfl, u14.1 d14, if_neg one_ne]; rfl
  unfold sX4_readCommand sX10_readCommand
  have e1 : sX4_commandWord R = -1 := by
    unfold sX4_commandWord; rw [w9.2 d9, if_pos rfl, w10.2 d10, if_pos rfl, w11.2 d11, if_pos rfl, w12.2 d12, if_pos rfl, w13.2 d13, if_pos rfl, w14.2 d14, if_pos rfl]
  have e2 : sX10_commandHere T = -1 := by
    unfold sX10_commandHere; rw [u9.2 d9, if_pos rfl, u10.2 d10, if_pos rfl, u11.2 d11, if_pos rfl, u12.2 d12, if_pos rfl, u13.2 d13, if_pos rfl, u14.2 d14, if_pos rfl]
  rw [e1, e2, olet_eq (-1 : Int32), if_pos rfl, olet_eq (-1 : Int32), if_pos rfl, olet_eq, olet_eq]
  exact cm_fail (c := 1) h rfl rfl
theorem itw_oinr {α β : Type} {f : α → Option (α ⊕ β)} {a : α} {x : Option β} (h : f a = oinr x) : itw f a = x := by
  cases x with
  | some b => exact itw_out h
  | none =>
    cases e : itw f a with
    | none => rfl
    | some b =>
      obtain ⟨n, hn⟩ := itw_n e
      cases n with
      | zero => cases hn
      | succ n =>
        unfold itn at hn
        rw [h] at hn
        cases hn
/-- a script is read -/
theorem sim_script {T0 : Mem} : ∀ m k p R T, m + p = n → Ahd R T n p → FrQ T0 T → CmR R T k → ErR R T → (∃ R' T', sX4_readScript_l8 ((1 : Int32), nI k, R) = some (0, R') ∧ sX10_play_l16 ((1 : Int32), T) = some (-3, T') ∧ gi R' 1 1 0 = 0 ∧ gi T' 100 12 0 = 0 ∧ ErR R' T' ∧ FrQ T0 T') ∨ ∃ R1 T1 k', sX4_readScript_l8 ((1 : Int32), nI k, R) = some (1, si R1 1 1 0 0) ∧ sX10_play_l16 ((1 : Int32), T) = sX10_play_l49 ((0 : Int32), si T1 100 12 0 0) ∧ CmR R1 T1 k' ∧ ErR R1 T1 ∧ FrQ T0 T1 := by
  intro m
  induction m using Nat.strongRecOn with
  | _ m ih =>
    intro k p R T hm hA hQ hC hE
    obtain ⟨R2, s, e, kd, s1, s2, s3, s4⟩ := hA.step
    have hC' : CmR R2 T k := by
      obtain ⟨c1, c2, c3, c4⟩ := hC
      exact ⟨(s4 0 3 0 (Or.inl (by decide))).trans c1, c2, c3, fun c hc => (c4 c hc).cg (fun y _ => s4 4 _ 0 (Or.inl (by decide))) (fun _ _ => rfl)⟩
    have hE' : ErR R2 T := ⟨(s4 0 4 0 (Or.inl (by decide))).trans hE.1, (s4 0 5 0 (Or.inl (by decide))).trans hE.2⟩
    have s2' := s2
    obtain ⟨-, hn, -, -, ⟨r2, t16⟩, se, en, k4, kse, -⟩ := s2'
    have hk40 := hC.2.2.1
    have p1 : ∀ r, (if gi R2 1 2 0 = 0 then oinr (olet (si R2 1 1 0 ((0 : Int32))) fun S21 => some (((1 : Int32), S21))) else obind (sX4_readCommand R2) fun r16 => some (Sum.inl (r16.1, nI k + (1 : Int32), r16.2))) = r → sX4_readScript_l8_step ((1 : Int32), nI k, R) = r := fun r hr => by
      unfold sX4_readScript_l8_step
      dsimp only
      rw [if_neg one_ne, if_neg (show ¬ (40 : Int32) < nI k by rw [n_lit 40, n_lt (by omega) (by omega)]; omega), s1, obind_some]
      exact hr
    have p2 : ∀ r, (if gi T 100 16 0 = 0 then oinr (sX10_play_j35 T 1) else obind (sX10_readCommand T) fun r23 => some (Sum.inl (r23.1, r23.2))) = r → sX10_play_l16_step ((1 : Int32), T) = r := fun r hr => by
      unfold sX10_play_l16_step
      dsimp only
      rw [if_neg one_ne]
      exact hr
    unfold sX4_readScript_l8 sX10_play_l16
    by_cases e0 : kd = 0
    · subst e0
      refine Or.inr ⟨R2, T, k, itw_out (p1 _ ?_), itw_oinr (p2 _ ?_), hC', hE', hQ⟩
      · rw [r2, if_pos (show nI 0 = (0 : Int32) from rfl), olet_eq]; rfl
      · rw [t16, if_pos (show nI 0 = (0 : Int32) from rfl)]
        unfold sX10_play_j35
        rw [olet_eq, if_neg one_ne]
    · have ne : ¬ nI kd = (0 : Int32) := by rw [n_lit 0, n_eq (by omega) (by omega)]; exact e0
      have hse := kse e0
      rw [r2, if_neg ne] at p1
      rw [t16, if_neg ne] at p2
      rcases sim_cmd s2 hC' hE' with ⟨R', T', x1, x2, x3, x4⟩ | ⟨R', T', e', x1, x2, x3, x4, x5, x6, x7⟩
      · rw [x1, obind_some, n_suc] at p1
        rw [x2, obind_some] at p2
        refine Or.inl ⟨si R' 1 1 0 0, si T' 100 12 0 0, (itw_in (p1 _ rfl)).trans (itw_out ?_), (itw_in (p2 _ rfl)).trans (itw_out ?_), gi_eq2 ⟨rfl, rfl, rfl⟩, gi_eq2 ⟨rfl, rfl, rfl⟩, ⟨?_, ?_⟩, (hQ.trans x4).trans (FrQ.set (by omega))⟩
        · unfold sX4_readScript_l8_step
          dsimp only
          rw [if_pos rfl, olet_eq]; rfl
        · unfold sX10_play_l16_step sX10_play_j35
          dsimp only
          rw [if_pos rfl, olet_eq, if_pos rfl]; rfl
        · rw [gi_ne (by omega), gi_ne (by omega)]; exact x3.1
        · rw [gi_ne (by omega), gi_ne (by omega)]; exact x3.2
      · rw [x1, obind_some, n_suc] at p1
        rw [x2, obind_some] at p2
        have he' : e' ≤ n := x3.2.2.2.1
        have hh := ih (n - e') (by omega) (k + 1) e' R' T' (by omega) x3 (hQ.trans x5) x6 x7
        unfold sX4_readScript_l8 sX10_play_l16 at hh
        rcases hh with ⟨R3, T3, y1, y2, y3⟩ | ⟨R3, T3, k', y1, y2, y3⟩
        · exact Or.inl ⟨R3, T3, (itw_in (p1 _ rfl)).trans y1, (itw_in (p2 _ rfl)).trans y2, y3⟩
        · exact Or.inr ⟨R3, T3, k', (itw_in (p1 _ rfl)).trans y1, (itw_in (p2 _ rfl)).trans y2, y3⟩
end CMD
