/-! ===== WORDS, AND THE NUMBERS BEHIND THEM ===== -/
section WRD
variable {R T R1 T1 R' T' : Mem} {n : Nat}
theorem pkw_inj {c d : Nat → Nat} {s s' : Nat} : ∀ l l', (∀ j, j < l → 97 ≤ c (s + j) ∧ c (s + j) ≤ 122) → (∀ j, j < l' → 97 ≤ d (s' + j) ∧ d (s' + j) ≤ 122) → pkw c s l = pkw d s' l' → l = l' ∧ ∀ j, j < l → c (s + j) = d (s' + j) := by
  intro l
  induction l with
  | zero =>
    intro l' _ h2 h
    cases l' with
    | zero => exact ⟨rfl, fun j hj => by omega⟩
    | succ l' =>
      have h3 := h2 l' (by omega)
      have h4 : 0 = pkw d s' l' * 32 + (d (s' + l') - 96) := h
      omega
  | succ l ih =>
    intro l' h1 h2 h
    have h3 := h1 l (by omega)
    cases l' with
    | zero =>
      have h4 : pkw c s l * 32 + (c (s + l) - 96) = 0 := h
      omega
    | succ l' =>
      have h5 := h2 l' (by omega)
      have h4 : pkw c s l * 32 + (c (s + l) - 96) = pkw d s' l' * 32 + (d (s' + l') - 96) := h
      obtain ⟨q1, q2⟩ := ih l' (fun j hj => h1 j (by omega)) (fun j hj => h2 j (by omega)) (by omega)
      subst q1
      refine ⟨rfl, fun j hj => ?_⟩
      by_cases e : j = l
      · subst e; omega
      · exact q2 j (by omega)
theorem pkw_cg {c d : Nat → Nat} {s s' : Nat} : ∀ l, (∀ j, j < l → c (s + j) = d (s' + j)) → pkw c s l = pkw d s' l := by
  intro l
  induction l with
  | zero => intro _; rfl
  | succ l ih =>
    intro h
    show pkw c s l * 32 + (c (s + l) - 96) = pkw d s' l * 32 + (d (s' + l) - 96)
    rw [ih (fun j hj => h j (by omega)), h l (by omega)]
/-- the words, as codes -/
def wl (k : Nat) : List Nat := match k with
  | 4 => [98, 101, 110, 99, 104, 101, 115]
  | 5 => [108, 105, 102, 101]
  | 6 => [112, 114, 101, 115, 115]
  | 7 => [114, 101, 99, 105, 112, 101]
  | 8 => [111, 98, 106, 101, 99, 116]
  | 9 => [112, 108, 97, 110]
  | 10 => [99, 97, 110, 99, 101, 108]
  | 11 => [97, 112, 112, 114, 111, 118, 101]
  | 12 => [108, 101, 110, 100]
  | 13 => [114, 101, 99, 97, 108, 108]
  | 14 => [116, 105, 99, 107]
  | _ => []
def pkc (k : Nat) : Nat := pkw (fun j => (wl k).getD j 0) 0 (wl k).length
def wck (k : Nat) : Bool := (List.range (wl k).length).all fun j => Nat.ble 97 ((wl k).getD j 0) && Nat.ble ((wl k).getD j 0) 122 && decide ((txl k).getD j 0 = nI ((wl k).getD j 0))
theorem wl_all {k : Nat} (h : 4 ≤ k ∧ k ≤ 14) : (wl k).length = (txl k).length ∧ (wl k).length ≤ 8 ∧ 1 ≤ (wl k).length ∧ ∀ j, j < (wl k).length → (97 ≤ (wl k).getD j 0 ∧ (wl k).getD j 0 ≤ 122) ∧ (txl k).getD j 0 = nI ((wl k).getD j 0) := by
  have h1 : ∀ k, k < 15 → 4 ≤ k → Nat.beq (wl k).length (txl k).length = true ∧ Nat.ble (wl k).length 8 = true ∧ Nat.ble 1 (wl k).length = true ∧ wck k = true := by decide +kernel
  obtain ⟨a, b, c, d⟩ := h1 k (by omega) h.1
  refine ⟨Nat.eq_of_beq_eq_true a, Nat.le_of_ble_eq_true b, Nat.le_of_ble_eq_true c, fun j hj => ?_⟩
  have e := List.all_eq_true.mp d j (List.mem_range.mpr hj)
  rw [Bool.and_eq_true, Bool.and_eq_true, Nat.ble_eq, Nat.ble_eq, decide_eq_true_eq] at e
  exact e
/-- the token is word k -/
def WD (T : Mem) (n s e kd k : Nat) : Prop := kd = 1 ∧ pkw (ch T n) s (e - s) = pkc k
theorem e_wr {s e kd k : Nat} (h : TkR R T n s e kd) (hk : 4 ≤ k ∧ k ≤ 14) : (WD T n s e kd k → sX8_isWord R k = 1) ∧ (¬ WD T n s e kd k → sX8_isWord R k = 0) := by
  obtain ⟨h0, hn, ⟨r3, -⟩, ⟨r4, -⟩, ⟨r2, -⟩, se, en, k4, -, hw, -⟩ := h
  obtain ⟨l1, l2, l3, l4⟩ := wl_all hk
  unfold sX8_isWord WD
  rw [r2, r3, r4, e_sub se, ← l1, show Int32.ofNat (wl k).length = nI (wl k).length from rfl]
  by_cases e1 : kd = 1
  · subst e1
    obtain ⟨w1, w2, -⟩ := hw rfl
    have w3 : ∀ j, j < e - s → 97 ≤ ch T n (s + j) ∧ ch T n (s + j) ≤ 122 := fun j hj => le_t.mp (w2 (s + j) (by omega) (by omega))
    rw [if_pos (show nI 1 = (1 : Int32) from rfl), if_en (by omega) (by omega)]
    by_cases e2 : e - s = (wl k).length
    · rw [if_pos e2]
      have hb : ∀ j, j < (wl k).length → sX8_byteAt R (nI s + Int32.ofNat j) = nI (ch T n (s + j)) := fun j hj => by
        have q := w3 j (by omega)
        rw [show Int32.ofNat j = nI j from rfl, nI_add]
        exact r_di2 h0 hn (by omega) (by omega)
      constructor
      · rintro ⟨-, hp⟩
        obtain ⟨-, hj⟩ := pkw_inj (s := s) (s' := 0) _ _ w3 (fun j hj => by rw [Nat.zero_add]; exact (l4 j hj).1) hp
        rw [if_pos]
        refine List.all_eq_true.mpr fun j hjm => ?_
        have hjl := List.mem_range.mp hjm
        have q := hj j (by omega)
        rw [Nat.zero_add] at q
        exact decide_eq_true (by rw [hb j hjl, (l4 j hjl).2, q])
      · intro hne
        rw [if_neg]
        intro hall
        refine hne ⟨rfl, ?_⟩
        show pkw (ch T n) s (e - s) = pkw (fun j => (wl k).getD j 0) 0 (wl k).length
        rw [e2]
        refine pkw_cg _ fun j hj => ?_
        have q := of_decide_eq_true (List.all_eq_true.mp hall j (List.mem_range.mpr hj))
        have q3 := w3 j (by omega)
        rw [hb j hj, (l4 j hj).2, n_eq (by have := (l4 j hj).1; omega) (by omega)] at q
        rw [Nat.zero_add]
        exact q.symm
    · rw [if_neg e2]
      refine ⟨fun z => ?_, fun _ => rfl⟩
      obtain ⟨q, -⟩ := pkw_inj (s := s) (s' := 0) _ _ w3 (fun j hj => by rw [Nat.zero_add]; exact (l4 j hj).1) z.2
      exact absurd q e2
  · rw [if_neg (show ¬ nI kd = (1 : Int32) by rw [n_lit 1, n_eq (by omega) (by omega)]; exact e1)]
    exact ⟨fun z => absurd z.1 e1, fun _ => rfl⟩
theorem pkc_lt {k : Nat} (hk : 4 ≤ k ∧ k ≤ 14) : pkc k < 2 ^ 40 := by
  have h1 : ∀ k, k < 15 → pkc k < 2 ^ 40 := by decide +kernel
  exact h1 k (by omega)
theorem e_wt {s e kd k : Nat} (h : TkR R T n s e kd) (hk : 4 ≤ k ∧ k ≤ 14) {p : Int64} (hp : p = lN (pkc k)) : (WD T n s e kd k → sX10_isWord T p = 1) ∧ (¬ WD T n s e kd k → sX10_isWord T p = 0) := by
  obtain ⟨-, hn, -, -, ⟨-, t16⟩, se, en, k4, -, hw, -⟩ := h
  unfold sX10_isWord WD
  rw [t16, hp]
  by_cases e1 : kd = 1
  · subst e1
    obtain ⟨w1, w2, w3⟩ := hw rfl
    have q1 := pkw_lt (c := ch T n) (s := s) (e - s) (fun j a b => w2 j a (by omega))
    have q2 : 32 ^ (e - s) ≤ 32 ^ 8 := Nat.pow_le_pow_right (by omega) w1
    have q3 := pkc_lt hk
    rw [if_pos (show nI 1 = (1 : Int32) from rfl), w3, if_iff ((lg_cmp_eq _ _).trans (pk_lEQ (by omega) (by omega)))]
    by_cases e2 : pkw (ch T n) s (e - s) = pkc k
    · rw [if_pos e2]; exact ⟨fun _ => rfl, fun z => absurd ⟨rfl, e2⟩ z⟩
    · rw [if_neg e2]; exact ⟨fun z => absurd z.2 e2, fun _ => rfl⟩
  · rw [if_neg (show ¬ nI kd = (1 : Int32) by rw [n_lit 1, n_eq (by omega) (by omega)]; exact e1)]
    exact ⟨fun z => absurd z.1 e1, fun _ => rfl⟩
theorem WD.ne {s e kd k k' : Nat} (h : WD T n s e kd k) (hk : pkc k ≠ pkc k') : ¬ WD T n s e kd k' := fun h' => hk (h.2.symm.trans h'.2)
/-! the Model is a token ahead -/
def Ahd (R T : Mem) (n p : Nat) : Prop := TxN R T n ∧ n ≤ 1000 ∧ gi R 1 4 0 = nI p ∧ p ≤ n ∧ ∃ T0 T1, gi T0 100 13 0 = nI p ∧ (∀ j, gi T0 11 j 0 = gi T 11 j 0) ∧ gi T0 100 12 0 = nI n ∧ sX10_advance T0 = some T1 ∧ (∀ j, j = 13 ∨ j = 16 ∨ j = 17 → gi T 100 j 0 = gi T1 100 j 0) ∧ gq T 19 0 = gq T1 19 0
theorem TkR.tcg {s e k : Nat} (h : TkR R T n s e k) (h11 : ∀ j, gi T' 11 j 0 = gi T 11 j 0) (h100 : ∀ j, j = 12 ∨ j = 13 ∨ j = 16 ∨ j = 17 → gi T' 100 j 0 = gi T 100 j 0) (h19 : gq T' 19 0 = gq T 19 0) : TkR R T' n s e k := by
  obtain ⟨a, b, ⟨c1, c2⟩, ⟨d1, d2⟩, ⟨e1, e2⟩, f1, f2, f3, f4, f5, f6⟩ := h
  have hc : ch T' n = ch T n := funext fun p => by unfold ch; rw [h11]
  refine ⟨⟨a.1, (h100 12 (by omega)).trans a.2.1, fun j hj => by rw [h11]; exact a.2.2 j hj⟩, b, ⟨c1, (h100 17 (by omega)).trans c2⟩, ⟨d1, (h100 13 (by omega)).trans d2⟩, ⟨e1, (h100 16 (by omega)).trans e2⟩, f1, f2, f3, f4, fun z => ?_, fun z => ?_⟩
  · rw [hc, h19]; exact f5 z
  · rw [h19]; exact f6 z
theorem Ahd.step {p : Nat} (h : Ahd R T n p) : ∃ R1 s e k, sX8_step R = some R1 ∧ TkR R1 T n s e k ∧ p ≤ s ∧ FrR R R1 := by
  obtain ⟨h0, hn, r4, hp, T0, T1, a, b, c, d, e, f⟩ := h
  obtain ⟨R1, T1', s, e', k, g1, g2, g3, g4, g5, g6⟩ := sim_step (R := R) (T := T0) ⟨h0.1, c, fun j hj => by rw [b]; exact h0.2.2 j hj⟩ hn r4 a hp
  rw [d] at g2
  cases g2
  refine ⟨R1, s, e', k, g1, g3.tcg (fun j => ?_) (fun j hj => ?_) f, g4, g5⟩
  · rw [g6.1 11 j 0 (Or.inl (by decide)), b]
  · by_cases q : j = 12
    · subst q; rw [g6.1 100 12 0 (Or.inr (by decide)), c, h0.2.1]
    · exact e j (by omega)
theorem TkR.adv {s e k : Nat} (h : TkR R T n s e k) : ∃ T1, sX10_advance T = some T1 ∧ Ahd R T1 n e ∧ FrA T T1 := by
  obtain ⟨h0, hn, -, ⟨r4, t13⟩, -, -, en, -⟩ := h
  obtain ⟨R1, T1, s', e', k', g1, g2, g3, g4, g5, g6⟩ := sim_step h0 hn r4 t13 en
  exact ⟨T1, g2, ⟨h0.frA g6, hn, r4, en, T, T1, t13, fun j => (g6.1 11 j 0 (Or.inl (by decide))).symm, h0.2.1, g2, fun _ _ => rfl, rfl⟩, g6⟩
theorem Ahd.cg {p : Nat} (h : Ahd R T n p) (r1 : gi R' 1 1 0 = gi R 1 1 0) (r4 : gi R' 1 4 0 = gi R 1 4 0) (r2 : ∀ j, gi R' 2 j 0 = gi R 2 j 0) (h11 : ∀ j, gi T' 11 j 0 = gi T 11 j 0) (h100 : ∀ j, j = 12 ∨ j = 13 ∨ j = 16 ∨ j = 17 → gi T' 100 j 0 = gi T 100 j 0) (h19 : gq T' 19 0 = gq T 19 0) : Ahd R' T' n p := by
  obtain ⟨h0, hn, g4, hp, T0, T1, a, b, c, d, e, f⟩ := h
  exact ⟨⟨r1.trans h0.1, (h100 12 (by omega)).trans h0.2.1, fun j hj => by rw [r2, h11]; exact h0.2.2 j hj⟩, hn, r4.trans g4, hp, T0, T1, a, fun j => (b j).trans (h11 j).symm, c, d, fun j hj => (h100 j (by omega)).trans (e j hj), h19.trans f⟩
/-! numbers -/
def FrS (T T' : Mem) : Prop := (∀ c j i, (c ≠ 100 ∨ (j ≠ 13 ∧ j ≠ 16 ∧ j ≠ 17 ∧ j ≠ 18)) → gi T' c j i = gi T c j i) ∧ ∀ c i, c ≠ 19 → gq T' c i = gq T c i
def FrN (R R' : Mem) (q : Nat) : Prop := ∀ c j i, (c ≠ 3 ∨ j ≠ q) → (c ≠ 1 ∨ j < 2) → gi R' c j i = gi R c j i
theorem FrS.Q (h : FrS T T') : FrQ T T' := ⟨fun j _ => h.1 _ _ _ (Or.inl (by decide)), fun i _ => h.2 _ _ (by decide), fun j _ => h.1 _ _ _ (Or.inl (by decide)), fun j => h.1 _ _ _ (Or.inl (by decide)), fun j => h.1 _ _ _ (Or.inl (by decide)), fun j hj => h.1 _ _ _ (Or.inr (by omega))⟩
theorem FrA.Q (h : FrA T T') : FrQ T T' := ⟨fun j _ => h.1 _ _ _ (Or.inl (by decide)), fun i _ => h.2 _ _ (by decide), fun j _ => h.1 _ _ _ (Or.inl (by decide)), fun j => h.1 _ _ _ (Or.inl (by decide)), fun j => h.1 _ _ _ (Or.inl (by decide)), fun j hj => h.1 _ _ _ (Or.inr (by omega))⟩
/-- an error is told -/
def ErR (R T : Mem) : Prop := gi R 0 4 0 = gi T 100 14 0 ∧ gi R 0 5 0 = gi T 100 15 0
theorem e_fail {s e k : Nat} {c : Int32} (h : TkR R T n s e k) : (sX4_failed R c).1 = 0 ∧ (sX10_fail T c).1 = 0 ∧ ErR (sX4_failed R c).2 (sX10_fail T c).2 ∧ FrQ T (sX10_fail T c).2 := by
  obtain ⟨-, -, ⟨r3, t17⟩, -⟩ := h
  unfold sX4_failed sX10_fail
  simp only [olet_eq]
  refine ⟨True.intro, True.intro, ⟨?_, ?_⟩, (FrQ.set (by omega)).trans (FrQ.set (by omega))⟩
  · rw [gi_ne (by omega), gi_eq2 ⟨rfl, rfl, rfl⟩, gi_ne (by omega), gi_eq2 ⟨rfl, rfl, rfl⟩]
  · rw [gi_eq2 ⟨rfl, rfl, rfl⟩, gi_eq2 ⟨rfl, rfl, rfl⟩, gi_ne (by omega), gi_ne (by omega), r3, t17]
noncomputable def NB (w : Int32) (k q : Nat) (R : Mem) : Option (Int32 × Mem) := itw (sX4_readNumbers_l7_step w) (k, nI q, R)
/-- one number -/
theorem num1 {w : Int32} {k q lo hi p : Nat} (hq : 2 * q + 1 < rn k) (hr : rn k ≤ 14) (h1 : rv k (2 * q) = nI lo) (h2 : rv k (2 * q + 1) = nI hi) (hlo : lo < 1000000000) (hhi : hi < 1000000000) (h : Ahd R T n p) : (∃ R' T', NB w k q R = some (0, R') ∧ sX10_readNumber T (nI lo) (nI hi) = some (0, T') ∧ ErR R' T' ∧ FrQ T T') ∨ ∃ v R' T' e, lo ≤ v ∧ v ≤ hi ∧ p < e ∧ NB w k q R = NB w k (q + 1) R' ∧ sX10_readNumber T (nI lo) (nI hi) = some (1, T') ∧ gi R' 3 q 0 = nI v ∧ gi T' 100 18 0 = nI v ∧ Ahd R' T' n e ∧ FrN R R' q ∧ FrS T T' := by
  obtain ⟨R1, s, e, kd, g1, g2, g3, g4⟩ := h.step
  have hgs : ∀ r, sX4_readNumbers_l7_step w (k, nI q, R) = some (.inr r) → NB w k q R = some r := fun r hr => itw_out hr
  have c1 : ¬ Int32.ofNat (rn k) ≤ (2 : Int32) * nI q + 1 := by
    rw [show Int32.ofNat (rn k) = nI (rn k) from rfl, n_lit 2, pk_mul, n_suc, n_le (by omega) (by omega)]; omega
  have c2 : ¬ (7 : Int32) ≤ nI q := by rw [n_lit 7, n_le (by omega) (by omega)]; omega
  have i1 : inb ((2 : Int32) * nI q) (rn k) = true := by rw [n_lit 2, pk_mul]; exact n_inb (by omega) (by omega)
  have i2 : inb ((2 : Int32) * nI q + 1) (rn k) = true := by rw [n_lit 2, pk_mul, n_suc]; exact n_inb (by omega) (by omega)
  have i3 : ((2 : Int32) * nI q).toNatClampNeg = 2 * q := by rw [n_lit 2, pk_mul, n_cl (by omega)]
  have i4 : ((2 : Int32) * nI q + 1).toNatClampNeg = 2 * q + 1 := by rw [n_lit 2, pk_mul, n_suc, n_cl (by omega)]
  have g2' := g2
  obtain ⟨-, -, -, ⟨r4, t13⟩, ⟨r2, t16⟩, se, en, k4, kse, -, hnum⟩ := g2'
  by_cases e1 : kd = 2
  · subst e1
    obtain ⟨v, v1, v2, v3⟩ := hnum rfl
    have hM : sX10_readNumber T (nI lo) (nI hi) = if lo ≤ v ∧ v ≤ hi then obind (sX10_advance (si T 100 18 0 (nI v))) fun r6 => some (((1 : Int32), r6)) else some ((sX10_fail T 2).1, (sX10_fail T 2).2) := by
      unfold sX10_readNumber
      rw [t16, if_pos (show nI 2 = (2 : Int32) from rfl), e_inR, v3, n_i64 (by omega), n_i64 (by omega), pk_lT (by omega)]
      by_cases c : lo ≤ v ∧ v ≤ hi
      · rw [if_pos c, if_pos (show (lo : Int) ≤ (v : Int) ∧ (v : Int) ≤ (hi : Int) by omega), if_neg one_ne, olet_eq, lN_i]
      · rw [if_neg c, if_neg (show ¬ ((lo : Int) ≤ (v : Int) ∧ (v : Int) ≤ (hi : Int)) by omega), if_pos rfl, olet_eq]
    by_cases c : lo ≤ v ∧ v ≤ hi
    · rw [if_pos c] at hM
      obtain ⟨T1, a1, a2, a3⟩ := (g2.tcg (T' := si T 100 18 0 (nI v)) (fun j => gi_ne (by omega)) (fun j hj => gi_ne (by omega)) rfl).adv
      refine Or.inr ⟨v, si R1 3 q 0 (nI v), T1, e, c.1, c.2, ?_, ?_, ?_, gi_eq2 ⟨rfl, rfl, rfl⟩, ?_, a2.cg (gi_ne (by omega)) (gi_ne (by omega)) (fun j => gi_ne (by omega)) (fun _ => rfl) (fun _ _ => rfl) rfl, fun c j i hc hj => ?_, fun c j i hc => ?_, fun c i hc => ?_⟩
      · have := kse (by omega); omega
      · refine itw_in ?_
        unfold sX4_readNumbers_l7_step
        dsimp only
        rw [if_neg c1, if_neg c2, g1, obind_some, r2, if_pos (show nI 2 = (2 : Int32) from rfl), i1, oif_t rfl, i3, h1, v2, if_lt (by omega) (by omega), if_neg (show ¬ v < lo by omega), i2, oif_t rfl, i4, h2, if_le (by omega) (by omega), if_pos c.2, n_inb (by omega) (by omega), oif_t rfl, n_cl (by omega), olet_eq, n_suc]
      · rw [hM, a1, obind_some]
      · rw [a3.1 100 18 0 (Or.inr (by decide)), gi_eq2 ⟨rfl, rfl, rfl⟩]
      · rw [gi_ne (by omega)]; exact g4 c j i hj
      · rw [a3.1 c j i (by omega), gi_ne (by omega)]
      · exact a3.2 c i hc
    · rw [if_neg c] at hM
      obtain ⟨f1, f2, f3, f4⟩ := e_fail (c := 2) g2
      refine Or.inl ⟨_, _, hgs _ ?_, by rw [hM, f2], f3, f4⟩
      unfold sX4_readNumbers_l7_step
      dsimp only
      rw [if_neg c1, if_neg c2, g1, obind_some, r2, if_pos (show nI 2 = (2 : Int32) from rfl), i1, oif_t rfl, i3, h1, v2, if_lt (by omega) (by omega), olet_eq]
      by_cases c3 : v < lo
      · rw [if_pos c3, f1]; rfl
      · rw [if_neg c3, i2, oif_t rfl, i4, h2, if_le (by omega) (by omega), if_neg (show ¬ v ≤ hi by omega), f1]; rfl
  · obtain ⟨f1, f2, f3, f4⟩ := e_fail (c := 1) g2
    have ne : ¬ nI kd = (2 : Int32) := by rw [n_lit 2, n_eq (by omega) (by omega)]; exact e1
    refine Or.inl ⟨_, _, hgs _ ?_, ?_, f3, f4⟩
    · unfold sX4_readNumbers_l7_step
      dsimp only
      rw [if_neg c1, if_neg c2, g1, obind_some, r2, if_neg ne, olet_eq, f1]; rfl
    · unfold sX10_readNumber
      rw [t16, if_neg ne, olet_eq, f2]
/-- the semicolon -/
theorem end1 {w : Int32} {k q p : Nat} (hq : rn k = 2 * q) (hr : rn k ≤ 14) (h : Ahd R T n p) : (∃ R' T', NB w k q R = some (0, R') ∧ sX10_readEnd T = some (0, T') ∧ ErR R' T' ∧ FrQ T T') ∨ ∃ R' T' e, p < e ∧ NB w k q R = some (1, R') ∧ sX10_readEnd T = some (1, T') ∧ Ahd R' T' n e ∧ FrR R R' ∧ FrA T T' := by
  obtain ⟨R1, s, e, kd, g1, g2, g3, g4⟩ := h.step
  have hN : NB w k q R = sX4_readNumbers_j107 R w → NB w k q R = sX4_readNumbers_j107 R w := id
  have c1 : Int32.ofNat (rn k) ≤ (2 : Int32) * nI q + 1 := by
    rw [show Int32.ofNat (rn k) = nI (rn k) from rfl, n_lit 2, pk_mul, n_suc, n_le (by omega) (by omega)]; omega
  have hgs : ∀ r, sX4_readNumbers_j107 R w = some r → NB w k q R = some r := fun r hr => itw_out (by
    unfold sX4_readNumbers_l7_step
    dsimp only
    rw [if_pos c1, hr]; rfl)
  have g2' := g2
  obtain ⟨-, -, -, ⟨r4, t13⟩, ⟨r2, t16⟩, se, en, k4, kse, -, -⟩ := g2'
  by_cases e1 : kd = 3
  · subst e1
    obtain ⟨T1, a1, a2, a3⟩ := g2.adv
    refine Or.inr ⟨R1, T1, e, ?_, hgs _ ?_, ?_, a2, g4, a3⟩
    · have := kse (by omega); omega
    · unfold sX4_readNumbers_j107
      rw [g1, obind_some, r2, if_pos (show nI 3 = (3 : Int32) from rfl)]
    · unfold sX10_readEnd
      rw [t16, if_pos (show nI 3 = (3 : Int32) from rfl), a1, obind_some]
  · obtain ⟨f1, f2, f3, f4⟩ := e_fail (c := 1) g2
    have ne : ¬ nI kd = (3 : Int32) := by rw [n_lit 3, n_eq (by omega) (by omega)]; exact e1
    refine Or.inl ⟨_, _, hgs _ ?_, ?_, f3, f4⟩
    · unfold sX4_readNumbers_j107
      rw [g1, obind_some, r2, if_neg ne, olet_eq, f1, if_pos rfl]
    · unfold sX10_readEnd
      rw [t16, if_neg ne, olet_eq, f2]
/-- both fail, or both succeed so that G holds -/
def OUT (T0 : Mem) (G : Mem → Mem → Prop) (x y : Option (Int32 × Mem)) : Prop := (∃ R' T', x = some (0, R') ∧ y = some (0, T') ∧ ErR R' T' ∧ FrQ T0 T') ∨ ∃ R' T', x = some (1, R') ∧ y = some (1, T') ∧ G R' T'
/-- q numbers are read: v 0 .. -/
def NS (R0 T0 : Mem) (n cc : Nat) (a lo hi : Nat → Nat) (q p : Nat) (v : Nat → Nat) (R T : Mem) : Prop := Ahd R T n p ∧ FrQ T0 T ∧ (∀ j, j < q → gi R 3 j 0 = nI (v j) ∧ gi T cc (a j) 0 = nI (v j) ∧ lo j ≤ v j ∧ v j ≤ hi j) ∧ (∀ c j i, c ≠ 3 → (c ≠ 1 ∨ j < 2) → gi R c j i = gi R0 c j i) ∧ ∀ c j, (c ≠ 100 ∨ (j ≠ 13 ∧ j ≠ 16 ∧ j ≠ 17 ∧ j ≠ 18)) → (c ≠ cc ∨ ∀ x, x < q → j ≠ a x) → gi T c j 0 = gi T0 c j 0
theorem c_num {R0 T0 : Mem} {G : Mem → Mem → Prop} {w : Int32} {cc k q p : Nat} {a lo hi v : Nat → Nat} {F : Option (Int32 × Mem)} {g : Int32 × Mem → Option (Int32 × Mem)} {K : Int32 × Mem → Option (Int32 × Mem)} (h : NS R0 T0 n cc a lo hi q p v R T) (hF : F = obind (sX10_readNumber T (nI (lo q)) (nI (hi q))) g) (g0 : ∀ T', g (0, T') = some (0, T')) (g1 : ∀ T', FrS T T' → g (1, T') = some (1, si T' cc (a q) 0 (gi T' 100 18 0))) (hcc : (cc = 5 ∧ 129 ≤ a q) ∨ cc = 22) (hinj : ∀ j, j < q → a j ≠ a q) (hq : 2 * q + 1 < rn k) (hr : rn k ≤ 14) (h1 : rv k (2 * q) = nI (lo q)) (h2 : rv k (2 * q + 1) = nI (hi q)) (hlo : lo q < 1000000000) (hhi : hi q < 1000000000) (hK : ∀ R' T' v' p', p < p' → NS R0 T0 n cc a lo hi (q + 1) p' v' R' T' → OUT T0 G (NB w k (q + 1) R') (K (1, T'))) : OUT T0 G (NB w k q R) (obind F fun r => if r.1 = 0 then some (0, r.2) else K r) := by
  obtain ⟨n1, n2, n3, n4, n5⟩ := h
  rcases num1 (w := w) hq hr h1 h2 hlo hhi n1 with ⟨R', T', a1, a2, a3, a4⟩ | ⟨u, R', T', e, u1, u2, pe, a1, a2, a3, a4, a5, a6, a7⟩
  · refine Or.inl ⟨R', T', a1, ?_, a3, n2.trans a4⟩
    rw [hF, a2, obind_some, g0, obind_some, if_pos rfl]
  · have e1 : (obind F fun r => if r.1 = 0 then some (0, r.2) else K r) = K (1, si T' cc (a q) 0 (nI u)) := by
      rw [hF, a2, obind_some, g1 T' a7, obind_some, if_neg one_ne, a4]
    rw [e1, a1]
    refine hK R' (si T' cc (a q) 0 (nI u)) (fun j => if j = q then u else v j) e pe ⟨a5.cg rfl rfl (fun _ => rfl) (fun j => gi_ne (by omega)) (fun j hj => gi_ne (by omega)) rfl, (n2.trans a7.Q).trans (FrQ.set (by omega)), fun j hj => ?_, fun c j i hc hj => ?_, fun c j hc hj => ?_⟩
    · by_cases ej : j = q
      · subst ej
        dsimp only
        rw [if_pos rfl]
        exact ⟨a3, gi_eq2 ⟨rfl, rfl, rfl⟩, u1, u2⟩
      · obtain ⟨b1, b2, b3⟩ := n3 j (by omega)
        have := hinj j (by omega)
        dsimp only
        rw [if_neg ej]
        refine ⟨?_, ?_, b3⟩
        · rw [a6 3 j 0 (Or.inr ej) (Or.inl (by decide))]; exact b1
        · rw [gi_ne (by omega), a7.1 cc (a j) 0 (Or.inl (by omega))]; exact b2
    · rw [a6 c j i (Or.inl hc) hj]; exact n4 c j i hc hj
    · have hne : ¬ (c = cc ∧ j = a q ∧ 0 = 0) := by
        rintro ⟨z1, z2, -⟩
        rcases hj with hj | hj
        · exact hj z1
        · exact hj q (by omega) z2
      rw [gi_si, if_neg hne, a7.1 c j 0 hc]
      refine n5 c j hc ?_
      rcases hj with hj | hj
      · exact Or.inl hj
      · exact Or.inr fun x hx => hj x (by omega)
theorem c_end {R0 T0 : Mem} {G : Mem → Mem → Prop} {w : Int32} {cc k q p : Nat} {a lo hi v : Nat → Nat} {K : Int32 × Mem → Option (Int32 × Mem)} (h : NS R0 T0 n cc a lo hi q p v R T) (hcc : cc = 5 ∨ cc = 22) (hq : rn k = 2 * q) (hr : rn k ≤ 14) (hK : ∀ T', K (1, T') = some (1, T')) (hG : ∀ R' T' p', p < p' → NS R0 T0 n cc a lo hi q p' v R' T' → G R' T') : OUT T0 G (NB w k q R) (obind (sX10_readEnd T) fun r => if r.1 = 0 then some (0, r.2) else K r) := by
  obtain ⟨n1, n2, n3, n4, n5⟩ := h
  rcases end1 (w := w) hq hr n1 with ⟨R', T', a1, a2, a3, a4⟩ | ⟨R', T', e, pe, a1, a2, a3, a4, a5⟩
  · refine Or.inl ⟨R', T', a1, ?_, a3, n2.trans a4⟩
    rw [a2, obind_some, if_pos rfl]
  · refine Or.inr ⟨R', T', a1, ?_, hG R' T' e pe ⟨a3, n2.trans a5.Q, fun j hj => ?_, fun c j i hc hj => ?_, fun c j hc hj => ?_⟩⟩
    · rw [a2, obind_some, if_neg one_ne, hK]
    · obtain ⟨b1, b2, b3⟩ := n3 j hj
      refine ⟨?_, ?_, b3⟩
      · rw [a4 3 j 0 (Or.inl (by decide))]; exact b1
      · rw [a5.1 cc (a j) 0 (Or.inl (by omega))]; exact b2
    · rw [a4 c j i hj]; exact n4 c j i hc hj
    · rw [a5.1 c j 0 (by omega)]; exact n5 c j hc hj
theorem o_if {F : Option (Int32 × Mem)} : (obind F fun r => some (r.1, r.2)) = obind F fun r => if r.1 = 0 then some (0, r.2) else some (r.1, r.2) := by
  cases F with
  | none => rfl
  | some r =>
    show some (r.1, r.2) = if r.1 = 0 then some (0, r.2) else some (r.1, r.2)
    by_cases e : r.1 = 0
    · rw [if_pos e, e]
    · rw [if_neg e]
end WRD
