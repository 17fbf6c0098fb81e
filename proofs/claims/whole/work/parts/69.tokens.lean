/-! ===== TOKENS ===== -/
section TOK
variable {R T R1 T1 R' T' : Mem} {n : Nat}
theorem if_le {α : Type} {a b : Nat} {x y : α} (ha : a < 2147483648) (hb : b < 2147483648) : (if nI a ≤ nI b then x else y) = if a ≤ b then x else y := if_iff (by rw [n_le ha hb])
theorem if_lt {α : Type} {a b : Nat} {x y : α} (ha : a < 2147483648) (hb : b < 2147483648) : (if nI a < nI b then x else y) = if a < b then x else y := if_iff (by rw [n_lt ha hb])
theorem if_en {α : Type} {a b : Nat} {x y : α} (ha : a < 2147483648) (hb : b < 2147483648) : (if nI a = nI b then x else y) = if a = b then x else y := if_iff (by rw [n_eq ha hb])
/-- the character at a place, 256 behind the text -/
def ch (T : Mem) (n p : Nat) : Nat := if p < n then (gi T 11 p 0 &&& 255).toNatClampNeg else 256
def bl (c : Nat) : Bool := c == 32 || c == 10
def le (c : Nat) : Bool := Nat.ble 97 c && Nat.ble c 122
def di (c : Nat) : Bool := Nat.ble 48 c && Nat.ble c 57
/-- a byte as the program has it (c a code below 256) -/
def sgn (c : Nat) : Int32 := if c < 128 then nI c else nI c - 256
theorem x8n (x : Int8) : ∃ c, c < 256 ∧ x.toInt32 = sgn c := by
  have h := x.toInt_lt
  have h2 := x.le_toInt
  have h3 : x.toInt32.toInt = x.toInt := Int8.toInt_toInt32 x
  by_cases e : 0 ≤ x.toInt
  · refine ⟨x.toInt.toNat, by omega, ?_⟩
    unfold sgn
    rw [if_pos (by omega)]
    apply Int32.toInt_inj.mp
    rw [h3, n_int (by omega)]
    omega
  · refine ⟨(x.toInt + 256).toNat, by omega, ?_⟩
    unfold sgn
    rw [if_neg (by omega)]
    apply Int32.toInt_inj.mp
    rw [h3, show (256 : Int32) = nI 256 from rfl, pk_sub_toInt (by omega) (by omega)]
    omega
def sgk (c : Nat) : Bool := decide (sgn c &&& 255 = nI c) && (decide (sgn c = 32) == (c == 32)) && (decide (sgn c = 10) == (c == 10)) && (decide (sgn c = 59) == (c == 59)) && (decide (sgn c < 97) == !(Nat.ble 97 c && Nat.ble c 127)) && (decide ((122 : Int32) < sgn c) == (Nat.ble 123 c && Nat.ble c 127)) && (decide (sgn c < 48) == !(Nat.ble 48 c && Nat.ble c 127)) && (decide ((57 : Int32) < sgn c) == (Nat.ble 58 c && Nat.ble c 127))
theorem sgk_t : ∀ c, c < 256 → sgk c = true := by decide +kernel
theorem sg_all {c : Nat} (h : c < 256) : sgn c &&& 255 = nI c ∧ (sgn c = 32 ↔ c = 32) ∧ (sgn c = 10 ↔ c = 10) ∧ (sgn c = 59 ↔ c = 59) ∧ (sgn c < 97 ↔ ¬ (97 ≤ c ∧ c ≤ 127)) ∧ ((122 : Int32) < sgn c ↔ (123 ≤ c ∧ c ≤ 127)) ∧ (sgn c < 48 ↔ ¬ (48 ≤ c ∧ c ≤ 127)) ∧ ((57 : Int32) < sgn c ↔ (58 ≤ c ∧ c ≤ 127)) := by
  have k := sgk_t c h
  unfold sgk at k
  simp only [Bool.and_eq_true, decide_eq_true_eq, beq_iff_eq] at k
  obtain ⟨⟨⟨⟨⟨⟨⟨k1, k2⟩, k3⟩, k4⟩, k5⟩, k6⟩, k7⟩, k8⟩ := k
  have f : ∀ {p : Prop} [Decidable p] {b : Bool}, decide p = b → (p ↔ b = true) := fun hb => by rw [← hb]; exact decide_eq_true_iff.symm
  refine ⟨k1, (f k2).trans beq_iff_eq, (f k3).trans beq_iff_eq, (f k4).trans beq_iff_eq, (f k5).trans ?_, (f k6).trans ?_, (f k7).trans ?_, (f k8).trans ?_⟩
  · rw [Bool.not_eq_true', ← Bool.not_eq_true, Bool.and_eq_true, Nat.ble_eq, Nat.ble_eq]
  · rw [Bool.and_eq_true, Nat.ble_eq, Nat.ble_eq]
  · rw [Bool.not_eq_true', ← Bool.not_eq_true, Bool.and_eq_true, Nat.ble_eq, Nat.ble_eq]
  · rw [Bool.and_eq_true, Nat.ble_eq, Nat.ble_eq]
theorem le_t {c : Nat} : le c = true ↔ 97 ≤ c ∧ c ≤ 122 := by
  unfold le; rw [Bool.and_eq_true, Nat.ble_eq, Nat.ble_eq]
theorem di_t {c : Nat} : di c = true ↔ 48 ≤ c ∧ c ≤ 57 := by
  unfold di; rw [Bool.and_eq_true, Nat.ble_eq, Nat.ble_eq]
theorem bl_t {c : Nat} : bl c = true ↔ c = 32 ∨ c = 10 := by
  unfold bl; rw [Bool.or_eq_true, beq_iff_eq, beq_iff_eq]
theorem ch_lt (h : TxN R T n) {p : Nat} (hp : p < n) : ch T n p < 256 ∧ gi R 2 p 0 = sgn (ch T n p) ∧ gi T 11 p 0 &&& 255 = nI (ch T n p) := by
  obtain ⟨-, -, h3⟩ := h
  obtain ⟨e, x, hx⟩ := h3 p hp
  obtain ⟨c, hc, hs⟩ := x8n x
  have k := (sg_all hc).1
  have e2 : ch T n p = c := by
    unfold ch
    rw [if_pos hp, ← e, hx, hs, k, n_cl (by omega)]
  rw [e2, ← e, hx, hs]
  exact ⟨hc, rfl, k⟩
theorem ch_256 {p : Nat} (hp : ¬ p < n) : ch T n p = 256 := if_neg hp
theorem ch_le (h : TxN R T n) {p : Nat} : ch T n p ≤ 256 := by
  by_cases e : p < n
  · exact Nat.le_of_lt (ch_lt h e).1
  · rw [ch_256 e]; exact Nat.le_refl _
/-- the program's byte -/
theorem e_byR (h : TxN R T n) (hn : n ≤ 1000) {p : Nat} (hp : p ≤ 1000) : sX8_byteAt R (nI p) = if p < n then sgn (ch T n p) else 0 := by
  unfold sX8_byteAt
  rw [if_neg (n_nn (by omega)), h.1, if_le (by omega) (by omega)]
  by_cases e : n ≤ p
  · rw [if_pos e, if_neg (by omega)]
  · rw [if_neg e, if_neg (by rw [n_lit 1000, n_le (by omega) (by omega)]; omega), n_cl (by omega), if_pos (by omega), (ch_lt h (by omega)).2.1]
def b01 (b : Bool) : Int32 := if b = true then 1 else 0
theorem b01_0 {b : Bool} : b01 b = 0 ↔ b = false := by cases b <;> decide
theorem r_bl (h : TxN R T n) (hn : n ≤ 1000) {p : Nat} (hp : p ≤ 1000) : sX8_isBlank R (sX8_byteAt R (nI p)) = b01 (bl (ch T n p)) := by
  rw [e_byR h hn hp]
  unfold sX8_isBlank b01
  by_cases e : p < n
  · obtain ⟨-, k2, k3, -⟩ := sg_all (ch_lt h e).1
    rw [if_pos e]
    by_cases c1 : ch T n p = 32
    · rw [if_pos (k2.mpr c1), if_pos (bl_t.mpr (Or.inl c1))]
    · rw [if_neg (fun z => c1 (k2.mp z))]
      by_cases c2 : ch T n p = 10
      · rw [if_pos (k3.mpr c2), if_pos (bl_t.mpr (Or.inr c2))]
      · rw [if_neg (fun z => c2 (k3.mp z)), if_neg (fun z => (bl_t.mp z).elim c1 c2)]
  · rw [if_neg e, ch_256 e]; decide
theorem r_le (h : TxN R T n) (hn : n ≤ 1000) {p : Nat} (hp : p ≤ 1000) : sX8_isLetter R (sX8_byteAt R (nI p)) = b01 (le (ch T n p)) := by
  rw [e_byR h hn hp]
  unfold sX8_isLetter b01
  by_cases e : p < n
  · obtain ⟨-, -, -, -, k5, k6, -⟩ := sg_all (ch_lt h e).1
    rw [if_pos e]
    by_cases c1 : sgn (ch T n p) < 97
    · rw [if_pos c1, if_neg (fun z => by have := le_t.mp z; have := k5.mp c1; omega)]
    · rw [if_neg c1]
      have c1' : ¬ ¬ (97 ≤ ch T n p ∧ ch T n p ≤ 127) := fun z => c1 (k5.mpr z)
      by_cases c2 : (122 : Int32) < sgn (ch T n p)
      · rw [if_pos c2, if_neg (fun z => by have := le_t.mp z; have := k6.mp c2; omega)]
      · rw [if_neg c2, if_pos (le_t.mpr (by have c3 : ¬ (123 ≤ ch T n p ∧ ch T n p ≤ 127) := fun z => c2 (k6.mpr z); omega))]
  · rw [if_neg e, ch_256 e]; decide
theorem r_di (h : TxN R T n) (hn : n ≤ 1000) {p : Nat} (hp : p ≤ 1000) : sX8_isDigit R (sX8_byteAt R (nI p)) = b01 (di (ch T n p)) := by
  rw [e_byR h hn hp]
  unfold sX8_isDigit b01
  by_cases e : p < n
  · obtain ⟨-, -, -, -, -, -, k5, k6⟩ := sg_all (ch_lt h e).1
    rw [if_pos e]
    by_cases c1 : sgn (ch T n p) < 48
    · rw [if_pos c1, if_neg (fun z => by have := di_t.mp z; have := k5.mp c1; omega)]
    · rw [if_neg c1]
      have c1' : ¬ ¬ (48 ≤ ch T n p ∧ ch T n p ≤ 127) := fun z => c1 (k5.mpr z)
      by_cases c2 : (57 : Int32) < sgn (ch T n p)
      · rw [if_pos c2, if_neg (fun z => by have := di_t.mp z; have := k6.mp c2; omega)]
      · rw [if_neg c2, if_pos (di_t.mpr (by have c3 : ¬ (58 ≤ ch T n p ∧ ch T n p ≤ 127) := fun z => c2 (k6.mpr z); omega))]
  · rw [if_neg e, ch_256 e]; decide
theorem r_semi (h : TxN R T n) (hn : n ≤ 1000) {p : Nat} (hp : p < n) : (sX8_byteAt R (nI p) = 59) ↔ ch T n p = 59 := by
  rw [e_byR h hn (by omega), if_pos hp]
  exact (sg_all (ch_lt h hp).1).2.2.2.1
theorem r_di2 (h : TxN R T n) (hn : n ≤ 1000) {p : Nat} (hp : p < n) (hd : ch T n p < 128) : sX8_byteAt R (nI p) = nI (ch T n p) := by
  rw [e_byR h hn (by omega), if_pos hp]
  exact if_pos hd
/-- the Model's byte -/
def mch (c : Nat) : Int32 := if c = 256 then -1 else nI c
theorem e_byT (h : TxN R T n) (hT : gi T' 100 12 0 = nI n) (h11 : ∀ j, gi T' 11 j 0 = gi T 11 j 0) (hn : n ≤ 1000) {p : Nat} (hp : p ≤ 1000) : sX10_byteAt T' (nI p) = some (mch (ch T n p)) := by
  unfold sX10_byteAt mch
  rw [hT, if_le (by omega) (by omega)]
  by_cases e : n ≤ p
  · rw [if_pos e, ch_256 (by omega), if_pos rfl]
  · have hp2 : p < n := by omega
    have k := ch_lt h hp2
    rw [if_neg e, n_inb (by omega) (by omega), oif_t rfl, n_cl (by omega), h11, k.2.2, if_neg (by omega)]
theorem mch_eq {c d : Nat} (hc : c ≤ 256) (hd : d < 256) : mch c = nI d ↔ c = d := by
  unfold mch
  by_cases e : c = 256
  · rw [if_pos e]
    constructor
    · intro z; exact absurd z (n_m1' (by omega))
    · intro z; omega
  · rw [if_neg e, n_eq (by omega) (by omega)]
theorem mch_m1 {c : Nat} (hc : c ≤ 256) : mch c = -1 ↔ c = 256 := by
  unfold mch
  by_cases e : c = 256
  · rw [if_pos e]; exact ⟨fun _ => e, fun _ => rfl⟩
  · rw [if_neg e]; exact ⟨fun z => absurd z (n_m1 (by omega)), fun z => absurd z e⟩
theorem mch_i {c : Nat} (hc : c ≤ 256) : (mch c).toInt64.toInt = if c = 256 then -1 else (c : Int) := by
  unfold mch
  by_cases e : c = 256
  · rw [if_pos e, if_pos e]; decide
  · rw [if_neg e, if_neg e, n_i64 (by omega)]
theorem m_le {c : Nat} (hc : c ≤ 256) : sX10_isLetter T (mch c) = b01 (le c) := by
  unfold sX10_isLetter b01
  rw [e_inR, mch_i hc, show (97 : Int64).toInt = 97 by decide, show (122 : Int64).toInt = 122 by decide]
  by_cases e : c = 256
  · subst e; decide
  · rw [if_neg e]
    by_cases c1 : 97 ≤ c ∧ c ≤ 122
    · rw [if_pos (by omega), if_pos (le_t.mpr c1)]
    · rw [if_neg (by omega), if_neg (fun z => c1 (le_t.mp z))]
theorem m_di {c : Nat} (hc : c ≤ 256) : sX10_isDigit T (mch c) = b01 (di c) := by
  unfold sX10_isDigit b01
  rw [e_inR, mch_i hc, show (48 : Int64).toInt = 48 by decide, show (57 : Int64).toInt = 57 by decide]
  by_cases e : c = 256
  · subst e; decide
  · rw [if_neg e]
    by_cases c1 : 48 ≤ c ∧ c ≤ 57
    · rw [if_pos (by omega), if_pos (di_t.mpr c1)]
    · rw [if_neg (by omega), if_neg (fun z => c1 (di_t.mp z))]
/-! words and numbers as numbers -/
def pkw (c : Nat → Nat) (s : Nat) : Nat → Nat
  | 0 => 0
  | l + 1 => pkw c s l * 32 + (c (s + l) - 96)
def nmv (c : Nat → Nat) (s : Nat) : Nat → Nat
  | 0 => 0
  | l + 1 => nmv c s l * 10 + (c (s + l) - 48)
theorem pkw_lt {c : Nat → Nat} {s : Nat} : ∀ l, (∀ j, s ≤ j → j < s + l → le (c j) = true) → pkw c s l < 32 ^ l := by
  intro l
  induction l with
  | zero => intro _; exact Nat.zero_lt_one
  | succ l ih =>
    intro h
    have h1 := ih (fun j a b => h j a (by omega))
    have h2 := le_t.mp (h (s + l) (by omega) (by omega))
    show pkw c s l * 32 + (c (s + l) - 96) < 32 ^ (l + 1)
    rw [Nat.pow_succ]
    omega
theorem nmv_lt {c : Nat → Nat} {s : Nat} : ∀ l, (∀ j, s ≤ j → j < s + l → di (c j) = true) → nmv c s l < 10 ^ l := by
  intro l
  induction l with
  | zero => intro _; exact Nat.zero_lt_one
  | succ l ih =>
    intro h
    have h1 := ih (fun j a b => h j a (by omega))
    have h2 := di_t.mp (h (s + l) (by omega) (by omega))
    show nmv c s l * 10 + (c (s + l) - 48) < 10 ^ (l + 1)
    rw [Nat.pow_succ]
    omega
/-- what a step of the tokens leaves -/
def FrR (R R' : Mem) : Prop := ∀ c j i, (c ≠ 1 ∨ j < 2) → gi R' c j i = gi R c j i
def FrA (T T' : Mem) : Prop := (∀ c j i, (c ≠ 100 ∨ (j ≠ 13 ∧ j ≠ 16 ∧ j ≠ 17)) → gi T' c j i = gi T c j i) ∧ ∀ c i, c ≠ 19 → gq T' c i = gq T c i
theorem FrR.refl : FrR R R := fun _ _ _ _ => rfl
theorem FrR.trans (h : FrR R R1) (h2 : FrR R1 R') : FrR R R' := fun c j i a => (h2 c j i a).trans (h c j i a)
theorem FrR.set {j : Nat} {v : Int32} (hj : 2 ≤ j) : FrR R (si R 1 j 0 v) := fun c k i h => gi_ne (by omega)
theorem FrA.refl : FrA T T := ⟨fun _ _ _ _ => rfl, fun _ _ _ => rfl⟩
theorem FrA.trans (h : FrA T T1) (h2 : FrA T1 T') : FrA T T' := ⟨fun c j i a => (h2.1 c j i a).trans (h.1 c j i a), fun c i a => (h2.2 c i a).trans (h.2 c i a)⟩
theorem FrA.set {j : Nat} {v : Int32} (hj : j = 13 ∨ j = 16 ∨ j = 17) : FrA T (si T 100 j 0 v) := ⟨fun c k i h => gi_ne (by omega), fun _ _ _ => rfl⟩
theorem FrA.setq {v : Int64} : FrA T (sq T 19 0 v) := ⟨fun _ _ _ _ => rfl, fun c i h => by rw [gq_sq, if_neg (fun z => h z.1)]⟩
theorem TxN.frR (h : TxN R T n) (hF : FrR R R') : TxN R' T n := ⟨(hF 1 1 0 (Or.inr (by decide))).trans h.1, h.2.1, fun j hj => by rw [hF 2 j 0 (Or.inl (by decide))]; exact h.2.2 j hj⟩
theorem TxN.frA (h : TxN R T n) (hF : FrA T T') : TxN R T' n := ⟨h.1, (hF.1 100 12 0 (Or.inr (by decide))).trans h.2.1, fun j hj => by rw [hF.1 11 j 0 (Or.inl (by decide))]; exact h.2.2 j hj⟩
theorem ch_fr (hF : FrA T T') {p : Nat} : ch T' n p = ch T n p := by
  unfold ch
  rw [hF.1 11 p 0 (Or.inl (by decide))]
/-- both stand at the same token, from s to e, of kind k -/
def TkR (R T : Mem) (n s e k : Nat) : Prop := TxN R T n ∧ n ≤ 1000 ∧ (gi R 1 3 0 = nI s ∧ gi T 100 17 0 = nI s) ∧ (gi R 1 4 0 = nI e ∧ gi T 100 13 0 = nI e) ∧ (gi R 1 2 0 = nI k ∧ gi T 100 16 0 = nI k) ∧ s ≤ e ∧ e ≤ n ∧ k ≤ 4 ∧ (k ≠ 0 → s < e) ∧ (k = 1 → e - s ≤ 8 ∧ (∀ j, s ≤ j → j < e → le (ch T n j) = true) ∧ gq T 19 0 = lN (pkw (ch T n) s (e - s))) ∧ (k = 2 → ∃ v, v < 1000000000 ∧ gi R 1 5 0 = nI v ∧ gq T 19 0 = lN v)
/-- the Model behind its loop over letters -/
theorem m_l200 {f : Nat} (hk : gi T 100 16 0 = nI f) (h1 : f ≤ 4) (h2 : f ≠ 2) : sX10_advance_l200 T = sX10_advance_j275 T := by
  unfold sX10_advance_l200
  cases h : sX10_advance_j275 T with
  | none =>
    unfold sX10_advance_j275 sX10_advance_j297 at h
    simp only [olet_eq] at h
    split at h
    · split at h
      · cases h
      · split at h
        · split at h <;> cases h
        · cases h
    · split at h
      · split at h <;> cases h
      · cases h
  | some r =>
    refine itw_out ?_
    unfold sX10_advance_l200_step
    rw [hk, if_neg (show ¬ nI f = (2 : Int32) by rw [n_lit 2, n_eq (by omega) (by omega)]; exact h2), h]
    rfl
theorem m_l125 {f : Nat} (hk : gi T 100 16 0 = nI f) (h1 : f ≤ 4) (h2 : f ≠ 1) {r : Mem} (hr : sX10_advance_l200 T = some r) : sX10_advance_l125 T = some r := by
  unfold sX10_advance_l125
  refine itw_out ?_
  unfold sX10_advance_l125_step
  rw [hk, if_neg (show ¬ nI f = (1 : Int32) by rw [n_lit 1, n_eq (by omega) (by omega)]; exact h2), hr]
  rfl
theorem m_j275 {f : Nat} (hk : gi T 100 16 0 = nI f) (h1 : f ≤ 4) (h2 : f ≠ 1) (h3 : f ≠ 2) : sX10_advance_j275 T = some T := by
  unfold sX10_advance_j275 sX10_advance_j297
  rw [hk, if_neg (show ¬ nI f = (1 : Int32) by rw [n_lit 1, n_eq (by omega) (by omega)]; exact h2), if_neg (show ¬ nI f = (2 : Int32) by rw [n_lit 2, n_eq (by omega) (by omega)]; exact h3)]
theorem TxN.of {R0 T0 : Mem} (h : TxN R0 T0 n) (hR : FrR R0 R) (hT : FrA T0 T) : TxN R T n := (h.frR hR).frA hT
theorem e_sub {a b : Nat} (h : b ≤ a) : nI a - nI b = nI (a - b) := pk_sub h
/-- a word -/
theorem sim_word {R0 T0 : Mem} {s : Nat} (h0 : TxN R0 T0 n) (hn : n ≤ 1000) (hR : FrR R0 R) (hT : FrA T0 T) (hs : s < n) (r3 : gi R 1 3 0 = nI s) (r4 : gi R 1 4 0 = nI s) (t17 : gi T 100 17 0 = nI s) (t13 : gi T 100 13 0 = nI s) (t16 : gi T 100 16 0 = nI 1) (t19 : gq T 19 0 = 0) (hle : le (ch T0 n s) = true) : ∃ R1 T1 e k, sX8_readWord R = some R1 ∧ sX10_advance_l125 T = some T1 ∧ TkR R1 T1 n s e k ∧ FrR R0 R1 ∧ FrA T0 T1 := by
  unfold sX8_readWord sX8_readWord_l0 sX10_advance_l125
  obtain ⟨b, b', g1, g2, e, k, g3, g4, g5⟩ := itw_two (f := sX8_readWord_l0_step) (g := sX10_advance_l125_step) (J := fun q a a' => ∃ e, s ≤ e ∧ e ≤ n ∧ q = n - e ∧ FrR R0 a ∧ FrA T0 a' ∧ (gi a 1 3 0 = nI s ∧ gi a 1 4 0 = nI e) ∧ (gi a' 100 17 0 = nI s ∧ gi a' 100 13 0 = nI e ∧ gi a' 100 16 0 = nI 1) ∧ (∀ j, s ≤ j → j < e → le (ch T0 n j) = true) ∧ (e - s ≤ 8 → gq a' 19 0 = lN (pkw (ch T0 n) s (e - s)))) (P := fun b b' => ∃ e k, TkR b b' n s e k ∧ FrR R0 b ∧ FrA T0 b') (fun q a a' => by
    rintro ⟨e, e1, e2, rfl, hR, hT, ⟨r3, r4⟩, ⟨t17, t13, t16⟩, hw, hv⟩
    have h := h0.of hR hT
    have hb := e_byT h0 h.2.1 (fun j => hT.1 11 j 0 (Or.inl (by decide))) hn (show e ≤ 1000 by omega)
    have hch : ch T0 n e ≤ 256 := ch_le h0
    have hcc : ch a' n = ch T0 n := funext fun p => ch_fr hT
    have fin : le (ch T0 n e) = false → ∃ b b', sX8_readWord_j38 a = some b ∧ sX10_advance_l200 a' = some b' ∧ ∃ e k, TkR b b' n s e k ∧ FrR R0 b ∧ FrA T0 b' := fun hf => by
      have hse : s < e := by
        by_cases q : s = e
        · subst q; rw [hle] at hf; cases hf
        · omega
      unfold sX8_readWord_j38
      rw [m_l200 (f := 1) t16 (by omega) (by omega)]
      unfold sX10_advance_j275 sX10_advance_j297
      rw [r4, r3, t13, t17, e_sub e1, t16, if_pos (show nI 1 = (1 : Int32) from rfl), if_neg (show ¬ nI 1 = (2 : Int32) by decide)]
      by_cases c : 8 < e - s
      · have hc : (8 : Int32) < nI (e - s) := by rw [n_lit 8, n_lt (by omega) (by omega)]; exact c
        rw [if_pos hc, if_pos hc, olet_eq, olet_eq]
        have hR' : FrR R0 (si a 1 2 0 4) := hR.trans (FrR.set (by omega))
        have hT' : FrA T0 (si a' 100 16 0 4) := hT.trans (FrA.set (by omega))
        refine ⟨_, _, rfl, rfl, e, 4, ⟨h0.of hR' hT', hn, ⟨?_, ?_⟩, ⟨?_, ?_⟩, ⟨gi_eq2 ⟨rfl, rfl, rfl⟩, gi_eq2 ⟨rfl, rfl, rfl⟩⟩, e1, e2, by omega, fun _ => hse, fun z => by omega, fun z => by omega⟩, hR', hT'⟩
        · rw [gi_ne (by omega)]; exact r3
        · rw [gi_ne (by omega)]; exact t17
        · rw [gi_ne (by omega)]; exact r4
        · rw [gi_ne (by omega)]; exact t13
      · have hc : ¬ (8 : Int32) < nI (e - s) := by rw [n_lit 8, n_lt (by omega) (by omega)]; exact c
        rw [if_neg hc, if_neg hc, olet_eq]
        have hR' : FrR R0 (si a 1 2 0 1) := hR.trans (FrR.set (by omega))
        refine ⟨_, _, rfl, rfl, e, 1, ⟨h0.of hR' hT, hn, ⟨?_, t17⟩, ⟨?_, t13⟩, ⟨gi_eq2 ⟨rfl, rfl, rfl⟩, t16⟩, e1, e2, by omega, fun _ => hse, fun _ => ⟨by omega, ?_, ?_⟩, fun z => by omega⟩, hR', hT⟩
        · rw [gi_ne (by omega)]; exact r3
        · rw [gi_ne (by omega)]; exact r4
        · rw [hcc]; exact hw
        · rw [hcc]; exact hv (by omega)
    unfold sX8_readWord_l0_step sX10_advance_l125_step
    rw [h.1, r4, t13, t16, if_pos (show nI 1 = (1 : Int32) from rfl), hb, obind_some, m_le hch, if_le (by omega) (by omega)]
    by_cases e3 : n ≤ e
    · have hf : le (ch T0 n e) = false := by rw [ch_256 (by omega)]; decide
      obtain ⟨b, b', k1, k2, k3⟩ := fin hf
      rw [if_pos e3, k1, k2, hf, if_pos (show b01 false = 0 from rfl)]
      exact Or.inl ⟨_, _, rfl, rfl, k3⟩
    · rw [if_neg e3, r_le (h0.frR hR) hn (by omega)]
      cases hf : le (ch T0 n e) with
      | false =>
        obtain ⟨b, b', k1, k2, k3⟩ := fin hf
        rw [k1, k2, if_pos (show b01 false = 0 from rfl), if_pos (show b01 false = 0 from rfl)]
        exact Or.inl ⟨_, _, rfl, rfl, k3⟩
      | true =>
        have hl := le_t.mp hf
        rw [if_neg (show ¬ b01 true = 0 from one_ne), if_neg (show ¬ b01 true = 0 from one_ne), olet_eq, t17, e_sub e1, n_suc]
        have hw' : ∀ j, s ≤ j → j < e + 1 → le (ch T0 n j) = true := fun j a b => by
          by_cases q : j = e
          · subst q; exact hf
          · exact hw j a (by omega)
        by_cases c : 8 ≤ e - s
        · have hc : (8 : Int32) ≤ nI (e - s) := by rw [n_lit 8, n_le (by omega) (by omega)]; exact c
          rw [if_pos hc]
          unfold sX10_advance_j187
          rw [olet_eq, t13, n_suc]
          refine Or.inr ⟨_, _, n - (e + 1), by omega, rfl, rfl, e + 1, by omega, by omega, rfl, hR.trans (FrR.set (by omega)), hT.trans (FrA.set (by omega)), ⟨?_, gi_eq2 ⟨rfl, rfl, rfl⟩⟩, ⟨?_, gi_eq2 ⟨rfl, rfl, rfl⟩, ?_⟩, hw', fun z => by omega⟩
          · rw [gi_ne (by omega)]; exact r3
          · rw [gi_ne (by omega)]; exact t17
          · rw [gi_ne (by omega)]; exact t16
        · have hc : ¬ (8 : Int32) ≤ nI (e - s) := by rw [n_lit 8, n_le (by omega) (by omega)]; exact c
          rw [if_neg hc, obind_some, olet_eq]
          unfold sX10_advance_j187
          rw [olet_eq]
          have hm : mch (ch T0 n e) = nI (ch T0 n e) := if_neg (by omega)
          refine Or.inr ⟨_, _, n - (e + 1), by omega, rfl, rfl, e + 1, by omega, by omega, rfl, hR.trans (FrR.set (by omega)), (hT.trans FrA.setq).trans (FrA.set (by omega)), ⟨?_, gi_eq2 ⟨rfl, rfl, rfl⟩⟩, ⟨?_, ?_, ?_⟩, hw', fun z => ?_⟩
          · rw [gi_ne (by omega)]; exact r3
          · rw [gi_ne (by omega)]; exact t17
          · rw [gi_eq2 ⟨rfl, rfl, rfl⟩, show gi (sq a' 19 0 _) 100 13 0 = gi a' 100 13 0 from rfl, t13, n_suc]
          · rw [gi_ne (by omega)]; exact t16
          · rw [show ∀ (X : Mem) (v : Int32), gq (si X 100 13 0 v) 19 0 = gq X 19 0 from fun _ _ => rfl, gq_sq, if_pos ⟨rfl, rfl⟩, hv (by omega), hm, nI_l (by omega), show e + 1 - s = e - s + 1 by omega]
            show lN (pkw (ch T0 n) s (e - s)) * lN 32 + lN (ch T0 n e) - lN 96 = lN (pkw (ch T0 n) s (e - s) * 32 + (ch T0 n (s + (e - s)) - 96))
            rw [lN_mul, lN_add, lN_sub (by omega), show s + (e - s) = e by omega]
            congr 1
            omega) (k := n - s) (a := R) (a' := T) ⟨s, Nat.le_refl _, by omega, rfl, hR, hT, ⟨r3, r4⟩, ⟨t17, t13, t16⟩, fun j a b => by omega, fun _ => by rw [t19, Nat.sub_self]; rfl⟩
  exact ⟨b, b', e, k, g1, g2, g3, g4, g5⟩
/-- a number -/
theorem sim_num {R0 T0 : Mem} {s : Nat} (h0 : TxN R0 T0 n) (hn : n ≤ 1000) (hR : FrR R0 R) (hT : FrA T0 T) (hs : s < n) (r3 : gi R 1 3 0 = nI s) (r4 : gi R 1 4 0 = nI s) (t17 : gi T 100 17 0 = nI s) (t13 : gi T 100 13 0 = nI s) (t16 : gi T 100 16 0 = nI 2) (t19 : gq T 19 0 = 0) (hle : di (ch T0 n s) = true) : ∃ R1 T1 e k, sX8_readNumber R = some R1 ∧ sX10_advance_l125 T = some T1 ∧ TkR R1 T1 n s e k ∧ FrR R0 R1 ∧ FrA T0 T1 := by
  unfold sX8_readNumber sX8_readNumber_l5
  rw [olet_eq]
  obtain ⟨b, b', g1, g2, e, k, g3, g4, g5⟩ := itw_two (f := sX8_readNumber_l5_step) (g := sX10_advance_l200_step) (J := fun q a a' => ∃ e, s ≤ e ∧ e ≤ n ∧ q = n - e ∧ FrR R0 a ∧ FrA T0 a' ∧ (gi a 1 3 0 = nI s ∧ gi a 1 4 0 = nI e) ∧ (gi a' 100 17 0 = nI s ∧ gi a' 100 13 0 = nI e ∧ gi a' 100 16 0 = nI 2) ∧ (∀ j, s ≤ j → j < e → di (ch T0 n j) = true) ∧ (e - s ≤ 9 → gi a 1 5 0 = nI (nmv (ch T0 n) s (e - s)) ∧ gq a' 19 0 = lN (nmv (ch T0 n) s (e - s)))) (P := fun b b' => ∃ e k, TkR b b' n s e k ∧ FrR R0 b ∧ FrA T0 b') (fun q a a' => by
    rintro ⟨e, e1, e2, rfl, hR, hT, ⟨r3, r4⟩, ⟨t17, t13, t16⟩, hw, hv⟩
    have h := h0.of hR hT
    have hb := e_byT h0 h.2.1 (fun j => hT.1 11 j 0 (Or.inl (by decide))) hn (show e ≤ 1000 by omega)
    have hch : ch T0 n e ≤ 256 := ch_le h0
    have fin : di (ch T0 n e) = false → ∃ b b', sX8_readNumber_j66 a = some b ∧ sX10_advance_j275 a' = some b' ∧ ∃ e k, TkR b b' n s e k ∧ FrR R0 b ∧ FrA T0 b' := fun hf => by
      have hse : s < e := by
        by_cases q : s = e
        · subst q; rw [hle] at hf; cases hf
        · omega
      unfold sX8_readNumber_j66 sX10_advance_j275 sX10_advance_j297
      rw [r4, r3, t13, t17, e_sub e1, t16, if_neg (show ¬ nI 2 = (1 : Int32) by decide), if_pos (show nI 2 = (2 : Int32) from rfl)]
      by_cases c : 9 < e - s
      · have hc : (9 : Int32) < nI (e - s) := by rw [n_lit 9, n_lt (by omega) (by omega)]; exact c
        rw [if_pos hc, if_neg (Int32.not_le.mpr hc), olet_eq, olet_eq]
        have hR' : FrR R0 (si a 1 2 0 4) := hR.trans (FrR.set (by omega))
        have hT' : FrA T0 (si a' 100 16 0 4) := hT.trans (FrA.set (by omega))
        refine ⟨_, _, rfl, rfl, e, 4, ⟨h0.of hR' hT', hn, ⟨?_, ?_⟩, ⟨?_, ?_⟩, ⟨gi_eq2 ⟨rfl, rfl, rfl⟩, gi_eq2 ⟨rfl, rfl, rfl⟩⟩, e1, e2, by omega, fun _ => hse, fun z => by omega, fun z => by omega⟩, hR', hT'⟩
        · rw [gi_ne (by omega)]; exact r3
        · rw [gi_ne (by omega)]; exact t17
        · rw [gi_ne (by omega)]; exact r4
        · rw [gi_ne (by omega)]; exact t13
      · have hc : ¬ (9 : Int32) < nI (e - s) := by rw [n_lit 9, n_lt (by omega) (by omega)]; exact c
        rw [if_neg hc, if_pos (Int32.not_lt.mp hc), olet_eq]
        have hR' : FrR R0 (si a 1 2 0 2) := hR.trans (FrR.set (by omega))
        obtain ⟨v1, v2⟩ := hv (by omega)
        refine ⟨_, _, rfl, rfl, e, 2, ⟨h0.of hR' hT, hn, ⟨?_, t17⟩, ⟨?_, t13⟩, ⟨gi_eq2 ⟨rfl, rfl, rfl⟩, t16⟩, e1, e2, by omega, fun _ => hse, fun z => by omega, fun _ => ⟨_, ?_, ?_, v2⟩⟩, hR', hT⟩
        · rw [gi_ne (by omega)]; exact r3
        · rw [gi_ne (by omega)]; exact r4
        · have q1 := nmv_lt (c := ch T0 n) (s := s) (e - s) (fun j a b => hw j a (by omega))
          have q2 : 10 ^ (e - s) ≤ 10 ^ 9 := Nat.pow_le_pow_right (by omega) (by omega)
          omega
        · rw [gi_ne (by omega)]; exact v1
    unfold sX8_readNumber_l5_step sX10_advance_l200_step
    rw [h.1, r4, t13, t16, if_pos (show nI 2 = (2 : Int32) from rfl), hb, obind_some, m_di hch, if_le (by omega) (by omega)]
    by_cases e3 : n ≤ e
    · have hf : di (ch T0 n e) = false := by rw [ch_256 (by omega)]; decide
      obtain ⟨b, b', k1, k2, k3⟩ := fin hf
      rw [if_pos e3, k1, k2, hf, if_pos (show b01 false = 0 from rfl)]
      exact Or.inl ⟨_, _, rfl, rfl, k3⟩
    · rw [if_neg e3, r_di (h0.frR hR) hn (by omega)]
      cases hf : di (ch T0 n e) with
      | false =>
        obtain ⟨b, b', k1, k2, k3⟩ := fin hf
        rw [k1, k2, if_pos (show b01 false = 0 from rfl), if_pos (show b01 false = 0 from rfl)]
        exact Or.inl ⟨_, _, rfl, rfl, k3⟩
      | true =>
        have hl := di_t.mp hf
        rw [if_neg (show ¬ b01 true = 0 from one_ne), if_neg (show ¬ b01 true = 0 from one_ne), t17, e_sub e1]
        simp only [olet_eq]
        have hw' : ∀ j, s ≤ j → j < e + 1 → di (ch T0 n j) = true := fun j a b => by
          by_cases q : j = e
          · subst q; exact hf
          · exact hw j a (by omega)
        have q5 : ∀ (v : Int32), gi (si a 1 5 0 v) 1 4 0 + 1 = nI (e + 1) := fun v => by rw [gi_ne (by omega), r4, n_suc]
        rw [q5]
        by_cases c : 9 ≤ e - s
        · have hc : (9 : Int32) ≤ nI (e - s) := by rw [n_lit 9, n_le (by omega) (by omega)]; exact c
          rw [if_pos hc]
          unfold sX10_advance_j262
          rw [olet_eq, t13, n_suc]
          refine Or.inr ⟨_, _, n - (e + 1), by omega, rfl, rfl, e + 1, by omega, by omega, rfl, (hR.trans (FrR.set (by omega))).trans (FrR.set (by omega)), hT.trans (FrA.set (by omega)), ⟨?_, gi_eq2 ⟨rfl, rfl, rfl⟩⟩, ⟨?_, gi_eq2 ⟨rfl, rfl, rfl⟩, ?_⟩, hw', fun z => by omega⟩
          · rw [gi_ne (by omega), gi_ne (by omega)]; exact r3
          · rw [gi_ne (by omega)]; exact t17
          · rw [gi_ne (by omega)]; exact t16
        · have hc : ¬ (9 : Int32) ≤ nI (e - s) := by rw [n_lit 9, n_le (by omega) (by omega)]; exact c
          rw [if_neg hc]
          unfold sX10_advance_j262
          rw [obind_some, olet_eq]
          have hm : mch (ch T0 n e) = nI (ch T0 n e) := if_neg (by omega)
          obtain ⟨v1, v2⟩ := hv (by omega)
          have hN : nmv (ch T0 n) s (e + 1 - s) = nmv (ch T0 n) s (e - s) * 10 + (ch T0 n e - 48) := by
            rw [show e + 1 - s = e - s + 1 by omega]
            show nmv (ch T0 n) s (e - s) * 10 + (ch T0 n (s + (e - s)) - 48) = _
            rw [show s + (e - s) = e by omega]
          refine Or.inr ⟨_, _, n - (e + 1), by omega, rfl, rfl, e + 1, by omega, by omega, rfl, (hR.trans (FrR.set (by omega))).trans (FrR.set (by omega)), (hT.trans FrA.setq).trans (FrA.set (by omega)), ⟨?_, gi_eq2 ⟨rfl, rfl, rfl⟩⟩, ⟨?_, ?_, ?_⟩, hw', fun z => ⟨?_, ?_⟩⟩
          · rw [gi_ne (by omega), gi_ne (by omega)]; exact r3
          · rw [gi_ne (by omega)]; exact t17
          · rw [gi_eq2 ⟨rfl, rfl, rfl⟩, show gi (sq a' 19 0 _) 100 13 0 = gi a' 100 13 0 from rfl, t13, n_suc]
          · rw [gi_ne (by omega)]; exact t16
          · rw [gi_ne (by omega), gi_eq2 ⟨rfl, rfl, rfl⟩, v1, r_di2 (h0.frR hR) hn (by omega) (by omega), n_lit 10, pk_mul, nI_add, n_lit 48, e_sub (by omega), hN]
            congr 1
            omega
          · rw [show ∀ (X : Mem) (v : Int32), gq (si X 100 13 0 v) 19 0 = gq X 19 0 from fun _ _ => rfl, gq_sq, if_pos ⟨rfl, rfl⟩, v2, hm, nI_l (by omega), hN]
            show lN (nmv (ch T0 n) s (e - s)) * lN 10 + lN (ch T0 n e) - lN 48 = _
            rw [lN_mul, lN_add, lN_sub (by omega)]
            congr 1
            omega) (k := n - s) (a := si R 1 5 0 0) (a' := T) ⟨s, Nat.le_refl _, by omega, rfl, hR.trans (FrR.set (by omega)), hT, ⟨(gi_ne (by omega)).trans r3, (gi_ne (by omega)).trans r4⟩, ⟨t17, t13, t16⟩, fun j a b => by omega, fun _ => ⟨by rw [gi_eq2 ⟨rfl, rfl, rfl⟩, Nat.sub_self]; rfl, by rw [t19, Nat.sub_self]; rfl⟩⟩
  exact ⟨b, b', e, k, g1, m_l125 (f := 2) t16 (by omega) (by omega) g2, g3, g4, g5⟩
/-- a step of the tokens on both sides -/
theorem sim_step {p : Nat} (h0 : TxN R T n) (hn : n ≤ 1000) (r4 : gi R 1 4 0 = nI p) (t13 : gi T 100 13 0 = nI p) (hp : p ≤ n) : ∃ R1 T1 s e k, sX8_step R = some R1 ∧ sX10_advance T = some T1 ∧ TkR R1 T1 n s e k ∧ p ≤ s ∧ FrR R R1 ∧ FrA T T1 := by
  unfold sX8_step sX8_step_l0 sX10_advance sX10_advance_l0
  obtain ⟨b, b', g1, g2, s, e, k, g3, g4, g5, g6⟩ := itw_two (f := sX8_step_l0_step) (g := sX10_advance_l0_step) (J := fun q a a' => ∃ s, p ≤ s ∧ s ≤ n ∧ q = n - s ∧ FrR R a ∧ FrA T a' ∧ gi a 1 4 0 = nI s ∧ gi a' 100 13 0 = nI s) (P := fun b b' => ∃ s e k, TkR b b' n s e k ∧ p ≤ s ∧ FrR R b ∧ FrA T b') (fun q a a' => by
    rintro ⟨s, s1, s2, rfl, hR, hT, r4, t13⟩
    have h := h0.of hR hT
    have hch : ch T n s ≤ 256 := ch_le h0
    have hb := e_byT h0 h.2.1 (fun j => hT.1 11 j 0 (Or.inl (by decide))) hn (show s ≤ 1000 by omega)
    have hm32 : mch (ch T n s) = (32 : Int32) ↔ ch T n s = 32 := mch_eq (d := 32) hch (by omega)
    have hm10 : mch (ch T n s) = (10 : Int32) ↔ ch T n s = 10 := mch_eq (d := 10) hch (by omega)
    have fin : bl (ch T n s) = false → ∃ b b', sX8_step_j38 a = some b ∧ sX10_advance_l0_step a' = some (.inr b') ∧ ∃ s e k, TkR b b' n s e k ∧ p ≤ s ∧ FrR R b ∧ FrA T b' := fun hf => by
      have hR1 : FrR R (si a 1 3 0 (nI s)) := hR.trans (FrR.set (by omega))
      have hT1 : FrA T (sq (si a' 100 17 0 (nI s)) 19 0 0) := (hT.trans (FrA.set (by omega))).trans FrA.setq
      have hb1 := e_byT (T' := sq (si a' 100 17 0 (nI s)) 19 0 0) h0 (h0.of hR1 hT1).2.1 (fun j => hT1.1 11 j 0 (Or.inl (by decide))) hn (show s ≤ 1000 by omega)
      have c32 : ¬ ch T n s = 32 := fun z => by rw [bl_t.mpr (Or.inl z)] at hf; cases hf
      have c10 : ¬ ch T n s = 10 := fun z => by rw [bl_t.mpr (Or.inr z)] at hf; cases hf
      have a13 : gi (si a 1 3 0 (nI s)) 1 3 0 = nI s := gi_eq2 ⟨rfl, rfl, rfl⟩
      have a11 : gi (si a 1 3 0 (nI s)) 1 1 0 = nI n := (h0.frR hR1).1
      have a14 : gi (si a 1 3 0 (nI s)) 1 4 0 = nI s := (gi_ne (by omega)).trans r4
      have b17 : gi (sq (si a' 100 17 0 (nI s)) 19 0 0) 100 17 0 = nI s := by rw [gi_sq]; exact gi_eq2 ⟨rfl, rfl, rfl⟩
      have b13 : gi (sq (si a' 100 17 0 (nI s)) 19 0 0) 100 13 0 = nI s := by rw [gi_sq, gi_ne (by omega)]; exact t13
      have b19 : gq (sq (si a' 100 17 0 (nI s)) 19 0 0) 19 0 = 0 := by rw [gq_sq, if_pos ⟨rfl, rfl⟩]
      have hTail : ∀ b' : Mem, (if mch (ch T n s) = -1 then sX10_advance_j104 (sq (si a' 100 17 0 (nI s)) 19 0 0) 0 else if b01 (le (ch T n s)) = 0 then if b01 (di (ch T n s)) = 0 then if mch (ch T n s) = 59 then sX10_advance_j104 (sq (si a' 100 17 0 (nI s)) 19 0 0) 3 else sX10_advance_j104 (sq (si a' 100 17 0 (nI s)) 19 0 0) 4 else sX10_advance_j104 (sq (si a' 100 17 0 (nI s)) 19 0 0) 2 else sX10_advance_j104 (sq (si a' 100 17 0 (nI s)) 19 0 0) 1) = some b' → sX10_advance_l0_step a' = some (.inr b') := fun b' hx => by
        unfold sX10_advance_l0_step
        rw [t13, hb, obind_some, if_neg (fun z => c32 (hm32.mp z)), obind_some, if_neg (fun z => c10 (hm10.mp z))]
        simp only [olet_eq]
        rw [b17, hb1, obind_some, m_le hch, m_di hch, hx]
        rfl
      unfold sX8_step_j38
      rw [olet_eq, r4, a13, a11, if_lt (by omega) (by omega)]
      generalize hTT : sq (si a' 100 17 0 (nI s)) 19 0 0 = T9 at hT1 hb1 b17 b13 b19 hTail
      generalize hRR : si a 1 3 0 (nI s) = R9 at hR1 a13 a11 a14 ⊢
      by_cases e : s < n
      · have hc := ch_lt h0 e
        have m1 : ¬ mch (ch T n s) = -1 := fun z => by have := (mch_m1 hch).mp z; omega
        rw [if_pos e, r_le (h0.frR hR1) hn (by omega), r_di (h0.frR hR1) hn (by omega)]
        rw [if_neg m1] at hTail
        cases hl : le (ch T n s) with
        | true =>
          rw [hl, if_neg (show ¬ b01 true = 0 from one_ne)] at hTail
          have hT2 : FrA T (si T9 100 16 0 1) := hT1.trans (FrA.set (by omega))
          obtain ⟨R2, T2, e', k, w1, w2, w3, w4, w5⟩ := sim_word (R := R9) (T := si T9 100 16 0 1) h0 hn hR1 hT2 e a13 a14 ((gi_ne (by omega)).trans b17) ((gi_ne (by omega)).trans b13) (gi_eq2 ⟨rfl, rfl, rfl⟩) b19 hl
          rw [if_neg (show ¬ b01 true = 0 from one_ne), w1, obind_some]
          refine ⟨R2, T2, rfl, hTail T2 ?_, s, e', k, w3, s1, w4, w5⟩
          unfold sX10_advance_j104
          rw [olet_eq, show gi (si T9 100 16 0 1) 100 16 0 = (1 : Int32) from gi_eq2 ⟨rfl, rfl, rfl⟩, if_pos (by decide), w2]
        | false =>
          rw [hl, if_pos (show b01 false = 0 from rfl)] at hTail
          rw [if_pos (show b01 false = 0 from rfl)]
          cases hd : di (ch T n s) with
          | true =>
            rw [hd, if_neg (show ¬ b01 true = 0 from one_ne)] at hTail
            have hT2 : FrA T (si T9 100 16 0 2) := hT1.trans (FrA.set (by omega))
            obtain ⟨R2, T2, e', k, w1, w2, w3, w4, w5⟩ := sim_num (R := R9) (T := si T9 100 16 0 2) h0 hn hR1 hT2 e a13 a14 ((gi_ne (by omega)).trans b17) ((gi_ne (by omega)).trans b13) (gi_eq2 ⟨rfl, rfl, rfl⟩) b19 hd
            rw [if_neg (show ¬ b01 true = 0 from one_ne), w1, obind_some]
            refine ⟨R2, T2, rfl, hTail T2 ?_, s, e', k, w3, s1, w4, w5⟩
            unfold sX10_advance_j104
            rw [olet_eq, show gi (si T9 100 16 0 2) 100 16 0 = (2 : Int32) from gi_eq2 ⟨rfl, rfl, rfl⟩, if_pos (by decide), w2]
          | false =>
            rw [hd, if_pos (show b01 false = 0 from rfl)] at hTail
            rw [if_pos (show b01 false = 0 from rfl), if_iff (r_semi (h0.frR hR1) hn e)]
            rw [if_iff (show mch (ch T n s) = (59 : Int32) ↔ ch T n s = 59 from mch_eq (d := 59) hch (by omega))] at hTail
            have key : ∀ k, 3 ≤ k → k ≤ 4 → ∃ b b', sX8_step_j126 R9 (nI k) = some b ∧ sX10_advance_j104 T9 (nI k) = some b' ∧ ∃ s e k, TkR b b' n s e k ∧ p ≤ s ∧ FrR R b ∧ FrA T b' := fun k k3 k4 => by
              have hR2 : FrR R (si (si R9 1 2 0 (nI k)) 1 4 0 (nI (s + 1))) := (hR1.trans (FrR.set (by omega))).trans (FrR.set (by omega))
              have hT2 : FrA T (si (si T9 100 16 0 (nI k)) 100 13 0 (nI (s + 1))) := (hT1.trans (FrA.set (by omega))).trans (FrA.set (by omega))
              have c16 : gi (si (si T9 100 16 0 (nI k)) 100 13 0 (nI (s + 1))) 100 16 0 = nI k := (gi_ne (by omega)).trans (gi_eq2 ⟨rfl, rfl, rfl⟩)
              refine ⟨_, _, ?_, ?_, s, s + 1, k, ⟨h0.of hR2 hT2, hn, ⟨?_, ?_⟩, ⟨gi_eq2 ⟨rfl, rfl, rfl⟩, gi_eq2 ⟨rfl, rfl, rfl⟩⟩, ⟨?_, c16⟩, by omega, by omega, by omega, fun _ => by omega, fun z => by omega, fun z => by omega⟩, s1, hR2, hT2⟩
              · unfold sX8_step_j126
                rw [olet_eq, olet_eq, gi_ne (by omega), a14, n_suc]
              · unfold sX10_advance_j104
                rw [olet_eq, show gi (si T9 100 16 0 (nI k)) 100 16 0 = nI k from gi_eq2 ⟨rfl, rfl, rfl⟩, if_neg (by rw [n_lit 2, n_le (by omega) (by omega)]; omega), olet_eq, gi_ne (by omega), b13, n_suc]
                exact m_l125 c16 (by omega) (by omega) ((m_l200 c16 (by omega) (by omega)).trans (m_j275 c16 (by omega) (by omega) (by omega)))
              · rw [gi_ne (by omega), gi_ne (by omega)]; exact a13
              · rw [gi_ne (by omega), gi_ne (by omega)]; exact b17
              · rw [gi_ne (by omega), gi_eq2 ⟨rfl, rfl, rfl⟩]
            by_cases c59 : ch T n s = 59
            · rw [if_pos c59] at hTail
              rw [if_pos c59]
              obtain ⟨b, b', k1, k2, k3⟩ := key 3 (by omega) (by omega)
              exact ⟨b, b', k1, hTail b' k2, k3⟩
            · rw [if_neg c59] at hTail
              rw [if_neg c59]
              obtain ⟨b, b', k1, k2, k3⟩ := key 4 (by omega) (by omega)
              exact ⟨b, b', k1, hTail b' k2, k3⟩
      · have c256 : ch T n s = 256 := ch_256 e
        rw [if_neg e, olet_eq]
        rw [c256, if_pos (show mch 256 = -1 from rfl)] at hTail
        have hR2 : FrR R (si R9 1 2 0 0) := hR1.trans (FrR.set (by omega))
        have hT2 : FrA T (si T9 100 16 0 0) := hT1.trans (FrA.set (by omega))
        have c16 : gi (si T9 100 16 0 0) 100 16 0 = nI 0 := gi_eq2 ⟨rfl, rfl, rfl⟩
        refine ⟨_, si T9 100 16 0 0, rfl, hTail _ ?_, s, s, 0, ⟨h0.of hR2 hT2, hn, ⟨?_, ?_⟩, ⟨?_, ?_⟩, ⟨gi_eq2 ⟨rfl, rfl, rfl⟩, c16⟩, by omega, by omega, by omega, fun z => absurd rfl z, fun z => by omega, fun z => by omega⟩, s1, hR2, hT2⟩
        · unfold sX10_advance_j104
          rw [olet_eq, show gi (si T9 100 16 0 0) 100 16 0 = (0 : Int32) from c16, if_pos (by decide)]
          exact m_l125 c16 (by omega) (by omega) ((m_l200 c16 (by omega) (by omega)).trans (m_j275 c16 (by omega) (by omega) (by omega)))
        · rw [gi_ne (by omega)]; exact a13
        · rw [gi_ne (by omega)]; exact b17
        · rw [gi_ne (by omega)]; exact a14
        · rw [gi_ne (by omega)]; exact b13
    by_cases e3 : n ≤ s
    · have hf : bl (ch T n s) = false := by rw [ch_256 (by omega)]; decide
      obtain ⟨b, b', k1, k2, k3⟩ := fin hf
      refine Or.inl ⟨b, b', ?_, k2, k3⟩
      unfold sX8_step_l0_step
      rw [h.1, r4, if_le (by omega) (by omega), if_pos e3, k1]
      rfl
    · cases hf : bl (ch T n s) with
      | false =>
        obtain ⟨b, b', k1, k2, k3⟩ := fin hf
        refine Or.inl ⟨b, b', ?_, k2, k3⟩
        unfold sX8_step_l0_step
        rw [h.1, r4, if_le (by omega) (by omega), if_neg e3, r_bl (h0.frR hR) hn (by omega), hf, if_pos (show b01 false = 0 from rfl), k1]
        rfl
      | true =>
        refine Or.inr ⟨si a 1 4 0 (nI (s + 1)), si a' 100 13 0 (nI (s + 1)), n - (s + 1), by omega, ?_, ?_, s + 1, by omega, by omega, rfl, hR.trans (FrR.set (by omega)), hT.trans (FrA.set (by omega)), gi_eq2 ⟨rfl, rfl, rfl⟩, gi_eq2 ⟨rfl, rfl, rfl⟩⟩
        · unfold sX8_step_l0_step
          rw [h.1, r4, if_le (by omega) (by omega), if_neg e3, r_bl (h0.frR hR) hn (by omega), hf, if_neg (show ¬ b01 true = 0 from one_ne), olet_eq, n_suc]
        · unfold sX10_advance_l0_step
          rw [t13, hb, obind_some]
          by_cases c1 : ch T n s = 32
          · rw [if_pos (hm32.mpr c1)]
            unfold sX10_advance_j26
            rw [olet_eq, t13, n_suc]
          · rw [if_neg (fun z => c1 (hm32.mp z)), obind_some, if_pos (hm10.mpr ((bl_t.mp hf).resolve_left c1))]
            unfold sX10_advance_j26
            rw [olet_eq, t13, n_suc]) (k := n - p) (a := R) (a' := T) ⟨p, Nat.le_refl _, hp, rfl, FrR.refl, FrA.refl, r4, t13⟩
  exact ⟨b, b', s, e, k, g1, g2, g3, g4, g5, g6⟩
end TOK
