/-! ===== WHAT STANDS BETWEEN TWO CALLS ===== -/
def HiR (X : Mem) (P : Rows) (W : Nat → Mem) (T : Mem) (np nr ni : Nat) : Prop := ∃ e k f, e < 10 ∧ k ≤ 10 ∧ f < 10 ∧ gi X 1 1 0 = nI e ∧ gi X 1 2 0 = nI k ∧ gi T 100 3 0 = nI f ∧ gi T 100 4 0 = nI k ∧ ∀ j, j < k → P ((e + 10 - k + j) % 10) ≠ none ∧ Rel (W ((e + 10 - k + j) % 10)) (blkM T (3 + (f + j) % 10)) np nr ni
def SnR (X : Mem) (P : Rows) (W : Nat → Mem) (T : Mem) (np nr ni : Nat) : Prop := ∀ k, k < 2 → (gi X 2 k 0 = 0 ↔ gi T 2 k 0 = 0) ∧ (gi T 2 k 0 ≠ 0 → P (10 + k) ≠ none ∧ Rel (W (10 + k)) (blkM T (1 + k)) np nr ni)
def mis (P : Rows) : Nat := ctn (fun k => (P k).isNone) 12
def BuR (B m : Nat) (z : Nat × Nat × Nat) (P : Rows) (W : Nat → Mem) : Prop := rwf (B + 141) z.1 P ∧ B + 141 ≤ z.1 ∧ 58 * mis P + m ≤ z.2.1 ∧ 1219 * mis P + 6 * m ≤ z.2.2 ∧ ∀ k, k < 12 → P k ≠ none → NumR (W k)
def TxR (R T : Mem) : Prop := (∃ n, n ≤ 1000 ∧ gi R 1 1 0 = nI n ∧ gi T 100 12 0 = nI n ∧ ∀ j, j < n → gi R 2 j 0 = gi T 11 j 0 ∧ ∃ x : Int8, gi R 2 j 0 = x.toInt32) ∧ gi R 0 4 0 = gi T 100 14 0 ∧ gi R 0 5 0 = gi T 100 15 0
def OuR (X T : Mem) : Prop := ∃ k, k ≤ 24 ∧ gi X 0 8 0 = nI k ∧ gi T 100 10 0 = nI k ∧ ∀ j, j < k → gi X 3 j 0 = gi T 9 j 0
/-- all but the present -/
def ReR (B m : Nat) (S : XT) (T : Mem) (np nr ni : Nat) : Prop := HiR S.2.1 S.2.2.1 S.2.2.2.2.2.2 T np nr ni ∧ SnR S.2.1 S.2.2.1 S.2.2.2.2.2.2 T np nr ni ∧ BuR B m S.1 S.2.2.1 S.2.2.2.2.2.2 ∧ TxR S.2.2.2.1 T ∧ OuR S.2.1 T ∧ NumR S.2.2.2.2.1 ∧ NumR S.2.2.2.2.2.1
def IVn (B m : Nat) (S : XT) (T : Mem) (np nr ni : Nat) : Prop := Rel S.2.2.2.2.2.1 T np nr ni ∧ ReR B m S T np nr ni
def IV (B m : Nat) (S : XT) (T : Mem) : Prop := ∃ np nr ni, IVn B m S T np nr ni
section IVS
variable {B m np nr ni : Nat} {S : XT} {T T' : Mem}
/-- what the calls of the Model leave beside the present -/
def FrP (T T' : Mem) : Prop := (∀ j, 958 ≤ j → j < 12454 → gi T' 0 j 0 = gi T 0 j 0) ∧ (∀ i, 16 ≤ i → i < 208 → gq T' 1 i = gq T 1 i) ∧ (∀ j, j < 129 → gi T' 5 j 0 = gi T 5 j 0) ∧ (∀ j, gi T' 2 j 0 = gi T 2 j 0) ∧ (∀ j, gi T' 9 j 0 = gi T 9 j 0) ∧ (∀ j, gi T' 11 j 0 = gi T 11 j 0) ∧ ∀ j, j = 3 ∨ j = 4 ∨ j = 10 ∨ j = 12 ∨ j = 14 ∨ j = 15 → gi T' 100 j 0 = gi T 100 j 0
theorem FrP.refl : FrP T T := ⟨fun _ _ _ => rfl, fun _ _ _ => rfl, fun _ _ => rfl, fun _ => rfl, fun _ => rfl, fun _ => rfl, fun _ _ => rfl⟩
theorem FrP.trans {T'' : Mem} (h : FrP T T') (h2 : FrP T' T'') : FrP T T'' := ⟨fun j hj hk => (h2.1 j hj hk).trans (h.1 j hj hk), fun j hj hk => (h2.2.1 j hj hk).trans (h.2.1 j hj hk), fun j hj => (h2.2.2.1 j hj).trans (h.2.2.1 j hj), fun j => (h2.2.2.2.1 j).trans (h.2.2.2.1 j), fun j => (h2.2.2.2.2.1 j).trans (h.2.2.2.2.1 j), fun j => (h2.2.2.2.2.2.1 j).trans (h.2.2.2.2.2.1 j), fun j hj => (h2.2.2.2.2.2.2 j hj).trans (h.2.2.2.2.2.2 j hj)⟩
theorem FrP.set {c j i : Nat} {v : Int32} (h : (c = 0 ∧ j < 958) ∨ (c = 100 ∧ j = 6) ∨ c = 7 ∨ c = 22) : FrP T (si T c j i v) := by
  refine ⟨fun k hk _ => ?_, fun _ _ _ => rfl, fun k hk => ?_, fun k => ?_, fun k => ?_, fun k => ?_, fun k hk => ?_⟩ <;> rw [gi_ne (by omega)]
theorem FrH.P (h : FrH T T') : FrP T T' := ⟨fun j hj _ => h.1 j hj, fun i hi _ => h.2.1 i hi, fun j _ => h.2.2.1 5 j 0 (by decide) (by decide), fun j => h.2.2.1 2 j 0 (by decide) (by decide), fun j => h.2.2.1 9 j 0 (by decide) (by decide), fun j => h.2.2.1 11 j 0 (by decide) (by decide), fun j _ => h.2.2.1 100 j 0 (by decide) (by decide)⟩
theorem Rel.frp {S : Mem} {k : Nat} (h : Rel S (blkM T k) np nr ni) (hF : FrP T T') (hk : 1 ≤ k ∧ k < 13) : Rel S (blkM T' k) np nr ni :=
  h.blk (fun j hj => hF.1 _ (by omega) (by omega)) (fun j hj => hF.2.2.1 j hj) (fun i hi => hF.2.1 _ (by omega) (by omega))
theorem HiR.frp {X : Mem} {P : Rows} {W : Nat → Mem} (h : HiR X P W T np nr ni) (hF : FrP T T') : HiR X P W T' np nr ni := by
  obtain ⟨e, k, f, h1, h2, h3, h4, h5, h6, h7, h8⟩ := h
  exact ⟨e, k, f, h1, h2, h3, h4, h5, (hF.2.2.2.2.2.2 3 (by omega)).trans h6, (hF.2.2.2.2.2.2 4 (by omega)).trans h7, fun j hj => ⟨(h8 j hj).1, (h8 j hj).2.frp hF (by omega)⟩⟩
theorem SnR.frp {X : Mem} {P : Rows} {W : Nat → Mem} (h : SnR X P W T np nr ni) (hF : FrP T T') : SnR X P W T' np nr ni := by
  intro k hk
  rw [hF.2.2.2.1]
  exact ⟨(h k hk).1, fun hz => ⟨((h k hk).2 hz).1, ((h k hk).2 hz).2.frp hF (by omega)⟩⟩
theorem TxR.frp {R : Mem} (h : TxR R T) (hF : FrP T T') : TxR R T' := by
  obtain ⟨⟨n, h1, h2, h3, h4⟩, h5, h6⟩ := h
  refine ⟨⟨n, h1, h2, (hF.2.2.2.2.2.2 12 (by omega)).trans h3, fun j hj => ⟨(h4 j hj).1.trans (hF.2.2.2.2.2.1 j).symm, (h4 j hj).2⟩⟩, h5.trans (hF.2.2.2.2.2.2 14 (by omega)).symm, h6.trans (hF.2.2.2.2.2.2 15 (by omega)).symm⟩
theorem OuR.frp {X : Mem} (h : OuR X T) (hF : FrP T T') : OuR X T' := by
  obtain ⟨k, h1, h2, h3, h4⟩ := h
  exact ⟨k, h1, h2, (hF.2.2.2.2.2.2 10 (by omega)).trans h3, fun j hj => (h4 j hj).trans (hF.2.2.2.2.1 j).symm⟩
theorem ReR.frp (h : ReR B m S T np nr ni) (hF : FrP T T') : ReR B m S T' np nr ni :=
  ⟨h.1.frp hF, h.2.1.frp hF, h.2.2.1, h.2.2.2.1.frp hF, h.2.2.2.2.1.frp hF, h.2.2.2.2.2⟩
theorem Rel.th {S : Mem} {v : Int32} (h : Rel S T np nr ni) : Rel S (si T 100 6 0 v) np nr ni := h.tcg (fun j _ => gi_ne (by omega)) (fun j _ => gi_ne (by omega)) (fun _ _ => rfl)
theorem IVn.th {v : Int32} (h : IVn B m S T np nr ni) : IVn B m S (si T 100 6 0 v) np nr ni := ⟨h.1.th, h.2.frp (FrP.set (by omega))⟩
theorem BuR.mono {z : Nat × Nat × Nat} {P : Rows} {W : Nat → Mem} {m' : Nat} (h : BuR B m z P W) (hm : m' ≤ m) : BuR B m' z P W := ⟨h.1, h.2.1, by have := h.2.2.1; omega, by have := h.2.2.2.1; omega, h.2.2.2.2⟩
theorem BuR.bump {z : Nat × Nat × Nat} {P : Rows} {W : Nat → Mem} {z' : Nat} (h : BuR B (m + 1) z P W) (hz : z.1 ≤ z') : BuR B m (z', z.2.1 - 1, z.2.2 - 6) P W := ⟨rwf_mono h.1 hz, Nat.le_trans h.2.1 hz, by have := h.2.2.1; dsimp only; omega, by have := h.2.2.2.1; dsimp only; omega, h.2.2.2.2⟩
theorem BuR.xr {z : Nat × Nat × Nat} {P : Rows} {W : Nat → Mem} (h : BuR B (m + 1) z P W) : xrm z = true := by
  have h1 := h.2.2.1
  have h2 := h.2.2.2.1
  unfold xrm
  rw [Bool.and_eq_true]
  exact ⟨Nat.ble_eq.mpr (by omega), Nat.ble_eq.mpr (by omega)⟩
theorem IVn.mono {m' : Nat} (h : IVn B m S T np nr ni) (hm : m' ≤ m) : IVn B m' S T np nr ni := ⟨h.1, h.2.1, h.2.2.1, h.2.2.2.1.mono hm, h.2.2.2.2⟩
theorem IVn.bump {z : Nat} (h : IVn B (m + 1) S T np nr ni) (hz : S.1.1 ≤ z) : IVn B m (bump S z) T np nr ni := ⟨h.1, h.2.1, h.2.2.1, h.2.2.2.1.bump hz, h.2.2.2.2⟩
/-- only the present changes -/
theorem IVn.live {L' : Mem} (h : IVn B m S T np nr ni) (hR : Rel L' T' np nr ni) (hN : NumR L') (hF : FrP T T') : IVn B m (S.1, S.2.1, S.2.2.1, S.2.2.2.1, S.2.2.2.2.1, L', S.2.2.2.2.2.2) T' np nr ni :=
  ⟨hR, h.2.1.frp hF, h.2.2.1.frp hF, h.2.2.2.1, h.2.2.2.2.1.frp hF, h.2.2.2.2.2.1.frp hF, h.2.2.2.2.2.2.1, hN⟩
theorem numR_of {L : Mem} (h : NumR L) {L' : Mem} (he : ∀ i, gi L' 3 0 i = gi L 3 0 i) : NumR L' := fun i hi => (he i).trans (h i hi)
/-! rows -/
theorem mis_new {P : Rows} {k a : Nat} (hk : k < 12) (h : P k = none) : mis P = mis (upR P k (some a)) + 1 := by
  unfold mis
  refine (ctn_up (i := k) (f := fun x => (upR P k (some a) x).isNone) (g := fun x => (P x).isNone) ?_ ?_ (fun x hx => ?_) 12 hk)
  · show (if k = k then some a else P k).isNone = false
    rw [if_pos rfl]; rfl
  · show (P k).isNone = true
    rw [h]; rfl
  · show (if x = k then some a else P x).isNone = (P x).isNone
    rw [if_neg hx]
theorem rwf_lo {lo lo' top : Nat} {P : Rows} (h : rwf lo top P) (hl : lo' ≤ lo) : rwf lo' top P := fun k hk a ha => ⟨⟨by have := (h k hk a ha).1.1; omega, (h k hk a ha).1.2⟩, (h k hk a ha).2⟩
theorem numR_0 : NumR S0 := fun i hi => by
  show (if 3 = 0 ∧ 0 = 10 then (1 : Int32) else if 3 = 0 ∧ 0 = 11 then 72 else if 3 = 3 ∧ 0 = 0 then (if i = 17 then -1 else Int32.ofNat i) else 0) = nI i
  rw [if_neg (by omega), if_neg (by omega), if_pos ⟨rfl, rfl⟩, if_neg (by omega)]
  rfl
theorem e_row {z : Nat × Nat × Nat} {X R C L : Mem} {P : Rows} {W : Nat → Mem} {k : Nat} (hk : k < 12) (h : BuR B m z P W) : ∃ a z' P' W', sRow (z, X, P, R, C, L, W) B k = some (a, z', X, P', R, C, L, W') ∧ BuR B m z' P' W' ∧ P' k ≠ none ∧ NumR (W' k) ∧ ∀ x, P x ≠ none → P' x ≠ none ∧ W' x = W x := by
  obtain ⟨h1, h2, h3, h4, h5⟩ := h
  unfold sRow
  rw [oifp_t ⟨rwf_lo h1 (by omega), show B + 129 ≤ z.1 by omega⟩]
  cases hp : P k with
  | some a =>
    refine ⟨a, z, P, W, by dsimp only; rw [hp], ⟨h1, h2, h3, h4, h5⟩, by rw [hp]; exact Option.some_ne_none a, h5 k hk (by rw [hp]; exact Option.some_ne_none a), fun x hx => ⟨hx, rfl⟩⟩
  | none =>
    have hm := mis_new (a := z.1) hk hp
    dsimp only
    rw [hp]
    dsimp only
    rw [oifp_t ⟨by omega, by omega⟩]
    have e1 : upR P k (some z.1) k = some z.1 := if_pos rfl
    refine ⟨z.1, _, upR P k (some z.1), upW W k S0, rfl, ⟨rwf_new h1 h2, by dsimp only; omega, by dsimp only; omega, by dsimp only; omega, fun x hx hn => ?_⟩, by rw [e1]; exact Option.some_ne_none _, ?_, fun x hx => ?_⟩
    · by_cases e : x = k
      · subst e
        show NumR (if x = x then S0 else W x)
        rw [if_pos rfl]; exact numR_0
      · show NumR (if x = k then S0 else W x)
        rw [if_neg e]
        refine h5 x hx ?_
        have : upR P k (some z.1) x = P x := if_neg e
        rw [← this]; exact hn
    · show NumR (if k = k then S0 else W k)
      rw [if_pos rfl]; exact numR_0
    · have e : x ≠ k := fun z => hx (z ▸ hp)
      refine ⟨?_, if_neg e⟩
      have : upR P k (some z.1) x = P x := if_neg e
      rw [this]; exact hx
theorem e_rem10 {a : Nat} (h : a < 2147483648) : nI a - nI a / (10 : Int32) * (10 : Int32) = nI (a % 10) := by
  rw [n_lit 10]
  exact pk_rem h (by omega) (by omega)
theorem FrP.cpB_ (a b : Nat) (hb : 1 ≤ b) : (∀ j, j < 958 → gi (cpB T a b) 0 j 0 = gi T 0 j 0) ∧ (∀ c j i, c ≠ 0 → gi (cpB T a b) c j i = gi T c j i) ∧ ∀ i, i < 16 → gq (cpB T a b) 1 i = gq T 1 i :=
  ⟨fun j hj => by rw [gi_cpB, if_neg (by omega)], fun c j i hc => by rw [gi_cpB, if_neg (by omega)], fun i hi => by rw [gq_cpB, if_neg (by omega)]⟩
theorem TxR.cg {R : Mem} (h : TxR R T) (h11 : ∀ j, gi T' 11 j 0 = gi T 11 j 0) (h100 : ∀ j, j = 12 ∨ j = 14 ∨ j = 15 → gi T' 100 j 0 = gi T 100 j 0) : TxR R T' := by
  obtain ⟨⟨n, h1, h2, h3, h4⟩, h5, h6⟩ := h
  exact ⟨⟨n, h1, h2, (h100 12 (by omega)).trans h3, fun j hj => ⟨(h4 j hj).1.trans (h11 j).symm, (h4 j hj).2⟩⟩, h5.trans (h100 14 (by omega)).symm, h6.trans (h100 15 (by omega)).symm⟩
theorem OuR.cg {X X' : Mem} (h : OuR X T) (h8 : gi X' 0 8 0 = gi X 0 8 0) (h3' : ∀ j, gi X' 3 j 0 = gi X 3 j 0) (h9 : ∀ j, gi T' 9 j 0 = gi T 9 j 0) (h10 : gi T' 100 10 0 = gi T 100 10 0) : OuR X' T' := by
  obtain ⟨k, h1, h2, h3, h4⟩ := h
  exact ⟨k, h1, h8.trans h2, h10.trans h3, fun j hj => (h3' j).trans ((h4 j hj).trans (h9 j).symm)⟩
theorem e_keep32 {T1 : Mem} {f k : Nat} (h3 : gi T1 100 3 0 = nI f) (h4 : gi T1 100 4 0 = nI k) (hf : f < 10) (hk : k ≤ 9) : sX10_keep_j32 T1 = some (si (cpB T1 0 (3 + (f + k) % 10)) 100 4 0 (nI (k + 1))) := by
  unfold sX10_keep_j32
  have hm : (f + k) % 10 < 10 := Nat.mod_lt _ (by omega)
  rw [h3, h4, nI_add, e_rem10 (by omega), n_lit 3, nI_add, n_lit 0, e_copyB (by omega) (by omega) (by omega), obind_some, olet_eq, gi_cpB, if_neg (by omega), h4, n_suc]
/-- a step is remembered -/
theorem sim_keep (h : IVn B m S T np nr ni) : ∃ z' X' P' W' T', sX1_remember S B = some (z', X', P', S.2.2.2.1, S.2.2.2.2.1, S.2.2.2.2.2.1, W') ∧ sX10_keep T = some T' ∧ IVn B m (z', X', P', S.2.2.2.1, S.2.2.2.2.1, S.2.2.2.2.2.1, W') T' np nr ni ∧ gi T' 100 6 0 = gi T 100 6 0 ∧ (∀ j, j < 958 → gi T' 0 j 0 = gi T 0 j 0) ∧ ∀ j, gi T' 5 j 0 = gi T 5 j 0 := by
  obtain ⟨z, X, P, R, C, L, W⟩ := S
  obtain ⟨hR, ⟨e, k, f, h1, h2, h3, h4, h5, h6, h7, h8⟩, hSn, hB, hT, hO, hNC, hNL⟩ := h
  dsimp only at hR h4 h5 h6 h7 h8 hSn hB hT hO hNC hNL ⊢
  obtain ⟨a, z', P', W', r1, r2, r3, r4, r5⟩ := e_row (X := X) (R := R) (C := C) (L := L) (k := e) (by omega) hB
  obtain ⟨M, m1, m2, m3⟩ := sim_copy hR r4
  have eS : sX1_remember (z, X, P, R, C, L, W) B = some (z', si (si X 1 1 0 (nI ((e + 1) % 10))) 1 2 0 (jmin (nI (k + 1)) (10 : Int32)), P', R, C, L, upW W' e M) := by
    unfold sX1_remember
    dsimp only
    rw [h4, n_inb (by omega) (by omega), oif_t rfl, n_cl (by omega), r1, obind_some]
    dsimp only
    rw [m1, obind_some, h4, n_suc, e_rem10 (by omega), h5, n_suc]
  have key : ∀ d k2 f2 T1, k = k2 + d → k2 ≤ 9 → f2 = (f + d) % 10 → (d = 0 ∨ d = 1) → jmin (nI (k + 1)) (10 : Int32) = nI (k2 + 1) → gi T1 100 3 0 = nI f2 → gi T1 100 4 0 = nI k2 → (∀ c j i, c ≠ 100 → gi T1 c j i = gi T c j i) → (∀ c i, gq T1 c i = gq T c i) → (∀ j, j ≠ 3 → j ≠ 4 → gi T1 100 j 0 = gi T 100 j 0) → sX10_keep T = sX10_keep_j32 T1 → ∃ z' X' P' W' T', sX1_remember (z, X, P, R, C, L, W) B = some (z', X', P', R, C, L, W') ∧ sX10_keep T = some T' ∧ IVn B m (z', X', P', R, C, L, W') T' np nr ni ∧ gi T' 100 6 0 = gi T 100 6 0 ∧ (∀ j, j < 958 → gi T' 0 j 0 = gi T 0 j 0) ∧ ∀ j, gi T' 5 j 0 = gi T 5 j 0 := by
    intro d k2 f2 T1 d1 d2 d3 d4 d5 t3 t4 tc tq t100 tk
    have hf2 : f2 < 10 := by omega
    have hb : (f2 + k2) % 10 < 10 := Nat.mod_lt _ (by omega)
    obtain ⟨c1, c2, c3⟩ := FrP.cpB_ (T := T1) 0 (3 + (f2 + k2) % 10) (by omega)
    have hup : ∀ x, x ≠ e → upW W' e M x = W' x := fun x hx => if_neg hx
    have hue : upW W' e M e = M := if_pos rfl
    have hRT : ∀ {A : Mem} {k : Nat}, Rel A (blkM T k) np nr ni → Rel A (blkM T1 k) np nr ni := fun hA => hA.blk (fun j _ => tc _ _ _ (by decide)) (fun j _ => tc _ _ _ (by decide)) (fun i _ => tq _ _)
    refine ⟨_, _, _, _, _, eS, tk.trans (e_keep32 t3 t4 hf2 d2), ⟨?_, ?_, ?_, ?_, ?_, ?_, hNC, hNL⟩, ?_, fun j hj => ?_, fun j => ?_⟩
    · refine hR.tcg (fun j hj => ?_) (fun j hj => ?_) (fun i hi => ?_)
      · rw [gi_ne (by omega), c1 j hj, tc _ _ _ (by decide)]
      · rw [gi_ne (by omega), c2 _ _ _ (by decide), tc _ _ _ (by decide)]
      · rw [gq_si, c3 i hi, tq]
    · refine ⟨(e + 1) % 10, k2 + 1, f2, Nat.mod_lt _ (by omega), by omega, hf2, ?_, ?_, ?_, ?_, fun j hj => ?_⟩
      · dsimp only
        rw [gi_ne (by omega), gi_eq2 ⟨rfl, rfl, rfl⟩]
      · dsimp only
        rw [gi_eq2 ⟨rfl, rfl, rfl⟩, d5]
      · rw [gi_ne (by omega), c2 _ _ _ (by decide), t3]
      · rw [gi_eq2 ⟨rfl, rfl, rfl⟩]
      · dsimp only
        have hs : ∀ {A : Mem} {k v}, Rel A (blkM (cpB T1 0 (3 + (f2 + k2) % 10)) k) np nr ni → Rel A (blkM (si (cpB T1 0 (3 + (f2 + k2) % 10)) 100 4 0 v) k) np nr ni := fun hA => hA.blk (fun j _ => gi_ne (by omega)) (fun j _ => gi_ne (by omega)) (fun i _ => rfl)
        by_cases ej : j = k2
        · subst ej
          rw [show ((e + 1) % 10 + 10 - (j + 1) + j) % 10 = e by omega, hue]
          exact ⟨r3, hs (Rel.cpd (a := 0) (hRT (by rw [blk_0]; exact m2)))⟩
        · have hx : ((e + 1) % 10 + 10 - (k2 + 1) + j) % 10 ≠ e := by omega
          have hx2 : ((e + 1) % 10 + 10 - (k2 + 1) + j) % 10 = (e + 10 - k + (j + d)) % 10 := by omega
          rw [hup _ hx, hx2]
          obtain ⟨g1, g2⟩ := h8 (j + d) (by omega)
          obtain ⟨g3, g4⟩ := r5 _ g1
          rw [g4, show (f2 + j) % 10 = (f + (j + d)) % 10 by omega]
          exact ⟨g3, hs ((hRT g2).cpo (by omega))⟩
    · intro x hx
      obtain ⟨s1, s2⟩ := hSn x hx
      dsimp only
      rw [gi_ne (by omega), gi_ne (by omega), gi_ne (by omega), c2 _ _ _ (by decide), tc _ _ _ (by decide)]
      refine ⟨s1, fun hz => ?_⟩
      obtain ⟨g1, g2⟩ := s2 hz
      obtain ⟨g3, g4⟩ := r5 _ g1
      rw [hup _ (by omega), g4]
      refine ⟨g3, ?_⟩
      exact Rel.blk ((hRT g2).cpo (a := 0) (b := 3 + (f2 + k2) % 10) (by omega)) (fun j _ => gi_ne (by omega)) (fun j _ => gi_ne (by omega)) (fun i _ => rfl)
    · refine ⟨r2.1, r2.2.1, r2.2.2.1, r2.2.2.2.1, fun x hx hn => ?_⟩
      dsimp only at hn ⊢
      by_cases ex : x = e
      · subst ex; rw [hue]; exact m3
      · rw [hup _ ex]; exact r2.2.2.2.2 x hx hn
    · refine hT.cg (fun j => ?_) (fun j hj => ?_)
      · rw [gi_ne (by omega), c2 _ _ _ (by decide), tc _ _ _ (by decide)]
      · rw [gi_ne (by omega), c2 _ _ _ (by decide), t100 _ (by omega) (by omega)]
    · refine hO.cg ?_ (fun j => ?_) (fun j => ?_) ?_
      · dsimp only
        rw [gi_ne (by omega), gi_ne (by omega)]
      · dsimp only
        rw [gi_ne (by omega), gi_ne (by omega)]
      · rw [gi_ne (by omega), c2 _ _ _ (by decide), tc _ _ _ (by decide)]
      · rw [gi_ne (by omega), c2 _ _ _ (by decide), t100 _ (by omega) (by omega)]
    · rw [gi_ne (by omega), c2 _ _ _ (by decide), t100 _ (by omega) (by omega)]
    · rw [gi_ne (by omega), c1 j hj, tc _ _ _ (by decide)]
    · rw [gi_ne (by omega), c2 _ _ _ (by decide), tc _ _ _ (by decide)]
  by_cases ek : k = 10
  · subst ek
    refine key 1 9 ((f + 1) % 10) (si (si T 100 3 0 (nI ((f + 1) % 10))) 100 4 0 (nI 9)) rfl (by omega) rfl (Or.inr rfl) (by decide) ?_ ?_ (fun c j i hc => ?_) (fun c i => rfl) (fun j j3 j4 => ?_) ?_
    · rw [gi_ne (by omega), gi_eq2 ⟨rfl, rfl, rfl⟩]
    · rw [gi_eq2 ⟨rfl, rfl, rfl⟩]
    · rw [gi_ne (by omega), gi_ne (by omega)]
    · rw [gi_ne (by omega), gi_ne (by omega)]
    · unfold sX10_keep
      rw [h7, if_pos (show nI 10 = (10 : Int32) from rfl), h6, n_suc, e_rem10 (by omega), olet_eq, gi_ne (by omega), h7]
      rfl
  · refine key 0 k f T (by omega) (by omega) (by omega) (Or.inl rfl) ?_ h6 h7 (fun _ _ _ _ => rfl) (fun _ _ => rfl) (fun _ _ _ => rfl) ?_
    · unfold jmin
      by_cases e9 : k = 9
      · subst e9; rw [if_neg (by decide)]
      · rw [if_neg (by rw [n_lit 10, n_lt (by omega) (by omega)]; omega)]
    · unfold sX10_keep
      rw [h7, if_neg (by rw [n_lit 10, n_eq (by omega) (by omega)]; exact ek)]
end IVS
