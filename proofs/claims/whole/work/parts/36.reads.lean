/-! ===== READING FUNCTIONS: presses, benches ===== -/
def msk (f : Nat → Bool) : Nat → Nat
  | 0 => 0
  | n + 1 => msk f n + (if f n = true then 2 ^ n else 0)
def ctn (f : Nat → Bool) : Nat → Nat
  | 0 => 0
  | n + 1 => ctn f n + (if f n = true then 1 else 0)
theorem ctn_le (f : Nat → Bool) : ∀ n, ctn f n ≤ n := by
  intro n
  induction n with
  | zero => exact Nat.le_refl _
  | succ n ih =>
    unfold ctn
    split <;> omega
theorem ctn_cg {f g : Nat → Bool} : ∀ {n : Nat}, (∀ k, k < n → f k = g k) → ctn f n = ctn g n := by
  intro n
  induction n with
  | zero => intro _; rfl
  | succ n ih =>
    intro h
    unfold ctn
    rw [ih (fun k hk => h k (by omega)), h n (by omega)]
theorem msk_lt (f : Nat → Bool) : ∀ n, msk f n < 2 ^ n := by
  intro n
  induction n with
  | zero => exact Nat.lt_succ_self 0
  | succ n ih =>
    unfold msk
    rw [Nat.pow_succ]
    split <;> omega
def pcn : Nat → Nat → Nat
  | 0, _ => 0
  | n + 1, M => M % 2 + pcn n (M / 2)
theorem pcn_0 : ∀ n, pcn n 0 = 0 := by
  intro n
  induction n with
  | zero => rfl
  | succ n ih =>
    unfold pcn
    rw [show 0 / 2 = 0 from rfl, ih]
theorem pcn_add : ∀ n k M, k < n → M < 2 ^ k → pcn n (M + 2 ^ k) = pcn n M + 1 := by
  intro n
  induction n with
  | zero => intro k M h; omega
  | succ n ih =>
    intro k M h1 h2
    cases k with
    | zero =>
      have : M = 0 := by omega
      subst this
      unfold pcn
      show 1 % 2 + pcn n (1 / 2) = 0 % 2 + pcn n (0 / 2) + 1
      rw [show 1 / 2 = 0 from rfl, pcn_0]
    | succ k =>
      unfold pcn
      rw [Nat.pow_succ] at h2 ⊢
      rw [show (M + 2 ^ k * 2) % 2 = M % 2 by omega, show (M + 2 ^ k * 2) / 2 = M / 2 + 2 ^ k by omega, ih k (M / 2) (by omega) (by omega)]
      omega
theorem pcn_msk (f : Nat → Bool) : ∀ n, n ≤ 16 → pcn 16 (msk f n) = ctn f n := by
  intro n
  induction n with
  | zero => intro _; exact pcn_0 16
  | succ n ih =>
    intro h
    unfold msk ctn
    by_cases e : f n = true
    · rw [if_pos e, if_pos e, pcn_add 16 n _ (by omega) (msk_lt f n), ih (by omega)]
    · rw [if_neg e, if_neg e, Nat.add_zero, Nat.add_zero, ih (by omega)]
theorem land_lt {M : Nat} (h : M ≠ 0) : M &&& (M - 1) < M := by
  have : M &&& (M - 1) ≤ M - 1 := Nat.and_le_right
  omega
theorem pcn_kern : ∀ n M, M < 2 ^ n → M ≠ 0 → pcn n (M &&& (M - 1)) + 1 = pcn n M := by
  intro n
  induction n with
  | zero => intro M h1 h2; omega
  | succ n ih =>
    intro M h1 h2
    rw [Nat.pow_succ] at h1
    unfold pcn
    have hm : (M &&& (M - 1)) % 2 = (M % 2) &&& ((M - 1) % 2) := by
      have := @Nat.and_mod_two_pow M (M - 1) 1
      exact this
    rw [hm, Nat.and_div_two]
    rcases Nat.mod_two_eq_zero_or_one M with e | e
    · have e1 : (M - 1) % 2 = 1 := by omega
      have e2 : (M - 1) / 2 = M / 2 - 1 := by omega
      rw [e, e1, e2, show (0 &&& 1 : Nat) = 0 from rfl]
      have := ih (M / 2) (by omega) (by omega)
      omega
    · have e1 : (M - 1) % 2 = 0 := by omega
      have e2 : (M - 1) / 2 = M / 2 := by omega
      rw [e, e1, e2, Nat.and_self, show (1 &&& 0 : Nat) = 0 from rfl]
      omega
theorem nI_and2 (a b : Nat) : nI a &&& nI b = nI (a &&& b) := by
  apply Int32.toBitVec_inj.1
  show BitVec.ofNat 32 a &&& BitVec.ofNat 32 b = BitVec.ofNat 32 (a &&& b)
  apply BitVec.eq_of_getLsbD_eq
  intro i hi
  simp [hi]
theorem nI_or2 (a b : Nat) : nI a ||| nI b = nI (a ||| b) := by
  apply Int32.toBitVec_inj.1
  show BitVec.ofNat 32 a ||| BitVec.ofNat 32 b = BitVec.ofNat 32 (a ||| b)
  apply BitVec.eq_of_getLsbD_eq
  intro i hi
  simp [hi]
theorem sh1 : ∀ n, n < 16 → (1 : Int32) <<< (nI n &&& 31) = nI (2 ^ n) := by decide +kernel
theorem msk_or {f : Nat → Bool} {n : Nat} (hn : n < 16) : nI (msk f n) ||| ((1 : Int32) <<< (nI n &&& 31)) = nI (msk f n + 2 ^ n) := by
  rw [sh1 n hn, nI_or2]
  have h := Nat.two_pow_add_eq_or_of_lt (msk_lt f n) 1
  rw [Nat.mul_one] at h
  rw [Nat.or_comm, ← h, Nat.add_comm]
theorem or_0 (x : Int32) : x ||| (0 : Int32) = x := by simp
/-- the bits of a set are counted -/
theorem e_bits {T : Mem} {M : Nat} (hM : M < 2 ^ 16) : sX10_bits T (nI M) = some (nI (pcn 16 M)) := by
  unfold sX10_bits sX10_bits_l4
  obtain ⟨b, h1, h2⟩ := itw_one (f := sX10_bits_l4_step T (nI M)) (J := fun k a => ∃ M' c, k = M' ∧ M' < 2 ^ 16 ∧ a = (nI c, nI M') ∧ c + pcn 16 M' = pcn 16 M) (P := fun b => b = nI (pcn 16 M)) (fun k a => by
    rintro ⟨M', c, rfl, h1, rfl, h2⟩
    unfold sX10_bits_l4_step
    by_cases e : k = 0
    · subst e
      refine Or.inl ⟨nI c, by rw [if_pos (show nI 0 = 0 from rfl)]; rfl, ?_⟩
      rw [pcn_0] at h2
      rw [← h2, Nat.add_zero]
    · refine Or.inr ⟨(nI (c + 1), nI (k &&& (k - 1))), k &&& (k - 1), land_lt e, ?_, _, c + 1, rfl, Nat.lt_trans (land_lt e) h1, rfl, ?_⟩
      · have e1 : nI k - (1 : Int32) = nI (k - 1) := pk_sub (b := 1) (by omega)
        dsimp only
        rw [if_neg (fun z => e (by rw [n_lit 0, n_eq (by omega) (by omega)] at z; exact z)), e1, nI_and2, olet_eq, n_suc]
      · have := pcn_kern 16 k h1 e
        omega) (k := M) (a := ((0 : Int32), nI M)) ⟨M, 0, rfl, hM, rfl, by omega⟩
  rw [h1, h2]
section RD
variable {S T : Mem} {np nr ni : Nat}
/-- who lies in a press -/
theorem e_inPress (hC : CfR S T np nr ni) (hI : InR S np ni) (hE : ∀ i, i < ni → gi S 3 10 i = gi T 0 (6 + 21 * i + 6) 0) {p : Nat} (hp : p < np) : sX10_inPress T (nI p) = some (gi S 1 1 p) := by
  have hni : ni ≤ 16 := hC.1.2.2
  have hnp : np ≤ 6 := hC.1.1
  have c4' : gi T 5 (4 : Int32).toNatClampNeg 0 = nI ni := hC.2.2.1.2.2
  unfold sX10_inPress sX10_inPress_l2
  obtain ⟨b, h1, h2⟩ := itw_one (f := sX10_inPress_l2_step T (nI p)) (J := fun k a => ∃ o, o ≤ ni ∧ k = ni - o ∧ a = nI o ∧ ∀ o', o' < o → gi S 3 10 o' ≠ nI p) (P := fun b => b = gi S 1 1 p) (fun k a => by
    rintro ⟨o, h1, rfl, rfl, h2⟩
    unfold sX10_inPress_l2_step
    rw [c4']
    by_cases e : ni ≤ o
    · refine Or.inl ⟨-1, by rw [if_pos (by rw [n_le (by omega) (by omega)]; exact e)]; rfl, ?_⟩
      rcases hI.1 p hp with q | ⟨i, q1, q2, q3⟩
      · exact q.symm
      · exact absurd q3 (h2 i (by omega))
    · rw [if_neg (by rw [n_le (by omega) (by omega)]; exact e), e_of_6 (by omega), obind_some, ← hE o (by omega)]
      by_cases e2 : gi S 3 10 o = nI p
      · exact Or.inl ⟨nI o, by rw [if_pos e2]; rfl, (hI.2 o (by omega) p hp e2).symm⟩
      · refine Or.inr ⟨nI (o + 1), ni - (o + 1), by omega, by rw [if_neg e2, n_suc], o + 1, by omega, rfl, rfl, fun o' ho' => ?_⟩
        by_cases e3 : o' = o
        · subst e3; exact e2
        · exact h2 o' (by omega)) (k := ni - 0) (a := (0 : Int32)) ⟨0, by omega, rfl, rfl, fun o' h => absurd h (Nat.not_lt_zero _)⟩
  rw [h1, h2]
/-- the press that fits: the least that is great enough -/
theorem sim_fit (hC : CfR S T np nr ni) (hI : InR S np ni) (hE : ∀ i, i < ni → gi S 3 10 i = gi T 0 (6 + 21 * i + 6) 0) {i : Nat} (hi : i < ni) {fl : Int32} : ∃ v, sX7_fittingPress S (gi S 3 2 i) fl = some v ∧ sX10_bestPress T (nI i) fl = some v ∧ ((v = -1 ∧ ∀ p, p < np → gi S 1 0 p < gi S 3 2 i ∨ (fl ≠ 0 ∧ gi S 1 1 p ≠ -1)) ∨ ∃ p, p < np ∧ v = nI p ∧ ¬ gi S 1 0 p < gi S 3 2 i ∧ (fl = 0 ∨ gi S 1 1 p = -1)) := by
  have hni : ni ≤ 16 := hC.1.2.2
  have hnp : np ≤ 6 := hC.1.1
  have e7 : gi S 0 7 0 = nI np := hC.2.1.1
  have c2' : gi T 5 (2 : Int32).toNatClampNeg 0 = nI np := hC.2.2.1.1
  have hsz : ∀ p, p < np → gi T 5 (5 + p) 0 = gi S 1 0 p := fun p hp => (hC.2.2.2.2.1 p hp).1.symm
  have hth : gi T 5 (81 + 3 * i + 0) 0 = gi S 3 2 i := (hC.2.2.2.2.2.2 i hi).2.1.symm
  unfold sX7_fittingPress sX7_fittingPress_l8 sX10_bestPress sX10_bestPress_l5
  obtain ⟨b, b', h1, h2, h3⟩ := itw_two (f := sX7_fittingPress_l8_step S (gi S 3 2 i) fl) (g := sX10_bestPress_l5_step T (nI i) fl)
    (J := fun k a a' => ∃ p, p ≤ np ∧ k = np - p ∧ a.2.2 = nI p ∧ a'.2 = nI p ∧ a.1 = a'.1 ∧ ((a.1 = -1 ∧ ∀ p', p' < p → gi S 1 0 p' < gi S 3 2 i ∨ (fl ≠ 0 ∧ gi S 1 1 p' ≠ -1)) ∨ ∃ q, q < np ∧ a.1 = nI q ∧ a.2.1 = gi S 1 0 q ∧ ¬ gi S 1 0 q < gi S 3 2 i ∧ (fl = 0 ∨ gi S 1 1 q = -1)))
    (P := fun b b' => b = b' ∧ ((b = -1 ∧ ∀ p, p < np → gi S 1 0 p < gi S 3 2 i ∨ (fl ≠ 0 ∧ gi S 1 1 p ≠ -1)) ∨ ∃ p, p < np ∧ b = nI p ∧ ¬ gi S 1 0 p < gi S 3 2 i ∧ (fl = 0 ∨ gi S 1 1 p = -1)))
    (fun k a a' => by
      obtain ⟨x, y, z⟩ := a
      obtain ⟨x', z'⟩ := a'
      rintro ⟨p, h1, rfl, h2, h3, h4, h5⟩
      dsimp only at h2 h3 h4 h5
      subst h2; subst h3; subst h4
      unfold sX7_fittingPress_l8_step sX10_bestPress_l5_step
      dsimp only
      rw [e7, c2']
      by_cases e : np ≤ p
      · have hle : nI np ≤ nI p := by rw [n_le (by omega) (by omega)]; exact e
        rw [if_pos hle, if_pos hle]
        refine Or.inl ⟨x, x, rfl, rfl, rfl, ?_⟩
        rcases h5 with ⟨q1, q2⟩ | ⟨q, q1, q2, q3, q4⟩
        · exact Or.inl ⟨q1, fun p' hp' => q2 p' (by omega)⟩
        · exact Or.inr ⟨q, q1, q2, q4⟩
      · have hp : p < np := by omega
        have hle : ¬ nI np ≤ nI p := by rw [n_le (by omega) (by omega)]; exact e
        rw [if_neg hle, if_neg hle, e_ps (by omega), obind_some, e_th_0 (by omega), obind_some, hsz p hp, hth, e_pressAt (by omega), n_suc]
        have skip : (gi S 1 0 p < gi S 3 2 i ∨ (fl ≠ 0 ∧ gi S 1 1 p ≠ -1)) → ∃ k1, k1 < np - p ∧ ∃ p1, p1 ≤ np ∧ k1 = np - p1 ∧ nI (p + 1) = nI p1 ∧ nI (p + 1) = nI p1 ∧ x = x ∧ ((x = -1 ∧ ∀ p', p' < p1 → gi S 1 0 p' < gi S 3 2 i ∨ (fl ≠ 0 ∧ gi S 1 1 p' ≠ -1)) ∨ ∃ q, q < np ∧ x = nI q ∧ y = gi S 1 0 q ∧ ¬ gi S 1 0 q < gi S 3 2 i ∧ (fl = 0 ∨ gi S 1 1 q = -1)) := fun hs => by
          refine ⟨np - (p + 1), by omega, p + 1, by omega, rfl, rfl, rfl, rfl, ?_⟩
          rcases h5 with ⟨q1, q2⟩ | hq
          · refine Or.inl ⟨q1, fun p' hp' => ?_⟩
            by_cases e3 : p' = p
            · subst e3; exact hs
            · exact q2 p' (by omega)
          · exact Or.inr hq
        by_cases e1 : gi S 1 0 p < gi S 3 2 i
        · rw [if_pos e1, if_pos e1]
          obtain ⟨k1, hk1, hJ⟩ := skip (Or.inl e1)
          exact Or.inr ⟨_, _, k1, hk1, rfl, rfl, hJ⟩
        · rw [if_neg e1, if_neg e1]
          have take : (fl = 0 ∨ gi S 1 1 p = -1) → ∃ a1 a1' k1, k1 < np - p ∧ sX7_fittingPress_j47 S (gi S 3 2 i) fl x y (nI p) p = some (.inl a1) ∧ sX10_bestPress_j48 T (nI i) fl x (nI p) = some (.inl a1') ∧ ∃ p1, p1 ≤ np ∧ k1 = np - p1 ∧ a1.2.2 = nI p1 ∧ a1'.2 = nI p1 ∧ a1.1 = a1'.1 ∧ ((a1.1 = -1 ∧ ∀ p', p' < p1 → gi S 1 0 p' < gi S 3 2 i ∨ (fl ≠ 0 ∧ gi S 1 1 p' ≠ -1)) ∨ ∃ q, q < np ∧ a1.1 = nI q ∧ a1.2.1 = gi S 1 0 q ∧ ¬ gi S 1 0 q < gi S 3 2 i ∧ (fl = 0 ∨ gi S 1 1 q = -1)) := fun hf => by
            unfold sX7_fittingPress_j47 sX10_bestPress_j48 sX7_fittingPress_j62
            by_cases e2 : x = -1
            · rw [if_pos e2, if_pos e2, n_suc]
              exact ⟨_, _, np - (p + 1), by omega, rfl, rfl, p + 1, by omega, rfl, rfl, rfl, rfl, Or.inr ⟨p, hp, rfl, rfl, e1, hf⟩⟩
            · rw [if_neg e2, if_neg e2]
              rcases h5 with ⟨q1, _⟩ | ⟨q, q1, q2, q3, q4, q5⟩
              · exact absurd q1 e2
              · subst q2; subst q3
                rw [e_ps (by omega), obind_some, e_ps (by omega), obind_some, hsz p hp, hsz q q1, n_suc]
                by_cases e3 : gi S 1 0 q ≤ gi S 1 0 p
                · rw [if_pos e3, if_pos e3]
                  exact ⟨_, _, np - (p + 1), by omega, rfl, rfl, p + 1, by omega, rfl, rfl, rfl, rfl, Or.inr ⟨q, q1, rfl, rfl, q4, q5⟩⟩
                · rw [if_neg e3, if_neg e3]
                  exact ⟨_, _, np - (p + 1), by omega, rfl, rfl, p + 1, by omega, rfl, rfl, rfl, rfl, Or.inr ⟨p, hp, rfl, rfl, e1, hf⟩⟩
          by_cases e2 : fl = 0
          · rw [if_pos e2, if_pos e2]
            obtain ⟨a1, a1', k1, q1, q2, q3, q4⟩ := take (Or.inl e2)
            refine Or.inr ⟨a1, a1', k1, q1, ?_, q3, q4⟩
            by_cases e3 : gi S 1 1 p = -1
            · rw [if_pos e3]; exact q2
            · rw [if_neg e3]; exact q2
          · rw [if_neg e2, if_neg e2, e_inPress hC hI hE hp, obind_some]
            by_cases e3 : gi S 1 1 p = -1
            · rw [if_pos e3, if_pos e3]
              obtain ⟨a1, a1', k1, q1, q2, q3, q4⟩ := take (Or.inr e3)
              exact Or.inr ⟨a1, a1', k1, q1, q2, q3, q4⟩
            · rw [if_neg e3, if_neg e3]
              obtain ⟨k1, hk1, hJ⟩ := skip (Or.inr ⟨e2, e3⟩)
              exact Or.inr ⟨_, _, k1, hk1, rfl, rfl, hJ⟩) (k := np - 0) (a := ((-1 : Int32), (0 : Int32), (0 : Int32))) (a' := ((-1 : Int32), (0 : Int32))) ⟨0, by omega, rfl, rfl, rfl, rfl, Or.inl ⟨rfl, fun p' h => absurd h (Nat.not_lt_zero _)⟩⟩
  obtain ⟨h3, h4⟩ := h3
  subst h3
  exact ⟨b, h1, h2, h4⟩
end RD
