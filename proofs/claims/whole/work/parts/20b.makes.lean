/-! ===== WHAT CONSTRUCTORS MAKE (laid by a program), 2 ===== -/
/-! ===== a fresh Reader, a fresh RepairStudio ===== -/
def R0 : Mem := (fun c j _ => if c = 0 ∧ j = 5 then -1 else 0, fun _ _ => 0)
def Z0 : Mem := (fun _ _ _ => 0, fun _ _ => 0)
def P0 : Rows := fun _ => none
theorem sta_gro {g : AG} {h : AH} {n k c s : Nat} {f : Nat → AE} (hs : Sta g h) (hA : gB g ≤ n) : Sta g (gro h n k c s f) := (Sta.blk (n := k) (f := f) hs hA : Sta g (blk h n k f))
def rdF (n o : Nat) : Nat → Value := fun k => if k < 3 then (if k < o then rd0F n R0 k else .null) else if k = 5 ∧ 4 ≤ o then .int (-1) else .int 0
def rdC (n o : Nat) (j : Nat) : AE := if j = 0 then ob 4 8 (rdF n o) else if j < 3 then tkC (n + 1) (j - 1) else if j = 3 then .inl (0, 7, .inl (fun _ => 0)) else .inl (0, 200, .inl (fun _ => 0))
theorem rdC_ne {n o o' j : Nat} (h : j ≠ 0) : rdC n o j = rdC n o' j := by
  unfold rdC
  rw [if_neg h, if_neg h]
theorem rdF_0 {n : Nat} : ob 4 8 fdX4 = ob 4 8 (rdF n 0) := ob_cg fun j => by
  unfold fdX4 rdF
  split <;> first | rfl | skip
  rename_i h0 h1 h2
  rw [if_neg (fun h => by have : j ≠ 0 := h0; have : j ≠ 1 := h1; have : j ≠ 2 := h2; omega), if_neg (by omega)]
theorem rdF_o {n o : Nat} {v : Value} (ho : o < 3) (hv : v = rd0F n R0 o) (q : Nat) : (if q = o then v else rdF n o q) = rdF n (o + 1) q := by
  subst hv
  unfold rdF
  by_cases h1 : q = o
  · subst h1; rw [if_pos rfl, if_pos ho, if_pos (by omega)]
  · rw [if_neg h1]
    by_cases h2 : q < 3
    · rw [if_pos h2, if_pos h2]
      by_cases h3 : q < o
      · rw [if_pos h3, if_pos (by omega)]
      · rw [if_neg h3, if_neg (by omega)]
    · rw [if_neg h2, if_neg h2, if_neg (by omega), if_neg (by omega)]
theorem rdF_3 {n : Nat} (q : Nat) : (if q = 5 then .int (-1 : Int32) else rdF n 3 q) = rdF n 4 q := by
  unfold rdF
  by_cases h1 : q = 5
  · subst h1; rfl
  · rw [if_neg h1]
    by_cases h2 : q < 3
    · rw [if_pos h2, if_pos h2, if_pos h2, if_pos (by omega)]
    · rw [if_neg h2, if_neg h2, if_neg (by omega), if_neg (by omega)]
theorem rd_a1 {n : Nat} : ∀ j, j < 3 → (if j = 0 then ob 4 8 (fun q => if q = 0 then .ref (n + 1) else rdF n 0 q) else if j < 1 then rdC n 0 j else tkC (n + 1) (j - 1)) = rdC n 1 j := by
  intro j hj
  by_cases h0 : j = 0
  · subst h0; exact ob_cg (rdF_o (by omega) rfl)
  · rw [if_neg h0, if_neg (by omega)]
    unfold rdC
    rw [if_neg h0, if_pos (by omega)]
theorem rd_a2 {n : Nat} : ∀ j, j < 4 → (if j = 0 then ob 4 8 (fun q => if q = 1 then .ref (n + 3) else rdF n 1 q) else if j = 3 then .inl (0, 7, .inl (fun _ => 0)) else rdC n 1 j) = rdC n 2 j := by
  intro j hj
  by_cases h0 : j = 0
  · subst h0; exact ob_cg (rdF_o (by omega) rfl)
  · rw [if_neg h0]
    by_cases h1 : j = 3
    · subst h1; rfl
    · rw [if_neg h1]; exact rdC_ne h0
theorem rd_a3 {n : Nat} : ∀ j, j < 5 → (if j = 0 then ob 4 8 (fun q => if q = 2 then .ref (n + 4) else rdF n 2 q) else if j = 4 then .inl (0, 200, .inl (fun _ => 0)) else rdC n 2 j) = rdC n 3 j := by
  intro j hj
  by_cases h0 : j = 0
  · subst h0; exact ob_cg (rdF_o (by omega) rfl)
  · rw [if_neg h0]
    by_cases h1 : j = 4
    · subst h1; rfl
    · rw [if_neg h1]; exact rdC_ne h0
theorem rd_a4 {n : Nat} : ∀ j, j < 5 → (if j = 0 then ob 4 8 (fun q => if q = 5 then .int (-1 : Int32) else rdF n 3 q) else rdC n 3 j) = rdC n 4 j := by
  intro j hj
  by_cases h0 : j = 0
  · subst h0; exact ob_cg rdF_3
  · rw [if_neg h0]; exact rdC_ne h0
def x9F (n o : Nat) : Nat → Value := fun k => if k < 8 then (if k < o then xxF n Z0 k else .null) else .int 0
def x9c (n o : Nat) (j : Nat) : AE :=
  if j = 0 then ob 9 9 (x9F n o)
  else if j < 59 then sc (n + 1) 6 10 16 9 (j - 1)
  else if j < 117 then sc (n + 59) 6 10 16 9 (j - 59)
  else if j < 119 then hiC (n + 117) (j - 117)
  else if j = 119 then .inl (8, 2, .inr (.inr (.inr (.inr (fun _ => none)))))
  else if j = 120 then .inl (2, 2, .inl (fun _ => 0))
  else if j < 126 then rdC (n + 121) 4 (j - 121)
  else if j < 128 then roC (n + 126) (j - 126)
  else .inl (3, 32, .inl (fun _ => 0))
theorem x9_ne {n o o' j : Nat} (h : j ≠ 0) : x9c n o j = x9c n o' j := by
  unfold x9c
  rw [if_neg h, if_neg h]
theorem x9_o {n o : Nat} {v : Value} (ho : o < 8) (hv : v = xxF n Z0 o) (q : Nat) : (if q = o then v else x9F n o q) = x9F n (o + 1) q := by
  subst hv
  unfold x9F
  by_cases h1 : q = o
  · subst h1; rw [if_pos rfl, if_pos ho, if_pos (by omega)]
  · rw [if_neg h1]
    by_cases h2 : q < 8
    · rw [if_pos h2, if_pos h2]
      by_cases h3 : q < o
      · rw [if_pos h3, if_pos (by omega)]
      · rw [if_neg h3, if_neg (by omega)]
    · rw [if_neg h2, if_neg h2]
theorem x9_G {n o K0 j : Nat} {v : Value} {G : Nat → AE} (ho : o < 8) (hv : v = xxF n Z0 o) (hG : ∀ i, K0 + i = j → G i = x9c n (o + 1) j) : (if j = 0 then ob 9 9 (fun q => if q = o then v else x9F n o q) else if j < K0 then x9c n o j else G (j - K0)) = x9c n (o + 1) j := by
  by_cases h0 : j = 0
  · subst h0; rw [if_pos rfl]; exact ob_cg (x9_o ho hv)
  · rw [if_neg h0]
    by_cases h1 : j < K0
    · rw [if_pos h1]; exact x9_ne h0
    · rw [if_neg h1]; exact hG _ (by omega)
theorem x9_N {n o K0 j : Nat} {v : Value} {e : AE} (ho : o < 8) (hv : v = xxF n Z0 o) (he : e = x9c n (o + 1) K0) : (if j = 0 then ob 9 9 (fun q => if q = o then v else x9F n o q) else if j = K0 then e else x9c n o j) = x9c n (o + 1) j := by
  by_cases h0 : j = 0
  · subst h0; rw [if_pos rfl]; exact ob_cg (x9_o ho hv)
  · rw [if_neg h0]
    by_cases h1 : j = K0
    · subst h1; rw [if_pos rfl]; exact he
    · rw [if_neg h1]; exact x9_ne h0
theorem x9_0 {n : Nat} : ob 9 9 fdX9 = ob 9 9 (x9F n 0) := ob_cg fun j => by
  unfold x9F
  by_cases h : j < 8
  · rw [if_pos h, if_neg (Nat.not_lt_zero _)]
    match j, h with
    | 0, _ => rfl
    | 1, _ => rfl
    | 2, _ => rfl
    | 3, _ => rfl
    | 4, _ => rfl
    | 5, _ => rfl
    | 6, _ => rfl
    | 7, _ => rfl
    | _ + 8, h => exact absurd h (by omega)
  · rw [if_neg h]
    obtain ⟨k, rfl⟩ : ∃ k, j = k + 8 := ⟨j - 8, by omega⟩
    rfl
theorem x9_a1 {n : Nat} : ∀ j, j < 59 → (if j = 0 then ob 9 9 (fun q => if q = 0 then .ref (n + 1) else x9F n 0 q) else if j < 1 then x9c n 0 j else sc (n + 1) 6 10 16 9 (j - 1)) = x9c n 1 j := fun j hj => x9_G (by omega) rfl fun i hi => by
  subst hi
  unfold x9c
  rw [if_neg (by omega), if_pos (by omega), Nat.add_sub_cancel_left]
theorem x9_a2 {n : Nat} : ∀ j, j < 117 → (if j = 0 then ob 9 9 (fun q => if q = 1 then .ref (n + 59) else x9F n 1 q) else if j < 59 then x9c n 1 j else sc (n + 59) 6 10 16 9 (j - 59)) = x9c n 2 j := fun j hj => x9_G (by omega) rfl fun i hi => by
  subst hi
  unfold x9c
  rw [if_neg (by omega), if_neg (by omega), if_pos (by omega), Nat.add_sub_cancel_left]
theorem x9_a3 {n : Nat} : ∀ j, j < 119 → (if j = 0 then ob 9 9 (fun q => if q = 2 then .ref (n + 117) else x9F n 2 q) else if j < 117 then x9c n 2 j else hiC (n + 117) (j - 117)) = x9c n 3 j := fun j hj => x9_G (by omega) rfl fun i hi => by
  subst hi
  unfold x9c
  rw [if_neg (by omega), if_neg (by omega), if_neg (by omega), if_pos (by omega), Nat.add_sub_cancel_left]
theorem x9_a4 {n : Nat} : ∀ j, j < 120 → (if j = 0 then ob 9 9 (fun q => if q = 3 then .ref (n + 119) else x9F n 3 q) else if j = 119 then .inl (8, 2, .inr (.inr (.inr (.inr (fun _ => none))))) else x9c n 3 j) = x9c n 4 j := fun j hj => x9_N (by omega) rfl rfl
theorem x9_a5 {n : Nat} : ∀ j, j < 121 → (if j = 0 then ob 9 9 (fun q => if q = 4 then .ref (n + 120) else x9F n 4 q) else if j = 120 then .inl (2, 2, .inl (fun _ => 0)) else x9c n 4 j) = x9c n 5 j := fun j hj => x9_N (by omega) rfl rfl
theorem x9_a6 {n : Nat} : ∀ j, j < 126 → (if j = 0 then ob 9 9 (fun q => if q = 5 then .ref (n + 121) else x9F n 5 q) else if j < 121 then x9c n 5 j else rdC (n + 121) 4 (j - 121)) = x9c n 6 j := fun j hj => x9_G (by omega) rfl fun i hi => by
  subst hi
  unfold x9c
  rw [if_neg (by omega), if_neg (by omega), if_neg (by omega), if_neg (by omega), if_neg (by omega), if_neg (by omega), if_pos (by omega), Nat.add_sub_cancel_left]
theorem x9_a7 {n : Nat} : ∀ j, j < 128 → (if j = 0 then ob 9 9 (fun q => if q = 6 then .ref (n + 126) else x9F n 6 q) else if j < 126 then x9c n 6 j else roC (n + 126) (j - 126)) = x9c n 7 j := fun j hj => x9_G (by omega) rfl fun i hi => by
  subst hi
  unfold x9c
  rw [if_neg (by omega), if_neg (by omega), if_neg (by omega), if_neg (by omega), if_neg (by omega), if_neg (by omega), if_neg (by omega), if_pos (by omega), Nat.add_sub_cancel_left]
theorem x9_a8 {n : Nat} : ∀ j, j < 129 → (if j = 0 then ob 9 9 (fun q => if q = 7 then .ref (n + 128) else x9F n 7 q) else if j = 128 then .inl (3, 32, .inl (fun _ => 0)) else x9c n 7 j) = x9c n 8 j := fun j hj => x9_N (by omega) rfl rfl
theorem x9_a9 {n : Nat} : ∀ j, j < 129 → (if j = 0 then ob 9 9 (fun q => if q = 8 then .int (0 : Int32) else x9F n 8 q) else x9c n 8 j) = x9c n 8 j := fun j hj => by
  by_cases h0 : j = 0
  · subst h0
    rw [if_pos rfl]
    refine ob_cg fun q => ?_
    by_cases h1 : q = 8
    · subst h1; rfl
    · rw [if_neg h1]
  · rw [if_neg h0]
/-- cells that are as good as others -/
def ceq (e e' : AE) : Prop := e = e' ∨ ∃ (t : Nat) (a a' : vp_A), e = .inl (t, a) ∧ e' = .inl (t, a') ∧ ∀ c : ClassId, vp_cell c a = vp_cell c a'
theorem arrV_cg {c : ClassId} {N : Nat} {f f' : Nat → Value} (h : ∀ j, j < N → f j = f' j) : arrV c N f = arrV c N f' := by
  have e : (fun j : Fin N => f j) = (fun j : Fin N => f' j) := funext fun j => h j j.2
  unfold arrV
  rw [e]
theorem ceq_r {t N : Nat} {f f' : Nat → Option Nat} (h : ∀ j, j < N → f j = f' j) : ceq (.inl (t, N, .inr (.inr (.inr (.inr f))))) (.inl (t, N, .inr (.inr (.inr (.inr f'))))) :=
  Or.inr ⟨t, _, _, rfl, rfl, fun c => arrV_cg (fun j hj => congrArg va_rf (h j hj))⟩
theorem scell_0 {b : Nat} : soF b 9 = stF b S0 := funext fun q => by
  unfold soF
  by_cases h : q < 7
  · rw [if_pos h, if_pos (by omega)]
  · rw [if_neg h]
    obtain ⟨k, rfl⟩ : ∃ k, q = k + 7 := ⟨q - 7, by omega⟩
    show _ = Value.int (gi S0 0 (k + 7) 0)
    by_cases h1 : k = 3
    · subst h1; rfl
    · rw [if_neg (by omega)]
      by_cases h2 : k = 4
      · subst h2; rfl
      · rw [if_neg (by omega)]
        refine congrArg Value.int ?_
        show _ = (if 0 = 0 ∧ k + 7 = 10 then (1 : Int32) else if 0 = 0 ∧ k + 7 = 11 then 72 else if 0 = 3 ∧ k + 7 = 0 then _ else 0)
        rw [if_neg (by omega), if_neg (by omega), if_neg (by omega)]
theorem sc_ceq {b j : Nat} : ceq (sc b 6 10 16 9 j) (scell b S0 j) := by
  unfold sc
  by_cases h0 : j = 0
  · subst h0
    rw [if_pos rfl, scell_0]
    exact Or.inl rfl
  rw [if_neg h0]
  by_cases h1 : j = 1
  · subst h1
    exact ceq_r fun j hj => if_pos hj
  rw [if_neg h1]
  by_cases h2 : j = 8
  · subst h2
    exact ceq_r fun j hj => if_pos hj
  rw [if_neg h2]
  by_cases h3 : j = 19
  · subst h3
    exact ceq_r fun j hj => if_pos hj
  rw [if_neg h3]
  exact Or.inl rfl
theorem rd_ceq {n j : Nat} : rdC n 4 j = rdc n R0 j := by
  by_cases h0 : j = 0
  · subst h0
    refine ob_cg fun q => ?_
    show rdF n 4 q = rd0F n R0 q
    unfold rdF
    by_cases h : q < 3
    · rw [if_pos h, if_pos (by omega)]
    · rw [if_neg h]
      obtain ⟨k, rfl⟩ : ∃ k, q = k + 3 := ⟨q - 3, by omega⟩
      show _ = Value.int (gi R0 0 (k + 3) 0)
      by_cases h1 : k = 2
      · subst h1; rfl
      · rw [if_neg (by omega)]
        refine congrArg Value.int ?_
        show _ = (if 0 = 0 ∧ k + 3 = 5 then (-1 : Int32) else 0)
        rw [if_neg (by omega)]
  by_cases h1 : j = 1
  · subst h1
    refine ob_cg fun q => ?_
    show (if q = 0 then Value.ref (n + 1 + 1) else fdX8 q) = rd1F n R0 q
    unfold rd1F fdX8
    by_cases h2 : q = 0
    · subst h2; rfl
    · rw [if_neg h2]
      split
      · exact absurd rfl h2
      · split
        · exact absurd rfl h2
        · rfl
  by_cases h2 : j = 2
  · subst h2; rfl
  by_cases h3 : j = 3
  · subst h3; rfl
  unfold rdC rdc
  rw [if_neg h0, if_neg h0, if_neg (by omega), if_neg h1, if_neg h2, if_neg h3, if_neg h3]
  rfl
theorem xh_cell {h : AH} {B j : Nat} {X R C L : Mem} {P : Rows} (hj : j < 129) : (xh h B X P R C L).1 (B + j) = some (if 1 ≤ j ∧ j < 59 then scell (B + 1) L (j - 1) else if 59 ≤ j ∧ j < 117 then scell (B + 59) C (j - 59) else if 121 ≤ j ∧ j < 126 then rdc (B + 121) R (j - 121) else xcell B X P j) := by
  unfold xh sb rb xb
  by_cases h1 : 1 ≤ j ∧ j < 59
  · rw [if_pos h1, show B + j = (B + 1) + (j - 1) by omega, blk_in (by omega)]
  rw [if_neg h1, blk_out (by omega)]
  by_cases h2 : 59 ≤ j ∧ j < 117
  · rw [if_pos h2, show B + j = (B + 59) + (j - 59) by omega, blk_in (by omega)]
  rw [if_neg h2, blk_out (by omega)]
  by_cases h3 : 121 ≤ j ∧ j < 126
  · rw [if_pos h3, show B + j = (B + 121) + (j - 121) by omega, blk_in (by omega)]
  rw [if_neg h3, blk_out (by omega), blk_in hj]
theorem xh_far {h : AH} {B q : Nat} {X R C L : Mem} {P : Rows} (hq : q < B ∨ B + 129 ≤ q) : (xh h B X P R C L).1 q = h.1 q := by
  unfold xh sb rb xb
  rw [blk_out (by omega), blk_out (by omega), blk_out (by omega), blk_out (by omega)]
theorem ob_cgN {ci n : Nat} {F F' : Nat → Value} (h : ∀ j, j < n → F j = F' j) : ob ci n F = ob ci n F' := by
  have e : (List.range n).map F = (List.range n).map F' := List.map_congr_left fun j hj => h j (List.mem_range.mp hj)
  unfold ob
  rw [e]
theorem x9_ceq {n j : Nat} (hj : j < 129) : ceq (x9c n 8 j) (if 1 ≤ j ∧ j < 59 then scell (n + 1) S0 (j - 1) else if 59 ≤ j ∧ j < 117 then scell (n + 59) S0 (j - 59) else if 121 ≤ j ∧ j < 126 then rdc (n + 121) R0 (j - 121) else xcell n Z0 P0 j) := by
  unfold x9c
  by_cases h0 : j = 0
  · subst h0
    refine Or.inl (ob_cg fun q => ?_)
    unfold x9F
    by_cases h : q < 8
    · rw [if_pos h, if_pos h]
    · rw [if_neg h]
      obtain ⟨k, rfl⟩ : ∃ k, q = k + 8 := ⟨q - 8, by omega⟩
      rfl
  rw [if_neg h0]
  by_cases h1 : j < 59
  · rw [if_pos h1, if_pos (show 1 ≤ j ∧ j < 59 by omega)]
    exact sc_ceq
  rw [if_neg h1, if_neg (show ¬(1 ≤ j ∧ j < 59) by omega)]
  by_cases h2 : j < 117
  · rw [if_pos h2, if_pos (show 59 ≤ j ∧ j < 117 by omega)]
    exact sc_ceq
  rw [if_neg h2, if_neg (show ¬(59 ≤ j ∧ j < 117) by omega)]
  by_cases h3 : j = 117
  · subst h3
    refine Or.inl (ob_cg fun q => ?_)
    show (if q = 0 then Value.ref (n + 117 + 1) else fdX1 q) = hiF n Z0 q
    unfold hiF fdX1
    by_cases h2 : q = 0
    · subst h2; rfl
    · rw [if_neg h2]
      split
      · exact absurd rfl h2
      · split
        · exact absurd rfl h2
        · rfl
  by_cases h4 : j = 118
  · subst h4
    exact ceq_r fun j hj => (if_pos hj).symm
  rw [if_neg (show ¬ j < 119 by omega)]
  by_cases h5 : j = 119
  · subst h5
    exact ceq_r fun j hj => (if_pos hj).symm
  rw [if_neg h5]
  by_cases h6 : j = 120
  · subst h6
    exact Or.inl rfl
  rw [if_neg h6]
  by_cases h7 : j < 126
  · rw [if_pos h7, if_pos (show 121 ≤ j ∧ j < 126 by omega)]
    exact Or.inl rd_ceq
  rw [if_neg h7, if_neg (show ¬(121 ≤ j ∧ j < 126) by omega)]
  by_cases h8 : j = 126
  · subst h8
    refine Or.inl (ob_cgN fun q hq => ?_)
    show (if q = 0 then Value.ref (n + 126 + 1) else fdX6 q) = rtF n q
    rw [if_pos (show q = 0 by omega)]
    rfl
  by_cases h9 : j = 127
  · subst h9
    exact Or.inl rfl
  rw [if_neg (show ¬ j < 128 by omega)]
  have h10 : j = 128 := by omega
  subst h10
  exact Or.inl rfl
theorem bw_0 {h : AH} {B : Nat} {z : Nat × Nat × Nat} {W : Nat → Mem} : bw h B z P0 W = (h.1, z) := rfl
theorem x9_mono {g : AG} {h : AH} {n c s : Nat} {W : Nat → Mem} (H : Heap) (k : HC g (gro h n 129 c s (x9c n 8)) H) : HC g (xh (bw h n (n + 129, c, s) P0 W) n Z0 P0 R0 S0 S0) H := by
  refine HC.mono (h := gro h n 129 c s (x9c n 8)) rfl (fun q e' he => ?_) k
  by_cases hq : n ≤ q ∧ q < n + 129
  · obtain ⟨j, rfl⟩ : ∃ j, q = n + j := ⟨q - n, by omega⟩
    have hj : j < 129 := by omega
    rw [xh_cell hj] at he
    have he := Option.some.inj he
    subst he
    rw [gro_get hj]
    rcases x9_ceq (n := n) hj with h1 | ⟨t, a, a', h1, h2, h3⟩
    · exact Or.inl (congrArg some h1)
    · exact Or.inr ⟨t, a, a', congrArg some h1, h2, h3⟩
  · rw [xh_far (by omega)] at he
    refine Or.inl ?_
    show (if n ≤ q ∧ q < n + 129 then _ else h.1 q) = _
    rw [if_neg hq]
    exact he
set_option maxRecDepth 100000 in
theorem nX4_init {g : AG} {h0 : AH} {n c s : Nat} {Q : AO → AH → Prop} (hst : Sta g h0) (hc : 4 ≤ c) (hs : 1213 ≤ s) (hA : gB g ≤ n) (hQ : Q (.ok none) (gro h0 n 5 (c - 4) (s - 1213) (rdC n 4))) : AW g MX4_init 0 [some (.ref n)] [] (gro h0 n 1 c s (fun _ => ob 4 8 fdX4)) Q := by
  refine AW.heq (gro_eq (f' := rdC n 0) rfl rfl rfl (fun j hj => by rw [show j = 0 by omega]; exact rdF_0)) ?_
  refine AW.aload_n (z := 0) (am_r 0 rfl) rfl rfl ?_
  refine AW.objInit (am_r 1 rfl) rfl q317 q32 q33 rfl ?_
  refine AW.aload_n (z := 0) (am_r 2 rfl) rfl rfl ?_
  refine AW.newG (F := fdX8) (am_r 3 rfl) rfl klX8 q318 q319 q9 hdX8 (by omega) (by omega) ?_
  refine AW.dup (am_r 4 rfl) rfl rfl ?_
  refine AW.callI (N := MX8_init) (As := []) (b := _) (am_r 5 rfl) rfl oiX8_init q320 rfl rfl rfl rfl rfl ?_
  refine AW.heq (gro_sub (c0 := 0) (s0 := 0)) ?_
  refine nX8_init (by omega) (by omega) (by omega) (cQ_v ?_)
  refine AW.heq gro_gro ?_
  refine AW.putG (j := 0) (am_r 6 rfl) rfl klX4 (k := 0) (by omega) q352 (Or.inr ⟨rfl, rfl⟩) (by omega) rfl hA rfl rfl ?_
  refine AW.heq (gro_eq rfl rfl rfl (rd_a1)) ?_
  refine AW.aload_n (z := 0) (am_r 7 rfl) rfl rfl ?_
  refine AW.getsN (host := RX9) (k := 3) (am_r 8 rfl) rfl rfl (by decide) (hst.1 3 (by decide)).1 ?_
  refine AW.alen (v := 14) (am_r 9 rfl) rfl rfl ((sta_gro hst hA).1 3 (by decide)).2.1 rfl ?_
  refine AW.iconst (am_r 10 rfl) rfl ci_2 ?_
  refine AW.idiv (am_r 11 rfl) rfl (by decide) ?_
  refine AW.newaG (t := 0) (N := 7) (ty := .int) (a0 := (7, .inl (fun _ => 0))) (am_r 12 rfl) rfl q210 rfl rfl (fun _ => rfl) (by decide) (by decide) (by decide) (by omega) (by omega) ?_
  refine AW.putG (j := 0) (am_r 13 rfl) rfl klX4 (k := 1) (by omega) q354 (Or.inr ⟨rfl, rfl⟩) (by omega) rfl hA rfl rfl ?_
  refine AW.heq (gro_eq rfl rfl rfl (rd_a2)) ?_
  refine AW.aload_n (z := 0) (am_r 14 rfl) rfl rfl ?_
  refine AW.sipush (v := (200 : Int32)) (am_r 15 rfl) rfl (by decide) ?_
  refine AW.newaG (t := 0) (N := 200) (ty := .int) (a0 := (200, .inl (fun _ => 0))) (am_r 16 rfl) rfl q210 rfl rfl (fun _ => rfl) (by decide) (by decide) (by decide) (by omega) (by omega) ?_
  refine AW.putG (j := 0) (am_r 17 rfl) rfl klX4 (k := 2) (by omega) q355 (Or.inr ⟨rfl, rfl⟩) (by omega) rfl hA rfl rfl ?_
  refine AW.heq (gro_eq rfl rfl rfl (rd_a3)) ?_
  refine AW.aload_n (z := 0) (am_r 18 rfl) rfl rfl ?_
  refine AW.iconst (am_r 19 rfl) rfl ci_m1 ?_
  refine AW.putG (j := 0) (am_r 20 rfl) rfl klX4 (k := 5) (by omega) q360 (Or.inr ⟨rfl, rfl⟩) (by omega) rfl hA rfl rfl ?_
  refine AW.heq (gro_eq rfl rfl rfl (rd_a4)) ?_
  refine AW.heq (gro_eq (k' := 5) (c' := c - 4) (s' := s - 1213) rfl (by omega) (by omega) (fun _ _ => rfl)) ?_
  exact AW.vret (am_r 21 rfl) rfl hQ
set_option maxRecDepth 100000 in
theorem nX9_init {g : AG} {h0 : AH} {n c s : Nat} {Q : AO → AH → Prop} {W : Nat → Mem} (hst : Sta g h0) (hc : 128 ≤ c) (hs : 4710 ≤ s) (hA : gB g ≤ n) (hQ : Q (.ok none) (xh (bw h0 n (n + 129, c - 128, s - 4710) P0 W) n Z0 P0 R0 S0 S0)) : AW g MX9_init 0 [some (.ref n)] [] (gro h0 n 1 c s (fun _ => ob 9 9 fdX9)) Q := by
  refine AW.heq (gro_eq (f' := x9c n 0) rfl rfl rfl (fun j hj => by rw [show j = 0 by omega]; exact x9_0)) ?_
  refine AW.aload_n (z := 0) (am_r 0 rfl) rfl rfl ?_
  refine AW.objInit (am_r 1 rfl) rfl q31 q32 q33 rfl ?_
  refine AW.aload_n (z := 0) (am_r 2 rfl) rfl rfl ?_
  refine AW.newG (F := fdX7) (am_r 3 rfl) rfl klX7 q34 q35 q2 hdX7 (by omega) (by omega) ?_
  refine AW.dup (am_r 4 rfl) rfl rfl ?_
  refine AW.callI (N := MX7_init) (As := []) (b := _) (am_r 5 rfl) rfl oiX7_init q36 rfl rfl rfl rfl rfl ?_
  refine AW.heq (gro_sub (c0 := 0) (s0 := 0)) ?_
  refine nX7_init (by omega) (by omega) (by omega) (cQ_v ?_)
  refine AW.heq gro_gro ?_
  refine AW.putG (j := 0) (am_r 6 rfl) rfl klX9 (k := 0) (by omega) q392 (Or.inr ⟨rfl, rfl⟩) (by omega) rfl hA rfl rfl ?_
  refine AW.heq (gro_eq rfl rfl rfl (x9_a1)) ?_
  refine AW.aload_n (z := 0) (am_r 7 rfl) rfl rfl ?_
  refine AW.newG (F := fdX7) (am_r 8 rfl) rfl klX7 q34 q35 q2 hdX7 (by omega) (by omega) ?_
  refine AW.dup (am_r 9 rfl) rfl rfl ?_
  refine AW.callI (N := MX7_init) (As := []) (b := _) (am_r 10 rfl) rfl oiX7_init q36 rfl rfl rfl rfl rfl ?_
  refine AW.heq (gro_sub (c0 := 0) (s0 := 0)) ?_
  refine nX7_init (by omega) (by omega) (by omega) (cQ_v ?_)
  refine AW.heq gro_gro ?_
  refine AW.putG (j := 0) (am_r 11 rfl) rfl klX9 (k := 1) (by omega) q393 (Or.inr ⟨rfl, rfl⟩) (by omega) rfl hA rfl rfl ?_
  refine AW.heq (gro_eq rfl rfl rfl (x9_a2)) ?_
  refine AW.aload_n (z := 0) (am_r 12 rfl) rfl rfl ?_
  refine AW.newG (F := fdX1) (am_r 13 rfl) rfl klX1 q293 q294 q7 hdX1 (by omega) (by omega) ?_
  refine AW.dup (am_r 14 rfl) rfl rfl ?_
  refine AW.callI (N := MX1_init) (As := []) (b := _) (am_r 15 rfl) rfl oiX1_init q295 rfl rfl rfl rfl rfl ?_
  refine AW.heq (gro_sub (c0 := 0) (s0 := 0)) ?_
  refine nX1_init (by omega) (by omega) (by omega) (cQ_v ?_)
  refine AW.heq gro_gro ?_
  refine AW.putG (j := 0) (am_r 16 rfl) rfl klX9 (k := 2) (by omega) q394 (Or.inr ⟨rfl, rfl⟩) (by omega) rfl hA rfl rfl ?_
  refine AW.heq (gro_eq rfl rfl rfl (x9_a3)) ?_
  refine AW.aload_n (z := 0) (am_r 17 rfl) rfl rfl ?_
  refine AW.iconst (am_r 18 rfl) rfl ci_2 ?_
  refine AW.anewG (t := 8) (N := 2) (C := RX7) (am_r 19 rfl) rfl q34 (List.mem_of_getElem? (i := 3) rfl) rfl (by decide) (by decide) (by decide) (by omega) (by omega) ?_
  refine AW.putG (j := 0) (am_r 20 rfl) rfl klX9 (k := 3) (by omega) q395 (Or.inr ⟨rfl, rfl⟩) (by omega) rfl hA rfl rfl ?_
  refine AW.heq (gro_eq rfl rfl rfl (x9_a4)) ?_
  refine AW.aload_n (z := 0) (am_r 21 rfl) rfl rfl ?_
  refine AW.iconst (am_r 22 rfl) rfl ci_2 ?_
  refine AW.newaG (t := 2) (N := 2) (ty := .boolean) (a0 := (2, .inl (fun _ => 0))) (am_r 23 rfl) rfl q348 rfl rfl (fun _ => rfl) (by decide) (by decide) (by decide) (by omega) (by omega) ?_
  refine AW.putG (j := 0) (am_r 24 rfl) rfl klX9 (k := 4) (by omega) q396 (Or.inr ⟨rfl, rfl⟩) (by omega) rfl hA rfl rfl ?_
  refine AW.heq (gro_eq rfl rfl rfl (x9_a5)) ?_
  refine AW.aload_n (z := 0) (am_r 25 rfl) rfl rfl ?_
  refine AW.newG (F := fdX4) (am_r 26 rfl) rfl klX4 q312 q313 q8 hdX4 (by omega) (by omega) ?_
  refine AW.dup (am_r 27 rfl) rfl rfl ?_
  refine AW.callI (N := MX4_init) (As := []) (b := _) (am_r 28 rfl) rfl oiX4_init q314 rfl rfl rfl rfl rfl ?_
  refine AW.heq (gro_sub (c0 := 0) (s0 := 0)) ?_
  refine nX4_init (sta_gro hst hA) (by omega) (by omega) (by omega) (cQ_v ?_)
  refine AW.heq gro_gro ?_
  refine AW.putG (j := 0) (am_r 29 rfl) rfl klX9 (k := 5) (by omega) q397 (Or.inr ⟨rfl, rfl⟩) (by omega) rfl hA rfl rfl ?_
  refine AW.heq (gro_eq rfl rfl rfl (x9_a6)) ?_
  refine AW.aload_n (z := 0) (am_r 30 rfl) rfl rfl ?_
  refine AW.newG (F := fdX6) (am_r 31 rfl) rfl klX6 q381 q382 q10 hdX6 (by omega) (by omega) ?_
  refine AW.dup (am_r 32 rfl) rfl rfl ?_
  refine AW.callI (N := MX6_init) (As := []) (b := _) (am_r 33 rfl) rfl oiX6_init q383 rfl rfl rfl rfl rfl ?_
  refine AW.heq (gro_sub (c0 := 0) (s0 := 0)) ?_
  refine nX6_init (by omega) (by omega) (by omega) (cQ_v ?_)
  refine AW.heq gro_gro ?_
  refine AW.putG (j := 0) (am_r 34 rfl) rfl klX9 (k := 6) (by omega) q398 (Or.inr ⟨rfl, rfl⟩) (by omega) rfl hA rfl rfl ?_
  refine AW.heq (gro_eq rfl rfl rfl (x9_a7)) ?_
  refine AW.aload_n (z := 0) (am_r 35 rfl) rfl rfl ?_
  refine AW.bipush (v := (32 : Int32)) (am_r 36 rfl) rfl (by decide) ?_
  refine AW.newaG (t := 3) (N := 32) (ty := .byte) (a0 := (32, .inl (fun _ => 0))) (am_r 37 rfl) rfl q349 rfl rfl (fun _ => rfl) (by decide) (by decide) (by decide) (by omega) (by omega) ?_
  refine AW.putG (j := 0) (am_r 38 rfl) rfl klX9 (k := 7) (by omega) q399 (Or.inr ⟨rfl, rfl⟩) (by omega) rfl hA rfl rfl ?_
  refine AW.heq (gro_eq rfl rfl rfl (x9_a8)) ?_
  refine AW.aload_n (z := 0) (am_r 39 rfl) rfl rfl ?_
  refine AW.iconst (am_r 40 rfl) rfl ci_0 ?_
  refine AW.putG (j := 0) (am_r 41 rfl) rfl klX9 (k := 8) (by omega) q400 (Or.inr ⟨rfl, rfl⟩) (by omega) rfl hA rfl rfl ?_
  refine AW.heq (gro_eq rfl rfl rfl (x9_a9)) ?_
  refine AW.heq (gro_eq (k' := 129) (c' := c - 128) (s' := s - 4710) rfl (by omega) (by omega) (fun _ _ => rfl)) ?_
  refine AW.hmono (x9_mono (W := W)) ?_
  exact AW.vret (am_r 42 rfl) rfl hQ
