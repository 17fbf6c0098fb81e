/-! ===== THE LEAST WAYS TO A TARGET ===== -/
theorem if_iff {α : Type} {p q : Prop} [Decidable p] [Decidable q] {x y : α} (h : p ↔ q) : (if p then x else y) = if q then x else y := by
  by_cases e : p
  · rw [if_pos e, if_pos (h.mp e)]
  · rw [if_neg e, if_neg (fun z => e (h.mpr z))]
def omn : Option Nat → Option Nat → Option Nat
  | none, y => y
  | some x, none => some x
  | some x, some y => if x ≤ y then some x else some y
def ole (o : Option Nat) (k : Nat) : Prop := ∃ m, o = some m ∧ m ≤ k
theorem ole_n {k : Nat} : ¬ ole none k := by rintro ⟨m, h, _⟩; cases h
theorem ole_s {x k : Nat} : ole (some x) k ↔ x ≤ k := by
  constructor
  · rintro ⟨m, h, h2⟩; cases h; exact h2
  · intro h; exact ⟨x, rfl, h⟩
theorem omn_ss {x y : Nat} : omn (some x) (some y) = if x ≤ y then some x else some y := rfl
theorem ole_omn {a b : Option Nat} {k : Nat} : ole (omn a b) k ↔ ole a k ∨ ole b k := by
  cases a with
  | none =>
    show ole b k ↔ _
    constructor
    · exact Or.inr
    · rintro (h | h)
      · exact absurd h ole_n
      · exact h
  | some x =>
    cases b with
    | none =>
      show ole (some x) k ↔ _
      constructor
      · exact Or.inl
      · rintro (h | h)
        · exact h
        · exact absurd h ole_n
    | some y =>
      rw [omn_ss, ole_s, ole_s]
      by_cases e : x ≤ y
      · rw [if_pos e, ole_s]; omega
      · rw [if_neg e, ole_s]; omega
theorem ole_ext {a b : Option Nat} (h : ∀ k, ole a k ↔ ole b k) : a = b := by
  cases a with
  | none =>
    cases b with
    | none => rfl
    | some y => exact absurd ((h y).mpr (ole_s.mpr (Nat.le_refl _))) ole_n
  | some x =>
    cases b with
    | none => exact absurd ((h x).mp (ole_s.mpr (Nat.le_refl _))) ole_n
    | some y =>
      have h1 := ole_s.mp ((h x).mp (ole_s.mpr (Nat.le_refl _)))
      have h2 := ole_s.mp ((h y).mpr (ole_s.mpr (Nat.le_refl _)))
      rw [Nat.le_antisymm h2 h1]
def fmn (f : Nat → Option Nat) : Nat → Option Nat
  | 0 => none
  | n + 1 => omn (fmn f n) (f n)
theorem ole_fmn {f : Nat → Option Nat} {k : Nat} : ∀ {n : Nat}, ole (fmn f n) k ↔ ∃ r, r < n ∧ ole (f r) k := by
  intro n
  induction n with
  | zero =>
    constructor
    · intro h; exact absurd h ole_n
    · rintro ⟨r, h, _⟩; omega
  | succ n ih =>
    show ole (omn (fmn f n) (f n)) k ↔ _
    rw [ole_omn, ih]
    constructor
    · rintro (⟨r, h1, h2⟩ | h)
      · exact ⟨r, by omega, h2⟩
      · exact ⟨n, by omega, h⟩
    · rintro ⟨r, h1, h2⟩
      by_cases e : r = n
      · subst e; exact Or.inr h2
      · exact Or.inl ⟨r, by omega, h2⟩
theorem omn_some {a b : Option Nat} {x : Nat} (h : omn a b = some x) : a = some x ∨ b = some x := by
  cases a with
  | none => exact Or.inr h
  | some u =>
    cases b with
    | none => exact Or.inl h
    | some v =>
      rw [omn_ss] at h
      by_cases e : u ≤ v
      · rw [if_pos e] at h; exact Or.inl h
      · rw [if_neg e] at h; exact Or.inr h
theorem fmn_some {f : Nat → Option Nat} {x : Nat} : ∀ {n : Nat}, fmn f n = some x → ∃ r, r < n ∧ f r = some x := by
  intro n
  induction n with
  | zero => intro h; cases h
  | succ n ih =>
    intro h
    rcases omn_some (show omn (fmn f n) (f n) = some x from h) with h | h
    · obtain ⟨r, h1, h2⟩ := ih h
      exact ⟨r, by omega, h2⟩
    · exact ⟨n, by omega, h⟩
theorem fmn_cg {f g : Nat → Option Nat} : ∀ {n : Nat}, (∀ r, r < n → f r = g r) → fmn f n = fmn g n := by
  intro n
  induction n with
  | zero => intro _; rfl
  | succ n ih =>
    intro h
    show omn (fmn f n) (f n) = omn (fmn g n) (g n)
    rw [ih (fun r hr => h r (by omega)), h n (by omega)]
def oad (o : Option Nat) (w : Nat) : Option Nat := match o with
  | none => none
  | some d => some (d + w)
theorem ole_oad {o : Option Nat} {w k : Nat} : ole (oad o w) k ↔ ∃ d, o = some d ∧ d + w ≤ k := by
  cases o with
  | none =>
    constructor
    · intro h; exact absurd h ole_n
    · rintro ⟨d, h, _⟩; cases h
  | some x =>
    show ole (some (x + w)) k ↔ _
    rw [ole_s]
    constructor
    · intro h; exact ⟨x, rfl, h⟩
    · rintro ⟨d, h, h2⟩; cases h; exact h2
/-- the least sum on the way from s to t, in at most n steps -/
def dst (b : Nat → Nat → Nat) (w : Nat → Nat) (nr t : Nat) : Nat → Nat → Option Nat
  | 0, s => if t ≤ s then some 0 else none
  | n + 1, s => if t ≤ s then some 0 else fmn (fun r => if s < b r s then oad (dst b w nr t n (b r s)) (w r) else none) nr
section DST
variable {b : Nat → Nat → Nat} {w : Nat → Nat} {nr t : Nat}
theorem dst_top {n s : Nat} (h : t ≤ s) : dst b w nr t n s = some 0 := by
  cases n with
  | zero => exact if_pos h
  | succ n => exact if_pos h
theorem dst_fuel : ∀ n n' s, t - s ≤ n → t - s ≤ n' → dst b w nr t n s = dst b w nr t n' s := by
  intro n
  induction n with
  | zero => intro n' s h1 h2; rw [dst_top (by omega), dst_top (by omega)]
  | succ n ih =>
    intro n' s h1 h2
    by_cases e : t ≤ s
    · rw [dst_top e, dst_top e]
    · cases n' with
      | zero => omega
      | succ n' =>
        show (if t ≤ s then some 0 else fmn (fun r => if s < b r s then oad (dst b w nr t n (b r s)) (w r) else none) nr) = (if t ≤ s then some 0 else fmn (fun r => if s < b r s then oad (dst b w nr t n' (b r s)) (w r) else none) nr)
        rw [if_neg e, if_neg e]
        refine fmn_cg fun r _ => ?_
        by_cases c : s < b r s
        · rw [if_pos c, if_pos c, ih n' (b r s) (by omega) (by omega)]
        · rw [if_neg c, if_neg c]
theorem dst_rec (ht : t ≤ 1000) {s : Nat} (hs : s < t) : dst b w nr t 1000 s = fmn (fun r => if s < b r s then oad (dst b w nr t 1000 (b r s)) (w r) else none) nr := by
  rw [dst_fuel 1000 (1000 + 1) s (by omega) (by omega)]
  show (if t ≤ s then some 0 else fmn (fun r => if s < b r s then oad (dst b w nr t 1000 (b r s)) (w r) else none) nr) = _
  rw [if_neg (by omega)]
theorem dst_le {W : Nat} (hw : ∀ r, r < nr → w r ≤ W) : ∀ n s d, dst b w nr t n s = some d → d ≤ (t - s) * W := by
  intro n
  induction n with
  | zero =>
    intro s d h
    by_cases e : t ≤ s
    · rw [dst_top e] at h; cases h; exact Nat.zero_le _
    · rw [show dst b w nr t 0 s = none from if_neg e] at h; cases h
  | succ n ih =>
    intro s d h
    by_cases e : t ≤ s
    · rw [dst_top e] at h; cases h; exact Nat.zero_le _
    · rw [show dst b w nr t (n + 1) s = fmn (fun r => if s < b r s then oad (dst b w nr t n (b r s)) (w r) else none) nr from if_neg e] at h
      obtain ⟨r, hr, h2⟩ := fmn_some h
      by_cases c : s < b r s
      · rw [if_pos c] at h2
        cases hd : dst b w nr t n (b r s) with
        | none => rw [hd] at h2; cases h2
        | some d' =>
          rw [hd] at h2
          have h2 : d' + w r = d := Option.some.inj h2
          have h3 := ih _ _ hd
          have h4 := hw r hr
          have h5 : (t - b r s + 1) * W ≤ (t - s) * W := Nat.mul_le_mul_right W (by omega)
          rw [Nat.add_mul, Nat.one_mul] at h5
          omega
      · rw [if_neg c] at h2; cases h2
end DST
def eL : Option Nat → Int64
  | none => -1
  | some d => lN d
theorem eL_n {o : Option Nat} (h : ∀ d, o = some d → d < 2 ^ 62) : (lg_cmp (eL o) (-1 : Int64) = 0) ↔ o = none := by
  rw [lg_cmp_eq]
  cases o with
  | none => exact ⟨fun _ => rfl, fun _ => rfl⟩
  | some d =>
    have hd := h d rfl
    constructor
    · intro h2
      have h3 := congrArg Int64.toInt (show lN d = -1 from h2)
      rw [pk_lT (by omega), show (-1 : Int64).toInt = -1 by decide] at h3
      omega
    · intro h2; cases h2
theorem eL_lt {o : Option Nat} (h : ∀ d, o = some d → d < 2 ^ 62) : (lg_cmp (eL o) (0 : Int64) < 0) ↔ o = none := by
  rw [lg_cmp_lt]
  cases o with
  | none => exact ⟨fun _ => rfl, fun _ => by decide⟩
  | some d =>
    have hd := h d rfl
    constructor
    · intro h2
      have h3 := Int64.lt_iff_toInt_lt.mp (show lN d < 0 from h2)
      rw [pk_lT (by omega), show (0 : Int64).toInt = 0 by decide] at h3
      omega
    · intro h2; cases h2
theorem eL_ge {o : Option Nat} (h : ∀ d, o = some d → d < 2 ^ 62) : (0 ≤ lg_cmp (eL o) (0 : Int64)) ↔ o ≠ none := by
  rw [← Int32.not_lt]
  exact not_congr (eL_lt h)
theorem eL_cmp {x y : Nat} (hx : x < 2 ^ 62) (hy : y < 2 ^ 62) : (0 ≤ lg_cmp (lN x) (lN y)) ↔ y ≤ x := by
  rw [lg_cmp_ge, pk_lLE (by omega) (by omega)]
section ROU
variable {B m np nr ni : Nat} {S : XT} {T : Mem} {co : Nat → Option Int32}
/-- the score behind a recipe; what a recipe costs -/
def bhd (L : Mem) (r s : Nat) : Nat := (sX5_scoreBehind L r (nI s)).toNatClampNeg
def cst (L : Mem) (f : Int32) (r : Nat) : Nat := if f = 0 then (sX5_hours L r).toNatClampNeg else (sX5_price L r).toInt.toNat
theorem e_bhd {L T : Mem} {r s : Nat} (h : Rel L T np nr ni) (hr : r < nr) (hs : s ≤ 1000) : sX5_scoreBehind L r (nI s) = nI (bhd L r s) ∧ s ≤ bhd L r s ∧ bhd L r s ≤ 1000 := by
  obtain ⟨s', h1, h2, h3⟩ := e_sb h hr hs
  have e : bhd L r s = s' := by
    unfold bhd
    rw [h3, n_cl (by omega)]
  rw [e]
  exact ⟨h3, h1, h2⟩
theorem e_cst {L T : Mem} {r : Nat} (h : Rel L T np nr ni) (hr : r < nr) : (sX5_hours L r).toInt64 = lN (cst L 0 r) ∧ sX5_price L r = lN (cst L 1 r) ∧ (gi L 2 0 r).toInt64 * (gi L 2 6 r).toInt64 = lN (cst L 1 r) ∧ ∀ f, cst L f r ≤ 4000000000 := by
  obtain ⟨-, ⟨a, a1, a2, a3⟩, ⟨c, c1, c2⟩, -, -, -, -, ⟨g, g1, g2, g3⟩⟩ := h.1.2.2.2.2.2.1 r hr
  have hm : a * g ≤ 40 * 100000000 := Nat.mul_le_mul a2 g2
  have e1 : sX5_hours L r = nI (a + c) := by
    unfold sX5_hours
    rw [a3, c2, nI_add]
  have e2 : sX5_price L r = lN (a * g) := by
    unfold sX5_price
    rw [a3, g3, nI_l (by omega), nI_l (by omega), lN_mul]
  have k1 : cst L 0 r = a + c := by
    unfold cst
    rw [if_pos rfl, e1, n_cl (by omega)]
  have k2 : ∀ f, f ≠ 0 → cst L f r = a * g := fun f hf => by
    unfold cst
    rw [if_neg hf, e2, pk_lT (by omega)]
    rfl
  refine ⟨?_, ?_, ?_, fun f => ?_⟩
  · rw [k1, e1, nI_l (by omega)]
  · rw [k2 1 one_ne]; exact e2
  · rw [k2 1 one_ne]; exact e2
  · by_cases e : f = 0
    · subst e; rw [k1]; omega
    · rw [k2 f e]; omega
def DD (L : Mem) (nr : Nat) (f : Int32) (t s : Nat) : Option Nat := dst (bhd L) (cst L f) nr t 1000 s
theorem DD_lt {L T : Mem} {f : Int32} {t s d : Nat} (h : Rel L T np nr ni) (ht : t ≤ 1000) (hd : DD L nr f t s = some d) : d ≤ 1000 * 4000000000 := by
  have := dst_le (W := 4000000000) (fun r hr => (e_cst h hr).2.2.2 f) _ _ _ hd
  have h2 : (t - s) * 4000000000 ≤ 1000 * 4000000000 := Nat.mul_le_mul_right _ (by omega)
  exact Nat.le_trans this h2
/-- the program, at one score -/
theorem e_from {f : Int32} {t s : Nat} {T0 : Mem} (h : Rel S.2.2.2.2.2.1 T0 np nr ni) (hf : f = 0 ∨ f = 1) (ht : t ≤ 1000) (hs : s < t) (hq : ∀ s', s < s' → s' < t → gq S.2.1 5 s' = eL (DD S.2.2.2.2.2.1 nr f t s')) : sX6_leastFrom S B (nI s) (nI t) f = some (eL (DD S.2.2.2.2.2.1 nr f t s)) := by
  have hnr : nr ≤ 10 := h.1.1.2.1
  have e8 : gi S.2.2.2.2.2.1 0 8 0 = nI nr := h.1.2.1.2.1
  have hrec : DD S.2.2.2.2.2.1 nr f t s = fmn (fun r => if s < bhd S.2.2.2.2.2.1 r s then oad (DD S.2.2.2.2.2.1 nr f t (bhd S.2.2.2.2.2.1 r s)) (cst S.2.2.2.2.2.1 f r) else none) nr := dst_rec ht hs
  have hbd : ∀ u d, u ≤ nr → fmn (fun r => if s < bhd S.2.2.2.2.2.1 r s then oad (DD S.2.2.2.2.2.1 nr f t (bhd S.2.2.2.2.2.1 r s)) (cst S.2.2.2.2.2.1 f r) else none) u = some d → d < 2 ^ 62 := fun u d hu hd => by
    obtain ⟨r, hr, h2⟩ := fmn_some hd
    by_cases c : s < bhd S.2.2.2.2.2.1 r s
    · rw [if_pos c] at h2
      cases hx : DD S.2.2.2.2.2.1 nr f t (bhd S.2.2.2.2.2.1 r s) with
      | none => rw [hx] at h2; cases h2
      | some x =>
        rw [hx] at h2
        have h3 : x + cst S.2.2.2.2.2.1 f r = d := Option.some.inj h2
        have h4 := DD_lt h ht hx
        have h5 := (e_cst h (show r < nr by omega)).2.2.2 f
        omega
    · rw [if_neg c] at h2; cases h2
  unfold sX6_leastFrom sX6_leastFrom_l8
  rw [hrec]
  refine itw_seq (f := sX6_leastFrom_l8_step S B (nI s) (nI t) f) (fun u => (eL (fmn (fun r => if s < bhd S.2.2.2.2.2.1 r s then oad (DD S.2.2.2.2.2.1 nr f t (bhd S.2.2.2.2.2.1 r s)) (cst S.2.2.2.2.2.1 f r) else none) u), nI u)) nr (fun u hu => ?_) ?_
  · obtain ⟨b1, b2, b3⟩ := e_bhd h hu (show s ≤ 1000 by omega)
    obtain ⟨c1, c2, -, c4⟩ := e_cst h hu
    have hbu := hbd u
    unfold sX6_leastFrom_l8_step
    dsimp only
    have hle : ¬ nI nr ≤ nI u := by rw [n_le (by omega) (by omega)]; omega
    rw [e8, if_neg hle, e_recipeAt (by omega), olet_eq, b1]
    show _ = some (Sum.inl (eL (omn (fmn _ u) _), nI (u + 1)))
    dsimp only
    by_cases e : bhd S.2.2.2.2.2.1 u s ≤ s
    · rw [if_pos (show nI (bhd S.2.2.2.2.2.1 u s) ≤ nI s by rw [n_le (by omega) (by omega)]; exact e), if_neg (show ¬ s < bhd S.2.2.2.2.2.1 u s by omega)]
      unfold sX6_leastFrom_j52
      rw [if_pos (show lg_cmp (-1 : Int64) (-1 : Int64) = 0 from (eL_n (o := none) (fun d hd => by cases hd)).mpr rfl), olet_eq, n_suc]
      generalize fmn _ u = o
      cases o <;> rfl
    · rw [if_neg (show ¬ nI (bhd S.2.2.2.2.2.1 u s) ≤ nI s by rw [n_le (by omega) (by omega)]; exact e), if_pos (show s < bhd S.2.2.2.2.2.1 u s by omega)]
      have hbb : sX6_leastBehind S B (nI (bhd S.2.2.2.2.2.1 u s)) (nI t) = some (eL (DD S.2.2.2.2.2.1 nr f t (bhd S.2.2.2.2.2.1 u s))) := by
        unfold sX6_leastBehind
        by_cases c : bhd S.2.2.2.2.2.1 u s < t
        · rw [if_pos (show nI (bhd S.2.2.2.2.2.1 u s) < nI t by rw [n_lt (by omega) (by omega)]; exact c), if_neg (n_nn (by omega)), if_neg (by rw [n_lit 1001, n_le (by omega) (by omega)]; omega), n_cl (by omega), hq _ (by omega) c]
        · rw [if_neg (show ¬ nI (bhd S.2.2.2.2.2.1 u s) < nI t by rw [n_lt (by omega) (by omega)]; exact c), show DD S.2.2.2.2.2.1 nr f t (bhd S.2.2.2.2.2.1 u s) = some 0 from dst_top (by omega)]
          rfl
      rw [hbb, obind_some]
      unfold sX6_leastFrom_j52
      have hdl : ∀ d, DD S.2.2.2.2.2.1 nr f t (bhd S.2.2.2.2.2.1 u s) = some d → d < 2 ^ 62 := fun d hd => by
        have := DD_lt h ht hd
        omega
      have hcf : (if f = 0 then sX6_leastFrom_j84 S B (nI s) (nI t) f (eL (fmn (fun r => if s < bhd S.2.2.2.2.2.1 r s then oad (DD S.2.2.2.2.2.1 nr f t (bhd S.2.2.2.2.2.1 r s)) (cst S.2.2.2.2.2.1 f r) else none) u)) (nI u) ((sX5_hours S.2.2.2.2.2.1 u).toInt64) (eL (DD S.2.2.2.2.2.1 nr f t (bhd S.2.2.2.2.2.1 u s))) else sX6_leastFrom_j84 S B (nI s) (nI t) f (eL (fmn (fun r => if s < bhd S.2.2.2.2.2.1 r s then oad (DD S.2.2.2.2.2.1 nr f t (bhd S.2.2.2.2.2.1 r s)) (cst S.2.2.2.2.2.1 f r) else none) u)) (nI u) (sX5_price S.2.2.2.2.2.1 u) (eL (DD S.2.2.2.2.2.1 nr f t (bhd S.2.2.2.2.2.1 u s)))) = sX6_leastFrom_j84 S B (nI s) (nI t) f (eL (fmn (fun r => if s < bhd S.2.2.2.2.2.1 r s then oad (DD S.2.2.2.2.2.1 nr f t (bhd S.2.2.2.2.2.1 r s)) (cst S.2.2.2.2.2.1 f r) else none) u)) (nI u) (lN (cst S.2.2.2.2.2.1 f u)) (eL (DD S.2.2.2.2.2.1 nr f t (bhd S.2.2.2.2.2.1 u s))) := by
        rcases hf with rfl | rfl
        · rw [if_pos rfl, c1]
        · rw [if_neg one_ne, c2]
      rw [hcf]
      cases hx : DD S.2.2.2.2.2.1 nr f t (bhd S.2.2.2.2.2.1 u s) with
      | none =>
        rw [if_pos ((eL_n (o := none) (fun d hd => by cases hd)).mpr rfl), olet_eq, n_suc]
        generalize fmn _ u = o
        cases o <;> rfl
      | some x =>
        have hx2 := hdl x hx
        rw [if_neg (fun z => by have := (eL_n (o := some x) (fun d hd => by cases hd; exact hx2)).mp z; cases this)]
        have hbu2 := fun d => hbu d (by omega)
        generalize hg : fmn (fun r => if s < bhd S.2.2.2.2.2.1 r s then oad (DD S.2.2.2.2.2.1 nr f t (bhd S.2.2.2.2.2.1 r s)) (cst S.2.2.2.2.2.1 f r) else none) u = o at hbu2 ⊢
        have c5 := c4 f
        generalize cst S.2.2.2.2.2.1 f u = w at c5 ⊢
        have hx3 := DD_lt h ht hx
        unfold sX6_leastFrom_j84
        simp only [olet_eq]
        rw [n_suc]
        cases o with
        | none =>
          rw [if_pos ((eL_n (o := none) (fun d hd => by cases hd)).mpr rfl)]
          show some (Sum.inl (lN x + lN w, _)) = some (Sum.inl (lN (x + w), _))
          rw [lN_add]
        | some z =>
          have hz := hbu2 z rfl
          rw [if_neg (fun q => by have := (eL_n (o := some z) (fun d hd => by cases hd; exact hz)).mp q; cases this)]
          show (if 0 ≤ lg_cmp (lN x + lN w) (lN z) then some (Sum.inl (lN z, _)) else some (Sum.inl (lN x + lN w, _))) = some (Sum.inl (eL (if z ≤ x + w then some z else some (x + w)), _))
          rw [lN_add, if_iff (eL_cmp (by omega) (by omega))]
          by_cases c : z ≤ x + w
          · rw [if_pos c, if_pos c]; rfl
          · rw [if_neg c, if_neg c]; rfl
  · unfold sX6_leastFrom_l8_step
    dsimp only
    rw [e8, if_pos (Int32.le_refl _)]
    rfl
theorem n_pm (t : Nat) : nI t - (1 : Int32) = nI t + (-1 : Int32) := by
  cases t with
  | zero => rfl
  | succ t => rw [n_pred, n_predm]
/-- the program -/
theorem e_betw {f : Int32} {t s0 : Nat} {T0 : Mem} (h : Rel S.2.2.2.2.2.1 T0 np nr ni) (hf : f = 0 ∨ f = 1) (ht : t ≤ 1000) (hs : s0 ≤ 1000) : ∃ X', sX6_leastBetween S B (nI s0) (nI t) f = some (eL (DD S.2.2.2.2.2.1 nr f t s0), (S.1, X', S.2.2)) ∧ ∀ c j i, gi X' c j i = gi S.2.1 c j i := by
  unfold sX6_leastBetween sX6_leastBetween_l8
  rw [olet_eq, n_pm]
  obtain ⟨b, h1, X', h2, h3⟩ := itw_one (f := sX6_leastBetween_l8_step B (nI s0) (nI t) f) (J := fun k a => ∃ v y X', k = v ∧ v ≤ t ∧ (s0 ≤ v ∨ v = t) ∧ a = (y, nI v + (-1 : Int32), (S.1, X', S.2.2)) ∧ y = eL (DD S.2.2.2.2.2.1 nr f t v) ∧ (∀ c j i, gi X' c j i = gi S.2.1 c j i) ∧ ∀ s', v ≤ s' → s' < t → gq X' 5 s' = eL (DD S.2.2.2.2.2.1 nr f t s')) (P := fun b => ∃ X', b = (eL (DD S.2.2.2.2.2.1 nr f t s0), (S.1, X', S.2.2)) ∧ ∀ c j i, gi X' c j i = gi S.2.1 c j i) (fun k a => by
    rintro ⟨v, y, X', rfl, v1, v2, rfl, rfl, v3, v4⟩
    unfold sX6_leastBetween_l8_step
    by_cases e : k ≤ s0
    · have hlt : nI k + (-1 : Int32) < nI s0 := by
        cases k with
        | zero => rw [Int32.lt_iff_toInt_lt, n_int (by omega), show (nI 0 + (-1 : Int32)).toInt = -1 from rfl]; omega
        | succ k => rw [n_predm, n_lt (by omega) (by omega)]; omega
      have hD : DD S.2.2.2.2.2.1 nr f t k = DD S.2.2.2.2.2.1 nr f t s0 := by
        rcases v2 with v2 | v2
        · rw [Nat.le_antisymm e v2]
        · subst v2
          rw [show DD S.2.2.2.2.2.1 nr f k k = some 0 from dst_top (Nat.le_refl _), show DD S.2.2.2.2.2.1 nr f k s0 = some 0 from dst_top e]
      dsimp only
      rw [if_pos hlt, hD]
      exact Or.inl ⟨_, rfl, X', rfl, v3⟩
    · cases k with
      | zero => omega
      | succ k =>
        have hlt : ¬ nI k < nI s0 := by rw [n_lt (by omega) (by omega)]; omega
        dsimp only
        rw [n_predm, if_neg hlt, e_from (S := (S.1, X', S.2.2)) h hf ht (show k < t by omega) (fun s' q1 q2 => v4 s' (by omega) q2), obind_some, if_neg (n_nn (by omega)), if_neg (by rw [n_lit 1001, n_le (by omega) (by omega)]; omega), n_cl (by omega)]
        simp only [olet_eq]
        refine Or.inr ⟨_, k, by omega, rfl, k, _, _, rfl, by omega, by omega, rfl, rfl, fun c j i => v3 c j i, fun s' q1 q2 => ?_⟩
        rw [gq_sq]
        by_cases c : s' = k
        · subst c; rw [if_pos ⟨rfl, rfl⟩]
        · rw [if_neg (by omega)]; exact v4 s' (by omega) q2) (k := t) (a := ((0 : Int64), nI t + (-1 : Int32), S)) ⟨t, 0, S.2.1, rfl, Nat.le_refl _, Or.inr rfl, rfl, by rw [show DD S.2.2.2.2.2.1 nr f t t = some 0 from dst_top (Nat.le_refl _)]; rfl, fun _ _ _ => rfl, fun s' q1 q2 => by omega⟩
  subst h2
  exact ⟨X', h1, h3⟩
/-! the Model -/
def FrL (T T' : Mem) : Prop := (∀ c j i, gi T' c j i = gi T c j i) ∧ ∀ c i, c ≠ 8 → gq T' c i = gq T c i
theorem FrL.refl {T : Mem} : FrL T T := ⟨fun _ _ _ => rfl, fun _ _ _ => rfl⟩
theorem FrL.trans {T T' T'' : Mem} (h : FrL T T') (h2 : FrL T' T'') : FrL T T'' := ⟨fun c j i => (h2.1 c j i).trans (h.1 c j i), fun c i hc => (h2.2 c i hc).trans (h.2 c i hc)⟩
theorem FrL.set {T : Mem} {j : Nat} {v : Int64} : FrL T (sq T 8 j v) := ⟨fun _ _ _ => rfl, fun c i hc => by rw [gq_sq, if_neg (fun z => hc z.1)]⟩
theorem FrL.P {T T' : Mem} (h : FrL T T') : FrP T T' := ⟨fun j _ _ => h.1 _ _ _, fun i _ _ => h.2 _ _ (by decide), fun j _ => h.1 _ _ _, fun j => h.1 _ _ _, fun j => h.1 _ _ _, fun j => h.1 _ _ _, fun j _ => h.1 _ _ _⟩
theorem Rel.frl {S T T' : Mem} (h : Rel S T np nr ni) (hF : FrL T T') : Rel S T' np nr ni := h.tcg (fun j _ => hF.1 _ _ _) (fun j _ => hF.1 _ _ _) (fun i _ => hF.2 _ _ (by decide))
/-- the ways found so far -/
def Way (T : Mem) (wy : Nat → Option Nat) : Prop := (∀ s, s ≤ 1000 → gq T 8 s = eL (wy s)) ∧ ∀ s y, s ≤ 1000 → wy s = some y → y ≤ s * 4000000000
def WE (D wy : Nat → Option Nat) (s k : Nat) : Prop := ∃ x y, wy s = some x ∧ D s = some y ∧ x + y ≤ k
theorem Way.lt {T : Mem} {wy : Nat → Option Nat} (h : Way T wy) {s : Nat} (hs : s ≤ 1000) : ∀ d, wy s = some d → d < 2 ^ 62 := fun d hd => by
  have h1 := h.2 s d hs hd
  have h2 : s * 4000000000 ≤ 1000 * 4000000000 := Nat.mul_le_mul_right _ hs
  omega
/-- one recipe from one score -/
theorem e_relax {L T0 T' : Mem} {f p1 : Int32} {t c u y : Nat} {be : Int64} {wy : Nat → Option Nat} (h : Rel L T0 np nr ni) (hf : f = 0 ∨ f = 1) (hT : FrL T0 T') (hu : u < nr) (hc : c < t) (ht : t ≤ 1000) (hw : Way T' wy) (hy : wy c = some y) : ∃ T1 wy1, sX10_leastTo_l118_step p1 (nI t) (if f = 0 then 1 else 0) (be, nI c, nI u, T') = some (.inl (be, nI c, nI (u + 1), T1)) ∧ FrL T0 T1 ∧ Way T1 wy1 ∧ wy1 = (fun s => if s = bhd L u c ∧ c < bhd L u c then omn (wy s) (some (y + cst L f u)) else wy s) := by
  have hR := h.frl hT
  have hnr : nr ≤ 10 := h.1.1.2.1
  have t3 : gi T' 5 (3 : Int32).toNatClampNeg 0 = nI nr := hR.1.2.2.1.2.1
  obtain ⟨b1, b2, b3⟩ := e_bhd h hu (show c ≤ 1000 by omega)
  obtain ⟨c1, -, c3, c4⟩ := e_cst h hu
  have hle : ¬ nI nr ≤ nI u := by rw [n_le (by omega) (by omega)]; omega
  have hle2 : ¬ nI t ≤ nI c := by rw [n_le (by omega) (by omega)]; omega
  have f1 := (h.1.2.2.2.2.2.1 u hu).1
  have k1 : sX10_leastTo_l118_step p1 (nI t) (if f = 0 then 1 else 0) (be, nI c, nI u, T') = sX10_leastTo_j184 T' p1 (nI t) (if f = 0 then 1 else 0) be (nI c) (nI u) (nI (bhd L u c)) (lN (cst L f u)) (gq T' 8 c) := by
    unfold sX10_leastTo_l118_step
    dsimp only
    rw [t3, if_neg hle, if_neg hle2, e_beh hR hu, obind_some, n_inb (by omega) (by omega), oif_t rfl, b1]
    rcases hf with rfl | rfl
    · rw [if_pos rfl, if_neg one_ne, e_last hR hu, obind_some, c1, n_cl (by omega)]
    · rw [if_neg one_ne, if_pos rfl, e_re_0 (by omega), obind_some, e_re_6 (by omega), obind_some, n_cl (by omega), ← (hR.1.2.2.2.2.2.1 u hu).1 0 (by omega), ← (hR.1.2.2.2.2.2.1 u hu).1 6 (by omega), c3]
  rw [k1]
  unfold sX10_leastTo_j184
  have c5 := c4 f
  have hy2 := hw.2 c y (by omega) hy
  generalize hbv : bhd L u c = b at b2 b3 ⊢
  generalize cst L f u = w at c5 ⊢
  by_cases e : b ≤ c
  · rw [if_pos (show nI b ≤ nI c by rw [n_le (by omega) (by omega)]; exact e), n_suc]
    refine ⟨T', wy, rfl, hT, hw, ?_⟩
    funext s
    rw [if_neg (by omega)]
  · have hbW : (c + 1) * 4000000000 ≤ b * 4000000000 := Nat.mul_le_mul_right _ (by omega)
    rw [Nat.add_mul] at hbW
    have hbW2 : b * 4000000000 ≤ 1000 * 4000000000 := Nat.mul_le_mul_right _ b3
    have hset : ∀ v : Nat, v ≤ b * 4000000000 → Way (sq T' 8 b (lN v)) (fun s => if s = b then some v else wy s) := fun v hv => ⟨fun s hs => by
        rw [gq_sq]
        dsimp only
        by_cases q : s = b
        · rw [if_pos ⟨rfl, q⟩, if_pos q]; rfl
        · rw [if_neg (by omega), if_neg q]; exact hw.1 s hs, fun s z hs hz => by
        dsimp only at hz
        by_cases q : s = b
        · rw [if_pos q] at hz
          cases hz
          subst q; exact hv
        · rw [if_neg q] at hz; exact hw.2 s z hs hz⟩
    rw [if_neg (show ¬ nI b ≤ nI c by rw [n_le (by omega) (by omega)]; exact e), n_inb (by omega) (by omega), oif_t rfl, oif_t rfl, n_cl (by omega), hw.1 c (by omega), hy, hw.1 b b3]
    show ∃ T1 wy1, (if lg_cmp (eL (wy b)) 0 < 0 then sX10_leastTo_j219 T' p1 (nI t) _ be (nI c) (nI u) (nI b) (lN y + lN w) else if 0 ≤ lg_cmp (lN y + lN w) (eL (wy b)) then _ else sX10_leastTo_j219 T' p1 (nI t) _ be (nI c) (nI u) (nI b) (lN y + lN w)) = _ ∧ _
    rw [lN_add]
    have hj : ∀ fl : Int32, sX10_leastTo_j219 T' p1 (nI t) fl be (nI c) (nI u) (nI b) (lN (y + w)) = some (.inl (be, nI c, nI (u + 1), sq T' 8 b (lN (y + w)))) := fun fl => by
      unfold sX10_leastTo_j219
      rw [n_inb (by omega) (by omega), oif_t rfl, n_cl (by omega), olet_eq, n_suc]
    cases hwb : wy b with
    | none =>
      rw [if_pos ((eL_lt (o := none) (fun d hd => by cases hd)).mpr rfl), hj]
      refine ⟨_, _, rfl, hT.trans FrL.set, hset (y + w) (by omega), ?_⟩
      funext s
      by_cases q : s = b
      · subst q
        rw [if_pos rfl, if_pos ⟨rfl, by omega⟩, hwb]; rfl
      · rw [if_neg q, if_neg (by omega)]
    | some z =>
      have hz := hw.lt b3 z hwb
      rw [if_neg (fun q => by have := (eL_lt (o := some z) (fun d hd => by cases hd; exact hz)).mp q; cases this)]
      show ∃ T1 wy1, (if 0 ≤ lg_cmp (lN (y + w)) (lN z) then _ else _) = _ ∧ _
      rw [if_iff (eL_cmp (by omega) (by omega))]
      by_cases q2 : z ≤ y + w
      · rw [if_pos q2, n_suc]
        refine ⟨T', wy, rfl, hT, hw, ?_⟩
        funext s
        by_cases q : s = b
        · subst q
          rw [if_pos ⟨rfl, by omega⟩, hwb]
          show some z = if z ≤ y + w then some z else _
          rw [if_pos q2]
        · rw [if_neg (by omega)]
      · rw [if_neg q2, hj]
        refine ⟨_, _, rfl, hT.trans FrL.set, hset (y + w) (by omega), ?_⟩
        funext s
        by_cases q : s = b
        · subst q
          rw [if_pos rfl, if_pos ⟨rfl, by omega⟩, hwb]
          show _ = if z ≤ y + w then some z else some (y + w)
          rw [if_neg q2]
        · rw [if_neg q, if_neg (by omega)]
/-- all recipes from one score -/
theorem e_relaxes {L T0 T' : Mem} {f p1 : Int32} {t c y s0 : Nat} {be : Int64} {bo : Option Nat} {wy : Nat → Option Nat} (h : Rel L T0 np nr ni) (hf : f = 0 ∨ f = 1) (hT : FrL T0 T') (ht : t ≤ 1000) (hc : c ≤ 1000) (hw : Way T' wy) (hy : wy c = some y) (hG : ∀ k, (ole bo k ∨ (c < t ∧ WE (DD L nr f t) wy c k) ∨ ∃ s, c < s ∧ s ≤ 1000 ∧ WE (DD L nr f t) wy s k) ↔ ole (DD L nr f t s0) k) : ∃ T1 wy1, sX10_leastTo_l118 p1 (nI t) (if f = 0 then 1 else 0) (be, nI c, (0 : Int32), T') = some (.inl (be, nI (c + 1), T1)) ∧ FrL T0 T1 ∧ Way T1 wy1 ∧ ∀ k, (ole bo k ∨ ∃ s, c + 1 ≤ s ∧ s ≤ 1000 ∧ WE (DD L nr f t) wy1 s k) ↔ ole (DD L nr f t s0) k := by
  have hnr : nr ≤ 10 := h.1.1.2.1
  unfold sX10_leastTo_l118
  by_cases e : t ≤ c
  · refine ⟨T', wy, itw_out ?_, hT, hw, fun k => ?_⟩
    · unfold sX10_leastTo_l118_step
      dsimp only
      have hle : nI t ≤ nI c := by rw [n_le (by omega) (by omega)]; exact e
      rw [n_suc, if_pos hle]
      by_cases e2 : gi T' 5 (3 : Int32).toNatClampNeg 0 ≤ 0
      · rw [if_pos e2]; rfl
      · rw [if_neg e2]; rfl
    · rw [← hG k]
      constructor
      · rintro (q | ⟨s, q1, q2, q3⟩)
        · exact Or.inl q
        · exact Or.inr (Or.inr ⟨s, by omega, q2, q3⟩)
      · rintro (q | ⟨q1, -⟩ | ⟨s, q1, q2, q3⟩)
        · exact Or.inl q
        · omega
        · exact Or.inr ⟨s, by omega, q2, q3⟩
  · have hct : c < t := by omega
    obtain ⟨b, h1, T1, wy1, rfl, h3, h4, -, h5⟩ := itw_one (f := sX10_leastTo_l118_step p1 (nI t) (if f = 0 then 1 else 0)) (J := fun q a => ∃ u T' wy, u ≤ nr ∧ q = nr - u ∧ a = (be, nI c, nI u, T') ∧ FrL T0 T' ∧ Way T' wy ∧ wy c = some y ∧ ∀ k, (ole bo k ∨ (∃ s, c < s ∧ s ≤ 1000 ∧ WE (DD L nr f t) wy s k) ∨ ∃ r, u ≤ r ∧ r < nr ∧ c < bhd L r c ∧ ∃ d, DD L nr f t (bhd L r c) = some d ∧ y + cst L f r + d ≤ k) ↔ ole (DD L nr f t s0) k) (P := fun b => ∃ T1 wy1, b = .inl (be, nI (c + 1), T1) ∧ FrL T0 T1 ∧ Way T1 wy1 ∧ wy1 c = some y ∧ ∀ k, (ole bo k ∨ ∃ s, c < s ∧ s ≤ 1000 ∧ WE (DD L nr f t) wy1 s k) ↔ ole (DD L nr f t s0) k) (fun q a => by
      rintro ⟨u, T', wy, u1, rfl, rfl, g1, g2, g3, g4⟩
      by_cases eu : u = nr
      · subst eu
        refine Or.inl ⟨.inl (be, nI (c + 1), T'), ?_, T', wy, rfl, g1, g2, g3, fun k => ?_⟩
        · unfold sX10_leastTo_l118_step
          dsimp only
          rw [show gi T' 5 (3 : Int32).toNatClampNeg 0 = nI u from (h.frl g1).1.2.2.1.2.1, if_pos (Int32.le_refl _), n_suc]
          rfl
        · rw [← g4 k]
          constructor
          · rintro (q | q)
            · exact Or.inl q
            · exact Or.inr (Or.inl q)
          · rintro (q | q | ⟨r, r1, r2, -⟩)
            · exact Or.inl q
            · exact Or.inr q
            · omega
      · have hu : u < nr := by omega
        obtain ⟨T1, wy1, k1, k2, k3, rfl⟩ := e_relax (be := be) (p1 := p1) h hf g1 hu hct ht g2 g3
        obtain ⟨-, b2, b3⟩ := e_bhd h hu hc
        refine Or.inr ⟨_, nr - (u + 1), by omega, k1, u + 1, T1, _, by omega, rfl, rfl, k2, k3, ?_, fun k => ?_⟩
        · rw [if_neg (by omega)]; exact g3
        · rw [← g4 k]
          constructor
          · rintro (q | ⟨s, s1, s2, x, z, x1, x2, x3⟩ | ⟨r, r1, r2, r3⟩)
            · exact Or.inl q
            · dsimp only at x1
              by_cases es : s = bhd L u c ∧ c < bhd L u c
              · rw [if_pos es] at x1
                have hx : ole (omn (wy s) (some (y + cst L f u))) x := by rw [x1]; exact ole_s.mpr (Nat.le_refl _)
                rcases ole_omn.mp hx with ⟨x', hx1, hx2⟩ | hx
                · exact Or.inr (Or.inl ⟨s, s1, s2, x', z, hx1, x2, by omega⟩)
                · have hx3 := ole_s.mp hx
                  refine Or.inr (Or.inr ⟨u, Nat.le_refl _, hu, es.2, z, ?_, by omega⟩)
                  rw [← es.1]; exact x2
              · rw [if_neg es] at x1
                exact Or.inr (Or.inl ⟨s, s1, s2, x, z, x1, x2, x3⟩)
            · exact Or.inr (Or.inr ⟨r, by omega, r2, r3⟩)
          · rintro (q | ⟨s, s1, s2, x, z, x1, x2, x3⟩ | ⟨r, r1, r2, r3, d, r4, r5⟩)
            · exact Or.inl q
            · by_cases es : s = bhd L u c ∧ c < bhd L u c
              · have hx : ole (omn (wy s) (some (y + cst L f u))) x := ole_omn.mpr (Or.inl (by rw [x1]; exact ole_s.mpr (Nat.le_refl _)))
                obtain ⟨x', hx1, hx2⟩ := hx
                refine Or.inr (Or.inl ⟨s, s1, s2, x', z, ?_, x2, by omega⟩)
                dsimp only
                rw [if_pos es]; exact hx1
              · refine Or.inr (Or.inl ⟨s, s1, s2, x, z, ?_, x2, x3⟩)
                dsimp only
                rw [if_neg es]; exact x1
            · by_cases er : r = u
              · subst er
                have hx : ole (omn (wy (bhd L r c)) (some (y + cst L f r))) (y + cst L f r) := ole_omn.mpr (Or.inr (ole_s.mpr (Nat.le_refl _)))
                obtain ⟨x', hx1, hx2⟩ := hx
                refine Or.inr (Or.inl ⟨bhd L r c, r3, b3, x', d, ?_, r4, by omega⟩)
                dsimp only
                rw [if_pos ⟨rfl, r3⟩]; exact hx1
              · exact Or.inr (Or.inr ⟨r, by omega, r2, r3, d, r4, r5⟩)) (k := nr - 0) (a := (be, nI c, (0 : Int32), T')) ⟨0, T', wy, by omega, rfl, rfl, hT, hw, hy, fun k => by
        rw [← hG k]
        have hD : DD L nr f t c = fmn (fun r => if c < bhd L r c then oad (DD L nr f t (bhd L r c)) (cst L f r) else none) nr := dst_rec ht hct
        constructor
        · rintro (q | q | ⟨r, -, r2, r3, d, r4, r5⟩)
          · exact Or.inl q
          · exact Or.inr (Or.inr q)
          · have h6 : ole (DD L nr f t c) (cst L f r + d) := by
              rw [hD]
              refine ole_fmn.mpr ⟨r, r2, ?_⟩
              rw [if_pos r3]
              exact ole_oad.mpr ⟨d, r4, by omega⟩
            obtain ⟨z, z1, z2⟩ := h6
            exact Or.inr (Or.inl ⟨hct, y, z, hy, z1, by omega⟩)
        · rintro (q | ⟨-, x, z, x1, x2, x3⟩ | q)
          · exact Or.inl q
          · rw [hy] at x1
            cases x1
            have h6 : ole (DD L nr f t c) z := ⟨z, x2, Nat.le_refl _⟩
            rw [hD] at h6
            obtain ⟨r, r2, r3⟩ := ole_fmn.mp h6
            by_cases e3 : c < bhd L r c
            · rw [if_pos e3] at r3
              obtain ⟨d, d1, d2⟩ := ole_oad.mp r3
              exact Or.inr (Or.inr ⟨r, Nat.zero_le _, r2, e3, d, d1, by omega⟩)
            · rw [if_neg e3] at r3
              exact absurd r3 ole_n
          · exact Or.inr (Or.inl q)⟩
    exact ⟨T1, wy1, h1, h3, h4, h5⟩
/-- the Model -/
theorem e_leastTo {L T0 : Mem} {f : Int32} {t s0 i : Nat} (h : Rel L T0 np nr ni) (hi : i < ni) (hf : f = 0 ∨ f = 1) (ht : t ≤ 1000) (hs : s0 ≤ 1000) (h3 : gi L 3 3 i = nI s0) : ∃ T', sX10_leastTo T0 (nI i) (nI t) (if f = 0 then 1 else 0) = some (eL (DD L nr f t s0), T') ∧ FrL T0 T' := by
  have hni : ni ≤ 16 := h.1.1.2.2
  unfold sX10_leastTo sX10_leastTo_l3
  obtain ⟨b, h1, T', rfl, h2⟩ := itw_one (f := sX10_leastTo_l3_step (nI i) (nI t) (if f = 0 then 1 else 0)) (J := fun k a => ∃ u T', u ≤ 1001 ∧ k = 1001 - u ∧ a = (nI u, T') ∧ FrL T0 T' ∧ ∀ s, s < u → gq T' 8 s = -1) (P := fun b => ∃ T', b = (eL (DD L nr f t s0), T') ∧ FrL T0 T') (fun k a => by
    rintro ⟨u, T', u1, rfl, rfl, u2, u3⟩
    unfold sX10_leastTo_l3_step
    dsimp only
    by_cases e : u = 1001
    · subst e
      have hR := h.frl u2
      have e0 : ∀ {T1 : Mem}, FrL T0 T1 → gi T1 0 (6 + 21 * i + 0) 0 = nI s0 := fun hF => ((h.frl hF).2.2.2.2.2 i hi).1.1.symm.trans h3
      rw [if_pos (show (1000 : Int32) < nI 1001 by decide), e_of_0 (by omega), obind_some, e0 u2, n_inb (by omega) (by omega), oif_t rfl, n_cl (by omega), olet_eq, e_of_0 (by omega), obind_some, e0 (u2.trans FrL.set)]
      unfold sX10_leastTo_l52
      obtain ⟨b, g1, T1, rfl, g2⟩ := itw_one (f := sX10_leastTo_l52_step (nI i) (nI t) (if f = 0 then 1 else 0)) (J := fun k a => ∃ c bo T' wy, c ≤ 1001 ∧ k = 1001 - c ∧ a = (eL bo, nI c, T') ∧ FrL T0 T' ∧ Way T' wy ∧ (∀ d, bo = some d → d < 2 ^ 62) ∧ ∀ k, (ole bo k ∨ ∃ s, c ≤ s ∧ s ≤ 1000 ∧ WE (DD L nr f t) wy s k) ↔ ole (DD L nr f t s0) k) (P := fun b => ∃ T', b = (eL (DD L nr f t s0), T') ∧ FrL T0 T') (fun k a => by
        rintro ⟨c, bo, T', wy, c1, rfl, rfl, q1, q2, q3, q4⟩
        unfold sX10_leastTo_l52_step
        dsimp only
        by_cases e : c = 1001
        · subst e
          have hbo : bo = DD L nr f t s0 := ole_ext fun k => by
            rw [← q4 k]
            constructor
            · exact Or.inl
            · rintro (q | ⟨s, s1, s2, -⟩)
              · exact q
              · omega
          rw [if_pos (show (1000 : Int32) < nI 1001 by decide), hbo]
          exact Or.inl ⟨_, rfl, T', rfl, q1⟩
        · have hc : c ≤ 1000 := by omega
          have hlt : ¬ (1000 : Int32) < nI c := by rw [n_lit 1000, n_lt (by omega) (by omega)]; omega
          rw [if_neg hlt, n_inb (by omega) (by omega), oif_t rfl, oif_t rfl, n_cl (by omega), q2.1 c hc, n_suc]
          cases hwc : wy c with
          | none =>
            rw [if_neg (fun z => (eL_ge (o := none) (fun d hd => by cases hd)).mp z rfl)]
            refine Or.inr ⟨_, 1001 - (c + 1), by omega, rfl, c + 1, bo, T', wy, by omega, rfl, rfl, q1, q2, q3, fun k => ?_⟩
            rw [← q4 k]
            constructor
            · rintro (q | ⟨s, s1, s2, s3⟩)
              · exact Or.inl q
              · exact Or.inr ⟨s, by omega, s2, s3⟩
            · rintro (q | ⟨s, s1, s2, s3⟩)
              · exact Or.inl q
              · by_cases es : s = c
                · subst es
                  obtain ⟨x, z, x1, -⟩ := s3
                  rw [hwc] at x1; cases x1
                · exact Or.inr ⟨s, by omega, s2, s3⟩
          | some y =>
            have hyl := q2.lt hc y hwc
            rw [if_pos ((eL_ge (o := some y) (fun d hd => by cases hd; exact hyl)).mpr (by intro z; cases z))]
            have hj : sX10_leastTo_j101 T' (nI i) (nI t) (if f = 0 then 1 else 0) (nI c) = sX10_leastTo_l118 (nI i) (nI t) (if f = 0 then 1 else 0) (lN y, nI c, (0 : Int32), T') := by
              unfold sX10_leastTo_j101
              rw [n_inb (by omega) (by omega), oif_t rfl, n_cl (by omega), olet_eq, q2.1 c hc, hwc]
              rfl
            by_cases ec : c < t
            · obtain ⟨T1, wy1, k1, k2, k3, k4⟩ := e_relaxes (be := eL bo) (p1 := nI i) h hf q1 ht hc q2 hwc (bo := bo) (s0 := s0) (fun k => by
                rw [← q4 k]
                constructor
                · rintro (q | ⟨-, q⟩ | ⟨s, s1, s2, s3⟩)
                  · exact Or.inl q
                  · exact Or.inr ⟨c, Nat.le_refl _, hc, q⟩
                  · exact Or.inr ⟨s, by omega, s2, s3⟩
                · rintro (q | ⟨s, s1, s2, s3⟩)
                  · exact Or.inl q
                  · by_cases es : s = c
                    · subst es; exact Or.inr (Or.inl ⟨ec, s3⟩)
                    · exact Or.inr (Or.inr ⟨s, by omega, s2, s3⟩))
              rw [if_pos (show nI c < nI t by rw [n_lt (by omega) (by omega)]; exact ec), k1]
              exact Or.inr ⟨_, 1001 - (c + 1), by omega, rfl, c + 1, bo, T1, wy1, by omega, rfl, rfl, k2, k3, q3, k4⟩
            · have hb : (if lg_cmp (eL bo) 0 < 0 then sX10_leastTo_j101 T' (nI i) (nI t) (if f = 0 then 1 else 0) (nI c) else if 0 ≤ lg_cmp (eL (some y)) (eL bo) then sX10_leastTo_l118 (nI i) (nI t) (if f = 0 then 1 else 0) (eL bo, nI c, (0 : Int32), T') else sX10_leastTo_j101 T' (nI i) (nI t) (if f = 0 then 1 else 0) (nI c)) = sX10_leastTo_l118 (nI i) (nI t) (if f = 0 then 1 else 0) (eL (omn bo (some y)), nI c, (0 : Int32), T') := by
                rw [hj]
                cases bo with
                | none => rw [if_pos ((eL_lt (o := none) (fun d hd => by cases hd)).mpr rfl)]; rfl
                | some z =>
                  have hz := q3 z rfl
                  rw [if_neg (fun q => by have := (eL_lt (o := some z) (fun d hd => by cases hd; exact hz)).mp q; cases this)]
                  show (if 0 ≤ lg_cmp (lN y) (lN z) then _ else _) = sX10_leastTo_l118 (nI i) (nI t) (if f = 0 then 1 else 0) (eL (if z ≤ y then some z else some y), nI c, (0 : Int32), T')
                  rw [if_iff (eL_cmp (by omega) (by omega))]
                  by_cases q : z ≤ y
                  · rw [if_pos q, if_pos q]
                  · rw [if_neg q, if_neg q]; rfl
              have hD0 : DD L nr f t c = some 0 := dst_top (by omega)
              obtain ⟨T1, wy1, k1, k2, k3, k4⟩ := e_relaxes (be := eL (omn bo (some y))) (p1 := nI i) h hf q1 ht hc q2 hwc (bo := omn bo (some y)) (s0 := s0) (fun k => by
                rw [← q4 k, ole_omn, ole_s]
                constructor
                · rintro ((q | q) | ⟨q, -⟩ | ⟨s, s1, s2, s3⟩)
                  · exact Or.inl q
                  · exact Or.inr ⟨c, Nat.le_refl _, hc, y, 0, hwc, hD0, by omega⟩
                  · exact absurd q ec
                  · exact Or.inr ⟨s, by omega, s2, s3⟩
                · rintro (q | ⟨s, s1, s2, s3⟩)
                  · exact Or.inl (Or.inl q)
                  · by_cases es : s = c
                    · subst es
                      obtain ⟨x, z, x1, x2, x3⟩ := s3
                      rw [hwc] at x1; cases x1
                      exact Or.inl (Or.inr (by omega))
                    · exact Or.inr (Or.inr ⟨s, by omega, s2, s3⟩))
              rw [if_neg (show ¬ nI c < nI t by rw [n_lt (by omega) (by omega)]; exact ec), hb, k1]
              refine Or.inr ⟨_, 1001 - (c + 1), by omega, rfl, c + 1, omn bo (some y), T1, wy1, by omega, rfl, rfl, k2, k3, fun d hd => ?_, k4⟩
              rcases omn_some hd with hd | hd
              · exact q3 d hd
              · cases hd; exact hyl) (k := 1001 - s0) (a := ((-1 : Int64), nI s0, sq T' 8 s0 0)) ⟨s0, none, sq T' 8 s0 0, (fun s => if s = s0 then some 0 else none), by omega, rfl, rfl, u2.trans FrL.set, ⟨fun s hs => by
            rw [gq_sq]
            dsimp only
            by_cases q : s = s0
            · rw [if_pos ⟨rfl, q⟩, if_pos q]; rfl
            · rw [if_neg (by omega), if_neg q, u3 s (by omega)]; rfl, fun s y hs hy => by
            dsimp only at hy
            by_cases q : s = s0
            · rw [if_pos q] at hy; cases hy; exact Nat.zero_le _
            · rw [if_neg q] at hy; cases hy⟩, fun d hd => (by cases hd), fun k => by
            constructor
            · rintro (q | ⟨s, s1, s2, x, z, x1, x2, x3⟩)
              · exact absurd q ole_n
              · dsimp only at x1
                by_cases q : s = s0
                · subst q
                  exact ⟨z, x2, by omega⟩
                · rw [if_neg q] at x1; cases x1
            · rintro ⟨d, d1, d2⟩
              exact Or.inr ⟨s0, Nat.le_refl _, hs, 0, d, if_pos rfl, d1, by omega⟩⟩
      exact Or.inl ⟨_, by rw [g1]; rfl, T1, rfl, g2⟩
    · have hlt : ¬ (1000 : Int32) < nI u := by rw [n_lit 1000, n_lt (by omega) (by omega)]; omega
      rw [if_neg hlt, n_inb (by omega) (by omega), oif_t rfl, n_cl (by omega), olet_eq, n_suc]
      refine Or.inr ⟨_, 1001 - (u + 1), by omega, rfl, u + 1, _, by omega, rfl, rfl, u2.trans FrL.set, fun s hs => ?_⟩
      rw [gq_sq]
      by_cases q : s = u
      · rw [if_pos ⟨rfl, q⟩]
      · rw [if_neg (by omega)]; exact u3 s (by omega)) (k := 1001 - 0) (a := ((0 : Int32), T0)) ⟨0, T0, by omega, rfl, rfl, FrL.refl, fun s hs => by omega⟩
  exact ⟨T', h1, h2⟩
theorem IVn.way {X' T' : Mem} (h : IVn B m S T np nr ni) (hX : ∀ c j i, gi X' c j i = gi S.2.1 c j i) (hT : FrL T T') : IVn B m (S.1, X', S.2.2) T' np nr ni := by
  obtain ⟨k, k1, k2, k3, k4⟩ := h.2.2.2.2.2.1
  have h2 : IVn B m (S.1, X', S.2.2) T np nr ni := h.out ⟨fun j => hX _ _ _, fun j => hX _ _ _⟩ FrO.refl ⟨(hX _ _ _).trans k2, k3, fun j hj => (hX _ _ _).trans (k4 j hj)⟩ k1
  exact ⟨h2.1.frl hT, h2.2.frp hT.P⟩
theorem pfv_do {x : Option (Except (Nat × XT) (Int64 × XT))} {mo : Option (Int64 × Mem)} (h : ∃ v S' T', x = some (.ok (v, S')) ∧ mo = some (v, T') ∧ IVn B (m + 1) S' T' np nr ni ∧ gi T' 100 6 0 = 0) : PFX (uV x) mo co (IV B m) := by
  obtain ⟨v, S', T', rfl, rfl, h1, h2⟩ := h
  refine ⟨_, _, _, rfl, rfl, fun v hv => ?_, fun e he => by cases he⟩
  cases hv
  exact ⟨h2, rfl, np, nr, ni, h1.mono (Nat.le_succ _)⟩
theorem pfv_bad {e : Nat} {w : Int32} {b : Int64} {x : Option (Except (Nat × XT) (Int64 × XT))} {mo : Option (Int64 × Mem)} (hV : IVn B (m + 1) S T np nr ni) (hx : x = some (.error (e, S))) (hm : mo = some (b, si (si T 100 6 0 0) 100 6 0 w)) (hco : co e = some w) (hw : w ≠ 0) : PFX (uV x) mo co (IV B m) := by
  subst hx; subst hm
  refine ⟨_, _, _, rfl, rfl, fun v hv => (by cases hv), fun e' he => ?_⟩
  cases he
  rw [gi_eq2 ⟨rfl, rfl, rfl⟩]
  exact ⟨hco, hw, fun z hz _ => ⟨np, nr, ni, (hV.th.th).bump hz⟩⟩
theorem call_quickestTo (h : IV B (m + 1) S T) (p1 p2 : Int32) : PFX (uW (sX9_quickestTo S B p1 p2)) (mI (sX10_quickestTo T p1 p2)) co12 (IV B m) := by
  obtain ⟨np, nr, ni, hV⟩ := h
  rcases e_item hV p1 with ⟨i, hi, rfl, h1, -, h2⟩ | ⟨h1, -, h2⟩
  · have eT : sX10_quickestTo T (nI i) p2 = if (sX10_inRange (si T 100 6 0 0) p2.toInt64 (0 : Int64) (1000 : Int64)) = 0 then sX10_quickestTo_j44 (si T 100 6 0 0) (nI i) p2 (1 : Int32) else sX10_quickestTo_j44 (si T 100 6 0 0) (nI i) p2 (0 : Int32) := by
      unfold sX10_quickestTo
      rw [olet_eq, h2 _ (gi_ne (by omega)), if_neg one_ne]
      unfold sX10_quickestTo_j19
      rw [e_thr0, olet_eq, if_pos rfl]
    rcases e_btw (B := B) (lo := 0) (hi := 1000) hV.2.2.2.1.xr (by omega) (by omega) p2 with ⟨t, t1, t2, rfl, d3, d4⟩ | ⟨d3, d4⟩
    · have hW := hV.th (v := 0)
      obtain ⟨-, ⟨s, s1, s2⟩, -⟩ := hW.1.2.2.2.2.2 i hi
      obtain ⟨X', x1, x2⟩ := e_betw (B := B) (f := 0) hW.1 (by decide) t2 s1
      obtain ⟨T', y1, y2⟩ := e_leastTo (f := 0) hW.1 hi (by decide) t2 s1 s2
      refine pfx_do (np := np) (nr := nr) (ni := ni) ⟨(eL (DD S.2.2.2.2.2.1 nr 0 t s)).toInt32, _, T', ?_, ?_, hW.way x2 y2, (y2.1 _ _ _).trans (gi_eq2 ⟨rfl, rfl, rfl⟩)⟩
      · unfold sX9_quickestTo
        rw [h1, show sX9_requireBetween S B (nI t) (0 : Int32) (1000 : Int32) = some (.ok ()) from d3]
        dsimp only [oexc]
        rw [s2, x1, obind_some]
      · rw [eT, d4 _ _ _ (by decide) (by decide), if_neg one_ne]
        unfold sX10_quickestTo_j44
        rw [e_thr0, olet_eq, if_pos rfl, show sX10_leastTo (si T 100 6 0 0) (nI i) (nI t) (1 : Int32) = some (eL (DD S.2.2.2.2.2.1 nr 0 t s), T') from y1, obind_some]
    · refine pfx_bad (e := 2) (b := 0) (w := 2) hV ?_ ?_ rfl (by decide)
      · unfold sX9_quickestTo
        rw [h1, show sX9_requireBetween S B p2 (0 : Int32) (1000 : Int32) = some (.error 2) from d3]
        rfl
      · rw [eT, d4 _ _ _ (by decide) (by decide), if_pos rfl]
        unfold sX10_quickestTo_j44
        rw [e_thr1, olet_eq, if_neg one_ne]
  · refine pfx_bad (e := 1) (b := 0) (w := 1) hV ?_ ?_ rfl (by decide)
    · unfold sX9_quickestTo
      rw [h1]
      rfl
    · unfold sX10_quickestTo
      rw [olet_eq, h2 _ (gi_ne (by omega)), if_pos rfl]
      unfold sX10_quickestTo_j19
      rw [e_thr1, olet_eq, if_neg one_ne]
theorem call_cheapestTo (h : IV B (m + 1) S T) (p1 p2 : Int32) : PFX (uV (sX9_cheapestTo S B p1 p2)) ((sX10_cheapestTo T p1 p2)) co12 (IV B m) := by
  obtain ⟨np, nr, ni, hV⟩ := h
  rcases e_item hV p1 with ⟨i, hi, rfl, h1, -, h2⟩ | ⟨h1, -, h2⟩
  · have eT : sX10_cheapestTo T (nI i) p2 = if (sX10_inRange (si T 100 6 0 0) p2.toInt64 (0 : Int64) (1000 : Int64)) = 0 then sX10_cheapestTo_j44 (si T 100 6 0 0) (nI i) p2 (1 : Int32) else sX10_cheapestTo_j44 (si T 100 6 0 0) (nI i) p2 (0 : Int32) := by
      unfold sX10_cheapestTo
      rw [olet_eq, h2 _ (gi_ne (by omega)), if_neg one_ne]
      unfold sX10_cheapestTo_j19
      rw [e_thr0, olet_eq, if_pos rfl]
    rcases e_btw (B := B) (lo := 0) (hi := 1000) hV.2.2.2.1.xr (by omega) (by omega) p2 with ⟨t, t1, t2, rfl, d3, d4⟩ | ⟨d3, d4⟩
    · have hW := hV.th (v := 0)
      obtain ⟨-, ⟨s, s1, s2⟩, -⟩ := hW.1.2.2.2.2.2 i hi
      obtain ⟨X', x1, x2⟩ := e_betw (B := B) (f := 1) hW.1 (by decide) t2 s1
      obtain ⟨T', y1, y2⟩ := e_leastTo (f := 1) hW.1 hi (by decide) t2 s1 s2
      refine pfv_do (np := np) (nr := nr) (ni := ni) ⟨(eL (DD S.2.2.2.2.2.1 nr 1 t s)), _, T', ?_, ?_, hW.way x2 y2, (y2.1 _ _ _).trans (gi_eq2 ⟨rfl, rfl, rfl⟩)⟩
      · unfold sX9_cheapestTo
        rw [h1, show sX9_requireBetween S B (nI t) (0 : Int32) (1000 : Int32) = some (.ok ()) from d3]
        dsimp only [oexc]
        rw [s2, x1, obind_some]
      · rw [eT, d4 _ _ _ (by decide) (by decide), if_neg one_ne]
        unfold sX10_cheapestTo_j44
        rw [e_thr0, olet_eq, if_pos rfl, show sX10_leastTo (si T 100 6 0 0) (nI i) (nI t) (0 : Int32) = some (eL (DD S.2.2.2.2.2.1 nr 1 t s), T') from y1, obind_some]
    · refine pfv_bad (e := 2) (b := 0) (w := 2) hV ?_ ?_ rfl (by decide)
      · unfold sX9_cheapestTo
        rw [h1, show sX9_requireBetween S B p2 (0 : Int32) (1000 : Int32) = some (.error 2) from d3]
        rfl
      · rw [eT, d4 _ _ _ (by decide) (by decide), if_pos rfl]
        unfold sX10_cheapestTo_j44
        rw [e_thr1, olet_eq, if_neg one_ne]
  · refine pfv_bad (e := 1) (b := 0) (w := 1) hV ?_ ?_ rfl (by decide)
    · unfold sX9_cheapestTo
      rw [h1]
      rfl
    · unfold sX10_cheapestTo
      rw [olet_eq, h2 _ (gi_ne (by omega)), if_pos rfl]
      unfold sX10_cheapestTo_j19
      rw [e_thr1, olet_eq, if_neg one_ne]
end ROU
