/-! ===== TOOLS OF THE DECOMPILED FUNCTIONS: binds, guards, loops ===== -/
def olet {α β : Type} (x : α) (f : α → β) : β := f x
theorem olet_e {α β : Type} {P : α → Prop} {x : α} {f : α → β} {r : β} (hs : olet x f = r) (k : ∀ y, f y = r → P y) : P x := k x hs
def obind {α β : Type} (x : Option α) (f : α → Option β) : Option β := match x with
  | none => none
  | some y => f y
theorem obind_some {α β : Type} {y : α} {f : α → Option β} : obind (some y) f = f y := rfl
theorem obind_e {α β : Type} {G : Prop} {x : Option α} {f : α → Option β} {r : β} (hs : obind x f = some r) (k : ∀ y, x = some y → f y = some r → G) : G := by
  cases x with
  | none => cases hs
  | some y => exact k y rfl hs
/-- a turn that leaves the loop -/
def oinr {α β : Type} (x : Option β) : Option (α ⊕ β) := match x with
  | none => none
  | some z => some (.inr z)
theorem oinr_some {α β : Type} {z : β} : (oinr (some z) : Option (α ⊕ β)) = some (.inr z) := rfl
theorem oinr_e {α β : Type} {G : Prop} {x : Option β} {r : α ⊕ β} (hs : oinr x = some r) (k : ∀ z, r = .inr z → x = some z → G) : G := by
  cases x with
  | none => cases hs
  | some z => exact k z (Option.some.inj hs).symm rfl
def oif {β : Type} (c : Bool) (x : Option β) : Option β := match c with
  | true => x
  | false => none
theorem oif_t {β : Type} {c : Bool} {x : Option β} (h : c = true) : oif c x = x := by subst h; rfl
theorem oif_g {β : Type} {G : Prop} {c : Bool} {x : Option β} {r : β} (hs : oif c x = some r) (k : c = true → x = some r → G) : G := by
  cases c with
  | false => cases hs
  | true => exact k rfl hs
def inb (i : Int32) (n : Nat) : Bool := decide (0 ≤ i) && decide (i.toNatClampNeg < n)
theorem vp_of_inb {i : Int32} {n : Nat} (h : inb i n = true) : vp_in i n := by
  unfold inb at h
  rw [Bool.and_eq_true, decide_eq_true_eq, decide_eq_true_eq] at h
  rintro (h1 | h1)
  · exact absurd h.1 (Int32.not_le.mpr h1)
  · exact absurd h.2 (Nat.not_lt.mpr h1)
theorem vp_lt {i : Int32} {n : Nat} (h : vp_in i n) : i.toNatClampNeg < n := Nat.not_le.mp fun q => h (Or.inr q)
theorem vp_hi {i l : Int32} (h : ¬ l ≤ i) : i < l := Int32.not_le.mp h
theorem vp_hi2 {i l : Int32} (h : i < l) : i < l := h
theorem vp_mk {i l : Int32} {n : Nat} (h0 : ¬ i < 0) (hn : l.toInt = (n : Int)) (h1 : i < l) : vp_in i n := by
  rintro (h | h)
  · exact h0 h
  · have e1 := Int32.lt_iff_toInt_lt.mp h1
    have e2 : i.toNatClampNeg = i.toInt.toNat := rfl
    have e3 := Int32.le_iff_toInt_le.mp (Int32.not_lt.mp h0)
    have e4 : (0 : Int32).toInt = 0 := rfl
    omega
/-- so many turns of a loop at most: a turn goes on, or ends -/
def itn {α β : Type} : Nat → (α → Option (α ⊕ β)) → α → Option β
  | 0, _, _ => none
  | n + 1, f, a => match f a with
    | none => none
    | some (.inl a') => itn n f a'
    | some (.inr b) => some b
theorem itn_eq {α β : Type} {f : α → Option (α ⊕ β)} {b c : β} : ∀ {n m : Nat} {a : α}, itn n f a = some b → itn m f a = some c → b = c := by
  intro n
  induction n with
  | zero => intro m a h _; cases h
  | succ n ih =>
    intro m a h1 h2
    cases m with
    | zero => cases h2
    | succ m =>
      unfold itn at h1 h2
      cases hf : f a with
      | none => rw [hf] at h1; cases h1
      | some x =>
        rw [hf] at h1 h2
        cases x with
        | inl a' => exact ih h1 h2
        | inr z => cases h1; cases h2; rfl
/-- a loop: what its turns come to, if they come to an end -/
noncomputable def itw {α β : Type} (f : α → Option (α ⊕ β)) (a : α) : Option β := @dite _ (∃ b, ∃ n, itn n f a = some b) (Classical.propDecidable _) (fun h => some h.choose) (fun _ => none)
theorem itw_of {α β : Type} {f : α → Option (α ⊕ β)} {a : α} {b : β} {n : Nat} (h : itn n f a = some b) : itw f a = some b := by
  have hx : ∃ b, ∃ n, itn n f a = some b := ⟨b, n, h⟩
  unfold itw
  rw [dif_pos hx]
  obtain ⟨m, hm⟩ := hx.choose_spec
  exact congrArg some (itn_eq hm h)
theorem itw_n {α β : Type} {f : α → Option (α ⊕ β)} {a : α} {b : β} (h : itw f a = some b) : ∃ n, itn n f a = some b := by
  unfold itw at h
  by_cases hx : ∃ b, ∃ n, itn n f a = some b
  · rw [dif_pos hx] at h
    obtain ⟨m, hm⟩ := hx.choose_spec
    have := Option.some.inj h
    subst this
    exact ⟨m, hm⟩
  · rw [dif_neg hx] at h; cases h
/-- one turn -/
theorem itw_in {α β : Type} {f : α → Option (α ⊕ β)} {a a' : α} (h : f a = some (.inl a')) : itw f a = itw f a' := by
  cases e : itw f a' with
  | some b =>
    obtain ⟨n, hn⟩ := itw_n e
    exact itw_of (n := n + 1) (by unfold itn; rw [h]; exact hn)
  | none =>
    cases e2 : itw f a with
    | none => rfl
    | some b =>
      obtain ⟨n, hn⟩ := itw_n e2
      cases n with
      | zero => cases hn
      | succ n =>
        unfold itn at hn
        rw [h] at hn
        rw [itw_of hn] at e
        cases e
theorem itw_out {α β : Type} {f : α → Option (α ⊕ β)} {a : α} {b : β} (h : f a = some (.inr b)) : itw f a = some b := itw_of (n := 1) (by unfold itn; rw [h])
theorem itw_e {α β : Type} {P : α → Prop} {Post : β → Prop} {f : α → Option (α ⊕ β)} (step : ∀ a r, f a = some r → (∀ a', r = .inl a' → P a') → (∀ b, r = .inr b → Post b) → P a) {a : α} {b : β} (hs : itw f a = some b) (hp : Post b) : P a := by
  obtain ⟨n, hn⟩ := itw_n hs
  clear hs
  induction n generalizing a with
  | zero => cases hn
  | succ n ih =>
    unfold itn at hn
    cases hf : f a with
    | none => rw [hf] at hn; cases hn
    | some x =>
      rw [hf] at hn
      cases x with
      | inl a' => exact step a _ hf (fun a'' e => by cases e; exact ih hn) (fun b' e => by cases e)
      | inr z => cases hn; exact step a _ hf (fun a'' e => by cases e) (fun b' e => by cases e; exact hp)
/-- a loop of n turns through the states A 0, A 1, .., A n -/
theorem itw_seq {α β : Type} {f : α → Option (α ⊕ β)} {b : β} (A : Nat → α) (n : Nat) (hin : ∀ k, k < n → f (A k) = some (.inl (A (k + 1)))) (hout : f (A n) = some (.inr b)) : itw f (A 0) = some b := by
  have h : ∀ k, k ≤ n → itw f (A (n - k)) = some b := by
    intro k
    induction k with
    | zero => intro _; exact itw_out hout
    | succ k ih =>
      intro hk
      rw [itw_in (hin (n - (k + 1)) (by omega)), show n - (k + 1) + 1 = n - k by omega]
      exact ih (by omega)
  have := h n (Nat.le_refl n)
  rw [Nat.sub_self] at this
  exact this
/-- what is known of the locals is part of what is known -/
def LEL : List (Option Value) → List (Option Value) → Prop
  | [], _ => True
  | none :: a, _ :: b => LEL a b
  | none :: a, [] => LEL a []
  | some v :: a, some w :: b => v = w ∧ LEL a b
  | some _ :: _, _ => False
theorem LEL.le : ∀ {A B : List (Option Value)}, LEL A B → ∀ (k : Nat) (v : Value), A[k]? = some (some v) → B[k]? = some (some v) := by
  intro A
  induction A with
  | nil => intro B _ k v h; cases h
  | cons a A ih =>
    intro B h k v hk
    cases a with
    | none =>
      cases k with
      | zero => cases hk
      | succ k =>
        cases B with
        | nil => have := ih (B := []) h k v hk; cases this
        | cons b B => exact ih (B := B) h k v hk
    | some w =>
      cases B with
      | nil => exact h.elim
      | cons b B =>
        cases b with
        | none => exact h.elim
        | some u =>
          obtain ⟨rfl, h2⟩ := h
          cases k with
          | zero => exact hk
          | succ k => exact ih (B := B) h2 k v hk
def jmin (x y : Int32) : Int32 := if y < x then y else x
def jmax (x y : Int32) : Int32 := if x < y then y else x
section AWB
variable {g : AG} {M : AM} {pc nx : Nat} {L : List (Option Value)} {S : List Value} {h : AH} {Q : AO → AH → Prop}
theorem AW.lessL {L' : List (Option Value)} (hl : LEL L' L) (k : AW g M pc L' S h Q) : AW g M pc L S h Q := AW.less hl.le k
theorem AW.jmin {i : Nat} {x y : Int32} (hr : (pc, Instr.invokestatic i, 3) ∈ mR M) (hn : pc + 3 = nx) (hlk : Cond.methodLink (mY M).cls i yJ9_min_7cf53 ∈ am_tb) (hrm : (Nat.ble 1 (mD M) && Nat.ble ((S.map fun v => v.category).sum + 13) (mW M)) = true) (k : AW g M nx L (.int (jmin x y) :: S) h Q) : AW g M pc L (.int y :: .int x :: S) h Q := by
  subst hn
  rw [Bool.and_eq_true] at hrm
  have j1 := Nat.le_of_ble_eq_true hrm.1
  have j2 := Nat.le_of_ble_eq_true hrm.2
  intro p e s m args below meth c H locs cells slots ls hC hF hH hS hL
  obtain ⟨hx, hb, hml, -, -, hown, hts, -, -, hok, -⟩ := id hC
  obtain ⟨-, hz1, hz2, hz3⟩ := id hH
  refine W_tight fun n1 k1 hn1 hk1 => ?_
  exact va_mmin hx hb (hml.trans hL.1.symm) hown (hts _ hlk) (hts _ q641) (hts _ q16) (hts _ q642) j1 j2 (by show n1 ≤ gC g - s.heap.size; omega) (by show k1 ≤ gZ g - am_sl s.heap; omega) (am_dec hok hr) (k p e s m args below meth c H locs _ _ ls hC hF hH hS hL)
theorem AW.jmax {i : Nat} {x y : Int32} (hr : (pc, Instr.invokestatic i, 3) ∈ mR M) (hn : pc + 3 = nx) (hlk : Cond.methodLink (mY M).cls i yJ9_max_7cf53 ∈ am_tb) (hrm : (Nat.ble 1 (mD M) && Nat.ble ((S.map fun v => v.category).sum + 13) (mW M)) = true) (k : AW g M nx L (.int (jmax x y) :: S) h Q) : AW g M pc L (.int y :: .int x :: S) h Q := by
  subst hn
  rw [Bool.and_eq_true] at hrm
  have j1 := Nat.le_of_ble_eq_true hrm.1
  have j2 := Nat.le_of_ble_eq_true hrm.2
  intro p e s m args below meth c H locs cells slots ls hC hF hH hS hL
  obtain ⟨hx, hb, hml, -, -, hown, hts, -, -, hok, -⟩ := id hC
  obtain ⟨-, hz1, hz2, hz3⟩ := id hH
  refine W_tight fun n1 k1 hn1 hk1 => ?_
  exact va_mmax hx hb (hml.trans hL.1.symm) hown (hts _ hlk) (hts _ q892) (hts _ q16) (hts _ q893) j1 j2 (by show n1 ≤ gC g - s.heap.size; omega) (by show k1 ≤ gZ g - am_sl s.heap; omega) (am_dec hok hr) (k p e s m args below meth c H locs _ _ ls hC hF hH hS hL)
theorem AW.tabsw_at {x v : Int32} {d lo hi off : Int} {offs : Array Int} {n tg i : Nat} (hr : (pc, Instr.tableswitch d lo hi offs, n) ∈ mR M) (hxv : x = v) (hv : v.toInt = lo + i) (ho : offs[i]? = some off) (ht : (pc : Int) + off = (tg : Int)) (hsz : hi - lo + 1 = offs.size ∧ (0 : Int) ≤ (pc : Int) + d) (k : AW g M tg L S h Q) : AW g M pc L (.int x :: S) h Q := by
  subst hxv
  have hi' : (i : Nat) < offs.size := (Array.getElem?_eq_some_iff.mp ho).1
  refine AW.tableswitch (tg := ((pc : Int) + d).toNat) hr (by omega) (by omega) (fun off' i' h' hx' => ?_) (fun hd => ?_)
  · have e : i' = i := by omega
    subst e
    rw [ho] at h'
    cases h'
    exact ⟨tg, ht, k⟩
  · exact absurd hd (by omega)
theorem AW.tabsw_d {x : Int32} {d lo hi : Int} {offs : Array Int} {n tg : Nat} (vs : List Int32) (hr : (pc, Instr.tableswitch d lo hi offs, n) ∈ mR M) (ht : (pc : Int) + d = (tg : Int)) (hsz : hi - lo + 1 = offs.size) (hvs : ∀ i, i < offs.size → ∃ v ∈ vs, v.toInt = lo + i) (hx : ∀ v ∈ vs, ¬ x = v) (k : AW g M tg L S h Q) : AW g M pc L (.int x :: S) h Q := by
  refine AW.tableswitch hr ht (by omega) (fun off' i' h' hx' => ?_) (fun hd => k)
  have hi' := (Array.getElem?_eq_some_iff.mp h').1
  obtain ⟨v, hv, e⟩ := hvs i' hi'
  exact absurd (Int32.toInt_inj.mp (hx'.trans e.symm)) (hx v hv)
end AWB
def oall (p : Nat → Prop) (t : Option Nat) : Prop := ∀ i, t = some i → p i
def oopt {β : Type} (t : Option Nat) (x : β) (f : Nat → β) : β := match t with
  | none => x
  | some i => f i
theorem oopt_e {β : Type} {P : Option Nat → Prop} {t : Option Nat} {x : β} {f : Nat → β} {r : β} (hs : oopt t x f = r) (kn : x = r → P none) (ks : ∀ i, t = some i → f i = r → P (some i)) : P t := by
  cases t with
  | none => exact kn hs
  | some i => exact ks i rfl hs
theorem oall_n {p : Nat → Prop} : oall p none := fun _ z => by cases z
theorem oall_s {p : Nat → Prop} {i : Nat} (h : p i) : oall p (some i) := fun _ z => by cases z; exact h
theorem va_rf_cat (t : Option Nat) : (va_rf t).category = 1 := by cases t <;> rfl
theorem stL_o {L L' : List (Option Value)} {j : Nat} {t : Option Nat} {v : Value} (h : L[j]? = some (some (va_rf t))) (h2 : L.set (j + 1) (some v) = L') : stL L (j + 1) v = L' := by
  unfold stL
  dsimp only
  rw [h]
  dsimp only
  rw [va_rf_cat, if_neg (by decide)]
  exact h2
section AWD
variable {g : AG} {M : AM} {pc nx : Nat} {L : List (Option Value)} {S : List Value} {h : AH} {Q : AO → AH → Prop}
theorem AW.aload_nO {z : Fin 4} {t : Option Nat} (hr : (pc, Instr.aload_n z, 1) ∈ mR M) (hn : pc + 1 = nx) (hl : L[(z : Nat)]? = some (some (va_rf t))) (k : AW g M nx L (va_rf t :: S) h Q) : AW g M pc L S h Q := by
  cases t with
  | none => exact AW.aload_nN hr hn hl k
  | some i => exact AW.aload_n hr hn hl k
theorem AW.aloadO {i : Nat} {t : Option Nat} (hr : (pc, Instr.aload i, 2) ∈ mR M) (hn : pc + 2 = nx) (hl : L[i]? = some (some (va_rf t))) (k : AW g M nx L (va_rf t :: S) h Q) : AW g M pc L S h Q := by
  cases t with
  | none => exact AW.aloadN hr hn hl k
  | some i => exact AW.aload hr hn hl k
theorem AW.astore_nO {z : Fin 4} {t : Option Nat} {L' : List (Option Value)} (hr : (pc, Instr.astore_n z, 1) ∈ mR M) (hn : pc + 1 = nx) (hi : (z : Nat) < mL M) (hl : stL L (z : Nat) (va_rf t) = L') (k : AW g M nx L' S h Q) : AW g M pc L (va_rf t :: S) h Q := by
  cases t with
  | none => exact AW.astore_nN hr hn hi hl k
  | some i => exact AW.astore_n hr hn hi hl k
theorem AW.astoreO {i : Nat} {t : Option Nat} {L' : List (Option Value)} (hr : (pc, Instr.astore i, 2) ∈ mR M) (hn : pc + 2 = nx) (hi : i < mL M) (hl : stL L i (va_rf t) = L') (k : AW g M nx L' S h Q) : AW g M pc L (va_rf t :: S) h Q := by
  cases t with
  | none => exact AW.astoreN hr hn hi hl k
  | some i => exact AW.astore hr hn hi hl k
end AWD
theorem and01 {x y : Int32} (hx : x = 0 ∨ x = 1) (hy : y = 0 ∨ y = 1) : (x &&& y) = 0 ∨ (x &&& y) = 1 := by
  rcases hx with rfl | rfl <;> rcases hy with rfl | rfl <;> decide
