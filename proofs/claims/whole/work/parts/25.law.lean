/-! ===== THE LAW'S MEMORY: x, the Model, two arrays of one element ===== -/
def loc2 (o : Int64) (d : UInt64) (k : Nat) : AE := if k = 0 then .inl (1, 1, .inr (.inl (fun j => if j = 0 then o else 0))) else .inl (4, 1, .inr (.inr (.inr (.inl (fun j => if j = 0 then d else 0)))))
def lcell (B : Nat) (T : Mem) (o : Int64) (d : UInt64) (k : Nat) : AE := if k < 10 then mcell (B + 129) T k else loc2 o d (k - 10)
def lb (h0 : AH) (B : Nat) (T : Mem) (o : Int64) (d : UInt64) : AH := blk h0 (B + 129) 12 (lcell B T o d)
def LH (h0 : AH) (B : Nat) (S : XT) (T : Mem) (o : Int64) (d : UInt64) : AH := xh (bw (lb h0 B T o d) B S.1 S.2.2.1 S.2.2.2.2.2.2) B S.2.1 S.2.2.1 S.2.2.2.1 S.2.2.2.2.1 S.2.2.2.2.2.1
/-- the rows lie behind all that -/
def lrw (B : Nat) (P : Rows) : Prop := ∀ k, k < 12 → ∀ a, P k = some a → B + 141 ≤ a
theorem sta_lb {g : AG} {h : AH} {B : Nat} {T : Mem} {o : Int64} {d : UInt64} (hs : Sta g h) (hB : gB g ≤ B) : Sta g (lb h B T o d) := Sta.blk hs (by omega)
section LHS
variable {h0 : AH} {B : Nat} {S : XT} {T T' : Mem} {o o' : Int64} {d d' : UInt64}
theorem rws_out {h : AH} {lo q : Nat} {P : Rows} {W : Nat → Mem} : ∀ n, n ≤ 12 → (∀ k, k < 12 → ∀ a, P k = some a → q < a ∨ a + 58 ≤ q) → (rws h lo P W n).1 q = h.1 q := by
  intro n
  induction n with
  | zero => intro _ _; rfl
  | succ n ih =>
    intro hn hP
    rw [rws_s, ih (by omega) hP]
    cases e : P n with
    | none => rfl
    | some a => dsimp only; rw [if_neg (by have := hP n (by omega) a e; omega)]
theorem rws_base {h h' : AH} {lo q : Nat} {P : Rows} {W : Nat → Mem} (hq : h.1 q = h'.1 q) : ∀ n, (rws h lo P W n).1 q = (rws h' lo P W n).1 q := by
  intro n
  induction n with
  | zero => exact hq
  | succ n ih =>
    rw [rws_s, rws_s, ih]
theorem LH_low (hl : lrw B S.2.2.1) {q : Nat} (hq : q < B) : (LH h0 B S T o d).1 q = h0.1 q := by
  unfold LH
  rw [xh_far (by omega)]
  refine (rws_out 12 (Nat.le_refl _) fun k hk a ha => ?_).trans (blk_out (by omega))
  have := hl k hk a ha
  omega
theorem LH_at (hl : lrw B S.2.2.1) {j : Nat} (hj : j < 12) : (LH h0 B S T o d).1 (B + 129 + j) = some (lcell B T o d j) := by
  unfold LH
  rw [xh_far (by omega)]
  refine (rws_out 12 (Nat.le_refl _) fun k hk a ha => ?_).trans (blk_in hj)
  have := hl k hk a ha
  omega
theorem LH_cg {q : Nat} (hq : q < B + 129 ∨ B + 141 ≤ q) : (LH h0 B S T o d).1 q = (LH h0 B S T' o' d').1 q := by
  unfold LH
  by_cases h2 : B ≤ q ∧ q < B + 129
  · obtain ⟨j, rfl⟩ : ∃ j, q = B + j := ⟨q - B, by omega⟩
    rw [xh_cell (by omega), xh_cell (by omega)]
  · rw [xh_far (by omega), xh_far (by omega)]
    refine rws_base ?_ 12
    unfold lb
    rw [blk_out (by omega), blk_out (by omega)]
theorem LH_put (hl : lrw B S.2.2.1) {k : Nat} {e : AE} (hk : k < 12) (hf : ∀ j, j < 12 → lcell B T' o' d' j = if j = k then e else lcell B T o d j) : hU (LH h0 B S T o d) (B + 129 + k) e = LH h0 B S T' o' d' := by
  refine Prod.ext (funext fun q => ?_) rfl
  show (if q = B + 129 + k then some e else (LH h0 B S T o d).1 q) = (LH h0 B S T' o' d').1 q
  by_cases h1 : B + 129 ≤ q ∧ q < B + 141
  · obtain ⟨j, rfl⟩ : ∃ j, q = B + 129 + j := ⟨q - (B + 129), by omega⟩
    rw [LH_at hl (by omega), LH_at hl (by omega), hf j (by omega)]
    by_cases h2 : j = k
    · rw [if_pos h2, if_pos (by omega)]
    · rw [if_neg h2, if_neg (by omega)]
  · rw [if_neg (by omega)]
    exact LH_cg (by omega)
theorem LH_mb (hl : lrw B S.2.2.1) : mb (LH h0 B S T o d) (B + 129) T' = LH h0 B S T' o d := by
  refine Prod.ext (funext fun q => ?_) rfl
  show (if B + 129 ≤ q ∧ q < B + 129 + 10 then some (mcell (B + 129) T' (q - (B + 129))) else (LH h0 B S T o d).1 q) = (LH h0 B S T' o d).1 q
  by_cases h1 : B + 129 ≤ q ∧ q < B + 141
  · obtain ⟨j, rfl⟩ : ∃ j, q = B + 129 + j := ⟨q - (B + 129), by omega⟩
    rw [LH_at hl (by omega), LH_at hl (by omega)]
    unfold lcell
    by_cases h2 : j < 10
    · rw [if_pos (by omega), if_pos h2, Nat.add_sub_cancel_left]
    · rw [if_neg (by omega), if_neg h2, if_neg h2]
  · rw [if_neg (by omega)]
    exact LH_cg (by omega)
theorem LH_o (hl : lrw B S.2.2.1) : (LH h0 B S T o d).1 (B + 139) = some (.inl (1, 1, .inr (.inl (fun j => if j = 0 then o else 0)))) := LH_at (j := 10) hl (by omega)
theorem LH_d (hl : lrw B S.2.2.1) : (LH h0 B S T o d).1 (B + 140) = some (.inl (4, 1, .inr (.inr (.inr (.inl (fun j => if j = 0 then d else 0)))))) := LH_at (j := 11) hl (by omega)
theorem LH_x : (LH h0 B S T o d).1 B = some (ob 9 9 (xxF B S.2.1)) := xh_0
theorem lc_o {j : Nat} (hj : j < 12) : lcell B T o' d j = if j = 10 then .inl (1, 1, .inr (.inl (fun j => if j = 0 then o' else 0))) else lcell B T o d j := by
  unfold lcell
  by_cases h1 : j < 10
  · rw [if_pos h1, if_pos h1, if_neg (by omega)]
  · rw [if_neg h1, if_neg h1]
    by_cases h2 : j = 10
    · subst h2; rfl
    · rw [if_neg h2]
      have : j = 11 := by omega
      subst this; rfl
theorem lc_d {j : Nat} (hj : j < 12) : lcell B T o d' j = if j = 11 then .inl (4, 1, .inr (.inr (.inr (.inl (fun j => if j = 0 then d' else 0))))) else lcell B T o d j := by
  unfold lcell
  by_cases h1 : j < 10
  · rw [if_pos h1, if_pos h1, if_neg (by omega)]
  · rw [if_neg h1, if_neg h1]
    by_cases h2 : j = 11
    · subst h2; rfl
    · rw [if_neg h2]
      have : j = 10 := by omega
      subst this; rfl
theorem up1 {α : Type} {z x y : α} : (fun j : Nat => if j = (0 : Int32).toNatClampNeg then y else if j = 0 then x else z) = (fun j : Nat => if j = 0 then y else z) := funext fun j => by
  show (if j = 0 then y else if j = 0 then x else z) = _
  by_cases h : j = 0
  · rw [if_pos h, if_pos h]
  · rw [if_neg h, if_neg h, if_neg h]
theorem LH_po (hl : lrw B S.2.2.1) : hU (LH h0 B S T o d) (B + 139) (.inl (1, 1, .inr (.inl (vp_updL (fun j => if j = 0 then o else 0) ((0 : Int32).toNatClampNeg) o')))) = LH h0 B S T o' d := by
  refine LH_put (k := 10) hl (by omega) fun j hj => (lc_o (o := o) hj).trans ?_
  unfold vp_updL
  rw [up1]
theorem LH_pd (hl : lrw B S.2.2.1) : hU (LH h0 B S T o d) (B + 140) (.inl (4, 1, .inr (.inr (.inr (.inl (am_upD (fun j => if j = 0 then d else 0) ((0 : Int32).toNatClampNeg) d')))))) = LH h0 B S T o d' := by
  refine LH_put (k := 11) hl (by omega) fun j hj => (lc_d (d := d) hj).trans ?_
  unfold am_upD
  rw [up1]
end LHS
/-! what a call of x comes to, in one form -/
def uP (x : Option (Except Nat Int32)) (S : XT) : Option (Except Nat Int64 × XT) := match x with
  | none => none
  | some (.ok v) => some (.ok v.toInt64, S)
  | some (.error e) => some (.error e, S)
def uB (x : Option (Except Nat Int32)) (S : XT) : Option (Except Nat Int64 × XT) := match x with
  | none => none
  | some (.ok v) => some (.ok (if v = 0 then 0 else 1), S)
  | some (.error e) => some (.error e, S)
def uW (x : Option (Except (Nat × XT) (Int32 × XT))) : Option (Except Nat Int64 × XT) := match x with
  | none => none
  | some (.ok v) => some (.ok v.1.toInt64, v.2)
  | some (.error e) => some (.error e.1, e.2)
def uV (x : Option (Except (Nat × XT) (Int64 × XT))) : Option (Except Nat Int64 × XT) := match x with
  | none => none
  | some (.ok v) => some (.ok v.1, v.2)
  | some (.error e) => some (.error e.1, e.2)
def uM (x : Option (Except Nat UInt64)) (S : XT) : Option (Except Nat UInt64 × XT) := match x with
  | none => none
  | some (.ok v) => some (.ok v, S)
  | some (.error e) => some (.error e, S)
/-- the second row of a table of two, where the first is of another class -/
theorem AX.catch2 {g : AG} {M : AM} {pc k : Nat} {L : List (Option Value)} {S : List Value} {h : AH} {Q : AO → AH → Prop} {E nm : String} (z x : ExceptionTableEntry) (hsplit : tableOf (mH M) = [z, x])
    (hz0 : z.catchType ≠ 0) (hzl : Cond.classLink (mY M).cls z.catchType nm ∈ am_tb) (hnc : ∀ s, SF g s → va_Nc (am_ex k) nm s) (hx : covers x pc = true) (h0 : x.catchType ≠ 0) (hlink : Cond.classLink (mY M).cls x.catchType E ∈ am_tb) (hcast : Cond.castable (am_ex k) E ∈ am_nw)
    (kk : ∀ q9 : Nat, AW g M x.handlerPc L [.ref q9] h Q) : AX g M pc L S k h Q := by
  intro p e s m args below meth c H locs cells slots ls q9 ce hC hF hH hS hL hce hcv hcl
  obtain ⟨hx1, hbb, hml, hret, hlk2, hown, hts, hmn, het, hok, hstk⟩ := id hC
  exact vx_catch hown [z] x [] (het.trans hsplit) (fun y hy => Or.inr (by
    rw [List.mem_singleton] at hy
    subst hy
    exact ⟨hz0, nm, hts _ hzl, hnc s hF⟩)) hx h0 (hts _ hlink) (va_Nw.use rfl (hF.2.2.2.2.2.2.1 _ hcast)) hce hcv hcl (kk q9 p e s m args below meth c H locs cells slots ls hC hF hH hS hL)
theorem SF.nc2 {g : AG} {s : State} (h : SF g s) : va_Nc (am_ex 2) "java/lang/IndexOutOfBoundsException" s := h.2.2.2.2.2.2.2.2.1.1
theorem SF.nc3 {g : AG} {s : State} (h : SF g s) : va_Nc (am_ex 3) "java/lang/IndexOutOfBoundsException" s := h.2.2.2.2.2.2.2.2.1.2
/-- which answer the law's helper gives of an exception -/
def co1 (e : Nat) : Option Int32 := if e = 1 then some 1 else none
def co2 (e : Nat) : Option Int32 := if e = 2 then some 1 else none
def co3 (e : Nat) : Option Int32 := if e = 3 then some 1 else none
def co12 (e : Nat) : Option Int32 := if e = 1 then some 1 else if e = 2 then some 2 else none
def co13 (e : Nat) : Option Int32 := if e = 1 then some 1 else if e = 3 then some 2 else none
def bump (S : XT) (z : Nat) : XT := ((z, S.1.2.1 - 1, S.1.2.2 - 6), S.2)

