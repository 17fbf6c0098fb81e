/-! ===== THE ROWS OF THE ABSTRACT MACHINE: an instruction, a row ===== -/
theorem am_dec {M : AM} {pc n : Nat} {ins : Instr} (h : okD M) (hr : (pc, ins, n) ∈ mR M) : decode (mB M) pc = .ok (ins, n) := by
  have h2 := h (pc, ins, n) hr
  exact h2
theorem am_r {M : AM} (i : Nat) {r : ARow} (h : (mR M)[i]? = some r) : r ∈ mR M := List.mem_of_getElem? h
/-- the locals as the kit lists them -/
def am_asc (L : List (Option Value)) : List (Nat × Value) := L.zipIdx.filterMap (fun q => q.1.map (fun v => (q.2, v)))
theorem am_asc_mem {L : List (Option Value)} {k : Nat} {v : Value} : (k, v) ∈ am_asc L ↔ L[k]? = some (some v) := by
  unfold am_asc
  rw [List.mem_filterMap]
  constructor
  · rintro ⟨⟨o, j⟩, h1, h2⟩
    have h3 := List.mem_zipIdx_iff_getElem?.mp h1
    cases o with
    | none => cases h2
    | some w =>
      simp only [Option.map_some, Option.some.injEq, Prod.mk.injEq] at h2
      obtain ⟨rfl, rfl⟩ := h2
      exact h3
  · intro h
    exact ⟨(some v, k), List.mem_zipIdx_iff_getElem?.mpr h, rfl⟩
theorem LR.has {ls : Array Slot} {n : Nat} {L : List (Option Value)} (h : LR ls n L) : lv_has ls n (am_asc L) := ⟨h.1, h.2.1, fun q hq => h.2.2 q.1 q.2 (am_asc_mem.mp hq)⟩
/-- a value goes into the locals -/
def stL (L : List (Option Value)) (i : Nat) (v : Value) : List (Option Value) := (match i with
  | 0 => L
  | j + 1 => match L[j]? with
    | some (some w) => if w.category = 2 then L.set j none else L
    | _ => L).set i (some v)
def stL2 (L : List (Option Value)) (i : Nat) (v : Value) : List (Option Value) := (stL L i v).set (i + 1) none
theorem stL_get {L : List (Option Value)} {i k : Nat} {v w : Value} (h : (stL L i v)[k]? = some (some w)) : (k = i ∧ w = v) ∨ (k ≠ i ∧ L[k]? = some (some w) ∧ ¬ (k + 1 = i ∧ w.category = 2)) := by
  unfold stL at h
  by_cases hk : k = i
  · subst hk
    left
    obtain ⟨hlt, he⟩ := List.getElem?_eq_some_iff.mp h
    rw [List.getElem_set_self] at he
    exact ⟨rfl, (Option.some.inj he).symm⟩
  · right
    rw [List.getElem?_set_ne (Ne.symm hk)] at h
    refine ⟨hk, ?_⟩
    cases i with
    | zero => exact ⟨h, fun z => by omega⟩
    | succ j =>
      dsimp only at h
      by_cases hj : k = j
      · subst hj
        cases hL : L[k]? with
        | none => rw [hL] at h; dsimp only at h; rw [hL] at h; cases h
        | some x =>
          cases x with
          | none => rw [hL] at h; dsimp only at h; rw [hL] at h; cases h
          | some u =>
            rw [hL] at h
            dsimp only at h
            split at h
            · rw [List.getElem?_set, if_pos rfl] at h
              split at h <;> cases h
            · rw [hL] at h
              cases h
              exact ⟨rfl, fun z => by have := z.2; contradiction⟩
      · refine ⟨?_, fun z => by omega⟩
        split at h
        · split at h
          · rw [List.getElem?_set_ne (Ne.symm hj)] at h; exact h
          · exact h
        · exact h
theorem LR.st {ls ls' : Array Slot} {n i : Nat} {L : List (Option Value)} {v : Value} (h : lv_has ls' n ((i, v) :: (am_asc L).filter (fun q => !(q.1 == i) && !(q.1 + 1 == i && q.2.category == 2)))) : LR ls' n (stL L i v) := by
  refine ⟨h.1, h.2.1, fun k w hk => ?_⟩
  rcases stL_get hk with ⟨rfl, rfl⟩ | ⟨h1, h2, h3⟩
  · exact h.2.2 (k, w) List.mem_cons_self
  · refine h.2.2 (k, w) (List.mem_cons_of_mem _ (List.mem_filter.mpr ⟨am_asc_mem.mpr h2, ?_⟩))
    simp only [Bool.and_eq_true, Bool.not_eq_true', beq_eq_false_iff_ne, ne_eq, Bool.and_eq_false_iff]
    refine ⟨h1, ?_⟩
    by_cases hz : k + 1 = i
    · exact Or.inr (fun hw => h3 ⟨hz, hw⟩)
    · exact Or.inl hz
theorem LR.st2 {ls ls' : Array Slot} {n i : Nat} {L : List (Option Value)} {v : Value} (h : lv_has ls' n ((i, v) :: (am_asc L).filter (fun q => !(q.1 == i) && (!(q.1 == i + 1) && !(q.1 + 1 == i && q.2.category == 2))))) : LR ls' n (stL2 L i v) := by
  refine ⟨h.1, h.2.1, fun k w hk => ?_⟩
  unfold stL2 at hk
  by_cases hk1 : k = i + 1
  · subst hk1
    rw [List.getElem?_set, if_pos rfl] at hk
    split at hk <;> cases hk
  rw [List.getElem?_set_ne (Ne.symm hk1)] at hk
  rcases stL_get hk with ⟨rfl, rfl⟩ | ⟨h1, h2, h3⟩
  · exact h.2.2 (k, w) List.mem_cons_self
  · refine h.2.2 (k, w) (List.mem_cons_of_mem _ (List.mem_filter.mpr ⟨am_asc_mem.mpr h2, ?_⟩))
    simp only [Bool.and_eq_true, Bool.not_eq_true', beq_eq_false_iff_ne, ne_eq, Bool.and_eq_false_iff]
    refine ⟨h1, hk1, ?_⟩
    by_cases hz : k + 1 = i
    · exact Or.inr (fun hw => h3 ⟨hz, hw⟩)
    · exact Or.inl hz
section AWR
variable {g : AG} {M : AM} {pc nx : Nat} {L : List (Option Value)} {S : List Value} {h : AH} {Q : AO → AH → Prop}
/-- what is known of the locals may be less -/
theorem AW.less {L' : List (Option Value)} (hl : ∀ (k : Nat) (v : Value), L'[k]? = some (some v) → L[k]? = some (some v)) (k : AW g M pc L' S h Q) : AW g M pc L S h Q := by
  intro p e s m args below meth c H locs cells slots ls hC hF hH hS hL
  exact k p e s m args below meth c H locs cells slots ls hC hF hH hS ⟨hL.1, hL.2.1, fun i v hi => hL.2.2 i v (hl i v hi)⟩
theorem am_Q_mono {Q Q' : AO → AH → Prop} (hq : ∀ o h, Q o h → Q' o h) {a : Array Value} {s t : State} {o : Outcome} (h : am_Q g Q a s o t) : am_Q g Q' a s o t := by
  obtain ⟨⟨v, h1, e, q, hc⟩, hf⟩ := h
  exact ⟨⟨v, h1, e, hq _ _ q, hc⟩, hf⟩
theorem am_X_mono {Q Q' : AO → AH → Prop} (hq : ∀ o h, Q o h → Q' o h) {E : String} {s t : State} (h : am_X g Q E s t) : am_X g Q' E s t := by
  obtain ⟨⟨v, h1, e, q, hc⟩, hf⟩ := h
  exact ⟨⟨v, h1, e, hq _ _ q, hc⟩, hf⟩
theorem AW.mono {Q' : AO → AH → Prop} (hq : ∀ o h, Q o h → Q' o h) (k : AW g M pc L S h Q) : AW g M pc L S h Q' := by
  intro p e s m args below meth c H locs cells slots ls hC hF hH hS hL T hT X
  obtain ⟨t, a1, o, b1, b2, b3⟩ := k p e s m args below meth c H locs cells slots ls hC hF hH hS hL T hT X
  refine ⟨t, a1, o, b1, b2, ?_⟩
  rcases b3 with ⟨b4, b5⟩ | ⟨q, b4, E, ce, LL, b5, b6⟩
  · exact Or.inl ⟨am_Q_mono hq b4, b5⟩
  · exact Or.inr ⟨q, b4, E, ce, LL, am_X_mono hq b5, b6⟩
theorem AW.iconst {z : Int} {v : Int32} (hr : (pc, Instr.iconst z, 1) ∈ mR M) (hn : pc + 1 = nx) (hv : Int32.ofInt z = v) (k : AW g M nx L (.int v :: S) h Q) : AW g M pc L (S) h Q := by
  subst hn
  intro p e s m args below meth c H locs cells slots ls hC hF hH hS hL
  obtain ⟨hx, hb, hml, -, -, -, -, -, -, hok, -⟩ := id hC
  exact lv_iconst hx hb (am_dec hok hr) hv (k p e s m args below meth c H locs cells slots ls hC hF hH hS hL)
theorem AW.bipush {z : Int} {v : Int32} (hr : (pc, Instr.bipush z, 2) ∈ mR M) (hn : pc + 2 = nx) (hv : (Int8.ofInt z).toInt32 = v) (k : AW g M nx L (.int v :: S) h Q) : AW g M pc L (S) h Q := by
  subst hn
  intro p e s m args below meth c H locs cells slots ls hC hF hH hS hL
  obtain ⟨hx, hb, hml, -, -, -, -, -, -, hok, -⟩ := id hC
  exact lv_bipush hx hb (am_dec hok hr) hv (k p e s m args below meth c H locs cells slots ls hC hF hH hS hL)
theorem AW.sipush {z : Int} {v : Int32} (hr : (pc, Instr.sipush z, 3) ∈ mR M) (hn : pc + 3 = nx) (hv : (Int16.ofInt z).toInt32 = v) (k : AW g M nx L (.int v :: S) h Q) : AW g M pc L (S) h Q := by
  subst hn
  intro p e s m args below meth c H locs cells slots ls hC hF hH hS hL
  obtain ⟨hx, hb, hml, -, -, -, -, -, -, hok, -⟩ := id hC
  exact lv_sipush hx hb (am_dec hok hr) hv (k p e s m args below meth c H locs cells slots ls hC hF hH hS hL)
theorem AW.lconst {z : Fin 2} {v : Int64} (hr : (pc, Instr.lconst z, 1) ∈ mR M) (hn : pc + 1 = nx) (hv : Int64.ofNat (z : Nat) = v) (k : AW g M nx L (.long v :: S) h Q) : AW g M pc L (S) h Q := by
  subst hn
  intro p e s m args below meth c H locs cells slots ls hC hF hH hS hL
  obtain ⟨hx, hb, hml, -, -, -, -, -, -, hok, -⟩ := id hC
  exact lv_lconst hx hb (am_dec hok hr) hv (k p e s m args below meth c H locs cells slots ls hC hF hH hS hL)
theorem AW.aconst_null  (hr : (pc, Instr.aconst_null, 1) ∈ mR M) (hn : pc + 1 = nx) (k : AW g M nx L (.null :: S) h Q) : AW g M pc L (S) h Q := by
  subst hn
  intro p e s m args below meth c H locs cells slots ls hC hF hH hS hL
  obtain ⟨hx, hb, hml, -, -, -, -, -, -, hok, -⟩ := id hC
  exact lv_null hx hb (am_dec hok hr) (k p e s m args below meth c H locs cells slots ls hC hF hH hS hL)
theorem AW.dconst0  (hr : (pc, Instr.dconst 0, 1) ∈ mR M) (hn : pc + 1 = nx) (k : AW g M nx L (.double FP.dconst0 :: S) h Q) : AW g M pc L (S) h Q := by
  subst hn
  intro p e s m args below meth c H locs cells slots ls hC hF hH hS hL
  obtain ⟨hx, hb, hml, -, -, -, -, -, -, hok, -⟩ := id hC
  exact lv_dconst0 hx hb (am_dec hok hr) (k p e s m args below meth c H locs cells slots ls hC hF hH hS hL)
theorem AW.ldc {i : Nat} {v : Int32} (hr : (pc, Instr.ldc i, 2) ∈ mR M) (hn : pc + 2 = nx) (hw : Cond.constant (mY M).cls i v ∈ am_tb) (k : AW g M nx L (.int v :: S) h Q) : AW g M pc L S h Q := by
  subst hn
  intro p e s m args below meth c H locs cells slots ls hC hF hH hS hL
  obtain ⟨hx, hb, -, -, -, hown, hts, -, -, hok, -⟩ := id hC
  exact lv_ldc hx hb hown (hts _ hw) (am_dec hok hr) (k p e s m args below meth c H locs cells slots ls hC hF hH hS hL)
theorem AW.ldcw {i : Nat} {v : Int32} (hr : (pc, Instr.ldc_w i, 3) ∈ mR M) (hn : pc + 3 = nx) (hw : Cond.constant (mY M).cls i v ∈ am_tb) (k : AW g M nx L (.int v :: S) h Q) : AW g M pc L S h Q := by
  subst hn
  intro p e s m args below meth c H locs cells slots ls hC hF hH hS hL
  obtain ⟨hx, hb, -, -, -, hown, hts, -, -, hok, -⟩ := id hC
  exact lv_ldcw hx hb hown (hts _ hw) (am_dec hok hr) (k p e s m args below meth c H locs cells slots ls hC hF hH hS hL)
theorem AW.ldc2 {i : Nat} {v : Int64} (hr : (pc, Instr.ldc2_w i, 3) ∈ mR M) (hn : pc + 3 = nx) (hw : Cond.constantLong (mY M).cls i v ∈ am_tb) (k : AW g M nx L (.long v :: S) h Q) : AW g M pc L S h Q := by
  subst hn
  intro p e s m args below meth c H locs cells slots ls hC hF hH hS hL
  obtain ⟨hx, hb, -, -, -, hown, hts, -, -, hok, -⟩ := id hC
  exact lv_ldc2 hx hb hown (hts _ hw) (am_dec hok hr) (k p e s m args below meth c H locs cells slots ls hC hF hH hS hL)
theorem AW.iload_n {z : Fin 4} {x : Int32} (hr : (pc, Instr.iload_n z, 1) ∈ mR M) (hn : pc + 1 = nx) (hl : L[(z : Nat)]? = some (some (.int x))) (k : AW g M nx L (.int x :: S) h Q) : AW g M pc L (S) h Q := by
  subst hn
  intro p e s m args below meth c H locs cells slots ls hC hF hH hS hL
  obtain ⟨hx, hb, hml, -, -, -, -, -, -, hok, -⟩ := id hC
  exact lv_iload_n hx hb (am_dec hok hr) rfl (hL.2.2 _ _ hl) (k p e s m args below meth c H locs cells slots ls hC hF hH hS hL)
theorem AW.iload {i : Nat} {x : Int32} (hr : (pc, Instr.iload i, 2) ∈ mR M) (hn : pc + 2 = nx) (hl : L[i]? = some (some (.int x))) (k : AW g M nx L (.int x :: S) h Q) : AW g M pc L (S) h Q := by
  subst hn
  intro p e s m args below meth c H locs cells slots ls hC hF hH hS hL
  obtain ⟨hx, hb, hml, -, -, -, -, -, -, hok, -⟩ := id hC
  exact lv_iload hx hb (am_dec hok hr) (hL.2.2 _ _ hl) (k p e s m args below meth c H locs cells slots ls hC hF hH hS hL)
theorem AW.lload_n {z : Fin 4} {x : Int64} (hr : (pc, Instr.lload_n z, 1) ∈ mR M) (hn : pc + 1 = nx) (hl : L[(z : Nat)]? = some (some (.long x))) (k : AW g M nx L (.long x :: S) h Q) : AW g M pc L (S) h Q := by
  subst hn
  intro p e s m args below meth c H locs cells slots ls hC hF hH hS hL
  obtain ⟨hx, hb, hml, -, -, -, -, -, -, hok, -⟩ := id hC
  exact lv_lload_n hx hb (am_dec hok hr) rfl (hL.2.2 _ _ hl) (k p e s m args below meth c H locs cells slots ls hC hF hH hS hL)
theorem AW.lload {i : Nat} {x : Int64} (hr : (pc, Instr.lload i, 2) ∈ mR M) (hn : pc + 2 = nx) (hl : L[i]? = some (some (.long x))) (k : AW g M nx L (.long x :: S) h Q) : AW g M pc L (S) h Q := by
  subst hn
  intro p e s m args below meth c H locs cells slots ls hC hF hH hS hL
  obtain ⟨hx, hb, hml, -, -, -, -, -, -, hok, -⟩ := id hC
  exact lv_lload hx hb (am_dec hok hr) (hL.2.2 _ _ hl) (k p e s m args below meth c H locs cells slots ls hC hF hH hS hL)
theorem AW.dload_n {z : Fin 4} {x : UInt64} (hr : (pc, Instr.dload_n z, 1) ∈ mR M) (hn : pc + 1 = nx) (hl : L[(z : Nat)]? = some (some (.double x))) (k : AW g M nx L (.double x :: S) h Q) : AW g M pc L (S) h Q := by
  subst hn
  intro p e s m args below meth c H locs cells slots ls hC hF hH hS hL
  obtain ⟨hx, hb, hml, -, -, -, -, -, -, hok, -⟩ := id hC
  exact lv_dload_n hx hb (am_dec hok hr) rfl (hL.2.2 _ _ hl) (k p e s m args below meth c H locs cells slots ls hC hF hH hS hL)
theorem AW.dload {i : Nat} {x : UInt64} (hr : (pc, Instr.dload i, 2) ∈ mR M) (hn : pc + 2 = nx) (hl : L[i]? = some (some (.double x))) (k : AW g M nx L (.double x :: S) h Q) : AW g M pc L (S) h Q := by
  subst hn
  intro p e s m args below meth c H locs cells slots ls hC hF hH hS hL
  obtain ⟨hx, hb, hml, -, -, -, -, -, -, hok, -⟩ := id hC
  exact lv_dload hx hb (am_dec hok hr) (hL.2.2 _ _ hl) (k p e s m args below meth c H locs cells slots ls hC hF hH hS hL)
theorem AW.aload_n {z : Fin 4} {x : Nat} (hr : (pc, Instr.aload_n z, 1) ∈ mR M) (hn : pc + 1 = nx) (hl : L[(z : Nat)]? = some (some (.ref x))) (k : AW g M nx L (.ref x :: S) h Q) : AW g M pc L (S) h Q := by
  subst hn
  intro p e s m args below meth c H locs cells slots ls hC hF hH hS hL
  obtain ⟨hx, hb, hml, -, -, -, -, -, -, hok, -⟩ := id hC
  exact lv_aload_n hx hb (am_dec hok hr) rfl (hL.2.2 _ _ hl) (k p e s m args below meth c H locs cells slots ls hC hF hH hS hL)
theorem AW.aload {i : Nat} {x : Nat} (hr : (pc, Instr.aload i, 2) ∈ mR M) (hn : pc + 2 = nx) (hl : L[i]? = some (some (.ref x))) (k : AW g M nx L (.ref x :: S) h Q) : AW g M pc L (S) h Q := by
  subst hn
  intro p e s m args below meth c H locs cells slots ls hC hF hH hS hL
  obtain ⟨hx, hb, hml, -, -, -, -, -, -, hok, -⟩ := id hC
  exact lv_aload hx hb (am_dec hok hr) (hL.2.2 _ _ hl) (k p e s m args below meth c H locs cells slots ls hC hF hH hS hL)
theorem AW.aload_nN {z : Fin 4} (hr : (pc, Instr.aload_n z, 1) ∈ mR M) (hn : pc + 1 = nx) (hl : L[(z : Nat)]? = some (some .null)) (k : AW g M nx L (.null :: S) h Q) : AW g M pc L (S) h Q := by
  subst hn
  intro p e s m args below meth c H locs cells slots ls hC hF hH hS hL
  obtain ⟨hx, hb, hml, -, -, -, -, -, -, hok, -⟩ := id hC
  exact lv_aload_nN hx hb (am_dec hok hr) rfl (hL.2.2 _ _ hl) (k p e s m args below meth c H locs cells slots ls hC hF hH hS hL)
theorem AW.aloadN {i : Nat} (hr : (pc, Instr.aload i, 2) ∈ mR M) (hn : pc + 2 = nx) (hl : L[i]? = some (some .null)) (k : AW g M nx L (.null :: S) h Q) : AW g M pc L (S) h Q := by
  subst hn
  intro p e s m args below meth c H locs cells slots ls hC hF hH hS hL
  obtain ⟨hx, hb, hml, -, -, -, -, -, -, hok, -⟩ := id hC
  exact lv_aloadN hx hb (am_dec hok hr) (hL.2.2 _ _ hl) (k p e s m args below meth c H locs cells slots ls hC hF hH hS hL)
theorem AW.istore_n {z : Fin 4} {x : Int32} {L' : List (Option Value)} (hr : (pc, Instr.istore_n z, 1) ∈ mR M) (hn : pc + 1 = nx) (hi : (z : Nat) < mL M) (hl : stL L (z : Nat) (.int x) = L') (k : AW g M nx L' S h Q) : AW g M pc L (.int x :: S) h Q := by
  subst hn
  subst hl
  intro p e s m args below meth c H locs cells slots ls hC hF hH hS hL
  obtain ⟨hx, hb, hml, -, -, -, -, -, -, hok, -⟩ := id hC
  exact lv_istore_n hx hb (am_dec hok hr) rfl hL.has hi rfl (fun ls' hl' => k p e s m args below meth c H locs cells slots ls' hC hF hH hS (LR.st (ls := ls') hl'))
theorem AW.istore {i : Nat} {x : Int32} {L' : List (Option Value)} (hr : (pc, Instr.istore i, 2) ∈ mR M) (hn : pc + 2 = nx) (hi : i < mL M) (hl : stL L i (.int x) = L') (k : AW g M nx L' S h Q) : AW g M pc L (.int x :: S) h Q := by
  subst hn
  subst hl
  intro p e s m args below meth c H locs cells slots ls hC hF hH hS hL
  obtain ⟨hx, hb, hml, -, -, -, -, -, -, hok, -⟩ := id hC
  exact lv_istore hx hb (am_dec hok hr) hL.has hi rfl (fun ls' hl' => k p e s m args below meth c H locs cells slots ls' hC hF hH hS (LR.st (ls := ls') hl'))
theorem AW.lstore_n {z : Fin 4} {x : Int64} {L' : List (Option Value)} (hr : (pc, Instr.lstore_n z, 1) ∈ mR M) (hn : pc + 1 = nx) (hi : (z : Nat) + 1 < mL M) (hl : stL2 L (z : Nat) (.long x) = L') (k : AW g M nx L' S h Q) : AW g M pc L (.long x :: S) h Q := by
  subst hn
  subst hl
  intro p e s m args below meth c H locs cells slots ls hC hF hH hS hL
  obtain ⟨hx, hb, hml, -, -, -, -, -, -, hok, -⟩ := id hC
  exact lv_lstore_n hx hb (am_dec hok hr) rfl hL.has hi rfl (fun ls' hl' => k p e s m args below meth c H locs cells slots ls' hC hF hH hS (LR.st2 (ls := ls') hl'))
theorem AW.lstore {i : Nat} {x : Int64} {L' : List (Option Value)} (hr : (pc, Instr.lstore i, 2) ∈ mR M) (hn : pc + 2 = nx) (hi : i + 1 < mL M) (hl : stL2 L i (.long x) = L') (k : AW g M nx L' S h Q) : AW g M pc L (.long x :: S) h Q := by
  subst hn
  subst hl
  intro p e s m args below meth c H locs cells slots ls hC hF hH hS hL
  obtain ⟨hx, hb, hml, -, -, -, -, -, -, hok, -⟩ := id hC
  exact lv_lstore hx hb (am_dec hok hr) hL.has hi rfl (fun ls' hl' => k p e s m args below meth c H locs cells slots ls' hC hF hH hS (LR.st2 (ls := ls') hl'))
theorem AW.dstore_n {z : Fin 4} {x : UInt64} {L' : List (Option Value)} (hr : (pc, Instr.dstore_n z, 1) ∈ mR M) (hn : pc + 1 = nx) (hi : (z : Nat) + 1 < mL M) (hl : stL2 L (z : Nat) (.double x) = L') (k : AW g M nx L' S h Q) : AW g M pc L (.double x :: S) h Q := by
  subst hn
  subst hl
  intro p e s m args below meth c H locs cells slots ls hC hF hH hS hL
  obtain ⟨hx, hb, hml, -, -, -, -, -, -, hok, -⟩ := id hC
  exact lv_dstore_n hx hb (am_dec hok hr) rfl hL.has hi rfl (fun ls' hl' => k p e s m args below meth c H locs cells slots ls' hC hF hH hS (LR.st2 (ls := ls') hl'))
theorem AW.dstore {i : Nat} {x : UInt64} {L' : List (Option Value)} (hr : (pc, Instr.dstore i, 2) ∈ mR M) (hn : pc + 2 = nx) (hi : i + 1 < mL M) (hl : stL2 L i (.double x) = L') (k : AW g M nx L' S h Q) : AW g M pc L (.double x :: S) h Q := by
  subst hn
  subst hl
  intro p e s m args below meth c H locs cells slots ls hC hF hH hS hL
  obtain ⟨hx, hb, hml, -, -, -, -, -, -, hok, -⟩ := id hC
  exact lv_dstore hx hb (am_dec hok hr) hL.has hi rfl (fun ls' hl' => k p e s m args below meth c H locs cells slots ls' hC hF hH hS (LR.st2 (ls := ls') hl'))
theorem AW.astore_n {z : Fin 4} {x : Nat} {L' : List (Option Value)} (hr : (pc, Instr.astore_n z, 1) ∈ mR M) (hn : pc + 1 = nx) (hi : (z : Nat) < mL M) (hl : stL L (z : Nat) (.ref x) = L') (k : AW g M nx L' S h Q) : AW g M pc L (.ref x :: S) h Q := by
  subst hn
  subst hl
  intro p e s m args below meth c H locs cells slots ls hC hF hH hS hL
  obtain ⟨hx, hb, hml, -, -, -, -, -, -, hok, -⟩ := id hC
  exact lv_astore_n hx hb (am_dec hok hr) rfl hL.has hi rfl (fun ls' hl' => k p e s m args below meth c H locs cells slots ls' hC hF hH hS (LR.st (ls := ls') hl'))
theorem AW.astore {i : Nat} {x : Nat} {L' : List (Option Value)} (hr : (pc, Instr.astore i, 2) ∈ mR M) (hn : pc + 2 = nx) (hi : i < mL M) (hl : stL L i (.ref x) = L') (k : AW g M nx L' S h Q) : AW g M pc L (.ref x :: S) h Q := by
  subst hn
  subst hl
  intro p e s m args below meth c H locs cells slots ls hC hF hH hS hL
  obtain ⟨hx, hb, hml, -, -, -, -, -, -, hok, -⟩ := id hC
  exact lv_astore hx hb (am_dec hok hr) hL.has hi rfl (fun ls' hl' => k p e s m args below meth c H locs cells slots ls' hC hF hH hS (LR.st (ls := ls') hl'))
theorem AW.astore_nN {z : Fin 4} {L' : List (Option Value)} (hr : (pc, Instr.astore_n z, 1) ∈ mR M) (hn : pc + 1 = nx) (hi : (z : Nat) < mL M) (hl : stL L (z : Nat) (.null) = L') (k : AW g M nx L' S h Q) : AW g M pc L (.null :: S) h Q := by
  subst hn
  subst hl
  intro p e s m args below meth c H locs cells slots ls hC hF hH hS hL
  obtain ⟨hx, hb, hml, -, -, -, -, -, -, hok, -⟩ := id hC
  exact lv_astore_nN hx hb (am_dec hok hr) rfl hL.has hi rfl (fun ls' hl' => k p e s m args below meth c H locs cells slots ls' hC hF hH hS (LR.st (ls := ls') hl'))
theorem AW.astoreN {i : Nat} {L' : List (Option Value)} (hr : (pc, Instr.astore i, 2) ∈ mR M) (hn : pc + 2 = nx) (hi : i < mL M) (hl : stL L i (.null) = L') (k : AW g M nx L' S h Q) : AW g M pc L (.null :: S) h Q := by
  subst hn
  subst hl
  intro p e s m args below meth c H locs cells slots ls hC hF hH hS hL
  obtain ⟨hx, hb, hml, -, -, -, -, -, -, hok, -⟩ := id hC
  exact lv_astoreN hx hb (am_dec hok hr) hL.has hi rfl (fun ls' hl' => k p e s m args below meth c H locs cells slots ls' hC hF hH hS (LR.st (ls := ls') hl'))
theorem AW.iinc {i : Nat} {z : Int} {x v : Int32} {L' : List (Option Value)} (hr : (pc, Instr.iinc i z, 3) ∈ mR M) (hn : pc + 3 = nx) (hi : i < mL M) (hx0 : L[i]? = some (some (.int x))) (hv : x + Int32.ofInt z = v) (hl : stL L i (.int v) = L') (k : AW g M nx L' S h Q) : AW g M pc L S h Q := by
  subst hn
  subst hl
  intro p e s m args below meth c H locs cells slots ls hC hF hH hS hL
  obtain ⟨hx, hb, hml, -, -, -, -, -, -, hok, -⟩ := id hC
  obtain ⟨kk, hkk⟩ := List.getElem?_of_mem (am_asc_mem.mpr hx0)
  exact lv_iinc hx hb (am_dec hok hr) hL.has hkk hv hi rfl (fun ls' hl' => k p e s m args below meth c H locs cells slots ls' hC hF hH hS (LR.st (ls := ls') hl'))
theorem AW.iadd {x y : Int32} (hr : (pc, Instr.iadd, 1) ∈ mR M) (hn : pc + 1 = nx) (k : AW g M nx L (.int (x + y) :: S) h Q) : AW g M pc L (.int y :: .int x :: S) h Q := by
  subst hn
  intro p e s m args below meth c H locs cells slots ls hC hF hH hS hL
  obtain ⟨hx, hb, hml, -, -, -, -, -, -, hok, -⟩ := id hC
  exact lv_iadd hx hb (am_dec hok hr) (k p e s m args below meth c H locs cells slots ls hC hF hH hS hL)
theorem AW.isub {x y : Int32} (hr : (pc, Instr.isub, 1) ∈ mR M) (hn : pc + 1 = nx) (k : AW g M nx L (.int (x - y) :: S) h Q) : AW g M pc L (.int y :: .int x :: S) h Q := by
  subst hn
  intro p e s m args below meth c H locs cells slots ls hC hF hH hS hL
  obtain ⟨hx, hb, hml, -, -, -, -, -, -, hok, -⟩ := id hC
  exact lv_isub hx hb (am_dec hok hr) (k p e s m args below meth c H locs cells slots ls hC hF hH hS hL)
theorem AW.imul {x y : Int32} (hr : (pc, Instr.imul, 1) ∈ mR M) (hn : pc + 1 = nx) (k : AW g M nx L (.int (x * y) :: S) h Q) : AW g M pc L (.int y :: .int x :: S) h Q := by
  subst hn
  intro p e s m args below meth c H locs cells slots ls hC hF hH hS hL
  obtain ⟨hx, hb, hml, -, -, -, -, -, -, hok, -⟩ := id hC
  exact lv_imul hx hb (am_dec hok hr) (k p e s m args below meth c H locs cells slots ls hC hF hH hS hL)
theorem AW.iand {x y : Int32} (hr : (pc, Instr.iand, 1) ∈ mR M) (hn : pc + 1 = nx) (k : AW g M nx L (.int (x &&& y) :: S) h Q) : AW g M pc L (.int y :: .int x :: S) h Q := by
  subst hn
  intro p e s m args below meth c H locs cells slots ls hC hF hH hS hL
  obtain ⟨hx, hb, hml, -, -, -, -, -, -, hok, -⟩ := id hC
  exact lv_iand hx hb (am_dec hok hr) (k p e s m args below meth c H locs cells slots ls hC hF hH hS hL)
theorem AW.ior {x y : Int32} (hr : (pc, Instr.ior, 1) ∈ mR M) (hn : pc + 1 = nx) (k : AW g M nx L (.int (x ||| y) :: S) h Q) : AW g M pc L (.int y :: .int x :: S) h Q := by
  subst hn
  intro p e s m args below meth c H locs cells slots ls hC hF hH hS hL
  obtain ⟨hx, hb, hml, -, -, -, -, -, -, hok, -⟩ := id hC
  exact lv_ior hx hb (am_dec hok hr) (k p e s m args below meth c H locs cells slots ls hC hF hH hS hL)
theorem AW.ixor {x y : Int32} (hr : (pc, Instr.ixor, 1) ∈ mR M) (hn : pc + 1 = nx) (k : AW g M nx L (.int (x ^^^ y) :: S) h Q) : AW g M pc L (.int y :: .int x :: S) h Q := by
  subst hn
  intro p e s m args below meth c H locs cells slots ls hC hF hH hS hL
  obtain ⟨hx, hb, hml, -, -, -, -, -, -, hok, -⟩ := id hC
  exact lv_ixor hx hb (am_dec hok hr) (k p e s m args below meth c H locs cells slots ls hC hF hH hS hL)
theorem AW.ishl {x y : Int32} (hr : (pc, Instr.ishl, 1) ∈ mR M) (hn : pc + 1 = nx) (k : AW g M nx L (.int (x <<< (y &&& 31)) :: S) h Q) : AW g M pc L (.int y :: .int x :: S) h Q := by
  subst hn
  intro p e s m args below meth c H locs cells slots ls hC hF hH hS hL
  obtain ⟨hx, hb, hml, -, -, -, -, -, -, hok, -⟩ := id hC
  exact lv_ishl hx hb (am_dec hok hr) (k p e s m args below meth c H locs cells slots ls hC hF hH hS hL)
theorem AW.ishr {x y : Int32} (hr : (pc, Instr.ishr, 1) ∈ mR M) (hn : pc + 1 = nx) (k : AW g M nx L (.int (x >>> (y &&& 31)) :: S) h Q) : AW g M pc L (.int y :: .int x :: S) h Q := by
  subst hn
  intro p e s m args below meth c H locs cells slots ls hC hF hH hS hL
  obtain ⟨hx, hb, hml, -, -, -, -, -, -, hok, -⟩ := id hC
  exact lv_ishr hx hb (am_dec hok hr) (k p e s m args below meth c H locs cells slots ls hC hF hH hS hL)
theorem AW.iushr {x y : Int32} (hr : (pc, Instr.iushr, 1) ∈ mR M) (hn : pc + 1 = nx) (k : AW g M nx L (.int ((x.toUInt32 >>> (y.toUInt32 &&& Int32.toUInt32 31)).toInt32) :: S) h Q) : AW g M pc L (.int y :: .int x :: S) h Q := by
  subst hn
  intro p e s m args below meth c H locs cells slots ls hC hF hH hS hL
  obtain ⟨hx, hb, hml, -, -, -, -, -, -, hok, -⟩ := id hC
  exact lv_iushr hx hb (am_dec hok hr) rfl (k p e s m args below meth c H locs cells slots ls hC hF hH hS hL)
theorem AW.idiv {x y : Int32} (hr : (pc, Instr.idiv, 1) ∈ mR M) (hn : pc + 1 = nx) (h0 : ¬ y = 0) (k : AW g M nx L (.int (x / y) :: S) h Q) : AW g M pc L (.int y :: .int x :: S) h Q := by
  subst hn
  intro p e s m args below meth c H locs cells slots ls hC hF hH hS hL
  obtain ⟨hx, hb, hml, -, -, -, -, -, -, hok, -⟩ := id hC
  exact lv_idiv hx hb (am_dec hok hr) h0 (k p e s m args below meth c H locs cells slots ls hC hF hH hS hL)
theorem AW.irem {x y : Int32} (hr : (pc, Instr.irem, 1) ∈ mR M) (hn : pc + 1 = nx) (h0 : ¬ y = 0) (k : AW g M nx L (.int (x - x / y * y) :: S) h Q) : AW g M pc L (.int y :: .int x :: S) h Q := by
  subst hn
  intro p e s m args below meth c H locs cells slots ls hC hF hH hS hL
  obtain ⟨hx, hb, hml, -, -, -, -, -, -, hok, -⟩ := id hC
  exact lv_irem hx hb (am_dec hok hr) h0 (k p e s m args below meth c H locs cells slots ls hC hF hH hS hL)
theorem AW.ineg {x : Int32} (hr : (pc, Instr.ineg, 1) ∈ mR M) (hn : pc + 1 = nx) (k : AW g M nx L (.int (-x) :: S) h Q) : AW g M pc L (.int x :: S) h Q := by
  subst hn
  intro p e s m args below meth c H locs cells slots ls hC hF hH hS hL
  obtain ⟨hx, hb, hml, -, -, -, -, -, -, hok, -⟩ := id hC
  exact lv_ineg hx hb (am_dec hok hr) (k p e s m args below meth c H locs cells slots ls hC hF hH hS hL)
theorem AW.ladd {x y : Int64} (hr : (pc, Instr.ladd, 1) ∈ mR M) (hn : pc + 1 = nx) (k : AW g M nx L (.long (x + y) :: S) h Q) : AW g M pc L (.long y :: .long x :: S) h Q := by
  subst hn
  intro p e s m args below meth c H locs cells slots ls hC hF hH hS hL
  obtain ⟨hx, hb, hml, -, -, -, -, -, -, hok, -⟩ := id hC
  exact lv_ladd hx hb (am_dec hok hr) (k p e s m args below meth c H locs cells slots ls hC hF hH hS hL)
theorem AW.lsub {x y : Int64} (hr : (pc, Instr.lsub, 1) ∈ mR M) (hn : pc + 1 = nx) (k : AW g M nx L (.long (x - y) :: S) h Q) : AW g M pc L (.long y :: .long x :: S) h Q := by
  subst hn
  intro p e s m args below meth c H locs cells slots ls hC hF hH hS hL
  obtain ⟨hx, hb, hml, -, -, -, -, -, -, hok, -⟩ := id hC
  exact lv_lsub hx hb (am_dec hok hr) (k p e s m args below meth c H locs cells slots ls hC hF hH hS hL)
theorem AW.lmul {x y : Int64} (hr : (pc, Instr.lmul, 1) ∈ mR M) (hn : pc + 1 = nx) (k : AW g M nx L (.long (x * y) :: S) h Q) : AW g M pc L (.long y :: .long x :: S) h Q := by
  subst hn
  intro p e s m args below meth c H locs cells slots ls hC hF hH hS hL
  obtain ⟨hx, hb, hml, -, -, -, -, -, -, hok, -⟩ := id hC
  exact lv_lmul hx hb (am_dec hok hr) (k p e s m args below meth c H locs cells slots ls hC hF hH hS hL)
theorem AW.lcmp {x y : Int64} (hr : (pc, Instr.lcmp, 1) ∈ mR M) (hn : pc + 1 = nx) (k : AW g M nx L (.int (lg_cmp x y) :: S) h Q) : AW g M pc L (.long y :: .long x :: S) h Q := by
  subst hn
  intro p e s m args below meth c H locs cells slots ls hC hF hH hS hL
  obtain ⟨hx, hb, hml, -, -, -, -, -, -, hok, -⟩ := id hC
  exact W.lcmp hx hb (am_dec hok hr) (k p e s m args below meth c H locs cells slots ls hC hF hH hS hL)
theorem AW.dcmp {op : CmpOp} {x y : UInt64} (hr : (pc, Instr.dcmp op, 1) ∈ mR M) (hn : pc + 1 = nx) (k : AW g M nx L (.int (Op.cmpValue (FP.dcmp x y) op) :: S) h Q) : AW g M pc L (.double y :: .double x :: S) h Q := by
  subst hn
  intro p e s m args below meth c H locs cells slots ls hC hF hH hS hL
  obtain ⟨hx, hb, hml, -, -, -, -, -, -, hok, -⟩ := id hC
  exact lv_dcmp hx hb (am_dec hok hr) (k p e s m args below meth c H locs cells slots ls hC hF hH hS hL)
theorem AW.ddiv {x y : UInt64} (hr : (pc, Instr.ddiv, 1) ∈ mR M) (hn : pc + 1 = nx) (h0 : vf_n64 (FP.ddiv x y)) (k : AW g M nx L (.double (FP.ddiv x y) :: S) h Q) : AW g M pc L (.double y :: .double x :: S) h Q := by
  subst hn
  intro p e s m args below meth c H locs cells slots ls hC hF hH hS hL
  obtain ⟨hx, hb, hml, -, -, -, -, -, -, hok, -⟩ := id hC
  exact lv_ddiv hx hb (am_dec hok hr) h0 (k p e s m args below meth c H locs cells slots ls hC hF hH hS hL)
theorem AW.i2d {x : Int32} (hr : (pc, Instr.i2d, 1) ∈ mR M) (hn : pc + 1 = nx) (k : AW g M nx L (.double (FP.i2d x) :: S) h Q) : AW g M pc L (.int x :: S) h Q := by
  subst hn
  intro p e s m args below meth c H locs cells slots ls hC hF hH hS hL
  obtain ⟨hx, hb, hml, -, -, -, -, -, -, hok, -⟩ := id hC
  exact lv_i2d hx hb (am_dec hok hr) (k p e s m args below meth c H locs cells slots ls hC hF hH hS hL)
theorem AW.i2l {x : Int32} (hr : (pc, Instr.i2l, 1) ∈ mR M) (hn : pc + 1 = nx) (k : AW g M nx L (.long x.toInt64 :: S) h Q) : AW g M pc L (.int x :: S) h Q := by
  subst hn
  intro p e s m args below meth c H locs cells slots ls hC hF hH hS hL
  obtain ⟨hx, hb, hml, -, -, -, -, -, -, hok, -⟩ := id hC
  exact lv_i2l hx hb (am_dec hok hr) rfl (k p e s m args below meth c H locs cells slots ls hC hF hH hS hL)
theorem AW.l2i {x : Int64} (hr : (pc, Instr.l2i, 1) ∈ mR M) (hn : pc + 1 = nx) (k : AW g M nx L (.int x.toInt32 :: S) h Q) : AW g M pc L (.long x :: S) h Q := by
  subst hn
  intro p e s m args below meth c H locs cells slots ls hC hF hH hS hL
  obtain ⟨hx, hb, hml, -, -, -, -, -, -, hok, -⟩ := id hC
  exact lv_l2i hx hb (am_dec hok hr) rfl (k p e s m args below meth c H locs cells slots ls hC hF hH hS hL)
theorem AW.i2b {x : Int32} (hr : (pc, Instr.i2b, 1) ∈ mR M) (hn : pc + 1 = nx) (k : AW g M nx L (.int x.toInt8.toInt32 :: S) h Q) : AW g M pc L (.int x :: S) h Q := by
  subst hn
  intro p e s m args below meth c H locs cells slots ls hC hF hH hS hL
  obtain ⟨hx, hb, hml, -, -, -, -, -, -, hok, -⟩ := id hC
  exact lv_i2b hx hb (am_dec hok hr) rfl (k p e s m args below meth c H locs cells slots ls hC hF hH hS hL)
theorem AW.i2c {x : Int32} (hr : (pc, Instr.i2c, 1) ∈ mR M) (hn : pc + 1 = nx) (k : AW g M nx L (.int (x.toUInt32 % 65536).toInt32 :: S) h Q) : AW g M pc L (.int x :: S) h Q := by
  subst hn
  intro p e s m args below meth c H locs cells slots ls hC hF hH hS hL
  obtain ⟨hx, hb, hml, -, -, -, -, -, -, hok, -⟩ := id hC
  exact lv_i2c hx hb (am_dec hok hr) rfl (k p e s m args below meth c H locs cells slots ls hC hF hH hS hL)
theorem AW.dup {v : Value} (hr : (pc, Instr.dup, 1) ∈ mR M) (hn : pc + 1 = nx) (hc : v.category = 1) (k : AW g M nx L (v :: v :: S) h Q) : AW g M pc L (v :: S) h Q := by
  subst hn
  intro p e s m args below meth c H locs cells slots ls hC hF hH hS hL
  obtain ⟨hx, hb, hml, -, -, -, -, -, -, hok, -⟩ := id hC
  exact lv_dup hx hb (am_dec hok hr) hc (k p e s m args below meth c H locs cells slots ls hC hF hH hS hL)
theorem AW.dup2 {v w : Value} (hr : (pc, Instr.dup2, 1) ∈ mR M) (hn : pc + 1 = nx) (hc : v.category = 1) (hc2 : w.category = 1) (k : AW g M nx L (v :: w :: v :: w :: S) h Q) : AW g M pc L (v :: w :: S) h Q := by
  subst hn
  intro p e s m args below meth c H locs cells slots ls hC hF hH hS hL
  obtain ⟨hx, hb, hml, -, -, -, -, -, -, hok, -⟩ := id hC
  exact lv_dup2_11 hx hb (am_dec hok hr) hc hc2 (k p e s m args below meth c H locs cells slots ls hC hF hH hS hL)
theorem AW.dup2w {v : Value} (hr : (pc, Instr.dup2, 1) ∈ mR M) (hn : pc + 1 = nx) (hc : v.category = 2) (k : AW g M nx L (v :: v :: S) h Q) : AW g M pc L (v :: S) h Q := by
  subst hn
  intro p e s m args below meth c H locs cells slots ls hC hF hH hS hL
  obtain ⟨hx, hb, hml, -, -, -, -, -, -, hok, -⟩ := id hC
  exact lv_dup2_2 hx hb (am_dec hok hr) hc (k p e s m args below meth c H locs cells slots ls hC hF hH hS hL)
theorem AW.pop {v : Value} (hr : (pc, Instr.pop, 1) ∈ mR M) (hn : pc + 1 = nx) (hc : v.category = 1) (k : AW g M nx L (S) h Q) : AW g M pc L (v :: S) h Q := by
  subst hn
  intro p e s m args below meth c H locs cells slots ls hC hF hH hS hL
  obtain ⟨hx, hb, hml, -, -, -, -, -, -, hok, -⟩ := id hC
  exact lv_pop hx hb (am_dec hok hr) hc (k p e s m args below meth c H locs cells slots ls hC hF hH hS hL)
theorem AW.if_eq {x : Int32} {z : Int} {tg : Nat} (hr : (pc, Instr.ifCond .eq z, 3) ∈ mR M) (hn : pc + 3 = nx) (ht : (pc : Int) + z = (tg : Int)) (kt : x = 0 → AW g M tg L S h Q) (kf : ¬ x = 0 → AW g M nx L S h Q) : AW g M pc L (.int x :: S) h Q := by
  subst hn
  intro p e s m args below meth c H locs cells slots ls hC hF hH hS hL
  obtain ⟨hx, hb, hml, -, -, -, -, -, -, hok, -⟩ := id hC
  exact lv_if_eq hx hb (am_dec hok hr) ht (fun q => kt q p e s m args below meth c H locs cells slots ls hC hF hH hS hL) (fun q => kf q p e s m args below meth c H locs cells slots ls hC hF hH hS hL)
theorem AW.if_ne {x : Int32} {z : Int} {tg : Nat} (hr : (pc, Instr.ifCond .ne z, 3) ∈ mR M) (hn : pc + 3 = nx) (ht : (pc : Int) + z = (tg : Int)) (kt : ¬ x = 0 → AW g M tg L S h Q) (kf : x = 0 → AW g M nx L S h Q) : AW g M pc L (.int x :: S) h Q := by
  subst hn
  intro p e s m args below meth c H locs cells slots ls hC hF hH hS hL
  obtain ⟨hx, hb, hml, -, -, -, -, -, -, hok, -⟩ := id hC
  exact lv_if_ne hx hb (am_dec hok hr) ht (fun q => kt q p e s m args below meth c H locs cells slots ls hC hF hH hS hL) (fun q => kf q p e s m args below meth c H locs cells slots ls hC hF hH hS hL)
theorem AW.if_lt {x : Int32} {z : Int} {tg : Nat} (hr : (pc, Instr.ifCond .lt z, 3) ∈ mR M) (hn : pc + 3 = nx) (ht : (pc : Int) + z = (tg : Int)) (kt : x < 0 → AW g M tg L S h Q) (kf : ¬ x < 0 → AW g M nx L S h Q) : AW g M pc L (.int x :: S) h Q := by
  subst hn
  intro p e s m args below meth c H locs cells slots ls hC hF hH hS hL
  obtain ⟨hx, hb, hml, -, -, -, -, -, -, hok, -⟩ := id hC
  exact lv_if_lt hx hb (am_dec hok hr) ht (fun q => kt q p e s m args below meth c H locs cells slots ls hC hF hH hS hL) (fun q => kf q p e s m args below meth c H locs cells slots ls hC hF hH hS hL)
theorem AW.if_ge {x : Int32} {z : Int} {tg : Nat} (hr : (pc, Instr.ifCond .ge z, 3) ∈ mR M) (hn : pc + 3 = nx) (ht : (pc : Int) + z = (tg : Int)) (kt : 0 ≤ x → AW g M tg L S h Q) (kf : ¬ 0 ≤ x → AW g M nx L S h Q) : AW g M pc L (.int x :: S) h Q := by
  subst hn
  intro p e s m args below meth c H locs cells slots ls hC hF hH hS hL
  obtain ⟨hx, hb, hml, -, -, -, -, -, -, hok, -⟩ := id hC
  exact lv_if_ge hx hb (am_dec hok hr) ht (fun q => kt q p e s m args below meth c H locs cells slots ls hC hF hH hS hL) (fun q => kf q p e s m args below meth c H locs cells slots ls hC hF hH hS hL)
theorem AW.if_gt {x : Int32} {z : Int} {tg : Nat} (hr : (pc, Instr.ifCond .gt z, 3) ∈ mR M) (hn : pc + 3 = nx) (ht : (pc : Int) + z = (tg : Int)) (kt : 0 < x → AW g M tg L S h Q) (kf : ¬ 0 < x → AW g M nx L S h Q) : AW g M pc L (.int x :: S) h Q := by
  subst hn
  intro p e s m args below meth c H locs cells slots ls hC hF hH hS hL
  obtain ⟨hx, hb, hml, -, -, -, -, -, -, hok, -⟩ := id hC
  exact lv_if_gt hx hb (am_dec hok hr) ht (fun q => kt q p e s m args below meth c H locs cells slots ls hC hF hH hS hL) (fun q => kf q p e s m args below meth c H locs cells slots ls hC hF hH hS hL)
theorem AW.if_le {x : Int32} {z : Int} {tg : Nat} (hr : (pc, Instr.ifCond .le z, 3) ∈ mR M) (hn : pc + 3 = nx) (ht : (pc : Int) + z = (tg : Int)) (kt : x ≤ 0 → AW g M tg L S h Q) (kf : ¬ x ≤ 0 → AW g M nx L S h Q) : AW g M pc L (.int x :: S) h Q := by
  subst hn
  intro p e s m args below meth c H locs cells slots ls hC hF hH hS hL
  obtain ⟨hx, hb, hml, -, -, -, -, -, -, hok, -⟩ := id hC
  exact lv_if_le hx hb (am_dec hok hr) ht (fun q => kt q p e s m args below meth c H locs cells slots ls hC hF hH hS hL) (fun q => kf q p e s m args below meth c H locs cells slots ls hC hF hH hS hL)
theorem AW.icmp_eq {x y : Int32} {z : Int} {tg : Nat} (hr : (pc, Instr.if_icmp .eq z, 3) ∈ mR M) (hn : pc + 3 = nx) (ht : (pc : Int) + z = (tg : Int)) (kt : x = y → AW g M tg L S h Q) (kf : ¬ x = y → AW g M nx L S h Q) : AW g M pc L (.int y :: .int x :: S) h Q := by
  subst hn
  intro p e s m args below meth c H locs cells slots ls hC hF hH hS hL
  obtain ⟨hx, hb, hml, -, -, -, -, -, -, hok, -⟩ := id hC
  exact lv_icmp_eq hx hb (am_dec hok hr) ht (fun q => kt q p e s m args below meth c H locs cells slots ls hC hF hH hS hL) (fun q => kf q p e s m args below meth c H locs cells slots ls hC hF hH hS hL)
theorem AW.icmp_ne {x y : Int32} {z : Int} {tg : Nat} (hr : (pc, Instr.if_icmp .ne z, 3) ∈ mR M) (hn : pc + 3 = nx) (ht : (pc : Int) + z = (tg : Int)) (kt : ¬ x = y → AW g M tg L S h Q) (kf : x = y → AW g M nx L S h Q) : AW g M pc L (.int y :: .int x :: S) h Q := by
  subst hn
  intro p e s m args below meth c H locs cells slots ls hC hF hH hS hL
  obtain ⟨hx, hb, hml, -, -, -, -, -, -, hok, -⟩ := id hC
  exact lv_icmp_ne hx hb (am_dec hok hr) ht (fun q => kt q p e s m args below meth c H locs cells slots ls hC hF hH hS hL) (fun q => kf q p e s m args below meth c H locs cells slots ls hC hF hH hS hL)
theorem AW.icmp_lt {x y : Int32} {z : Int} {tg : Nat} (hr : (pc, Instr.if_icmp .lt z, 3) ∈ mR M) (hn : pc + 3 = nx) (ht : (pc : Int) + z = (tg : Int)) (kt : x < y → AW g M tg L S h Q) (kf : ¬ x < y → AW g M nx L S h Q) : AW g M pc L (.int y :: .int x :: S) h Q := by
  subst hn
  intro p e s m args below meth c H locs cells slots ls hC hF hH hS hL
  obtain ⟨hx, hb, hml, -, -, -, -, -, -, hok, -⟩ := id hC
  exact lv_icmp_lt hx hb (am_dec hok hr) ht (fun q => kt q p e s m args below meth c H locs cells slots ls hC hF hH hS hL) (fun q => kf q p e s m args below meth c H locs cells slots ls hC hF hH hS hL)
theorem AW.icmp_ge {x y : Int32} {z : Int} {tg : Nat} (hr : (pc, Instr.if_icmp .ge z, 3) ∈ mR M) (hn : pc + 3 = nx) (ht : (pc : Int) + z = (tg : Int)) (kt : y ≤ x → AW g M tg L S h Q) (kf : ¬ y ≤ x → AW g M nx L S h Q) : AW g M pc L (.int y :: .int x :: S) h Q := by
  subst hn
  intro p e s m args below meth c H locs cells slots ls hC hF hH hS hL
  obtain ⟨hx, hb, hml, -, -, -, -, -, -, hok, -⟩ := id hC
  exact lv_icmp_ge hx hb (am_dec hok hr) ht (fun q => kt q p e s m args below meth c H locs cells slots ls hC hF hH hS hL) (fun q => kf q p e s m args below meth c H locs cells slots ls hC hF hH hS hL)
theorem AW.icmp_gt {x y : Int32} {z : Int} {tg : Nat} (hr : (pc, Instr.if_icmp .gt z, 3) ∈ mR M) (hn : pc + 3 = nx) (ht : (pc : Int) + z = (tg : Int)) (kt : y < x → AW g M tg L S h Q) (kf : ¬ y < x → AW g M nx L S h Q) : AW g M pc L (.int y :: .int x :: S) h Q := by
  subst hn
  intro p e s m args below meth c H locs cells slots ls hC hF hH hS hL
  obtain ⟨hx, hb, hml, -, -, -, -, -, -, hok, -⟩ := id hC
  exact lv_icmp_gt hx hb (am_dec hok hr) ht (fun q => kt q p e s m args below meth c H locs cells slots ls hC hF hH hS hL) (fun q => kf q p e s m args below meth c H locs cells slots ls hC hF hH hS hL)
theorem AW.icmp_le {x y : Int32} {z : Int} {tg : Nat} (hr : (pc, Instr.if_icmp .le z, 3) ∈ mR M) (hn : pc + 3 = nx) (ht : (pc : Int) + z = (tg : Int)) (kt : x ≤ y → AW g M tg L S h Q) (kf : ¬ x ≤ y → AW g M nx L S h Q) : AW g M pc L (.int y :: .int x :: S) h Q := by
  subst hn
  intro p e s m args below meth c H locs cells slots ls hC hF hH hS hL
  obtain ⟨hx, hb, hml, -, -, -, -, -, -, hok, -⟩ := id hC
  exact lv_icmp_le hx hb (am_dec hok hr) ht (fun q => kt q p e s m args below meth c H locs cells slots ls hC hF hH hS hL) (fun q => kf q p e s m args below meth c H locs cells slots ls hC hF hH hS hL)
theorem AW.ifnull {x : Nat} {z : Int} (hr : (pc, Instr.ifnull z, 3) ∈ mR M) (hn : pc + 3 = nx) (k : AW g M nx L S h Q) : AW g M pc L (.ref x :: S) h Q := by
  subst hn
  intro p e s m args below meth c H locs cells slots ls hC hF hH hS hL
  obtain ⟨hx, hb, hml, -, -, -, -, -, -, hok, -⟩ := id hC
  exact lv_ifnull hx hb (am_dec hok hr) (k p e s m args below meth c H locs cells slots ls hC hF hH hS hL)
theorem AW.ifnullN {z : Int} {tg : Nat} (hr : (pc, Instr.ifnull z, 3) ∈ mR M) (ht : (pc : Int) + z = (tg : Int)) (k : AW g M tg L S h Q) : AW g M pc L (.null :: S) h Q := by
  intro p e s m args below meth c H locs cells slots ls hC hF hH hS hL
  obtain ⟨hx, hb, hml, -, -, -, -, -, -, hok, -⟩ := id hC
  exact lv_ifnullN hx hb (am_dec hok hr) ht (k p e s m args below meth c H locs cells slots ls hC hF hH hS hL)
theorem AW.ifnonnull {x : Nat} {z : Int} {tg : Nat} (hr : (pc, Instr.ifnonnull z, 3) ∈ mR M) (ht : (pc : Int) + z = (tg : Int)) (k : AW g M tg L S h Q) : AW g M pc L (.ref x :: S) h Q := by
  intro p e s m args below meth c H locs cells slots ls hC hF hH hS hL
  obtain ⟨hx, hb, hml, -, -, -, -, -, -, hok, -⟩ := id hC
  exact lv_ifnonnull hx hb (am_dec hok hr) ht (k p e s m args below meth c H locs cells slots ls hC hF hH hS hL)
theorem AW.ifnonnullN {z : Int} (hr : (pc, Instr.ifnonnull z, 3) ∈ mR M) (hn : pc + 3 = nx) (k : AW g M nx L S h Q) : AW g M pc L (.null :: S) h Q := by
  subst hn
  intro p e s m args below meth c H locs cells slots ls hC hF hH hS hL
  obtain ⟨hx, hb, hml, -, -, -, -, -, -, hok, -⟩ := id hC
  exact lv_ifnonnullN hx hb (am_dec hok hr) (k p e s m args below meth c H locs cells slots ls hC hF hH hS hL)
theorem AW.goto {z : Int} {tg : Nat} (hr : (pc, Instr.goto z, 3) ∈ mR M) (ht : (pc : Int) + z = (tg : Int)) (k : AW g M tg L S h Q) : AW g M pc L S h Q := by
  intro p e s m args below meth c H locs cells slots ls hC hF hH hS hL
  obtain ⟨hx, hb, hml, -, -, -, -, -, -, hok, -⟩ := id hC
  exact lv_goto hx hb (am_dec hok hr) ht (k p e s m args below meth c H locs cells slots ls hC hF hH hS hL)
theorem AW.tableswitch {x : Int32} {d lo hi : Int} {offs : Array Int} {n tg : Nat} (hr : (pc, Instr.tableswitch d lo hi offs, n) ∈ mR M) (ht : (pc : Int) + d = (tg : Int)) (hsz : hi - lo < offs.size)
    (ki : ∀ (off : Int) (i : Nat), offs[i]? = some off → x.toInt = lo + i → ∃ t : Nat, (pc : Int) + off = (t : Int) ∧ AW g M t L S h Q) (kd : (x.toInt < lo ∨ hi < x.toInt) → AW g M tg L S h Q) : AW g M pc L (.int x :: S) h Q := by
  intro p e s m args below meth c H locs cells slots ls hC hF hH hS hL
  obtain ⟨hx, hb, hml, -, -, -, -, -, -, hok, -⟩ := id hC
  by_cases h1 : x.toInt < lo
  · exact lv_tableOut hx hb (am_dec hok hr) (Or.inl h1) ht (kd (Or.inl h1) p e s m args below meth c H locs cells slots ls hC hF hH hS hL)
  by_cases h2 : hi < x.toInt
  · exact lv_tableOut hx hb (am_dec hok hr) (Or.inr h2) ht (kd (Or.inr h2) p e s m args below meth c H locs cells slots ls hC hF hH hS hL)
  have h3 : (x.toInt - lo).toNat < offs.size := by omega
  obtain ⟨t, ht2, k2⟩ := ki offs[(x.toInt - lo).toNat] (x.toInt - lo).toNat (Array.getElem?_eq_getElem h3) (by omega)
  exact lv_tableIn hx hb (am_dec hok hr) h1 h2 (Array.getElem?_eq_getElem h3) ht2 (k2 p e s m args below meth c H locs cells slots ls hC hF hH hS hL)
theorem AW.lookupswitch {x : Int32} {d : Int} {ps : Array (Int × Int)} {n tg : Nat} (hr : (pc, Instr.lookupswitch d ps, n) ∈ mR M) (hp : (ps.toList.zip (ps.toList.drop 1)).all (fun (a, next) => a.1 < next.1) = true) (ht : (pc : Int) + Op.lookupswitch.offset ps.toList d x.toInt = (tg : Int)) (k : AW g M tg L S h Q) : AW g M pc L (.int x :: S) h Q := by
  intro p e s m args below meth c H locs cells slots ls hC hF hH hS hL
  obtain ⟨hx, hb, hml, -, -, -, -, -, -, hok, -⟩ := id hC
  exact lv_lookup hx hb (am_dec hok hr) hp rfl ht (k p e s m args below meth c H locs cells slots ls hC hF hH hS hL)
end AWR
