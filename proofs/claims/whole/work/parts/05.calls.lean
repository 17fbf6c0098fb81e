/-! ===== THE ABSTRACT MACHINE: RETURNS, CALLS, THROWS, CATCHES ===== -/
/-- the locals at a method's entry: the arguments, wide ones over two places -/
def enL : List Value → Nat → List (Option Value)
  | [], n => List.replicate n none
  | v :: vs, n => if v.category = 2 then some v :: none :: enL vs (n - 2) else some v :: enL vs (n - 1)
theorem enL_in {vs : List Value} : ∀ {n i k : Nat} {v : Value}, (enL vs n)[k]? = some (some v) → (i + k, v) ∈ lv_args i vs := by
  induction vs with
  | nil =>
    intro n i k v h
    unfold enL at h
    rw [List.getElem?_replicate] at h
    split at h <;> cases h
  | cons w vs ih =>
    intro n i k v h
    unfold enL at h
    unfold lv_args
    by_cases hc : w.category = 2
    · rw [if_pos hc] at h ⊢
      cases k with
      | zero => cases h; exact List.mem_cons_self
      | succ k =>
        cases k with
        | zero => cases h
        | succ k =>
          have h1 := ih (i := i + 2) (k := k) h
          rw [show i + (k + 1 + 1) = i + 2 + k by omega]
          exact List.mem_cons_of_mem _ h1
    · rw [if_neg hc] at h ⊢
      cases k with
      | zero => cases h; exact List.mem_cons_self
      | succ k =>
        have h1 := ih (i := i + 1) (k := k) h
        rw [show i + (k + 1) = i + 1 + k by omega]
        exact List.mem_cons_of_mem _ h1
/-- the exception of place k, thrown at pc: the machine comes to the method's end, where Q holds -/
def AX (g : AG) (M : AM) (pc : Nat) (L : List (Option Value)) (S : List Value) (k : Nat) (h : AH) (Q : AO → AH → Prop) : Prop :=
  ∀ (p : Program) (e : Env) (s : State) (m : MethodId) (args : Array Value) (below : List Frame) (meth : Method) (c : Code) (H : Heap) (locs : List Loc) (cells slots : Nat) (ls : Array Slot) (q9 : Addr) (ce : Cell),
    Cx g M p s m args meth c → SF g s → HC g h H → va_S (am_A g) s.heap H locs → LR ls (mL M) L → H[q9]? = some ce → ce.vm = .none → s.vm.findClass (am_ex k) = some ce.cls →
    vx_W p (gL g) e (am_R g M s) s m args below meth c H locs cells slots (vx_MQ below (am_Q g Q) (am_X g Q) args s (am_R g M s).cells (am_R g M s).slots (am_A g)) (F0 m pc ls S) q9
section AWC
variable {g : AG} {M N : AM} {pc nx : Nat} {L : List (Option Value)} {S : List Value} {h : AH} {Q : AO → AH → Prop}
theorem AW.iret {x : Int32} (hr : (pc, Instr.ireturn, 1) ∈ mR M) (ht : mT M = some .int) (hq : Q (.ok (some (.int x))) h) : AW g M pc L [.int x] h Q := by
  intro p e s m args below meth c H locs cells slots ls hC hF hH hS hL
  obtain ⟨hx, hb, hml, hret, hlk, -, -, -, -, hok, -⟩ := id hC
  refine W_tight fun n k hn hk => ?_
  obtain ⟨-, hz, hz1, hz2⟩ := id hH
  refine W.widen (k := (am_R g M s).cells) (n := (am_R g M s).slots) (by show n ≤ gC g - s.heap.size; omega) (by show k ≤ gZ g - am_sl s.heap; omega) (vx_ret ?_)
  exact W.iret hx hb (hret.trans ht) (fun t ht hW => ⟨⟨_, h, rfl, hq, by rw [ht]; exact hH⟩, hS.F ht⟩) hS.2.2 (am_dec hok hr) hlk
theorem AW.zret {x : Int32} (hr : (pc, Instr.ireturn, 1) ∈ mR M) (ht : mT M = some .boolean) (hn : x = 0 ∨ x = 1) (hq : Q (.ok (some (.int x))) h) : AW g M pc L [.int x] h Q := by
  intro p e s m args below meth c H locs cells slots ls hC hF hH hS hL
  obtain ⟨hx, hb, hml, hret, hlk, -, -, -, -, hok, -⟩ := id hC
  refine W_tight fun n k hn1 hk => ?_
  obtain ⟨-, hz, hz1, hz2⟩ := id hH
  refine W.widen (k := (am_R g M s).cells) (n := (am_R g M s).slots) (by show n ≤ gC g - s.heap.size; omega) (by show k ≤ gZ g - am_sl s.heap; omega) (vx_ret ?_)
  exact W.zret hx hb (hret.trans ht) (by rcases hn with rfl | rfl <;> decide) (fun t ht hW => ⟨⟨_, h, rfl, hq, by rw [ht]; exact hH⟩, hS.F ht⟩) hS.2.2 (am_dec hok hr) hlk
theorem AW.lret {x : Int64} (hr : (pc, Instr.lreturn, 1) ∈ mR M) (ht : mT M = some .long) (hq : Q (.ok (some (.long x))) h) : AW g M pc L [.long x] h Q := by
  intro p e s m args below meth c H locs cells slots ls hC hF hH hS hL
  obtain ⟨hx, hb, hml, hret, hlk, -, -, -, -, hok, -⟩ := id hC
  refine W_tight fun n k hn hk => ?_
  obtain ⟨-, hz, hz1, hz2⟩ := id hH
  refine W.widen (k := (am_R g M s).cells) (n := (am_R g M s).slots) (by show n ≤ gC g - s.heap.size; omega) (by show k ≤ gZ g - am_sl s.heap; omega) (vx_ret ?_)
  exact W.lret hx hb (hret.trans ht) (fun t ht hW => ⟨⟨_, h, rfl, hq, by rw [ht]; exact hH⟩, hS.F ht⟩) hS.2.2 (am_dec hok hr) hlk
theorem AW.dret {x : UInt64} (hr : (pc, Instr.dreturn, 1) ∈ mR M) (ht : mT M = some .double) (hq : Q (.ok (some (.double x))) h) : AW g M pc L [.double x] h Q := by
  intro p e s m args below meth c H locs cells slots ls hC hF hH hS hL
  obtain ⟨hx, hb, hml, hret, hlk, -, -, -, -, hok, -⟩ := id hC
  refine W_tight fun n k hn hk => ?_
  obtain ⟨-, hz, hz1, hz2⟩ := id hH
  refine W.widen (k := (am_R g M s).cells) (n := (am_R g M s).slots) (by show n ≤ gC g - s.heap.size; omega) (by show k ≤ gZ g - am_sl s.heap; omega) (vx_ret ?_)
  exact W.dret hx hb (hret.trans ht) (fun t ht hW => ⟨⟨_, h, rfl, hq, by rw [ht]; exact hH⟩, hS.F ht⟩) hS.2.2 (am_dec hok hr) hlk
theorem AW.vret (hr : (pc, Instr.return_, 1) ∈ mR M) (ht : mT M = none) (hq : Q (.ok none) h) : AW g M pc L [] h Q := by
  intro p e s m args below meth c H locs cells slots ls hC hF hH hS hL
  obtain ⟨hx, hb, hml, hret, hlk, -, -, -, -, hok, -⟩ := id hC
  refine W_tight fun n k hn hk => ?_
  obtain ⟨-, hz, hz1, hz2⟩ := id hH
  refine W.widen (k := (am_R g M s).cells) (n := (am_R g M s).slots) (by show n ≤ gC g - s.heap.size; omega) (by show k ≤ gZ g - am_sl s.heap; omega) (vx_ret ?_)
  exact W.vret hx hb (hret.trans ht) (fun t ht hW => ⟨⟨_, h, rfl, hq, by rw [ht]; exact hH⟩, hS.F ht⟩) hS.2.2 (am_dec hok hr) hlk
theorem AW.aret {v : Value} {rt : FieldType} (hr : (pc, Instr.areturn, 1) ∈ mR M) (ht : mT M = some rt) (hrt : (∃ n, rt = .object n) ∨ ∃ t, rt = .array t) (hv : v = .null ∨ ∃ a, v = .ref a) (hq : Q (.ok (some v)) h) : AW g M pc L [v] h Q := by
  intro p e s m args below meth c H locs cells slots ls hC hF hH hS hL
  obtain ⟨hx, hb, hml, hret, hlk, -, -, -, -, hok, -⟩ := id hC
  refine W_tight fun n k hn hk => ?_
  obtain ⟨-, hz, hz1, hz2⟩ := id hH
  refine W.widen (k := (am_R g M s).cells) (n := (am_R g M s).slots) (by show n ≤ gC g - s.heap.size; omega) (by show k ≤ gZ g - am_sl s.heap; omega) (vx_ret ?_)
  exact W.aret hx hb (hret.trans ht) hrt hv (fun t ht hW => ⟨⟨_, h, rfl, hq, by rw [ht]; exact hH⟩, hS.F ht⟩) hS.2.2 (am_dec hok hr) hlk
/-- a method without handlers, as the kit's contracts say it -/
theorem am_met {args : List Value} {H : Heap} (hok : okM N) (hh : mH N = []) (hz : (lg_sl args).length ≤ mL N) (hst : (gL g).stackTraces = false) (hH : HC g h H) (k : AW g N 0 (enL args (mL N)) [] h Q) :
    vx_Met (gL g) (mY N) (Cond.code (mY N) (mB N) (mL N) (mT N) :: am_tb) { frames := mD N, cells := gC g - H.size, slots := gZ g - am_sl H, locals := mW N } (fun a U => a = args.toArray ∧ SF g U ∧ U.heap = H) (am_Q g Q) (am_X g Q) (gC g - H.size) (gZ g - am_sl H) (am_A g) := by
  refine vx_ofW hok.2.1 rfl ?_
  intro p e s m a below meth c s₁ B hml ht hP
  obtain ⟨rfl, hF, hheap⟩ := hP
  subst hheap
  have hts : ∀ w ∈ am_tb, w.before args.toArray s = true := fun w hw => atoms_spec (ws := Cond.code (mY N) (mB N) (mL N) (mT N) :: am_tb) B.pre w (List.mem_cons_of_mem _ hw)
  have hl := lv_entry args hz
  rw [lg_entry_eq]
  refine k p e s m _ below meth c s.heap [] 0 0 _ ⟨B.exec, B.bytes, hml, B.returns, B.notSynchronized, findClass_of_methodNamed B.named, hts, (name_of_methodNamed B.named B.method).1, ?_, hok, hst⟩ hF hH ⟨Nat.le_refl _, fun _ _ _ => rfl, fun _ hl => by cases hl⟩ ⟨hl.1, hl.2.1, fun i v hi => hl.2.2 (i, v) ?_⟩
  · rw [hh, List.eq_nil_iff_forall_not_mem.mpr ht]; rfl
  · have := enL_in (i := 0) hi
    rw [Nat.zero_add] at this
    exact this
/-- the same of a method with handlers -/
theorem am_metH {args : List Value} {H : Heap} (hok : okM N) (hz : (lg_sl args).length ≤ mL N) (hst : (gL g).stackTraces = false) (hH : HC g h H) (k : AW g N 0 (enL args (mL N)) [] h Q) :
    vx_Met (gL g) (mY N) (Cond.codeWith (mY N) (mB N) (mL N) (mT N) (mH N) :: am_tb) { frames := mD N, cells := gC g - H.size, slots := gZ g - am_sl H, locals := mW N } (fun a U => a = args.toArray ∧ SF g U ∧ U.heap = H) (am_Q g Q) (am_X g Q) (gC g - H.size) (gZ g - am_sl H) (am_A g) := by
  refine vx_ofWH hok.2.1 rfl ?_
  intro p e s m a below meth c s₁ B hml hP
  obtain ⟨rfl, hF, hheap⟩ := hP
  subst hheap
  have hts0 := atoms_spec (ws := Cond.codeWith (mY N) (mB N) (mL N) (mT N) (mH N) :: am_tb) B.pre
  have hts : ∀ w ∈ am_tb, w.before args.toArray s = true := fun w hw => hts0 w (List.mem_cons_of_mem _ hw)
  have hl := lv_entry args hz
  rw [lg_entry_eq]
  refine k p e s m _ below meth c s.heap [] 0 0 _ ⟨B.exec, B.bytes, hml, B.returns, B.notSynchronized, findClass_of_methodNamed B.named, hts, (name_of_methodNamed B.named B.method).1, vx_table B (hts0 _ List.mem_cons_self), hok, hst⟩ hF hH ⟨Nat.le_refl _, fun _ _ _ => rfl, fun _ hl => by cases hl⟩ ⟨hl.1, hl.2.1, fun i v hi => hl.2.2 (i, v) ?_⟩
  have := enL_in (i := 0) hi
  rw [Nat.zero_add] at this
  exact this
/-- what the facts of a state's start say of another whose tables are its own, and whose heap is kept below -/
theorem SF.moved {s U : State} {H : Heap} {locs : List Loc} (hW : s.WarmedH U.vm) (hH : U.heap = H) (hS : va_S (am_A g) s.heap H locs) (hF : SF g s) : SF g U := by
  obtain ⟨h1, h2, h3, h4, h5, h6, h7⟩ := hF
  have hk : ∀ a : Nat, a < s.heap.size → ¬ am_A g a → U.heap[a]? = s.heap[a]? := fun a q1 q2 => by rw [hH]; exact hS.2.1 a q1 q2
  refine ⟨h1.moved hW.alike, fun k q hq => ((h2 k q hq).kept hk).moved hW.alike, fun k q hq => (h3 k q hq).warm hW, (h4.kept hk).moved hW.alike, (h5.kept hk).moved hW.alike, by rw [hH]; exact Nat.le_trans h6 hS.1, fun w hw => ?_⟩
  have hn : ∀ w ∈ am_nw, (∃ a i x hh, w = .methodLinkNest a i x hh) ∨ ∃ a i b n d hh, w = .fieldLinkNest a i b n d hh := by
    intro w hw
    unfold am_nw at hw
    simp only [List.mem_cons, List.not_mem_nil, or_false] at hw
    rcases hw with rfl | rfl | rfl | rfl | rfl | rfl | rfl | rfl | rfl | rfl | rfl | rfl <;> first | exact Or.inl ⟨_, _, _, _, rfl⟩ | exact Or.inr ⟨_, _, _, _, _, _, rfl⟩
  rcases hn w hw with ⟨a, i, x, hh, rfl⟩ | ⟨a, i, b, n, d, hh, rfl⟩
  · exact (h7 _ hw).warmM hW
  · exact (h7 _ hw).warmF hW
end AWC
