/-! ===== THE ABSTRACT MACHINE: RETURNS, CALLS, THROWS, CATCHES ===== -/
/-- the locals at a method's entry: the arguments, wide ones over two places -/
def enL : List Value → Nat → List (Option Value)
  | [], n => List.replicate n none
  | v :: vs, n => if v.category = 2 then some v :: none :: enL vs (n - 2) else some v :: enL vs (n - 1)
theorem enL_in {vs : List Value} : ∀ {n i k : Nat} {v : Value}, (enL vs n)[k]? = some (some v) → (i + k, v) ∈ lv_args i vs := by
  induction vs with
  | nil =>
    intro n i k v h
    unfold enL at h
    rw [List.getElem?_replicate] at h
    split at h <;> cases h
  | cons w vs ih =>
    intro n i k v h
    unfold enL at h
    unfold lv_args
    by_cases hc : w.category = 2
    · rw [if_pos hc] at h ⊢
      cases k with
      | zero => cases h; exact List.mem_cons_self
      | succ k =>
        cases k with
        | zero => cases h
        | succ k =>
          have h1 := ih (i := i + 2) (k := k) h
          rw [show i + (k + 1 + 1) = i + 2 + k by omega]
          exact List.mem_cons_of_mem _ h1
    · rw [if_neg hc] at h ⊢
      cases k with
      | zero => cases h; exact List.mem_cons_self
      | succ k =>
        have h1 := ih (i := i + 1) (k := k) h
        rw [show i + (k + 1) = i + 1 + k by omega]
        exact List.mem_cons_of_mem _ h1
/-- the exception of place k, thrown at pc: the machine comes to the method's end, where Q holds -/
def AX (g : AG) (M : AM) (pc : Nat) (L : List (Option Value)) (S : List Value) (k : Nat) (h : AH) (Q : AO → AH → Prop) : Prop :=
  ∀ (p : Program) (e : Env) (s : State) (m : MethodId) (args : Array Value) (below : List Frame) (meth : Method) (c : Code) (H : Heap) (locs : List Loc) (cells slots : Nat) (ls : Array Slot) (q9 : Addr) (ce : Cell),
    Cx g M p s m args meth c → SF g s → HC g h H → va_S (am_A g) s.heap H locs → LR ls (mL M) L → H[q9]? = some ce → ce.vm = .none → s.vm.findClass (am_ex k) = some ce.cls →
    vx_W p (gL g) e (am_R g M s) s m args below meth c H locs cells slots (vx_MQ below (am_Q g Q) (am_X g Q) args s (am_R g M s).cells (am_R g M s).slots (am_A g)) (F0 m pc ls S) q9
section AWC
variable {g : AG} {M N : AM} {pc nx : Nat} {L : List (Option Value)} {S : List Value} {h : AH} {Q : AO → AH → Prop}
theorem AW.iret {x : Int32} (hr : (pc, Instr.ireturn, 1) ∈ mR M) (ht : mT M = some .int) (hq : Q (.ok (some (.int x))) h) : AW g M pc L [.int x] h Q := by
  intro p e s m args below meth c H locs cells slots ls hC hF hH hS hL
  obtain ⟨hx, hb, hml, hret, hlk, -, -, -, -, hok, -⟩ := id hC
  refine W_tight fun n k hn hk => ?_
  obtain ⟨-, hz, hz1, hz2⟩ := id hH
  refine W.widen (k := (am_R g M s).cells) (n := (am_R g M s).slots) (by show n ≤ gC g - s.heap.size; omega) (by show k ≤ gZ g - am_sl s.heap; omega) (vx_ret ?_)
  exact W.iret hx hb (hret.trans ht) (fun t ht hW => ⟨⟨_, h, rfl, hq, by rw [ht]; exact hH⟩, hS.F ht⟩) hS.2.2 (am_dec hok hr) hlk
theorem AW.zret {x : Int32} (hr : (pc, Instr.ireturn, 1) ∈ mR M) (ht : mT M = some .boolean) (hn : x = 0 ∨ x = 1) (hq : Q (.ok (some (.int x))) h) : AW g M pc L [.int x] h Q := by
  intro p e s m args below meth c H locs cells slots ls hC hF hH hS hL
  obtain ⟨hx, hb, hml, hret, hlk, -, -, -, -, hok, -⟩ := id hC
  refine W_tight fun n k hn1 hk => ?_
  obtain ⟨-, hz, hz1, hz2⟩ := id hH
  refine W.widen (k := (am_R g M s).cells) (n := (am_R g M s).slots) (by show n ≤ gC g - s.heap.size; omega) (by show k ≤ gZ g - am_sl s.heap; omega) (vx_ret ?_)
  exact W.zret hx hb (hret.trans ht) (by rcases hn with rfl | rfl <;> decide) (fun t ht hW => ⟨⟨_, h, rfl, hq, by rw [ht]; exact hH⟩, hS.F ht⟩) hS.2.2 (am_dec hok hr) hlk
theorem AW.nret {x : Int32} {ty : FieldType} (hr : (pc, Instr.ireturn, 1) ∈ mR M) (ht : mT M = some ty) (hn : narrow ty (.int x) = .int x) (hq : Q (.ok (some (.int x))) h) : AW g M pc L [.int x] h Q := by
  intro p e s m args below meth c H locs cells slots ls hC hF hH hS hL
  obtain ⟨hx, hb, hml, hret, hlk, -, -, -, -, hok, -⟩ := id hC
  refine W_tight fun n k hn1 hk => ?_
  obtain ⟨-, hz, hz1, hz2⟩ := id hH
  refine W.widen (k := (am_R g M s).cells) (n := (am_R g M s).slots) (by show n ≤ gC g - s.heap.size; omega) (by show k ≤ gZ g - am_sl s.heap; omega) (vx_ret ?_)
  exact W.zret hx hb (hret.trans ht) hn (fun t ht hW => ⟨⟨_, h, rfl, hq, by rw [ht]; exact hH⟩, hS.F ht⟩) hS.2.2 (am_dec hok hr) hlk
theorem AW.lret {x : Int64} (hr : (pc, Instr.lreturn, 1) ∈ mR M) (ht : mT M = some .long) (hq : Q (.ok (some (.long x))) h) : AW g M pc L [.long x] h Q := by
  intro p e s m args below meth c H locs cells slots ls hC hF hH hS hL
  obtain ⟨hx, hb, hml, hret, hlk, -, -, -, -, hok, -⟩ := id hC
  refine W_tight fun n k hn hk => ?_
  obtain ⟨-, hz, hz1, hz2⟩ := id hH
  refine W.widen (k := (am_R g M s).cells) (n := (am_R g M s).slots) (by show n ≤ gC g - s.heap.size; omega) (by show k ≤ gZ g - am_sl s.heap; omega) (vx_ret ?_)
  exact W.lret hx hb (hret.trans ht) (fun t ht hW => ⟨⟨_, h, rfl, hq, by rw [ht]; exact hH⟩, hS.F ht⟩) hS.2.2 (am_dec hok hr) hlk
theorem AW.dret {x : UInt64} (hr : (pc, Instr.dreturn, 1) ∈ mR M) (ht : mT M = some .double) (hq : Q (.ok (some (.double x))) h) : AW g M pc L [.double x] h Q := by
  intro p e s m args below meth c H locs cells slots ls hC hF hH hS hL
  obtain ⟨hx, hb, hml, hret, hlk, -, -, -, -, hok, -⟩ := id hC
  refine W_tight fun n k hn hk => ?_
  obtain ⟨-, hz, hz1, hz2⟩ := id hH
  refine W.widen (k := (am_R g M s).cells) (n := (am_R g M s).slots) (by show n ≤ gC g - s.heap.size; omega) (by show k ≤ gZ g - am_sl s.heap; omega) (vx_ret ?_)
  exact W.dret hx hb (hret.trans ht) (fun t ht hW => ⟨⟨_, h, rfl, hq, by rw [ht]; exact hH⟩, hS.F ht⟩) hS.2.2 (am_dec hok hr) hlk
theorem AW.vret (hr : (pc, Instr.return_, 1) ∈ mR M) (ht : mT M = none) (hq : Q (.ok none) h) : AW g M pc L [] h Q := by
  intro p e s m args below meth c H locs cells slots ls hC hF hH hS hL
  obtain ⟨hx, hb, hml, hret, hlk, -, -, -, -, hok, -⟩ := id hC
  refine W_tight fun n k hn hk => ?_
  obtain ⟨-, hz, hz1, hz2⟩ := id hH
  refine W.widen (k := (am_R g M s).cells) (n := (am_R g M s).slots) (by show n ≤ gC g - s.heap.size; omega) (by show k ≤ gZ g - am_sl s.heap; omega) (vx_ret ?_)
  exact W.vret hx hb (hret.trans ht) (fun t ht hW => ⟨⟨_, h, rfl, hq, by rw [ht]; exact hH⟩, hS.F ht⟩) hS.2.2 (am_dec hok hr) hlk
theorem AW.aret {v : Value} {rt : FieldType} (hr : (pc, Instr.areturn, 1) ∈ mR M) (ht : mT M = some rt) (hrt : (∃ n, rt = .object n) ∨ ∃ t, rt = .array t) (hv : v = .null ∨ ∃ a, v = .ref a) (hq : Q (.ok (some v)) h) : AW g M pc L [v] h Q := by
  intro p e s m args below meth c H locs cells slots ls hC hF hH hS hL
  obtain ⟨hx, hb, hml, hret, hlk, -, -, -, -, hok, -⟩ := id hC
  refine W_tight fun n k hn hk => ?_
  obtain ⟨-, hz, hz1, hz2⟩ := id hH
  refine W.widen (k := (am_R g M s).cells) (n := (am_R g M s).slots) (by show n ≤ gC g - s.heap.size; omega) (by show k ≤ gZ g - am_sl s.heap; omega) (vx_ret ?_)
  exact W.aret hx hb (hret.trans ht) hrt hv (fun t ht hW => ⟨⟨_, h, rfl, hq, by rw [ht]; exact hH⟩, hS.F ht⟩) hS.2.2 (am_dec hok hr) hlk
/-- a method without handlers, as the kit's contracts say it -/
theorem am_met {args : List Value} {H : Heap} (hok : okM N) (hh : mH N = []) (hz : (lg_sl args).length ≤ mL N) (hst : (gL g).stackTraces = false) (hH : HC g h H) (k : AW g N 0 (enL args (mL N)) [] h Q) :
    vx_Met (gL g) (mY N) (Cond.code (mY N) (mB N) (mL N) (mT N) :: am_tb) { frames := mD N, cells := gC g - H.size, slots := gZ g - am_sl H, locals := mW N } (fun a U => a = args.toArray ∧ SF g U ∧ U.heap = H) (am_Q g Q) (am_X g Q) (gC g - H.size) (gZ g - am_sl H) (am_A g) := by
  refine vx_ofW hok.2.1 rfl ?_
  intro p e s m a below meth c s₁ B hml ht hP
  obtain ⟨rfl, hF, hheap⟩ := hP
  subst hheap
  have hts : ∀ w ∈ am_tb, w.before args.toArray s = true := fun w hw => atoms_spec (ws := Cond.code (mY N) (mB N) (mL N) (mT N) :: am_tb) B.pre w (List.mem_cons_of_mem _ hw)
  have hl := lv_entry args hz
  rw [lg_entry_eq]
  refine k p e s m _ below meth c s.heap [] 0 0 _ ⟨B.exec, B.bytes, hml, B.returns, B.notSynchronized, findClass_of_methodNamed B.named, hts, (name_of_methodNamed B.named B.method).1, ?_, hok.1, hst⟩ hF hH ⟨Nat.le_refl _, fun _ _ _ => rfl, fun _ hl => by cases hl⟩ ⟨hl.1, hl.2.1, fun i v hi => hl.2.2 (i, v) ?_⟩
  · rw [hh, List.eq_nil_iff_forall_not_mem.mpr ht]; rfl
  · have := enL_in (i := 0) hi
    rw [Nat.zero_add] at this
    exact this
/-- the same of a method with handlers -/
theorem am_metH {args : List Value} {H : Heap} (hok : okM N) (hz : (lg_sl args).length ≤ mL N) (hst : (gL g).stackTraces = false) (hH : HC g h H) (k : AW g N 0 (enL args (mL N)) [] h Q) :
    vx_Met (gL g) (mY N) (Cond.codeWith (mY N) (mB N) (mL N) (mT N) (mH N) :: am_tb) { frames := mD N, cells := gC g - H.size, slots := gZ g - am_sl H, locals := mW N } (fun a U => a = args.toArray ∧ SF g U ∧ U.heap = H) (am_Q g Q) (am_X g Q) (gC g - H.size) (gZ g - am_sl H) (am_A g) := by
  refine vx_ofWH hok.2.1 rfl ?_
  intro p e s m a below meth c s₁ B hml hP
  obtain ⟨rfl, hF, hheap⟩ := hP
  subst hheap
  have hts0 := atoms_spec (ws := Cond.codeWith (mY N) (mB N) (mL N) (mT N) (mH N) :: am_tb) B.pre
  have hts : ∀ w ∈ am_tb, w.before args.toArray s = true := fun w hw => hts0 w (List.mem_cons_of_mem _ hw)
  have hl := lv_entry args hz
  rw [lg_entry_eq]
  refine k p e s m _ below meth c s.heap [] 0 0 _ ⟨B.exec, B.bytes, hml, B.returns, B.notSynchronized, findClass_of_methodNamed B.named, hts, (name_of_methodNamed B.named B.method).1, vx_table (x := mY N) B (hts0 _ List.mem_cons_self), hok.1, hst⟩ hF hH ⟨Nat.le_refl _, fun _ _ _ => rfl, fun _ hl => by cases hl⟩ ⟨hl.1, hl.2.1, fun i v hi => hl.2.2 (i, v) ?_⟩
  have := enL_in (i := 0) hi
  rw [Nat.zero_add] at this
  exact this
/-- what the facts of a state's start say of another whose tables are its own, and whose heap is kept below -/
theorem SF.moved {s U : State} {H : Heap} {locs : List Loc} (hW : s.WarmedH U.vm) (hH : U.heap = H) (hS : va_S (am_A g) s.heap H locs) (hF : SF g s) : SF g U := by
  obtain ⟨h1, h2, h3, h4, h5, h6, h7, h8, h9, h10⟩ := hF
  have hk : ∀ a : Nat, a < s.heap.size → ¬ am_A g a → U.heap[a]? = s.heap[a]? := fun a q1 q2 => by rw [hH]; exact hS.2.1 a q1 q2
  refine ⟨h1.moved hW.alike, fun k q hq => ((h2 k q hq).kept hk).moved hW.alike, fun k q hq => (h3 k q hq).warm hW, (h4.kept hk).moved hW.alike, (h5.kept hk).moved hW.alike, by rw [hH]; exact Nat.le_trans h6 hS.1, fun w hw => ?_, fun C hC => va_AO.moved hW.alike (h8 C hC), ⟨h9.1.moved hW.alike, h9.2.moved hW.alike⟩, fun q hq cell ty hc ht => State.isArrayOf_alike hW.alike (h10 q hq cell ty (by rw [← hc]; exact (hk q (Nat.lt_of_lt_of_le hq h6) (Nat.not_le.mpr hq)).symm) ht)⟩
  have hw2 := hw
  unfold am_nw at hw2
  simp only [List.mem_cons, List.not_mem_nil, or_false] at hw2
  rcases hw2 with rfl | rfl | rfl | rfl | rfl | rfl | rfl | rfl | rfl | rfl | rfl | rfl | rfl | rfl | rfl | rfl | rfl | rfl <;> first | exact (h7 _ hw).warmM hW | exact (h7 _ hw).warmF hW | exact (h7 _ hw).warmC hW | exact (h7 _ hw).warmD hW
theorem am_nwT : ∀ w ∈ am_nw, w.onTables = true := by
  intro w hw
  unfold am_nw at hw
  simp only [List.mem_cons, List.not_mem_nil, or_false] at hw
  rcases hw with rfl | rfl | rfl | rfl | rfl | rfl | rfl | rfl | rfl | rfl | rfl | rfl | rfl | rfl | rfl | rfl | rfl | rfl <;> rfl
/-- what a call comes back to -/
def cQ (g : AG) (M : AM) (nx pc : Nat) (L : List (Option Value)) (S : List Value) (Q : AO → AH → Prop) : AO → AH → Prop := fun o h => match o with
  | .ok v => AW g M nx L (v.toList ++ S) h Q
  | .error k => AX g M pc L S k h Q
theorem cQ_v {h' : AH} (k : AW g M nx L S h' Q) : cQ g M nx pc L S Q (.ok none) h' := k
theorem cQ_r {v : Value} {h' : AH} (k : AW g M nx L (v :: S) h' Q) : cQ g M nx pc L S Q (.ok (some v)) h' := k
theorem cQ_x {k : Nat} {h' : AH} (kk : AX g M pc L S k h' Q) : cQ g M nx pc L S Q (.error k) h' := kk
/-- a call that has been run -/
theorem am_back {p : Program} {e : Env} {s : State} {m : MethodId} {args : Array Value} {below : List Frame} {meth : Method} {c : Code} {H : Heap} {locs : List Loc} {cells slots mc ms : Nat} {ls : Array Slot} {st0 : List Value} {a : Array Value}
    (hn : pc + 3 = nx) (hC : Cx g M p s m args meth c) (hF : SF g s) (hS : va_S (am_A g) s.heap H locs) (hL : LR ls (mL M) L)
    (hr : vx_Run p (gL g) e (am_R g M s) s m args below meth c H locs cells slots mc ms (F0 m pc ls st0) S (am_Q g (cQ g M nx pc L S Q) a) (am_X g (cQ g M nx pc L S Q)) (am_A g)) :
    W p (gL g) e (am_R g M s) s m args below meth c H locs cells slots (vx_MQ below (am_Q g Q) (am_X g Q) args s (am_R g M s).cells (am_R g M s).slots (am_A g)) (F0 m pc ls st0) := by
  subst hn
  intro T hT X
  rcases hr T hT X with ⟨v, st₀, t, T', Ls, h0, X', hLs, e1, e2, ⟨⟨v2, h2, hv, hq, hh⟩, hF1⟩, st⟩ | ⟨q, st₀, t, T', Ls, E, ce, h0, X', hLs, e1, e2, ⟨⟨kx, h2, hE, hq, hh⟩, hF1⟩, hce, hcv, hcl, st⟩
  · cases hv
    obtain ⟨k1, k2, k3⟩ := vx_keep (A1 := am_A g) (free := am_A g) h0 e1 hS (fun _ _ z => z) (fun _ z => z) hLs hF1
    have hq' : AW g M (pc + 3) L (v.toList ++ S) h2 Q := hq
    obtain ⟨t2, a1, b1⟩ := hq' p e s m args below meth c T'.heap (locs ++ Ls) (cells + mc) (slots + ms) ls hC hF (by rw [e1]; exact hh) k3 hL T' rfl X'
    exact ⟨t2, st t2 a1, b1⟩
  · obtain ⟨k1, k2, k3⟩ := vx_keep (A1 := am_A g) (free := am_A g) h0 e1 hS (fun _ _ z => z) (fun _ z => z) hLs hF1
    have hq' : AX g M pc L S kx h2 Q := hq
    subst hE
    obtain ⟨t2, a1, b1⟩ := hq' p e s m args below meth c T'.heap (locs ++ Ls) (cells + mc) (slots + ms) ls q ce hC hF (by rw [e1]; exact hh) k3 hL (by rw [e1]; exact hce) hcv hcl T' rfl X'
    exact ⟨t2, st.trans a1, b1⟩
/-- a method that is called by the receiver's class, without handlers -/
def okV (N : AM) : Prop := okM N ∧ mH N = [] ∧ Cond.code (mY N) (mB N) (mL N) (mT N) ∈ am_tb ∧ Cond.instanceMethod (mY N) ∈ am_tb ∧ Cond.selects (mY N).cls (mY N) (mY N) ∈ am_tb
def okS (N : AM) : Prop := okM N ∧ mH N = [] ∧ Cond.code (mY N) (mB N) (mL N) (mT N) ∈ am_tb ∧ Cond.static (mY N) ∈ am_tb
def okSH (N : AM) : Prop := okM N ∧ Cond.codeWith (mY N) (mB N) (mL N) (mT N) (mH N) ∈ am_tb ∧ Cond.static (mY N) ∈ am_tb
def okI (N : AM) : Prop := okM N ∧ mH N = [] ∧ mT N = none ∧ (mY N).name = "<init>" ∧ Cond.code (mY N) (mB N) (mL N) none ∈ am_tb ∧ Cond.instanceMethod (mY N) ∈ am_tb
/-- the room that a call of N wants of M -/
def rmok (M N : AM) (S : List Value) : Bool := Nat.ble (mD N + 1) (mD M) && Nat.ble (8 + (mL N + 11) + mW N) (mW M) && Nat.ble (S.map fun v => v.category).sum 8
theorem rmok_s (h : rmok M N S = true) : mD N + 1 ≤ mD M ∧ 8 + (mL N + 11) + mW N ≤ mW M ∧ (S.map fun v => v.category).sum ≤ 8 := by
  unfold rmok at h
  rw [Bool.and_eq_true, Bool.and_eq_true] at h
  exact ⟨Nat.le_of_ble_eq_true h.1.1, Nat.le_of_ble_eq_true h.1.2, Nat.le_of_ble_eq_true h.2⟩
theorem am_len {n : Nat} (hok : okM N) (hn : mN N = n) : ∀ sig, parseMethodDescriptor (mY N).desc = some sig → n = sig.parameters.length := by
  intro sig h
  have h2 := hok.2.2.1.2.2
  rw [h] at h2
  exact hn.symm.trans (Option.some.inj h2).symm
theorem SF.same {s U : State} (hv : U.vm = s.vm) (hH : U.heap = s.heap) (hF : SF g s) : SF g U := by
  obtain ⟨h1, h2, h3, h4, h5, h6, h7, h8, h9, h10⟩ := hF
  have hA : s.vm.Alike U.vm := by rw [hv]; exact Vm.Alike.refl _
  have hk : ∀ a : Nat, a < s.heap.size → ¬ am_A g a → U.heap[a]? = s.heap[a]? := fun a q1 q2 => by rw [hH]
  exact ⟨h1.moved hA, fun k q hq => ((h2 k q hq).kept hk).moved hA, fun k q hq => (h3 k q hq).same hv, (h4.kept hk).moved hA, (h5.kept hk).moved hA, by rw [hH]; exact h6, fun w hw => by
    have h12 := h7 w hw
    have h11 := am_nwT w hw
    exact va_tabs h11 hv.symm h12, fun C hC => va_AO.moved hA (h8 C hC), ⟨h9.1.moved hA, h9.2.moved hA⟩, fun q hq cell ty hc ht => State.isArrayOf_alike hA (h10 q hq cell ty (by rw [← hc, hH]) ht)⟩
theorem am_blind {as : List Value} {H : Heap} : FrameBlind (fun a U => a = as.toArray ∧ SF g U ∧ U.heap = H) := by
  rintro a U gg mk ⟨h1, h2, h3⟩
  exact ⟨h1, SF.same (s := U) (U := U.calling gg mk a) rfl rfl h2, h3⟩
theorem AW.callV {i b ci nn : Nat} {T : u_T} {fs : List Value} {st0 As : List Value} {L0 : List (Option Value)} (hr : (pc, Instr.invokevirtual i, 3) ∈ mR M) (hn : pc + 3 = nx) (hN : okV N) (hlk : Cond.methodLink (mY M).cls i (mY N) ∈ am_tb)
    (hst : st0 = As.reverse ++ .ref b :: S) (hcl : am_cl[ci]? = some ((mY N).cls, T, nn)) (hb : h.1 b = some (.inr (ci, fs))) (hrm : rmok M N S = true) (hna : mN N = As.length) (hz : Nat.ble (lg_sl (.ref b :: As)).length (mL N) = true) (hL0 : enL (.ref b :: As) (mL N) = L0)
    (k : AW g N 0 L0 [] h (cQ g M nx pc L S Q)) : AW g M pc L st0 h Q := by
  subst hL0
  intro p e s m args below meth c H locs cells slots ls hC hF hH hS hL
  obtain ⟨hx, hbb, hml, hret, hlk2, hown, hts, hmn, het, hok, hstk⟩ := id hC
  obtain ⟨hok2, hh, hcode, hin, hsel⟩ := hN
  obtain ⟨hr1, hr2, hr3⟩ := rmok_s hrm
  obtain ⟨-, hz1, hz2, hz3⟩ := id hH
  refine W_tight fun n1 k1 hn1 hk1 => ?_
  have hM := am_met (args := .ref b :: As) (H := H) hok2 hh (Nat.le_of_ble_eq_true hz) hstk hH k
  obtain ⟨r, cell, q1, q2, q3, -, q4, -⟩ := hH.obj hb
  have q5 : r = ((mY N).cls, T, nn) := Option.some.inj (q1.symm.trans hcl)
  subst q5
  have hdec := am_dec hok hr
  refine am_back hn hC hF hS hL (vx_runV (n := As.length) (C := (mY N).cls) (b := b) (As := As) ⟨hx, hbb, hml, hown, hts⟩ hM ⟨⟨rfl, rfl, hr1, hr2, ?_, List.mem_cons_self, hts _ hcode, hts _ hok2.2.2.2.1, ⟨hok2.2.2.1.1, hok2.2.2.1.2.1⟩, am_len hok2 hna, hts _ hlk⟩, hts _ hin, hts _ hsel⟩ ⟨am_blind, ⟨cell, q2, q4, by rw [q3]; exact (hF.1.1 ci _ q1).2.1⟩, fun U hU hW => ⟨rfl, hF.moved hW hU hS, hU⟩⟩ rfl rfl hL.1 hst ?_ hdec ?_)
  · exact pay_in hts (fun w hw => by
      rcases List.mem_cons.mp hw with rfl | hw
      · exact ⟨hcode, good_of_word (List.mem_filter.mp hcode).2⟩
      · exact am_good w hw)
  · show 2 * 0 + _ ≤ 8
    omega
  · exact ⟨by show n1 + (gC g - H.size) ≤ gC g - s.heap.size; omega, by show k1 + (gZ g - am_sl H) ≤ gZ g - am_sl s.heap; omega⟩
theorem AW.callS {i : Nat} {st0 As : List Value} {L0 : List (Option Value)} (hr : (pc, Instr.invokestatic i, 3) ∈ mR M) (hn : pc + 3 = nx) (hN : okS N) (hlk : Cond.methodLink (mY M).cls i (mY N) ∈ am_tb)
    (hst : st0 = As.reverse ++ S) (hrm : rmok M N S = true) (hna : mN N = As.length) (hz : Nat.ble (lg_sl As).length (mL N) = true) (hL0 : enL As (mL N) = L0)
    (k : AW g N 0 L0 [] h (cQ g M nx pc L S Q)) : AW g M pc L st0 h Q := by
  subst hL0
  intro p e s m args below meth c H locs cells slots ls hC hF hH hS hL
  obtain ⟨hx, hbb, hml, hret, hlk2, hown, hts, hmn, het, hok, hstk⟩ := id hC
  obtain ⟨hok2, hh, hcode, hstat⟩ := hN
  obtain ⟨hr1, hr2, hr3⟩ := rmok_s hrm
  obtain ⟨-, hz1, hz2, hz3⟩ := id hH
  refine W_tight fun n1 k1 hn1 hk1 => ?_
  have hM := am_met (args := As) (H := H) hok2 hh (Nat.le_of_ble_eq_true hz) hstk hH k
  have hdec := am_dec hok hr
  refine am_back hn hC hF hS hL (vx_runS (n := As.length) (As := As) ⟨hx, hbb, hml, hown, hts⟩ hM ⟨⟨rfl, rfl, hr1, hr2, ?_, List.mem_cons_self, hts _ hcode, hts _ hok2.2.2.2.1, ⟨hok2.2.2.1.1, hok2.2.2.1.2.1⟩, am_len hok2 hna, hts _ hlk⟩, hts _ hstat⟩ ⟨am_blind, fun U hU hW => ⟨rfl, hF.moved hW hU hS, hU⟩⟩ rfl rfl hL.1 hst ?_ hdec ?_)
  · exact pay_in hts (fun w hw => by
      rcases List.mem_cons.mp hw with rfl | hw
      · exact ⟨hcode, good_of_word (List.mem_filter.mp hcode).2⟩
      · exact am_good w hw)
  · show 2 * 0 + _ ≤ 8
    omega
  · exact ⟨by show n1 + (gC g - H.size) ≤ gC g - s.heap.size; omega, by show k1 + (gZ g - am_sl H) ≤ gZ g - am_sl s.heap; omega⟩
theorem AW.callSH {i : Nat} {st0 As : List Value} {L0 : List (Option Value)} (hr : (pc, Instr.invokestatic i, 3) ∈ mR M) (hn : pc + 3 = nx) (hN : okSH N) (hlk : Cond.methodLink (mY M).cls i (mY N) ∈ am_tb)
    (hst : st0 = As.reverse ++ S) (hrm : rmok M N S = true) (hna : mN N = As.length) (hz : Nat.ble (lg_sl As).length (mL N) = true) (hL0 : enL As (mL N) = L0)
    (k : AW g N 0 L0 [] h (cQ g M nx pc L S Q)) : AW g M pc L st0 h Q := by
  subst hL0
  intro p e s m args below meth c H locs cells slots ls hC hF hH hS hL
  obtain ⟨hx, hbb, hml, hret, hlk2, hown, hts, hmn, het, hok, hstk⟩ := id hC
  obtain ⟨hok2, hcode, hstat⟩ := hN
  obtain ⟨hr1, hr2, hr3⟩ := rmok_s hrm
  obtain ⟨-, hz1, hz2, hz3⟩ := id hH
  refine W_tight fun n1 k1 hn1 hk1 => ?_
  have hM := am_metH (args := As) (H := H) hok2 (Nat.le_of_ble_eq_true hz) hstk hH k
  have hdec := am_dec hok hr
  refine am_back hn hC hF hS hL (vx_runSX (n := As.length) (As := As) ⟨hx, hbb, hml, hown, hts⟩ hM ⟨⟨rfl, rfl, hr1, hr2, ?_, List.mem_cons_self⟩, hts _ hcode, hts _ hok2.2.2.2.1, ⟨hok2.2.2.1.1, hok2.2.2.1.2.1⟩, am_len hok2 hna, hts _ hlk, hts _ hstat⟩ ⟨am_blind, fun U hU hW => ⟨rfl, hF.moved hW hU hS, hU⟩⟩ rfl rfl hL.1 hst ?_ hdec ?_)
  · exact pay_in hts (fun w hw => by
      rcases List.mem_cons.mp hw with rfl | hw
      · exact ⟨hcode, good_of_word (List.mem_filter.mp hcode).2⟩
      · exact am_good w hw)
  · show 2 * 0 + _ ≤ 8
    omega
  · exact ⟨by show n1 + (gC g - H.size) ≤ gC g - s.heap.size; omega, by show k1 + (gZ g - am_sl H) ≤ gZ g - am_sl s.heap; omega⟩
theorem AW.callI {i b : Nat} {st0 As : List Value} {L0 : List (Option Value)} (hr : (pc, Instr.invokespecial i, 3) ∈ mR M) (hn : pc + 3 = nx) (hN : okI N) (hlk : Cond.methodLink (mY M).cls i (mY N) ∈ am_tb)
    (hst : st0 = As.reverse ++ .ref b :: S) (hrm : rmok M N S = true) (hna : mN N = As.length) (hz : Nat.ble (lg_sl (.ref b :: As)).length (mL N) = true) (hL0 : enL (.ref b :: As) (mL N) = L0)
    (k : AW g N 0 L0 [] h (cQ g M nx pc L S Q)) : AW g M pc L st0 h Q := by
  subst hL0
  intro p e s m args below meth c H locs cells slots ls hC hF hH hS hL
  obtain ⟨hx, hbb, hml, hret, hlk2, hown, hts, hmn, het, hok, hstk⟩ := id hC
  obtain ⟨hok2, hh, hT, hnm, hcode, hin⟩ := hN
  obtain ⟨hr1, hr2, hr3⟩ := rmok_s hrm
  obtain ⟨-, hz1, hz2, hz3⟩ := id hH
  refine W_tight fun n1 k1 hn1 hk1 => ?_
  have hM := am_met (args := .ref b :: As) (H := H) hok2 hh (Nat.le_of_ble_eq_true hz) hstk hH k
  rw [hT] at hM
  have hdec := am_dec hok hr
  refine am_back hn hC hF hS hL (vx_runI (n := As.length) (b := b) (As := As) ⟨hx, hbb, hml, hown, hts⟩ hM ⟨⟨rfl, rfl, hr1, hr2, ?_, List.mem_cons_self, hts _ hcode, hts _ hok2.2.2.2.1, ⟨hok2.2.2.1.1, hok2.2.2.1.2.1⟩, am_len hok2 hna, hts _ hlk⟩, hnm, hts _ hin⟩ ⟨am_blind, fun U hU hW => ⟨rfl, hF.moved hW hU hS, hU⟩⟩ rfl rfl hL.1 hst ?_ hdec ?_)
  · exact pay_in hts (fun w hw => by
      rcases List.mem_cons.mp hw with rfl | hw
      · exact ⟨hcode, good_of_word (List.mem_filter.mp hcode).2⟩
      · exact am_good w hw)
  · show 2 * 0 + _ ≤ 8
    omega
  · exact ⟨by show n1 + (gC g - H.size) ≤ gC g - s.heap.size; omega, by show k1 + (gZ g - am_sl H) ≤ gZ g - am_sl s.heap; omega⟩
/-- a private constructor of a nest mate -/
theorem AW.callIN {i b : Nat} {host : String} {st0 As : List Value} {L0 : List (Option Value)} (hr : (pc, Instr.invokespecial i, 3) ∈ mR M) (hn : pc + 3 = nx) (hN : okI N) (hlk : Cond.methodLinkNest (mY M).cls i (mY N) host ∈ am_nw)
    (hst : st0 = As.reverse ++ .ref b :: S) (hrm : rmok M N S = true) (hna : mN N = As.length) (hz : Nat.ble (lg_sl (.ref b :: As)).length (mL N) = true) (hL0 : enL (.ref b :: As) (mL N) = L0)
    (k : AW g N 0 L0 [] h (cQ g M nx pc L S Q)) : AW g M pc L st0 h Q := by
  subst hL0
  intro p e s m args below meth c H locs cells slots ls hC hF hH hS hL
  obtain ⟨hx, hbb, hml, hret, hlk2, hown, hts, hmn, het, hok, hstk⟩ := id hC
  obtain ⟨hok2, hh, hT, hnm, hcode, hin⟩ := hN
  obtain ⟨hr1, hr2, hr3⟩ := rmok_s hrm
  obtain ⟨-, hz1, hz2, hz3⟩ := id hH
  refine W_tight fun n1 k1 hn1 hk1 => ?_
  have hM := am_met (args := .ref b :: As) (H := H) hok2 hh (Nat.le_of_ble_eq_true hz) hstk hH k
  rw [hT] at hM
  have hdec := am_dec hok hr
  have hG : GoodIn am_tb (Cond.code (mY N) (mB N) (mL N) none :: am_tb) := fun w hw => by
    rcases List.mem_cons.mp hw with rfl | hw
    · exact ⟨hcode, good_of_word (List.mem_filter.mp hcode).2⟩
    · exact am_good w hw
  refine am_back hn hC hF hS hL (vx_runIN (host := host) (n := As.length) (b := b) (As := As) ⟨hx, hbb, hml, hown, hts⟩ hM ⟨va_cnB As.length hts hG rfl rfl rfl (hF.2.2.2.2.2.2.1 _ hlk) (hts _ hok2.2.2.2.1) ⟨hok2.2.2.1.1, hok2.2.2.1.2.1, hna ▸ hok2.2.2.1.2.2⟩ ⟨hr1, hr2⟩, hnm, hts _ hin⟩ ⟨am_blind, fun U hU hW => ⟨rfl, hF.moved hW hU hS, hU⟩⟩ rfl rfl hL.1 hst ?_ hdec ?_)
  · show 2 * 0 + _ ≤ 8
    omega
  · exact ⟨by show n1 + (gC g - H.size) ≤ gC g - s.heap.size; omega, by show k1 + (gZ g - am_sl H) ≤ gZ g - am_sl s.heap; omega⟩
theorem AW.objInit {i b : Nat} (hr : (pc, Instr.invokespecial i, 3) ∈ mR M) (hn : pc + 3 = nx) (hlk : Cond.methodLink (mY M).cls i Lib.objectInit ∈ am_tb) (hin : Cond.instanceMethod Lib.objectInit ∈ am_tb) (hcode : Cond.code Lib.objectInit ⟨#[0xb1]⟩ 1 none ∈ am_tb)
    (hrm : (Nat.ble 1 (mD M) && Nat.ble ((S.map fun v => v.category).sum + 12) (mW M)) = true) (k : AW g M nx L S h Q) : AW g M pc L (.ref b :: S) h Q := by
  subst hn
  intro p e s m args below meth c H locs cells slots ls hC hF hH hS hL
  obtain ⟨hx, hbb, hml, hret, hlk2, hown, hts, hmn, het, hok, hstk⟩ := id hC
  rw [Bool.and_eq_true] at hrm
  have h1 := Nat.le_of_ble_eq_true hrm.1
  have h2 := Nat.le_of_ble_eq_true hrm.2
  exact W.objInit hx hbb hown (hts _ hlk) (hts _ hin) (hts _ hcode) (g := F0 m pc ls (.ref b :: S)) rfl (hL.1.trans hml.symm) rfl (am_dec hok hr) h1 (by show 2 * 0 + _ + 12 ≤ mW M; omega) (k p e s m args below meth c H locs cells slots ls hC hF hH hS hL)
/-- not caught here -/
theorem AX.out {k : Nat} (hh : mH M = []) (hq : Q (.error k) h) : AX g M pc L S k h Q := by
  intro p e s m args below meth c H locs cells slots ls q9 ce hC hF hH hS hL hce hcv hcl
  obtain ⟨hx, hbb, hml, hret, hlk2, hown, hts, hmn, het, hok, hstk⟩ := id hC
  obtain ⟨-, hz1, hz2, hz3⟩ := id hH
  refine vxW_tight fun n1 k1 hn1 hk1 => ?_
  refine vx_out ?_ hlk2 hce hcv hcl ?_ hS.2.2 (by show n1 ≤ gC g - s.heap.size; omega) (by show k1 ≤ gZ g - am_sl s.heap; omega)
  · intro x hx
    rw [het, hh] at hx
    cases hx
  · intro t ht ha
    exact ⟨⟨k, h, rfl, hq, by rw [ht]; exact hH⟩, hS.F ht⟩
end AWC
