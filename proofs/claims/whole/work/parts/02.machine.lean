/-! ===== THE ABSTRACT MACHINE: a method's frame over a heap of known cells. AW: from such a frame the machine comes to the method's end, where Q holds ===== -/
/-- a known cell: an array (its type's place, length, contents) or an object (its class's place, fields) -/
abbrev AE : Type := (Nat × vp_A) ⊕ (Nat × List Value)
/-- a heap: known cells, size, how many cells and slots may still be made -/
abbrev AH : Type := (Nat → Option AE) × Nat × Nat × Nat
/-- an outcome: an answer, or an exception of a class by its place -/
abbrev AO : Type := Except Nat (Option Value)
/-- launch, the first free address, classes' numbers and slots, array classes, statics, texts, how many cells and slots there may be at all -/
abbrev AG : Type := Launch × Nat × va_G × (Nat → ClassId) × (Nat → Value) × (Nat → Nat) × Nat × Nat
abbrev ARow : Type := Nat × Instr × Nat
/-- a method: name, bytes, locals, what it returns, handlers, depth, room for locals, arguments (the receiver not counted), its instructions -/
abbrev AM : Type := MethodName × ByteArray × Nat × Option FieldType × List (Nat × Nat × Nat × Nat) × Nat × Nat × Nat × List ARow
abbrev mY (M : AM) : MethodName := M.1
abbrev mB (M : AM) : ByteArray := M.2.1
abbrev mL (M : AM) : Nat := M.2.2.1
abbrev mT (M : AM) : Option FieldType := M.2.2.2.1
abbrev mH (M : AM) : List (Nat × Nat × Nat × Nat) := M.2.2.2.2.1
abbrev mD (M : AM) : Nat := M.2.2.2.2.2.1
abbrev mW (M : AM) : Nat := M.2.2.2.2.2.2.1
abbrev mN (M : AM) : Nat := M.2.2.2.2.2.2.2.1
abbrev mR (M : AM) : List ARow := M.2.2.2.2.2.2.2.2
abbrev gL (g : AG) : Launch := g.1
abbrev gB (g : AG) : Nat := g.2.1
abbrev gD (g : AG) : va_G := g.2.2.1
abbrev gT (g : AG) : Nat → ClassId := g.2.2.2.1
abbrev gV (g : AG) : Nat → Value := g.2.2.2.2.1
abbrev gS (g : AG) : Nat → Nat := g.2.2.2.2.2.1
abbrev gC (g : AG) : Nat := g.2.2.2.2.2.2.1
abbrev gZ (g : AG) : Nat := g.2.2.2.2.2.2.2
/-- the classes, by their places: what their objects hold -/
def am_cl : List vw_C := [(RX0, TX0, 3), (RX1, TX1, 3), (RX2, TX2, 19), (RX3, TX3, 3), (RX4, TX4, 8), (RX5, TX5, 8), (RX6, TX6, 1), (RX7, TX7, 16), (RX8, TX8, 6), (RX9, TX9, 9), (RX10, TX10, 24), (RJ0, TJ0, 2)]
/-- the arrays' types, by their places -/
def am_ft : List FieldType := [.int, .long, .boolean, .byte, .double, .object RX3, .object RX5, .object RX2, .object RX7]
def am_ty (g : AG) : List (ClassId × FieldType) := [(gT g 0, .int), (gT g 1, .long), (gT g 2, .boolean), (gT g 3, .byte), (gT g 4, .double), (gT g 5, .object RX3), (gT g 6, .object RX5), (gT g 7, .object RX2), (gT g 8, .object RX7)]
/-- the statics that are read -/
def am_st : List (String × String × String) := [(RX9, "BENCHES_RANGES", "[I"), (RX9, "LIFE_RANGES", "[I"), (RX9, "PRESS_RANGES", "[I"), (RX9, "RECIPE_RANGES", "[I"), (RX9, "OBJECT_RANGES", "[I"), (RX9, "PLAN_RANGES", "[I"), (RX9, "OBJECT_NUMBER_RANGES", "[I"), (RX9, "LEND_RANGES", "[I"), (RX9, "TICK_RANGES", "[I"), (RJ0, "COMPACT_STRINGS", "Z"), ("jdk/internal/util/Preconditions", "SIOOBE_FORMATTER", "Ljava/util/function/BiFunction;")]
/-- the texts: where they are named, and what they say -/
def am_tx : List (String × Nat × String) := [(RX9, 386, "there are no objects"), (RX9, 393, "there is no such thing"), (RX9, 398, "out of range"), (RX9, 403, "too great for an int"), (RX4, 166, "benches"), (RX4, 171, "life"), (RX4, 172, "press"), (RX4, 174, "recipe"), (RX4, 176, "object"), (RX4, 178, "plan"), (RX4, 180, "cancel"), (RX4, 182, "approve"), (RX4, 184, "lend"), (RX4, 186, "recall"), (RX4, 188, "tick")]
/-- the words by which private things of a nest mate are named -/
def am_nw : List Cond := [.methodLinkNest RX7 17 yX3_init RX9, .methodLinkNest RX7 24 yX5_init RX9, .methodLinkNest RX1 21 yX9_rowAt RX9, .fieldLinkNest RX4 190 RX9 "BENCHES_RANGES" "[I" RX9, .fieldLinkNest RX4 193 RX9 "LIFE_RANGES" "[I" RX9, .fieldLinkNest RX4 196 RX9 "PRESS_RANGES" "[I" RX9, .fieldLinkNest RX4 18 RX9 "RECIPE_RANGES" "[I" RX9, .fieldLinkNest RX4 199 RX9 "OBJECT_RANGES" "[I" RX9, .fieldLinkNest RX4 202 RX9 "PLAN_RANGES" "[I" RX9, .fieldLinkNest RX4 211 RX9 "OBJECT_NUMBER_RANGES" "[I" RX9, .fieldLinkNest RX4 205 RX9 "LEND_RANGES" "[I" RX9, .fieldLinkNest RX4 208 RX9 "TICK_RANGES" "[I" RX9, .castable "java/lang/IndexOutOfBoundsException" "java/lang/IndexOutOfBoundsException", .castable "java/lang/IllegalArgumentException" "java/lang/IllegalArgumentException", .castable "java/lang/ArithmeticException" "java/lang/ArithmeticException", .declares ⟨"java/lang/RuntimeException", "<init>", "(Ljava/lang/String;)V"⟩, .declares ⟨"java/lang/Exception", "<init>", "(Ljava/lang/String;)V"⟩, .declares ⟨"java/lang/Throwable", "<init>", "(Ljava/lang/String;)V"⟩]
/-- the classes of which arrays are made -/
def am_oc : List String := [RX3, RX5, RX2, RX7]
/-- the exceptions, by their places -/
def am_ex : Nat → String := fun k => match k with
  | 1 => "java/lang/IndexOutOfBoundsException"
  | 2 => "java/lang/IllegalArgumentException"
  | 3 => "java/lang/ArithmeticException"
  | _ => ""
/-- the tables' words that every state keeps -/
def am_tb : List Cond := lw_tbl.filter goodWord
theorem am_in {w : Cond} {i : Nat} (h : tables_1[i]? = some w) (hg : goodWord w = true) : w ∈ am_tb := List.mem_filter.mpr ⟨List.mem_append_right _ (List.mem_of_getElem? h), hg⟩
theorem am_inS {w : Cond} {i : Nat} (h : (k2_sels lw_privs)[i]? = some w) (hg : goodWord w = true) : w ∈ am_tb := List.mem_filter.mpr ⟨List.mem_append_left _ (List.mem_of_getElem? h), hg⟩
theorem am_good : GoodIn am_tb am_tb := fun w h => ⟨h, good_of_word (List.mem_filter.mp h).2⟩
/-- the slots of a heap's cells together -/
def am_sl (H : Heap) : Nat := (H.toList.map (·.slots.size)).sum
def am_A (g : AG) : Nat → Prop := fun q => gB g ≤ q
def am_e (g : AG) (e : AE) : va_E := match e with
  | .inl x => .inl (gT g x.1, x.2)
  | .inr o => .inr o
/-- pairs of exceptions that are not castable -/
def am_NC (s : State) : Prop := va_Nc "java/lang/IllegalArgumentException" "java/lang/IndexOutOfBoundsException" s ∧ va_Nc "java/lang/ArithmeticException" "java/lang/IndexOutOfBoundsException" s
/-- the old arrays: gT tells (from its place 9 on) of which type the array at a cell is -/
def am_OA (g : AG) (s : State) : Prop := ∀ q : Nat, q < gB g → ∀ (cell : Cell) (ty : FieldType), s.heap[q]? = some cell → am_ft[gT g (q + 9)]? = some ty → s.isArrayOf cell ty
/-- what is known of an old cell: it may be locked, and bear a hash -/
def am_old (g : AG) (q : Nat) (e : AE) (H : Heap) : Prop := ∃ cell : Cell, H[q]? = some cell ∧ cell.vm ≠ .unknown ∧ cell.vm.isStatics = false ∧ (match e with
  | .inl x => gT g (q + 9) = x.1 ∧ cell.slots = (vp_cell (gT g x.1) x.2).slots
  | .inr o => ∃ r : vw_C, am_cl[o.1]? = some r ∧ cell.cls = (gD g).1 o.1 ∧ ∀ k, k < r.2.2 → cell.slots[(gD g).2 o.1 k]? = some (vp_V o.2 k))
def am_at (g : AG) (q : Nat) (e : AE) (H : Heap) : Prop := (gB g ≤ q → va_at (gD g) am_cl (q, am_e g e) H) ∧ (q < gB g → am_old g q e H)
/-- what holds of a state's tables and of what lies below the first free address -/
def SF (g : AG) (s : State) : Prop := va_K (gD g) am_cl (am_ty g) s ∧ (∀ (k : Nat) (q : String × String × String), am_st[k]? = some q → va_Z q.1 q.2.1 q.2.2 (gV g k) (am_A g) s s.heap) ∧ (∀ (k : Nat) (q : String × Nat × String), am_tx[k]? = some q → vk_R q.1 q.2.1 q.2.2 (gS g k) s) ∧
  vx_Zq Bundle.tN "UNASSIGNED_STACK" Bundle.steD (am_A g) s s.heap ∧ vx_Zq Bundle.tN "SUPPRESSED_SENTINEL" Bundle.listD (am_A g) s s.heap ∧ gB g ≤ s.heap.size ∧ (∀ w ∈ am_nw, va_Nw w s) ∧ (∀ C ∈ am_oc, va_AO C s) ∧ am_NC s ∧ am_OA g s
/-- what the heap holds -/
def HC (g : AG) (h : AH) (H : Heap) : Prop := (∀ (q : Nat) (e : AE), h.1 q = some e → am_at g q e H) ∧ H.size = h.2.1 ∧ h.2.1 + h.2.2.1 ≤ gC g ∧ am_sl H + h.2.2.2 ≤ gZ g
/-- the locals -/
def LR (ls : Array Slot) (n : Nat) (L : List (Option Value)) : Prop := ls.size = n ∧ lv_wf ls ∧ ∀ (k : Nat) (v : Value), L[k]? = some (some v) → ls[k]? = some (.val v)
def okM (M : AM) : Prop := (∀ r ∈ mR M, decode (mB M) r.1 = .ok r.2) ∧ plainName (mY M).cls = true ∧ ((mY M).cls ≠ "java/lang/invoke/MethodHandle" ∧ (mY M).cls ≠ "java/lang/invoke/VarHandle" ∧ (parseMethodDescriptor (mY M).desc).map (fun d => d.parameters.length) = some (mN M)) ∧
  (Cond.initialized (mY M).cls ∈ am_tb) ∧ ((mH M = [] ∧ Cond.code (mY M) (mB M) (mL M) (mT M) ∈ am_tb) ∨ Cond.codeWith (mY M) (mB M) (mL M) (mT M) (mH M) ∈ am_tb)
/-- the instructions stand in the bytes -/
def okD (M : AM) : Prop := ∀ r ∈ mR M, decode (mB M) r.1 = .ok r.2
/-- the method's frame stands in a state -/
def Cx (g : AG) (M : AM) (p : Program) (s : State) (m : MethodId) (args : Array Value) (meth : Method) (c : Code) : Prop :=
  p.tables.exec = Jvm.exec ∧ c.code = mB M ∧ c.maxLocals = mL M ∧ meth.sig.returnType = mT M ∧ meth.locks = false ∧ s.vm.findClass (mY M).cls = some m.cls ∧ (∀ w ∈ am_tb, w.before args s = true) ∧ meth.name = (mY M).name ∧ c.exceptionTable.toList = tableOf (mH M) ∧ okD M ∧ (gL g).stackTraces = false
def am_R (g : AG) (M : AM) (s : State) : Room := { frames := mD M, cells := gC g - s.heap.size, slots := gZ g - am_sl s.heap, locals := mW M }
def am_Q (g : AG) (Q : AO → AH → Prop) : Array Value → State → Outcome → State → Prop := fun _ st o t => (∃ (v : Option Value) (h : AH), o = .returned v ∧ Q (.ok v) h ∧ HC g h t.heap) ∧ va_F (am_A g) st t
def am_X (g : AG) (Q : AO → AH → Prop) : String → State → State → Prop := fun E st t => (∃ (k : Nat) (h : AH), am_ex k = E ∧ Q (.error k) h ∧ HC g h t.heap) ∧ va_F (am_A g) st t
/-- from the frame at pc with locals L and stack S, over the heap h, the machine comes to the method's end, where Q holds of the outcome and of the heap -/
def AW (g : AG) (M : AM) (pc : Nat) (L : List (Option Value)) (S : List Value) (h : AH) (Q : AO → AH → Prop) : Prop :=
  ∀ (p : Program) (e : Env) (s : State) (m : MethodId) (args : Array Value) (below : List Frame) (meth : Method) (c : Code) (H : Heap) (locs : List Loc) (cells slots : Nat) (ls : Array Slot),
    Cx g M p s m args meth c → SF g s → HC g h H → va_S (am_A g) s.heap H locs → LR ls (mL M) L →
    W p (gL g) e (am_R g M s) s m args below meth c H locs cells slots (vx_MQ below (am_Q g Q) (am_X g Q) args s (am_R g M s).cells (am_R g M s).slots (am_A g)) (F0 m pc ls S)
