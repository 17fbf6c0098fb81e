/-! ===== THE ABSTRACT MACHINE: THROWS ===== -/
theorem am_same_sl {s U : State} {L : List Loc} {n k : Nat} (h : s.sameButNew ({ U with vm := s.vm } : State) L n k) : U.heap.size ≤ s.heap.size + n ∧ am_sl U.heap ≤ am_sl s.heap + k := by
  obtain ⟨h1, h2, h3, h4, h5, h6⟩ := h
  change s.heap.size ≤ U.heap.size at h2
  have hsum : am_sl U.heap = am_sl s.heap + ((U.heap.toList.drop s.heap.size).map (·.slots.size)).sum := by
    unfold am_sl
    conv => lhs; rw [← List.take_append_drop s.heap.size U.heap.toList, List.map_append, List.sum_append]
    congr 2
    apply List.ext_getElem?
    intro q
    rw [List.getElem?_map, List.getElem?_map, List.getElem?_take, Array.getElem?_toList, Array.getElem?_toList]
    cases hc : s.heap[q]? with
    | none =>
      have h1 : s.heap.size ≤ q := Array.getElem?_eq_none_iff.mp hc
      rw [if_neg (by omega)]
    | some cl =>
      have hq := (Array.getElem?_eq_some_iff.mp hc).1
      obtain ⟨c', k1, -, k2, -⟩ := h6 q cl hc
      change U.heap[q]? = some c' at k1
      rw [if_pos hq, k1]
      simp [k2]
  exact ⟨h3, by rw [hsum]; exact Nat.add_le_add_left h5 _⟩
section AWT
variable {p : Program} {l : Launch} {e : Env} {R : Room} {s : State} {m : MethodId} {args : Array Value} {below : List Frame} {meth : Method} {c : Code} {H : Heap} {locs : List Loc} {cells slots : Nat} {Q : State → Prop}
variable {mc ms : Nat} {free : Addr → Prop} {A0 A1 : Nat → Prop} {H0 : Heap} {a : Array Value} {ls : Array Slot} {st0 rest : List Value}
variable {Qc : Array Value → State → Outcome → State → Prop} {XC : String → State → State → Prop}
theorem am_throwSW {cc : ByteArray} {pc : Nat} (hexec : p.tables.exec = Jvm.exec) (hb : c.code = cc) (hl : l.stackTraces = false) {own cls text : String} {names : List String} {ik is ic mc ms sa : Nat} {A : Nat → Prop}
    (hown : s.vm.findClass own = some m.cls) (hcls : Bundle.fit cls = true) (hnames : ∀ n ∈ names, Bundle.fit n = true)
    (hk : (Cond.classLink own ik cls).before args s = true) (hini : (Cond.initialized cls).before args s = true) (hstr : vk_R own is text sa s) (hat : ∀ w ∈ vx_atS own ic cls names, w.before args s = true)
    (hgood : ∀ w ∈ Cond.classLink own ik cls :: Cond.initialized cls :: vx_atS own ic cls names, vx_ot w = true)
    (hU : vx_Zq Bundle.tN "UNASSIGNED_STACK" Bundle.steD A s s.heap) (hN : vx_Zq Bundle.tN "SUPPRESSED_SENTINEL" Bundle.listD A s s.heap) (hS : va_S A s.heap H locs) (hsize : ls.size = c.maxLocals)
    (d0 : decode cc pc = .ok (.new ik, 3)) (d3 : decode cc (pc + 3) = .ok (.dup, 1)) (d4 : decode cc (pc + 4) = .ok (.ldc_w is, 3)) (d7 : decode cc (pc + 7) = .ok (.invokespecial ic, 3)) (d10 : decode cc (pc + 10) = .ok (.athrow, 1))
    (hout : ∀ x ∈ c.exceptionTable.toList, covers x (pc + 10) = false)
    (hRframes : names.length + 3 < R.frames) (hRlocals : (rest.map fun v => v.category).sum + (13 * (names.length + 1) + 43) ≤ R.locals) (hRcells : cells + 1 ≤ R.cells) (hRslots : slots + 6 ≤ R.slots) (hlocks : meth.locks = false)
    (hx : ∀ t : State, s.vm.Alike t.vm → H.size ≤ t.heap.size → (∀ q : Nat, q < H.size → t.heap[q]? = H[q]?) → t.heap.size ≤ H.size + 1 → am_sl t.heap ≤ am_sl H + 6 → XC cls s t)
    (hf : ∀ z ∈ locs, free z.base) (hc : cells + 1 ≤ mc) (hs : slots + 6 ≤ ms) :
    W p l e R s m args below meth c H locs cells slots (vx_MQ below Qc XC args s mc ms free) (F0 m pc ls rest) := by
  intro T hT X
  have htr : e.platform.stackTraces = false := (show e.platform.stackTraces = l.stackTraces by rw [X.admits.platform]).trans hl
  have Y := vx_rebase X (R' := { frames := R.frames, locals := R.locals, cells := 1, slots := 6 }) (Nat.le_refl _) (Nat.le_refl _) hRcells hRslots
  obtain ⟨s', hA⟩ : ∃ z, z = (T.setVm s.vm).setFrames (.invoking m args :: below) := ⟨_, rfl⟩
  rw [← hA] at Y
  have hvm : s'.vm = s.vm := by rw [hA]; rfl
  have hhp : s'.heap = H := by rw [hA]; exact hT
  have hW0 : s.WarmedH s'.vm := by rw [hvm]; exact State.WarmedH.refl s
  have hat' : ∀ w ∈ vx_atS own ic cls names, w.before args s' = true := fun w hw => vx_ot_at hW0 hvm.symm (hgood w (List.mem_cons_of_mem _ (List.mem_cons_of_mem _ hw))) (hat w hw)
  have hk' : (Cond.classLink own ik cls).before args s' = true := vx_ot_at hW0 hvm.symm (hgood _ List.mem_cons_self) hk
  have hini' : (Cond.initialized cls).before args s' = true := vx_ot_at hW0 hvm.symm (hgood _ (List.mem_cons_of_mem _ List.mem_cons_self)) hini
  have hU' : vx_Zq Bundle.tN "UNASSIGNED_STACK" Bundle.steD A s' s'.heap := by rw [hhp]; exact vx_Zq.moved hW0.alike (hU.kept hS.2.1)
  have hN' : vx_Zq Bundle.tN "SUPPRESSED_SENTINEL" Bundle.listD A s' s'.heap := by rw [hhp]; exact vx_Zq.moved hW0.alike (hN.kept hS.2.1)
  have h : ∀ w ∈ Bundle.ownAtoms own ic cls names, w.before args s' = true := vx_own hat' (vx_isRefq hU'.1) (vx_isRefq hN'.1) hU'.2.word hN'.2.word
  have hown' : s'.vm.findClass own = some m.cls := by rw [hvm]; exact hown
  have hins : (Cond.instantiable cls 6).before args s' = true := h _ (by simp [Bundle.ownAtoms])
  obtain ⟨vm₁, cX, kX, hfX, hkX, -, -, X₁, st1⟩ := Y.newCold hexec (own := own) (C := cls) (index := ik) (n := 6) hown' hk' hins hini'
    (g := F0 m pc ls rest) rfl (by rw [hb]; exact d0) (Nat.le_refl _) (Nat.le_refl _)
  generalize hT1 : (T.setVm vm₁).pushCell { cls := cX, slots := kX.instanceTypes.map defaultValue, vm := .none } = T1 at X₁ st1
  have hcat : (Value.ref T.heap.size).category = 1 := rfl
  have hcellA : T1.heap[T.heap.size]? = some (freshCell cX kX) := by rw [← hT1]; exact State.heap_pushCell_size _ _
  have d3' : decode c.code (pc + 3) = .ok (.dup, 1) := by rw [hb]; exact d3
  have d4' : decode c.code (pc + 4) = .ok (.ldc_w is, 3) := by rw [hb]; exact d4
  have hstr' : vk_R own is text sa s' := vk_R.warm hW0 hstr
  obtain ⟨U, hsteps, hrun, hend, hW, hsame, ce, hce, hO⟩ := X₁.ctorThrowS hexec htr (own := own) (cls := cls) (names := names) (ic := ic) hown' hcls hnames h (fun x hx => nomatch hx) hfX hkX hcellA (by rw [hhp, hT]; exact Nat.le_refl _) (msg := .ref sa) rfl
    (g := { method := m, pc := pc + 7, locals := ls, stack := .ref sa :: .ref T.heap.size :: .ref T.heap.size :: rest, locked := none }) rfl hsize rfl rfl (rest := rest) rfl
    (by rw [hb]; exact d7) (by rw [hb]; exact d10) hout hRframes (by simp only [List.map_cons, List.sum_cons, hcat]; omega) hlocks
  obtain ⟨f1, f2⟩ := vx_frame hsame
  obtain ⟨f3, f4⟩ := am_same_sl hsame
  rw [hhp] at f1 f2 f3 f4
  have hWs : s.WarmedH U.vm := State.WarmedH.trans hW0 hW
  have hcl : s.vm.findClass cls = some ce.cls := by
    have h9 := hO.cls
    rw [hvm] at h9
    exact h9
  have hall : s.sameButNew ({ U with vm := s.vm } : State) locs mc ms := by
    subst hA
    obtain ⟨e1, e2⟩ := hsame
    rw [State.setFrames_setFrames] at e1
    have h2 : (T.setVm s.vm).sameButNew ({ U with vm := s.vm } : State) [] (0 + 1) (0 + 6) := ⟨e1, e2⟩
    have h3 := X.same.trans h2
    rw [List.append_nil] at h3
    exact h3.mono hc hs
  refine ⟨U, ?_, .threw T.heap.size, hrun, hend, Or.inr ⟨T.heap.size, rfl, cls, ce, locs, hx U hWs.alike f1 (fun q hq => f2 q hq (fun z hz => nomatch hz)) f3 f4, hce, hO.vm, hcl, hWs, hall, hf⟩⟩
  refine st1 _ ?_
  show Steps p.tables e below (T1.setTop { method := m, pc := pc + 3, locals := ls, stack := .ref T.heap.size :: rest, locked := none }) _
  jvm_step X₁.here [X₁.here.top, hexec, d3', Value.category]
  exact X₁.ldcStringW hexec (own := own) (text := text) (index := is) (a := sa) hown' hstr'.1 hstr'.2
    (g := { method := m, pc := pc + 4, locals := ls, stack := .ref T.heap.size :: .ref T.heap.size :: rest, locked := none }) rfl d4' _ hsteps
end AWT
section AWU
variable {g : AG} {M : AM} {pc : Nat} {L : List (Option Value)} {S : List Value} {h : AH} {Q : AO → AH → Prop}
theorem AW.throwSW {k ik is ic nt : Nat} {cls text : String} {names : List String} (r0 : (pc, Instr.new ik, 3) ∈ mR M) (r3 : (pc + 3, Instr.dup, 1) ∈ mR M) (r4 : (pc + 4, Instr.ldc_w is, 3) ∈ mR M) (r7 : (pc + 7, Instr.invokespecial ic, 3) ∈ mR M) (r10 : (pc + 10, Instr.athrow, 1) ∈ mR M)
    (hh : mH M = []) (hE : am_ex k = cls) (hcls : Bundle.fit cls = true) (hnames : ∀ n ∈ names, Bundle.fit n = true) (hk : Cond.classLink (mY M).cls ik cls ∈ am_tb) (hini : Cond.initialized cls ∈ am_tb) (htx : am_tx[nt]? = some ((mY M).cls, is, text))
    (hat : ∀ w ∈ (vx_atS (mY M).cls ic cls names).filter goodWord, w ∈ am_tb) (hat2 : ∀ w ∈ (vx_atS (mY M).cls ic cls names).filter (fun w => !goodWord w), w ∈ am_nw) (hgd : ∀ w ∈ Cond.classLink (mY M).cls ik cls :: Cond.initialized cls :: vx_atS (mY M).cls ic cls names, vx_ot w = true)
    (hrm : (Nat.ble (names.length + 4) (mD M) && Nat.ble ((S.map fun v => v.category).sum + (13 * (names.length + 1) + 43)) (mW M)) = true) (hrc : 1 ≤ h.2.2.1) (hrs : 6 ≤ h.2.2.2)
    (hq : ∀ z, h.2.1 ≤ z → z ≤ h.2.1 + 1 → Q (.error k) (h.1, z, h.2.2.1 - 1, h.2.2.2 - 6)) : AW g M pc L S h Q := by
  subst hE
  intro p e s m args below meth c H locs cells slots ls hC hF hH hS hL
  obtain ⟨hx, hbb, hml, hret, hlk2, hown, hts, hmn, het, hok, hstk⟩ := id hC
  rw [Bool.and_eq_true] at hrm
  have j1 := Nat.le_of_ble_eq_true hrm.1
  have j2 := Nat.le_of_ble_eq_true hrm.2
  obtain ⟨hz0, hz1, hz2, hz3⟩ := id hH
  refine W_tight fun n1 k1 hn1 hk1 => ?_
  refine am_throwSW (A := am_A g) hx hbb hstk hown hcls hnames (hts _ hk) (hts _ hini) (hF.2.2.1 _ _ htx) (vx_hat (fun w hw => hts w (hat w hw)) hat2 (fun w hw => va_Nw.use (am_nwT w hw) (hF.2.2.2.2.2.2.1 w hw))) hgd hF.2.2.2.1 hF.2.2.2.2.1 hS (hL.1.trans hml.symm) (am_dec hok r0) (am_dec hok r3) (am_dec hok r4) (am_dec hok r7) (am_dec hok r10) ?_ (by show names.length + 3 < mD M; omega) j2 (by show n1 + 1 ≤ gC g - s.heap.size; omega) (by show k1 + 6 ≤ gZ g - am_sl s.heap; omega) hlk2 ?_ hS.2.2 (by show n1 + 1 ≤ gC g - s.heap.size; omega) (by show k1 + 6 ≤ gZ g - am_sl s.heap; omega)
  · intro x hx
    rw [het, hh] at hx
    cases hx
  · intro t ha q1 q2 q3 q4
    refine ⟨⟨k, (h.1, t.heap.size, h.2.2.1 - 1, h.2.2.2 - 6), rfl, hq t.heap.size (by omega) (by omega), fun q e he => ?_, rfl, by show t.heap.size + (h.2.2.1 - 1) ≤ gC g; omega, by show am_sl t.heap + (h.2.2.2 - 6) ≤ gZ g; omega⟩, ⟨Nat.le_trans hS.1 q1, fun q h1 h2 => ?_⟩⟩
    · have hlt := hH.lt he
      exact am_at.kept (hz0 q e he) (q2 q (by rw [hz1]; exact hlt))
    · rw [q2 q (Nat.lt_of_lt_of_le h1 hS.1)]
      exact hS.2.1 q h1 h2
/-- caught by the only row, or the first, of the table -/
theorem AX.catch {k : Nat} {E : String} (pre : List ExceptionTableEntry) (x : ExceptionTableEntry) (suf : List ExceptionTableEntry) (hsplit : tableOf (mH M) = pre ++ x :: suf)
    (hpass : ∀ z ∈ pre, covers z pc = false) (hx : covers x pc = true) (h0 : x.catchType ≠ 0) (hlink : Cond.classLink (mY M).cls x.catchType E ∈ am_tb) (hcast : Cond.castable (am_ex k) E ∈ am_nw)
    (kk : ∀ q9 : Nat, AW g M x.handlerPc L [.ref q9] h Q) : AX g M pc L S k h Q := by
  intro p e s m args below meth c H locs cells slots ls q9 ce hC hF hH hS hL hce hcv hcl
  obtain ⟨hx1, hbb, hml, hret, hlk2, hown, hts, hmn, het, hok, hstk⟩ := id hC
  exact vx_catch hown pre x suf (het.trans hsplit) (fun z hz => Or.inl (hpass z hz)) hx h0 (hts _ hlink) (va_Nw.use rfl (hF.2.2.2.2.2.2.1 _ hcast)) hce hcv hcl (kk q9 p e s m args below meth c H locs cells slots ls hC hF hH hS hL)
end AWU
theorem wsL_law_x1 : ∀ w ∈ (vx_atS RX9 395 "java/lang/IndexOutOfBoundsException" ["java/lang/RuntimeException", "java/lang/Exception"]).filter goodWord, w ∈ lw_tbl := by decide +kernel
theorem wsL_law_x2 : ∀ w ∈ (vx_atS RX9 400 "java/lang/IllegalArgumentException" ["java/lang/RuntimeException", "java/lang/Exception"]).filter goodWord, w ∈ lw_tbl := by decide +kernel
theorem wsL_law_x3 : ∀ w ∈ (vx_atS RX9 388 "java/lang/ArithmeticException" ["java/lang/RuntimeException", "java/lang/Exception"]).filter goodWord, w ∈ lw_tbl := by decide +kernel
theorem am_two : ∀ w ∈ vx_atS RX9 395 "java/lang/IndexOutOfBoundsException" ["java/lang/RuntimeException", "java/lang/Exception"], vx_ot w = true := by decide +kernel
theorem am_twi : ∀ w ∈ (vx_atS RX9 395 "java/lang/IndexOutOfBoundsException" ["java/lang/RuntimeException", "java/lang/Exception"]).filter goodWord, w ∈ am_tb := by
  intro w hw
  exact List.mem_filter.mpr ⟨wsL_law_x1 w hw, (List.mem_filter.mp hw).2⟩
theorem am_twn : ∀ w ∈ (vx_atS RX9 395 "java/lang/IndexOutOfBoundsException" ["java/lang/RuntimeException", "java/lang/Exception"]).filter (fun w => !goodWord w), w ∈ am_nw := by decide +kernel
theorem am_tao : ∀ w ∈ vx_atS RX9 400 "java/lang/IllegalArgumentException" ["java/lang/RuntimeException", "java/lang/Exception"], vx_ot w = true := by decide +kernel
theorem am_tai : ∀ w ∈ (vx_atS RX9 400 "java/lang/IllegalArgumentException" ["java/lang/RuntimeException", "java/lang/Exception"]).filter goodWord, w ∈ am_tb := by
  intro w hw
  exact List.mem_filter.mpr ⟨wsL_law_x2 w hw, (List.mem_filter.mp hw).2⟩
theorem am_tan : ∀ w ∈ (vx_atS RX9 400 "java/lang/IllegalArgumentException" ["java/lang/RuntimeException", "java/lang/Exception"]).filter (fun w => !goodWord w), w ∈ am_nw := by decide +kernel
theorem am_tro : ∀ w ∈ vx_atS RX9 388 "java/lang/ArithmeticException" ["java/lang/RuntimeException", "java/lang/Exception"], vx_ot w = true := by decide +kernel
theorem am_tri : ∀ w ∈ (vx_atS RX9 388 "java/lang/ArithmeticException" ["java/lang/RuntimeException", "java/lang/Exception"]).filter goodWord, w ∈ am_tb := by
  intro w hw
  exact List.mem_filter.mpr ⟨wsL_law_x3 w hw, (List.mem_filter.mp hw).2⟩
theorem am_trn : ∀ w ∈ (vx_atS RX9 388 "java/lang/ArithmeticException" ["java/lang/RuntimeException", "java/lang/Exception"]).filter (fun w => !goodWord w), w ∈ am_nw := by decide +kernel
