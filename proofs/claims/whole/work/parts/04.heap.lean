/-! ===== THE HEAP'S ROWS OF THE ABSTRACT MACHINE ===== -/
/-- a cell's new contents -/
def upA (f : Nat → Option AE) (a : Nat) (e : AE) : Nat → Option AE := fun q => if q = a then some e else f q
theorem upA_s {f : Nat → Option AE} {a : Nat} {e : AE} : upA f a e a = some e := by unfold upA; rw [if_pos rfl]
theorem upA_n {f : Nat → Option AE} {a q : Nat} {e : AE} (h : q ≠ a) : upA f a e q = f q := by unfold upA; rw [if_neg h]
def hU (h : AH) (a : Nat) (e : AE) : AH := (upA h.1 a e, h.2)
/-- a new cell of k slots -/
def hN (h : AH) (k : Nat) (e : AE) : AH := (upA h.1 h.2.1 e, h.2.1 + 1, h.2.2.1 - 1, h.2.2.2 - k)
theorem am_sl_eq {H H1 : Heap} (z : H1.size = H.size) (h : ∀ (q : Nat) (c : Cell), H[q]? = some c → ∃ c', H1[q]? = some c' ∧ c'.slots.size = c.slots.size) : am_sl H1 = am_sl H := by
  unfold am_sl
  congr 1
  apply List.ext_getElem?
  intro q
  rw [List.getElem?_map, List.getElem?_map, Array.getElem?_toList, Array.getElem?_toList]
  cases hc : H[q]? with
  | none =>
    have h1 : H.size ≤ q := Array.getElem?_eq_none_iff.mp hc
    rw [Array.getElem?_eq_none (by omega)]
  | some c =>
    obtain ⟨c', h1, h2⟩ := h q c hc
    rw [h1]
    simp [h2]
theorem am_sl_push (H : Heap) (c : Cell) : am_sl (H.push c) = am_sl H + c.slots.size := by
  unfold am_sl
  rw [Array.toList_push, List.map_append, List.sum_append]
  simp
theorem am_setSlot (c : Cell) (k : Nat) (v : Value) : (c.setSlot k v).slots.size = c.slots.size := by simp [Cell.setSlot]
theorem am_at.lt {g : AG} {q : Nat} {e : AE} {H : Heap} (h : am_at g q e H) : q < H.size := by
  by_cases hq : gB g ≤ q
  · exact va_at.lt (h.1 hq)
  · obtain ⟨cell, h1, -⟩ := h.2 (Nat.lt_of_not_le hq)
    exact (Array.getElem?_eq_some_iff.mp h1).1
theorem am_at.kept {g : AG} {q : Nat} {e : AE} {H H1 : Heap} (h : am_at g q e H) (hq : H1[q]? = H[q]?) : am_at g q e H1 := by
  refine ⟨fun hb => va_at.kept (h.1 hb) hq, fun hb => ?_⟩
  obtain ⟨cell, h1, h2⟩ := h.2 hb
  exact ⟨cell, by rw [hq]; exact h1, h2⟩
theorem am_at.new {g : AG} {q : Nat} {e : AE} {H : Heap} (hb : gB g ≤ q) (h : va_at (gD g) am_cl (q, am_e g e) H) : am_at g q e H := ⟨fun _ => h, fun h2 => absurd hb (Nat.not_le.mpr h2)⟩
theorem am_ty_get {g : AG} {t : Nat} {ty : FieldType} (h : am_ft[t]? = some ty) : (am_ty g)[t]? = some (gT g t, ty) := by
  have ht : t < 9 := (List.getElem?_eq_some_iff.mp h).1
  have h2 : t = 0 ∨ t = 1 ∨ t = 2 ∨ t = 3 ∨ t = 4 ∨ t = 5 ∨ t = 6 ∨ t = 7 ∨ t = 8 := by omega
  rcases h2 with rfl | rfl | rfl | rfl | rfl | rfl | rfl | rfl | rfl <;> (cases h; rfl)
theorem vp_cellT (cA : ClassId) (x : vp_A) : ∃ z : Nat → Value, vp_cell cA x = arrV cA x.1 z := by
  obtain ⟨n, f | f | f | f | f⟩ := x
  · exact ⟨_, vp_cell_i cA n f⟩
  · exact ⟨_, vp_cell_l cA n f⟩
  · exact ⟨_, vp_cell_f cA n f⟩
  · exact ⟨_, vp_cell_d cA n f⟩
  · exact ⟨_, vp_cell_q cA n f⟩
/-- an array that is known, be it old or new -/
theorem HC.arr {g : AG} {h : AH} {H : Heap} {s : State} {locs : List Loc} {a t : Nat} {x : vp_A} {ty : FieldType} (hH : HC g h H) (hF : SF g s) (hS : va_S (am_A g) s.heap H locs) (ht : am_ft[t]? = some ty) (ha : h.1 a = some (.inl (t, x))) :
    ∃ cell : Cell, H[a]? = some cell ∧ s.isArrayOf cell ty ∧ cell.vm ≠ .unknown ∧ cell.slots = (vp_cell (gT g t) x).slots := by
  have hat := hH.1 a _ ha
  by_cases hq : gB g ≤ a
  · have h1 : H[a]? = some (vp_cell (gT g t) x) := hat.1 hq
    obtain ⟨z, hz⟩ := vp_cellT (gT g t) x
    refine ⟨_, h1, ?_, ?_, rfl⟩
    · rw [hz]
      exact (hF.1.2 t _ (am_ty_get ht)).1 _ z
    · rw [hz]
      exact fun q => by cases q
  · have hq2 : a < gB g := Nat.lt_of_not_le hq
    obtain ⟨cell, h1, h2, h3, h4, h5⟩ := hat.2 hq2
    change gT g (a + 9) = t at h4
    refine ⟨cell, h1, ?_, h2, h5⟩
    refine hF.2.2.2.2.2.2.2.2.2 a hq2 cell ty ?_ (by rw [h4]; exact ht)
    rw [← hS.2.1 a (Nat.lt_of_lt_of_le hq2 hF.2.2.2.2.2.1) hq]
    exact h1
/-- an object that is known -/
theorem HC.obj {g : AG} {h : AH} {H : Heap} {a ci : Nat} {fs : List Value} (hH : HC g h H) (ha : h.1 a = some (.inr (ci, fs))) :
    ∃ (r : vw_C) (cell : Cell), am_cl[ci]? = some r ∧ H[a]? = some cell ∧ cell.cls = (gD g).1 ci ∧ cell.vm ≠ .unknown ∧ cell.vm.isStatics = false ∧ ∀ k, k < r.2.2 → cell.slots[(gD g).2 ci k]? = some (vp_V fs k) := by
  have hat := hH.1 a _ ha
  by_cases hq : gB g ≤ a
  · obtain ⟨r, h1, cell, q1, q2, q3, q4⟩ := hat.1 hq
    exact ⟨r, cell, h1, q1, q2, (by rw [q3]; exact fun z => nomatch z), (by rw [q3]; rfl), q4⟩
  · obtain ⟨cell, h1, h2, h3, r, h4, h5, h6⟩ := hat.2 (Nat.lt_of_not_le hq)
    exact ⟨r, cell, h4, h1, h5, h2, h3, h6⟩
theorem HC.lt {g : AG} {h : AH} {H : Heap} (hc : HC g h H) {q : Nat} {e : AE} (he : h.1 q = some e) : q < h.2.1 := by
  rw [← hc.2.1]
  exact am_at.lt (hc.1 q e he)
theorem HC.put {g : AG} {h : AH} {H H1 : Heap} {a : Nat} {e' : AE} {cell cell' : Cell} (hc : HC g h H) (z : H1.size = H.size) (oq : ∀ q : Nat, q ≠ a → H1[q]? = H[q]?) (hcell : H[a]? = some cell) (e1 : H1[a]? = some cell') (hs : cell'.slots.size = cell.slots.size) (hA : gB g ≤ a) (hat : va_at (gD g) am_cl (a, am_e g e') H1) : HC g (hU h a e') H1 := by
  obtain ⟨h1, h2, h3, h4⟩ := hc
  refine ⟨fun q e he => ?_, z.trans h2, h3, ?_⟩
  · by_cases hq : q = a
    · subst hq
      change upA h.1 q e' q = some e at he
      rw [upA_s] at he
      cases he
      exact am_at.new hA hat
    · change upA h.1 a e' q = some e at he
      rw [upA_n hq] at he
      exact am_at.kept (h1 q e he) (oq q hq)
  · rw [am_sl_eq z (fun q c hq => ?_)]
    · exact h4
    · by_cases ha : q = a
      · subst ha
        cases hcell.symm.trans hq
        exact ⟨_, e1, hs⟩
      · exact ⟨c, (oq q ha).trans hq, rfl⟩
theorem HC.push {g : AG} {h : AH} {H : Heap} {e' : AE} {cell : Cell} {k : Nat} (hc : HC g h H) (hk : cell.slots.size = k) (hr : 1 ≤ h.2.2.1) (hz : k ≤ h.2.2.2) (hB : gB g ≤ H.size) (hat : va_at (gD g) am_cl (H.size, am_e g e') (H.push cell)) : HC g (hN h k e') (H.push cell) := by
  have hlt := fun q e (he : h.1 q = some e) => hc.lt he
  obtain ⟨h1, h2, h3, h4⟩ := hc
  refine ⟨fun q e he => ?_, by show _ = h.2.1 + 1; rw [Array.size_push, h2], by show h.2.1 + 1 + (h.2.2.1 - 1) ≤ _; omega, by show am_sl _ + (h.2.2.2 - k) ≤ _; rw [am_sl_push]; omega⟩
  by_cases hq : q = h.2.1
  · subst hq
    change upA h.1 h.2.1 e' h.2.1 = some e at he
    rw [upA_s] at he
    cases he
    rw [h2] at hat hB
    exact am_at.new hB hat
  · change upA h.1 h.2.1 e' q = some e at he
    rw [upA_n hq] at he
    have := hlt q e he
    refine am_at.kept (h1 q e he) ?_
    show (H.push cell)[q]? = H[q]?
    rw [Array.getElem?_push, if_neg (by omega)]
theorem am_S_push {A : Nat → Prop} {H0 H : Heap} {locs : List Loc} {cell : Cell} (h : va_S A H0 H locs) : va_S A H0 (H.push cell) locs := by
  refine ⟨by rw [Array.size_push]; exact Nat.le_succ_of_le h.1, fun q h1 h2 => ?_, h.2.2⟩
  have hl := h.1
  rw [Array.getElem?_push, if_neg (by omega)]
  exact h.2.1 q h1 h2
/-- the cells and slots that a frame has used, exactly -/
theorem stand_tight {p : Program} {l : Launch} {e : Env} {R : Room} {s : State} {m : MethodId} {args : Array Value} {below : List Frame} {meth : Method} {c : Code} {locs : List Loc} {cells slots : Nat} {T : State} (X : Stand p l e R s m args below meth c T locs cells slots) :
    ∃ n k : Nat, T.heap.size = s.heap.size + n ∧ am_sl T.heap = am_sl s.heap + k ∧ Stand p l e R s m args below meth c T locs n k := by
  obtain ⟨h1, h2, h3, h4, h5, h6⟩ := X.same
  change s.heap.size ≤ T.heap.size at h2
  have hsum : am_sl T.heap = am_sl s.heap + ((T.heap.toList.drop s.heap.size).map (·.slots.size)).sum := by
    unfold am_sl
    conv => lhs; rw [← List.take_append_drop s.heap.size T.heap.toList, List.map_append, List.sum_append]
    congr 2
    apply List.ext_getElem?
    intro q
    rw [List.getElem?_map, List.getElem?_map, List.getElem?_take, Array.getElem?_toList, Array.getElem?_toList]
    cases hc : s.heap[q]? with
    | none =>
      have h1 : s.heap.size ≤ q := Array.getElem?_eq_none_iff.mp hc
      rw [if_neg (by omega)]
    | some cl =>
      have hq := (Array.getElem?_eq_some_iff.mp hc).1
      obtain ⟨c', k1, -, k2, -⟩ := h6 q cl hc
      change T.heap[q]? = some c' at k1
      rw [if_pos hq, k1]
      simp [k2]
  refine ⟨T.heap.size - s.heap.size, ((T.heap.toList.drop s.heap.size).map (·.slots.size)).sum, by omega, hsum, { X with same := ⟨h1, h2, ?_, h4, Nat.le_refl _, h6⟩ }⟩
  show T.heap.size ≤ s.heap.size + (T.heap.size - s.heap.size)
  omega
theorem W_tight {p : Program} {l : Launch} {e : Env} {R : Room} {s : State} {m : MethodId} {args : Array Value} {below : List Frame} {meth : Method} {c : Code} {H : Heap} {locs : List Loc} {cells slots : Nat} {Q : State → Prop} {g : JFrame}
    (kk : ∀ n k : Nat, H.size = s.heap.size + n → am_sl H = am_sl s.heap + k → W p l e R s m args below meth c H locs n k Q g) : W p l e R s m args below meth c H locs cells slots Q g := by
  intro T hT X
  obtain ⟨n, k, h1, h2, X'⟩ := stand_tight X
  rw [hT] at h1 h2
  exact kk n k h1 h2 T hT X'
/-- the same where something has been thrown -/
theorem vxW_tight {p : Program} {l : Launch} {e : Env} {R : Room} {s : State} {m : MethodId} {args : Array Value} {below : List Frame} {meth : Method} {c : Code} {H : Heap} {locs : List Loc} {cells slots : Nat} {Q : State → Prop} {g : JFrame} {q : Addr}
    (kk : ∀ n k : Nat, H.size = s.heap.size + n → am_sl H = am_sl s.heap + k → vx_W p l e R s m args below meth c H locs n k Q g q) : vx_W p l e R s m args below meth c H locs cells slots Q g q := by
  intro T hT X
  obtain ⟨n, k, h1, h2, X'⟩ := stand_tight X
  rw [hT] at h1 h2
  exact kk n k h1 h2 T hT X'
/-- a class: its place, name, fields, how many, their types -/
def am_Kl (ci : Nat) (C : String) (T : u_T) (N : Nat) (ty : Nat → FieldType) : Prop :=
  am_cl[ci]? = some (C, T, N) ∧ (∀ w ∈ u_ws C T N, w ∈ am_tb) ∧ (∀ k, k < N → parseFieldDescriptor (T k).2.2.1 = some (ty k)) ∧ (∀ a, a < N → ∀ b, b < N → a ≠ b → (T a).2.1 ≠ (T b).2.1)
section AWH
variable {g : AG} {M : AM} {pc nx : Nat} {L : List (Option Value)} {S : List Value} {h : AH} {Q : AO → AH → Prop}
/-- what is known of the heap -/
theorem AW.wf (k : (∀ (q : Nat) (e : AE), h.1 q = some e → q < h.2.1) → gB g ≤ h.2.1 → AW g M pc L S h Q) : AW g M pc L S h Q := by
  intro p e s m args below meth c H locs cells slots ls hC hF hH hS hL
  exact k (fun q e he => hH.lt he) (by rw [← hH.2.1]; exact Nat.le_trans hF.2.2.2.2.2.1 hS.1) p e s m args below meth c H locs cells slots ls hC hF hH hS hL
/-- what is known of the heap may be less, and the room smaller -/
theorem AW.lessH {h' : AH} (hl : ∀ (q : Nat) (e : AE), h'.1 q = some e → h.1 q = some e) (hz : h'.2.1 = h.2.1) (hr : h'.2.2.1 ≤ h.2.2.1) (hs : h'.2.2.2 ≤ h.2.2.2) (k : AW g M pc L S h' Q) : AW g M pc L S h Q := by
  intro p e s m args below meth c H locs cells slots ls hC hF hH hS hL
  obtain ⟨h1, h2, h3, h4⟩ := hH
  exact k p e s m args below meth c H locs cells slots ls hC hF ⟨fun q e he => h1 q e (hl q e he), h2.trans hz.symm, by omega, by omega⟩ hS hL
theorem AW.getf {ci N i k a : Nat} {C : String} {T : u_T} {ty : Nat → FieldType} {fs : List Value} {v : Value} (hr : (pc, Instr.getfield i, 3) ∈ mR M) (hn : pc + 3 = nx) (hc : am_Kl ci C T N ty) (hk : k < N) (hw : Cond.fieldLink (mY M).cls i (T k).1 (T k).2.1 (T k).2.2.1 ∈ am_tb) (ha : h.1 a = some (.inr (ci, fs))) (hv : fs[k]? = some v) (kk : AW g M nx L (v :: S) h Q) : AW g M pc L (.ref a :: S) h Q := by
  subst hn
  intro p e s m args below meth c H locs cells slots ls hC hF hH hS hL
  obtain ⟨hx, hb, hml, -, -, hown, hts, -, -, hok, -⟩ := id hC
  obtain ⟨r, cell, h1, q1, q2, q3, -, q4⟩ := hH.obj ha
  have hr2 : r = (C, T, N) := Option.some.inj (h1.symm.trans hc.1)
  subst hr2
  obtain ⟨hSl, hfc, kC, hkC, hkind⟩ := hF.1.1 ci _ hc.1
  obtain ⟨cf, kf, fi, f, hi, hsl⟩ := hSl k hk
  refine W.getf hx hb hown (hts _ hw) hi (u_facts hfc hkC (u_lays hts hc.2.1 hk) hi).1 q1 q3 (v := v) ?_ rfl rfl (am_dec hok hr) (kk p e s m args below meth c H locs cells slots ls hC hF hH hS hL)
  rw [hsl, q4 k hk]
  simp [vp_V, hv]
theorem AW.putf {ci N i k a : Nat} {C : String} {T : u_T} {ty : Nat → FieldType} {fs : List Value} {v : Value} (hr : (pc, Instr.putfield i, 3) ∈ mR M) (hn : pc + 3 = nx) (hc : am_Kl ci C T N ty) (hk : k < N) (hw : Cond.fieldLink (mY M).cls i (T k).1 (T k).2.1 (T k).2.2.1 ∈ am_tb) (hfin : (T k).2.2.2 = false ∨ ((mY M).name = "<init>" ∧ (T k).1 = (mY M).cls)) (ha : h.1 a = some (.inr (ci, fs))) (hA : gB g ≤ a) (hl : k < fs.length) (hnv : narrow (ty k) v = v) (hfit : fits (ty k) v = true) (kk : AW g M nx L S (hU h a (.inr (ci, fs.set k v))) Q) : AW g M pc L (v :: .ref a :: S) h Q := by
  subst hn
  intro p e s m args below meth c H locs cells slots ls hC hF hH hS hL
  obtain ⟨hx, hb, hml, -, -, hown, hts, hmn, -, hok, -⟩ := id hC
  obtain ⟨hc1, hin, hty, hnm⟩ := hc
  have hap := va_apart (own := (mY M).cls) hts hin ty hty hnm hF.1 hc1
  obtain ⟨r, h1, cell, q1, q2, q3, q4⟩ := (hH.1 a _ ha).1 hA
  have hr2 : r = (C, T, N) := Option.some.inj (h1.symm.trans hc1)
  subst hr2
  obtain ⟨hSl, hfc, kC, hkC, hkind⟩ := hF.1.1 ci _ hc1
  obtain ⟨cf, kf, fi, f, hi, hsl⟩ := hSl k hk
  have hst := (u_facts hfc hkC (u_lays hts hin hk) hi).1
  have KK : ∀ H' : Heap, H'[a]? = some (cell.setSlot f.slot v) → H'.size = H.size → (∀ q, q ≠ a → H'[q]? = H[q]?) → W p (gL g) e (am_R g M s) s m args below meth c H' (locs ++ [⟨a, f.slot⟩]) cells slots (vx_MQ below (am_Q g Q) (am_X g Q) args s (am_R g M s).cells (am_R g M s).slots (am_A g)) (F0 m (pc + 3) ls S) := by
    intro H' e1 e2 e3
    rw [hsl] at e1 ⊢
    refine kk p e s m args below meth c H' _ cells slots ls hC hF (hH.put e2 e3 q1 e1 (am_setSlot _ _ _) hA ⟨_, hc1, t_OB.to (V := updV (vp_V fs) k v) ⟨_, e1, q2, q3, t_set q4 hap hk v⟩ (fun j _ => vp_updV_set hl v j)⟩) (hS.put e2 e3 hA) hL
  have hhas : f.slot < cell.slots.size := by rw [hsl]; exact k2_hasslot (q4 k hk)
  by_cases hf : (T k).2.2.2 = false
  · have hlay := hts _ (hin _ (u_in_lay hk))
    unfold u_lay at hlay
    rw [if_neg (by rw [hf]; decide)] at hlay
    have h6 := u_store hfc hkC hkind hlay hi (hty k hk) hnv hfit
    exact W.putK hx hb (f := f) ⟨hown, hts _ hw, ⟨_, _, _, hi⟩, hst⟩ (by rw [q2]; exact h6) q1 q3 hhas rfl rfl (am_dec hok hr) KK
  · have hlay := hts _ (hin _ (u_in_lay hk))
    unfold u_lay at hlay
    rw [if_pos (by cases hz : (T k).2.2.2 <;> simp_all)] at hlay
    rcases hfin with h9 | ⟨h9, h10⟩
    · exact absurd h9 hf
    have hcf : m.cls = cf := by
      obtain ⟨_, _, c', _, _, _, -, -, hf', -, -, -, hown2, -⟩ := Cond.laysFinal_spec hlay
      have e1 : c' = cf := by have := hi.symm.trans hf'; simp at this; exact this.1.symm
      rw [h10] at hown2
      rw [← e1]; exact Option.some.inj (hown.symm.trans hown2)
    have h6 := u_fits hfc hkC hkind (Or.inr hlay) hi (hty k hk) hnv hfit
    exact W.putFinK hx hb hown (hts _ hw) hi hst hcf (hmn.trans h9) (by rw [q2]; exact h6) q1 q3 hhas rfl rfl (am_dec hok hr) KK
theorem AW.getst {i k : Nat} {C n d : String} (hr : (pc, Instr.getstatic i, 3) ∈ mR M) (hn : pc + 3 = nx) (hk : am_st[k]? = some (C, n, d)) (hw : Cond.fieldLink (mY M).cls i C n d ∈ am_tb) (kk : AW g M nx L (gV g k :: S) h Q) : AW g M pc L S h Q := by
  subst hn
  intro p e s m args below meth c H locs cells slots ls hC hF hH hS hL
  obtain ⟨hx, hb, hml, -, -, hown, hts, -, -, hok, -⟩ := id hC
  exact va_gets hx hb (hF.2.1 k _ hk) hS hown (hts _ hw) (fun x hx => hx) (am_dec hok hr) (kk p e s m args below meth c H locs cells slots ls hC hF hH hS hL)
theorem AW.getstN {i k : Nat} {C n d host : String} (hr : (pc, Instr.getstatic i, 3) ∈ mR M) (hn : pc + 3 = nx) (hk : am_st[k]? = some (C, n, d)) (hw : Cond.fieldLinkNest (mY M).cls i C n d host ∈ am_nw) (kk : AW g M nx L (gV g k :: S) h Q) : AW g M pc L S h Q := by
  subst hn
  intro p e s m args below meth c H locs cells slots ls hC hF hH hS hL
  obtain ⟨hx, hb, hml, -, -, hown, hts, -, -, hok, -⟩ := id hC
  exact va_getsN hx hb (hF.2.1 k _ hk) hS hown (va_Nw.use rfl (hF.2.2.2.2.2.2.1 _ hw)) (fun x hx => hx) (am_dec hok hr) (kk p e s m args below meth c H locs cells slots ls hC hF hH hS hL)
theorem AW.alen {t a : Nat} {x : vp_A} {ty : FieldType} {v : Int32} (hr : (pc, Instr.arraylength, 1) ∈ mR M) (hn : pc + 1 = nx) (ht : am_ft[t]? = some ty) (ha : h.1 a = some (.inl (t, x))) (hv : Int32.ofNat x.1 = v) (kk : AW g M nx L (.int v :: S) h Q) : AW g M pc L (.ref a :: S) h Q := by
  subst hn
  intro p e s m args below meth c H locs cells slots ls hC hF hH hS hL
  obtain ⟨hx, hb, hml, -, -, hown, hts, -, -, hok, -⟩ := id hC
  obtain ⟨cell, c1, c2, c3, c4⟩ := hH.arr hF hS ht ha
  obtain ⟨z, hz⟩ := vp_cellT (gT g t) x
  refine W.alen (n := v) hx hb c1 c2 (by rw [c4, hz, arrV_size]; exact hv) rfl rfl (am_dec hok hr) (kk p e s m args below meth c H locs cells slots ls hC hF hH hS hL)
theorem AW.iald {a n : Nat} {i : Int32} {f : Nat → Int32} {v : Value} (hr : (pc, Instr.iaload, 1) ∈ mR M) (hn : pc + 1 = nx) (ha : h.1 a = some (.inl (0, n, .inl f))) (hin : vp_in i n) (hv : Value.int (f i.toNatClampNeg) = v) (kk : AW g M nx L (v :: S) h Q) : AW g M pc L (.int i :: .ref a :: S) h Q := by
  subst hv
  subst hn
  intro p e s m args below meth c H locs cells slots ls hC hF hH hS hL
  obtain ⟨hx, hb, hml, -, -, hown, hts, -, -, hok, -⟩ := id hC
  have hlt : i.toNatClampNeg < n := Nat.not_le.mp fun q => hin (Or.inr q)
  obtain ⟨cell, c1, c2, c3, c4⟩ := hH.arr (ty := .int) hF hS rfl ha
  refine W.iald (v := .int (f i.toNatClampNeg)) hx hb c1 c2 c3 (by rw [c4]; show ¬ (i < 0 ∨ (arrV _ _ _).slots.size ≤ _); rw [arrV_size]; exact hin) (by rw [c4]; show (arrV _ _ _).slots[_]? = _; rw [arrV_read _ _ hlt]) rfl rfl (am_dec hok hr) (kk p e s m args below meth c H locs cells slots ls hC hF hH hS hL)
theorem AW.lald {a n : Nat} {i : Int32} {f : Nat → Int64} {v : Value} (hr : (pc, Instr.laload, 1) ∈ mR M) (hn : pc + 1 = nx) (ha : h.1 a = some (.inl (1, n, .inr (.inl f)))) (hin : vp_in i n) (hv : Value.long (f i.toNatClampNeg) = v) (kk : AW g M nx L (v :: S) h Q) : AW g M pc L (.int i :: .ref a :: S) h Q := by
  subst hv
  subst hn
  intro p e s m args below meth c H locs cells slots ls hC hF hH hS hL
  obtain ⟨hx, hb, hml, -, -, hown, hts, -, -, hok, -⟩ := id hC
  have hlt : i.toNatClampNeg < n := Nat.not_le.mp fun q => hin (Or.inr q)
  obtain ⟨cell, c1, c2, c3, c4⟩ := hH.arr (ty := .long) hF hS rfl ha
  refine W.lald (v := .long (f i.toNatClampNeg)) hx hb c1 c2 c3 (by rw [c4]; show ¬ (i < 0 ∨ (arrV _ _ _).slots.size ≤ _); rw [arrV_size]; exact hin) (by rw [c4]; show (arrV _ _ _).slots[_]? = _; rw [arrV_read _ _ hlt]) rfl rfl (am_dec hok hr) (kk p e s m args below meth c H locs cells slots ls hC hF hH hS hL)
theorem AW.bald {a n : Nat} {i : Int32} {f : Nat → Int32} {v : Value} (hr : (pc, Instr.baload, 1) ∈ mR M) (hn : pc + 1 = nx) (ha : h.1 a = some (.inl (3, n, .inl f))) (hin : vp_in i n) (hv : Value.int (f i.toNatClampNeg) = v) (kk : AW g M nx L (v :: S) h Q) : AW g M pc L (.int i :: .ref a :: S) h Q := by
  subst hv
  subst hn
  intro p e s m args below meth c H locs cells slots ls hC hF hH hS hL
  obtain ⟨hx, hb, hml, -, -, hown, hts, -, -, hok, -⟩ := id hC
  have hlt : i.toNatClampNeg < n := Nat.not_le.mp fun q => hin (Or.inr q)
  obtain ⟨cell, c1, c2, c3, c4⟩ := hH.arr (ty := .byte) hF hS rfl ha
  refine W.bald (v := .int (f i.toNatClampNeg)) hx hb c1 c2 c3 (by rw [c4]; show ¬ (i < 0 ∨ (arrV _ _ _).slots.size ≤ _); rw [arrV_size]; exact hin) (by rw [c4]; show (arrV _ _ _).slots[_]? = _; rw [arrV_read _ _ hlt]) rfl rfl (am_dec hok hr) (kk p e s m args below meth c H locs cells slots ls hC hF hH hS hL)
theorem AW.zald {a n : Nat} {i : Int32} {f : Nat → Int32} {v : Value} (hr : (pc, Instr.baload, 1) ∈ mR M) (hn : pc + 1 = nx) (ha : h.1 a = some (.inl (2, n, .inl f))) (hin : vp_in i n) (hv : Value.int (f i.toNatClampNeg) = v) (kk : AW g M nx L (v :: S) h Q) : AW g M pc L (.int i :: .ref a :: S) h Q := by
  subst hv
  subst hn
  intro p e s m args below meth c H locs cells slots ls hC hF hH hS hL
  obtain ⟨hx, hb, hml, -, -, hown, hts, -, -, hok, -⟩ := id hC
  have hlt : i.toNatClampNeg < n := Nat.not_le.mp fun q => hin (Or.inr q)
  obtain ⟨cell, c1, c2, c3, c4⟩ := hH.arr (ty := .boolean) hF hS rfl ha
  refine W.zald (v := .int (f i.toNatClampNeg)) hx hb c1 c2 c3 (by rw [c4]; show ¬ (i < 0 ∨ (arrV _ _ _).slots.size ≤ _); rw [arrV_size]; exact hin) (by rw [c4]; show (arrV _ _ _).slots[_]? = _; rw [arrV_read _ _ hlt]) rfl rfl (am_dec hok hr) (kk p e s m args below meth c H locs cells slots ls hC hF hH hS hL)
theorem AW.dald {a n : Nat} {i : Int32} {f : Nat → UInt64} {v : Value} (hr : (pc, Instr.daload, 1) ∈ mR M) (hn : pc + 1 = nx) (ha : h.1 a = some (.inl (4, n, .inr (.inr (.inr (.inl f)))))) (hin : vp_in i n) (hv : Value.double (f i.toNatClampNeg) = v) (kk : AW g M nx L (v :: S) h Q) : AW g M pc L (.int i :: .ref a :: S) h Q := by
  subst hv
  subst hn
  intro p e s m args below meth c H locs cells slots ls hC hF hH hS hL
  obtain ⟨hx, hb, hml, -, -, hown, hts, -, -, hok, -⟩ := id hC
  have hlt : i.toNatClampNeg < n := Nat.not_le.mp fun q => hin (Or.inr q)
  obtain ⟨cell, c1, c2, c3, c4⟩ := hH.arr (ty := .double) hF hS rfl ha
  refine W.dald (v := .double (f i.toNatClampNeg)) hx hb c1 c2 c3 (by rw [c4]; show ¬ (i < 0 ∨ (arrV _ _ _).slots.size ≤ _); rw [arrV_size]; exact hin) (by rw [c4]; show (arrV _ _ _).slots[_]? = _; rw [arrV_read _ _ hlt]) rfl rfl (am_dec hok hr) (kk p e s m args below meth c H locs cells slots ls hC hF hH hS hL)
theorem AW.aald {a n t : Nat} {i : Int32} {C : String} {f : Nat → Option Nat} {v : Value} (hr : (pc, Instr.aaload, 1) ∈ mR M) (hn : pc + 1 = nx) (ht : am_ft[t]? = some (.object C)) (ha : h.1 a = some (.inl (t, n, .inr (.inr (.inr (.inr f)))))) (hin : vp_in i n) (hv : va_rf (f i.toNatClampNeg) = v) (kk : AW g M nx L (v :: S) h Q) : AW g M pc L (.int i :: .ref a :: S) h Q := by
  subst hv
  subst hn
  intro p e s m args below meth c H locs cells slots ls hC hF hH hS hL
  obtain ⟨hx, hb, hml, -, -, hown, hts, -, -, hok, -⟩ := id hC
  have hlt : i.toNatClampNeg < n := Nat.not_le.mp fun q => hin (Or.inr q)
  obtain ⟨cell, c1, c2, c3, c4⟩ := hH.arr hF hS ht ha
  refine W.aald (v := va_rf (f i.toNatClampNeg)) (ty := .object C) hx hb c1 c2 rfl c3 (by rw [c4]; show ¬ (i < 0 ∨ (arrV _ _ _).slots.size ≤ _); rw [arrV_size]; exact hin) (by rw [c4]; show (arrV _ _ _).slots[_]? = _; rw [arrV_read _ _ hlt]) rfl rfl (am_dec hok hr) (kk p e s m args below meth c H locs cells slots ls hC hF hH hS hL)
theorem AW.iast {a n : Nat} {i : Int32} {f : Nat → Int32} {x : Int32} (hr : (pc, Instr.iastore, 1) ∈ mR M) (hn : pc + 1 = nx) (ha : h.1 a = some (.inl (0, n, .inl f))) (hA : gB g ≤ a) (hin : vp_in i n) (kk : AW g M nx L S (hU h a (.inl (0, n, .inl (upd f i.toNatClampNeg x)))) Q) : AW g M pc L (.int x :: .int i :: .ref a :: S) h Q := by
  subst hn
  intro p e s m args below meth c H locs cells slots ls hC hF hH hS hL
  obtain ⟨hx, hb, hml, -, -, hown, hts, -, -, hok, -⟩ := id hC
  have hcell := (hH.1 a _ ha).1 hA
  refine W.iast hx hb hcell ((hF.1.2 0 _ rfl).1 n (fun j => .int (f j))) (fun q => by cases q) (by show ¬ (i < 0 ∨ (arrV _ _ _).slots.size ≤ _); rw [arrV_size]; exact hin) rfl rfl (am_dec hok hr) fun H1 e z oq => ?_
  refine kk p _ s m args below meth c H1 _ cells slots ls hC hF (hH.put z oq hcell e (am_setSlot _ _ _) hA ?_) (hS.put z oq hA) hL
  show H1[a]? = some (vp_cell _ _)
  rw [e]
  show some ((arrV (gT g 0) n (fun j => Value.int (f j))).setSlot i.toNatClampNeg (Value.int x)) = some (arrV (gT g 0) n (fun j => Value.int (upd f i.toNatClampNeg x j)))
  rw [arrV_store]
  congr 2
  funext q
  by_cases hq : q = i.toNatClampNeg
  · subst hq
    simp [updV, upd]
  · simp [updV, upd, hq]
theorem AW.last {a n : Nat} {i : Int32} {f : Nat → Int64} {x : Int64} (hr : (pc, Instr.lastore, 1) ∈ mR M) (hn : pc + 1 = nx) (ha : h.1 a = some (.inl (1, n, .inr (.inl f)))) (hA : gB g ≤ a) (hin : vp_in i n) (kk : AW g M nx L S (hU h a (.inl (1, n, .inr (.inl (vp_updL f i.toNatClampNeg x))))) Q) : AW g M pc L (.long x :: .int i :: .ref a :: S) h Q := by
  subst hn
  intro p e s m args below meth c H locs cells slots ls hC hF hH hS hL
  obtain ⟨hx, hb, hml, -, -, hown, hts, -, -, hok, -⟩ := id hC
  have hcell := (hH.1 a _ ha).1 hA
  refine W.last hx hb hcell ((hF.1.2 1 _ rfl).1 n (fun j => .long (f j))) (fun q => by cases q) (by show ¬ (i < 0 ∨ (arrV _ _ _).slots.size ≤ _); rw [arrV_size]; exact hin) rfl rfl (am_dec hok hr) fun H1 e z oq => ?_
  refine kk p _ s m args below meth c H1 _ cells slots ls hC hF (hH.put z oq hcell e (am_setSlot _ _ _) hA ?_) (hS.put z oq hA) hL
  show H1[a]? = some (vp_cell _ _)
  rw [e]
  show some ((arrV (gT g 1) n (fun j => Value.long (f j))).setSlot i.toNatClampNeg (Value.long x)) = some (arrV (gT g 1) n (fun j => Value.long (vp_updL f i.toNatClampNeg x j)))
  rw [arrV_store]
  congr 2
  funext q
  by_cases hq : q = i.toNatClampNeg
  · subst hq
    simp [updV, vp_updL]
  · simp [updV, vp_updL, hq]
theorem AW.bast {a n : Nat} {i : Int32} {f : Nat → Int32} {x : Int32} {y : Int32} (hr : (pc, Instr.bastore, 1) ∈ mR M) (hn : pc + 1 = nx) (ha : h.1 a = some (.inl (3, n, .inl f))) (hA : gB g ≤ a) (hin : vp_in i n) (hy : narrow .byte (.int x) = .int y) (kk : AW g M nx L S (hU h a (.inl (3, n, .inl (upd f i.toNatClampNeg y)))) Q) : AW g M pc L (.int x :: .int i :: .ref a :: S) h Q := by
  subst hn
  intro p e s m args below meth c H locs cells slots ls hC hF hH hS hL
  obtain ⟨hx, hb, hml, -, -, hown, hts, -, -, hok, -⟩ := id hC
  have hcell := (hH.1 a _ ha).1 hA
  refine W.bast hx hb hcell ((hF.1.2 3 _ rfl).1 n (fun j => .int (f j))) (fun q => by cases q) (by show ¬ (i < 0 ∨ (arrV _ _ _).slots.size ≤ _); rw [arrV_size]; exact hin) rfl rfl (am_dec hok hr) fun H1 e z oq => ?_
  refine kk p _ s m args below meth c H1 _ cells slots ls hC hF (hH.put z oq hcell e (am_setSlot _ _ _) hA ?_) (hS.put z oq hA) hL
  show H1[a]? = some (vp_cell _ _)
  rw [e]
  rw [hy]
  show some ((arrV (gT g 3) n (fun j => Value.int (f j))).setSlot i.toNatClampNeg (Value.int y)) = some (arrV (gT g 3) n (fun j => Value.int (upd f i.toNatClampNeg y j)))
  rw [arrV_store]
  congr 2
  funext q
  by_cases hq : q = i.toNatClampNeg
  · subst hq
    simp [updV, upd]
  · simp [updV, upd, hq]
theorem AW.zast {a n : Nat} {i : Int32} {f : Nat → Int32} {x : Int32} {y : Int32} (hr : (pc, Instr.bastore, 1) ∈ mR M) (hn : pc + 1 = nx) (ha : h.1 a = some (.inl (2, n, .inl f))) (hA : gB g ≤ a) (hin : vp_in i n) (hy : narrow .boolean (.int x) = .int y) (kk : AW g M nx L S (hU h a (.inl (2, n, .inl (upd f i.toNatClampNeg y)))) Q) : AW g M pc L (.int x :: .int i :: .ref a :: S) h Q := by
  subst hn
  intro p e s m args below meth c H locs cells slots ls hC hF hH hS hL
  obtain ⟨hx, hb, hml, -, -, hown, hts, -, -, hok, -⟩ := id hC
  have hcell := (hH.1 a _ ha).1 hA
  refine W.zast hx hb hcell ((hF.1.2 2 _ rfl).1 n (fun j => .int (f j))) (fun q => by cases q) (by show ¬ (i < 0 ∨ (arrV _ _ _).slots.size ≤ _); rw [arrV_size]; exact hin) rfl rfl (am_dec hok hr) fun H1 e z oq => ?_
  refine kk p _ s m args below meth c H1 _ cells slots ls hC hF (hH.put z oq hcell e (am_setSlot _ _ _) hA ?_) (hS.put z oq hA) hL
  show H1[a]? = some (vp_cell _ _)
  rw [e]
  rw [hy]
  show some ((arrV (gT g 2) n (fun j => Value.int (f j))).setSlot i.toNatClampNeg (Value.int y)) = some (arrV (gT g 2) n (fun j => Value.int (upd f i.toNatClampNeg y j)))
  rw [arrV_store]
  congr 2
  funext q
  by_cases hq : q = i.toNatClampNeg
  · subst hq
    simp [updV, upd]
  · simp [updV, upd, hq]
def am_upD (f : Nat → UInt64) (k : Nat) (x : UInt64) : Nat → UInt64 := fun j => if j = k then x else f j
theorem AW.dast {a n : Nat} {i : Int32} {f : Nat → UInt64} {x : UInt64} (hr : (pc, Instr.dastore, 1) ∈ mR M) (hn : pc + 1 = nx) (ha : h.1 a = some (.inl (4, n, .inr (.inr (.inr (.inl f)))))) (hA : gB g ≤ a) (hin : vp_in i n) (kk : AW g M nx L S (hU h a (.inl (4, n, .inr (.inr (.inr (.inl (am_upD f i.toNatClampNeg x))))))) Q) : AW g M pc L (.double x :: .int i :: .ref a :: S) h Q := by
  subst hn
  intro p e s m args below meth c H locs cells slots ls hC hF hH hS hL
  obtain ⟨hx, hb, hml, -, -, hown, hts, -, -, hok, -⟩ := id hC
  have hcell := (hH.1 a _ ha).1 hA
  refine W.dast hx hb hcell ((hF.1.2 4 _ rfl).1 n (fun j => .double (f j))) (fun q => by cases q) (by show ¬ (i < 0 ∨ (arrV _ _ _).slots.size ≤ _); rw [arrV_size]; exact hin) rfl rfl (am_dec hok hr) fun H1 e z oq => ?_
  refine kk p _ s m args below meth c H1 _ cells slots ls hC hF (hH.put z oq hcell e (am_setSlot _ _ _) hA ?_) (hS.put z oq hA) hL
  show H1[a]? = some (vp_cell _ _)
  rw [e]
  show some ((arrV (gT g 4) n (fun j => Value.double (f j))).setSlot i.toNatClampNeg (Value.double x)) = some (arrV (gT g 4) n (fun j => Value.double (am_upD f i.toNatClampNeg x j)))
  rw [arrV_store]
  congr 2
  funext q
  by_cases hq : q = i.toNatClampNeg
  · subst hq
    simp [updV, am_upD]
  · simp [updV, am_upD, hq]
theorem AW.aast {a v n t ci : Nat} {i : Int32} {r : vw_C} {vs : List Value} {f : Nat → Option Nat} (hr : (pc, Instr.aastore, 1) ∈ mR M) (hn : pc + 1 = nx) (ht : am_ft[t]? = some (.object r.1)) (hc : am_cl[ci]? = some r) (ha : h.1 a = some (.inl (t, n, .inr (.inr (.inr (.inr f)))))) (hv : h.1 v = some (.inr (ci, vs))) (hA : gB g ≤ a) (hin : vp_in i n) (kk : AW g M nx L S (hU h a (.inl (t, n, .inr (.inr (.inr (.inr (va_up f i.toNatClampNeg (some v)))))))) Q) : AW g M pc L (.ref v :: .int i :: .ref a :: S) h Q := by
  subst hn
  intro p e s m args below meth c H locs cells slots ls hC hF hH hS hL
  obtain ⟨hx, hb, hml, -, -, hown, hts, -, -, hok, -⟩ := id hC
  have hcell := (hH.1 a _ ha).1 hA
  have hlt : i.toNatClampNeg < n := Nat.not_le.mp fun q => hin (Or.inr q)
  have h0 : ¬ i < 0 := fun q => hin (Or.inl q)
  obtain ⟨r', cellV, hr', g1, g2, -, g3, -⟩ := hH.obj hv
  have hcls := (hF.1.1 ci r hc).2
  obtain ⟨kA, comp, k1, k2, k3, -⟩ := (hF.1.2 t _ (am_ty_get ht)).2
  have hcomp : comp = (gD g).1 ci := Option.some.inj (k3.symm.trans hcls.1)
  subst hcomp
  have hasg := va_assign hcls
  obtain ⟨kC, hkC, -⟩ := hcls.2
  refine W.aast hx hb hcell (fun q h => by cases h) (fun h => by cases h) k1 k2 rfl hkC ⟨h0, by show _ < (arrV _ _ _).slots.size; rw [arrV_size]; exact hlt⟩ g1 (fun q h => by rw [h] at g3; cases g3) (by rw [g2]; exact hkC) (by rw [g2]; exact hasg) rfl rfl (am_dec hok hr) fun H1 e z oq => ?_
  refine kk p _ s m args below meth c H1 _ cells slots ls hC hF (hH.put z oq hcell e (am_setSlot _ _ _) hA ?_) (hS.put z oq hA) hL
  show H1[a]? = some (vp_cell _ _)
  rw [e]
  show some ((arrV (gT g t) n (fun j => va_rf (f j))).setSlot i.toNatClampNeg (Value.ref v)) = some (arrV (gT g t) n (fun j => va_rf (va_up f i.toNatClampNeg (some v) j)))
  rw [arrV_store]
  congr 2
  funext q
  by_cases hq : q = i.toNatClampNeg
  · subst hq
    simp [updV, va_up, va_rf]
  · simp [updV, va_up, hq]
theorem AW.aastN {a n t : Nat} {i : Int32} {C : String} {f : Nat → Option Nat} (hr : (pc, Instr.aastore, 1) ∈ mR M) (hn : pc + 1 = nx) (ht : am_ft[t]? = some (.object C)) (ha : h.1 a = some (.inl (t, n, .inr (.inr (.inr (.inr f)))))) (hA : gB g ≤ a) (hin : vp_in i n) (kk : AW g M nx L S (hU h a (.inl (t, n, .inr (.inr (.inr (.inr (va_up f i.toNatClampNeg none))))))) Q) : AW g M pc L (.null :: .int i :: .ref a :: S) h Q := by
  subst hn
  intro p e s m args below meth c H locs cells slots ls hC hF hH hS hL
  obtain ⟨hx, hb, hml, -, -, hown, hts, -, -, hok, -⟩ := id hC
  have hcell := (hH.1 a _ ha).1 hA
  refine va_WaastN (C := C) hx hb hcell ((hF.1.2 t _ (am_ty_get ht)).1 n (fun j => va_rf (f j))) (fun h => by cases h) (by show ¬ (i < 0 ∨ (arrV _ _ _).slots.size ≤ _); rw [arrV_size]; exact hin) rfl rfl (am_dec hok hr) fun H1 e z oq => ?_
  refine kk p _ s m args below meth c H1 _ cells slots ls hC hF (hH.put z oq hcell e (am_setSlot _ _ _) hA ?_) (hS.put z oq hA) hL
  show H1[a]? = some (vp_cell _ _)
  rw [e]
  show some ((arrV (gT g t) n (fun j => va_rf (f j))).setSlot i.toNatClampNeg (Value.null)) = some (arrV (gT g t) n (fun j => va_rf (va_up f i.toNatClampNeg none j)))
  rw [arrV_store]
  congr 2
  funext q
  by_cases hq : q = i.toNatClampNeg
  · subst hq
    simp [updV, va_up, va_rf]
  · simp [updV, va_up, hq]
theorem AW.new {ci N i : Nat} {C : String} {T : u_T} {ty : Nat → FieldType} {fs : List Value} (hr : (pc, Instr.new i, 3) ∈ mR M) (hn : pc + 3 = nx) (hc : am_Kl ci C T N ty) (hcl : Cond.classLink (mY M).cls i C ∈ am_tb) (hins : Cond.instantiable C N ∈ am_tb) (hini : Cond.initialized C ∈ am_tb) (hfs : ∀ j, j < N → defaultValue (ty j) = vp_V fs j) (hrc : 1 ≤ h.2.2.1) (hrs : N ≤ h.2.2.2) (kk : AW g M nx L (.ref h.2.1 :: S) (hN h N (.inr (ci, fs))) Q) : AW g M pc L S h Q := by
  subst hn
  intro p e s m args below meth c H locs cells slots ls hC hF hH hS hL
  obtain ⟨hx, hb, hml, -, -, hown, hts, -, -, hok, -⟩ := id hC
  obtain ⟨hc1, hin, hty, hnm⟩ := hc
  have hKn := hF.1.1 ci _ hc1
  refine W_tight fun n k hn1 hk1 => ?_
  obtain ⟨-, hsz, hb1, hb2⟩ := id hH
  refine W.newc hx hb hown (hts _ hcl) (hts _ hins) (hts _ hini) rfl (am_dec hok hr) (by show n + 1 ≤ gC g - s.heap.size; omega) (by show k + N ≤ gZ g - am_sl s.heap; omega) fun cC kC f1 f2 f3 f4 => ?_
  have hcc : cC = (gD g).1 ci := Option.some.inj (f1.symm.trans hKn.2.1)
  subst hcc
  have e1 : (H.push (blank ((gD g).1 ci) kC))[H.size]? = some (blank ((gD g).1 ci) kC) := Array.getElem?_push_size
  have hP := hH.push (e' := .inr (ci, fs)) (cell := blank ((gD g).1 ci) kC) (k := N) (by show (kC.instanceTypes.map defaultValue).size = N; rw [Array.size_map]; exact f4) hrc hrs (Nat.le_trans hF.2.2.2.2.2.1 hS.1) ⟨_, hc1, (u_born ty hts hin hKn f2 e1 hty).to hfs⟩
  rw [hsz]
  exact kk p e s m args below meth c _ locs _ _ ls hC hF hP (am_S_push hS) hL
theorem AW.newa {t N : Nat} {x : Int32} {atype : ArrayType} {ty : FieldType} {a0 : vp_A} (hr : (pc, Instr.newarray atype, 2) ∈ mR M) (hn : pc + 2 = nx) (harr : Cond.arrayClass ty ∈ am_tb) (ht0 : newarray.typeOf atype = ty) (ht : am_ft[t]? = some ty) (ha0 : ∀ cA : ClassId, vp_cell cA a0 = arrV cA N (fun _ => defaultValue ty)) (h0 : ¬ x < 0) (hNN : x.toNatClampNeg = N) (hbytes : N * componentBytes ty ≤ 536870912) (hrc : 1 ≤ h.2.2.1) (hrs : N ≤ h.2.2.2) (kk : AW g M nx L (.ref h.2.1 :: S) (hN h N (.inl (t, a0))) Q) : AW g M pc L (.int x :: S) h Q := by
  subst ht0
  subst hNN
  subst hn
  intro p e s m args below meth c H locs cells slots ls hC hF hH hS hL
  obtain ⟨hx, hb, hml, -, -, hown, hts, -, -, hok, -⟩ := id hC
  refine W_tight fun n k hn1 hk1 => ?_
  obtain ⟨-, hsz, hb1, hb2⟩ := id hH
  refine W.newa hx hb (hts _ harr) rfl (am_dec hok hr) rfl h0 hbytes (by show n + 1 ≤ gC g - s.heap.size; omega) (by show k + x.toNatClampNeg ≤ gZ g - am_sl s.heap; omega) fun cA kA comp f1 f2 f3 => ?_
  have hRA := (hF.1.2 t _ (am_ty_get ht)).2
  have hcc : cA = gT g t := by
    refine Option.some.inj (f1.symm.trans ?_)
    cases atype <;> exact hRA
  subst hcc
  have e1 : (H.push (arrV (gT g t) x.toNatClampNeg (fun _ => defaultValue (newarray.typeOf atype))))[H.size]? = some _ := Array.getElem?_push_size
  have hP := hH.push (e' := .inl (t, a0)) (cell := arrV (gT g t) x.toNatClampNeg (fun _ => defaultValue (newarray.typeOf atype))) (k := x.toNatClampNeg) (arrV_size _ _ _) hrc hrs (Nat.le_trans hF.2.2.2.2.2.1 hS.1) (by show _ = some (vp_cell _ _); rw [ha0]; exact e1)
  rw [arrV_new, hsz]
  exact kk p e s m args below meth c _ locs _ _ ls hC hF hP (am_S_push hS) hL
theorem AW.anew {t i N : Nat} {x : Int32} {C : String} (hr : (pc, Instr.anewarray i, 3) ∈ mR M) (hn : pc + 3 = nx) (hcl : Cond.classLink (mY M).cls i C ∈ am_tb) (hov : C ∈ am_oc) (ht : am_ft[t]? = some (.object C)) (h0 : ¬ x < 0) (hNN : x.toNatClampNeg = N) (hbytes : N * 4 ≤ 536870912) (hrc : 1 ≤ h.2.2.1) (hrs : N ≤ h.2.2.2) (kk : AW g M nx L (.ref h.2.1 :: S) (hN h N (.inl (t, N, .inr (.inr (.inr (.inr (fun _ => none))))))) Q) : AW g M pc L (.int x :: S) h Q := by
  subst hNN
  subst hn
  intro p e s m args below meth c H locs cells slots ls hC hF hH hS hL
  obtain ⟨hx, hb, hml, -, -, hown, hts, -, -, hok, -⟩ := id hC
  refine W_tight fun n k hn1 hk1 => ?_
  obtain ⟨-, hsz, hb1, hb2⟩ := id hH
  refine W.anew hx hb hown (hts _ hcl) (va_AO.use (hF.2.2.2.2.2.2.2.1 C hov)) rfl (am_dec hok hr) rfl h0 hbytes (by show n + 1 ≤ gC g - s.heap.size; omega) (by show k + x.toNatClampNeg ≤ gZ g - am_sl s.heap; omega) fun cA kA comp f1 f2 f3 f4 => ?_
  obtain ⟨-, -, -, -, -, hRA⟩ := (hF.1.2 t _ (am_ty_get ht)).2
  have hcc : cA = gT g t := Option.some.inj (f1.symm.trans hRA)
  subst hcc
  have e1 : (H.push (arrV (gT g t) x.toNatClampNeg (fun _ => .null)))[H.size]? = some _ := Array.getElem?_push_size
  have hP := hH.push (e' := .inl (t, x.toNatClampNeg, .inr (.inr (.inr (.inr (fun _ => none)))))) (cell := arrV (gT g t) x.toNatClampNeg (fun _ => .null)) (k := x.toNatClampNeg) (arrV_size _ _ _) hrc hrs (Nat.le_trans hF.2.2.2.2.2.1 hS.1) e1
  rw [arrV_new, hsz]
  exact kk p e s m args below meth c _ locs _ _ ls hC hF hP (am_S_push hS) hL
end AWH
