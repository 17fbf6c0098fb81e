/-! ===== THE START: what the tables and the heap hold ===== -/
theorem st_isSt {v : VmData} (h : ∀ k, v ≠ .statics k) : v.isStatics = false := by
  cases v <;> first | rfl | exact absurd rfl (h _)
theorem am_tb_in : ∀ w ∈ am_tb, w ∈ lw_tbl := fun w h => (List.mem_filter.mp h).1
theorem tb_in {w : Cond} (h : w ∈ tables_1) : w ∈ lw_tbl := List.mem_append_right _ h
/-- what the Statement says of the start -/
def nrw : List Cond := flatC (Jvm.Cond.and given_1 narrow_1)
/-- the words of a table of ints -/
def tabw (tm : Term) (ty : FieldType) (l : List Int32) : List Cond := .arrayOf tm ty :: .eq (.length tm) (.int (Int32.ofNat l.length)) :: (List.range l.length).map (fun j => .eq (.elem tm (.int (Int32.ofNat j))) (.int (l.getD j 0)))
/-- an array of ints -/
def isTab (s : State) (ty : FieldType) (l : List Int32) (t : Nat) : Prop := ∃ cell : Cell, s.heap[t]? = some cell ∧ s.isArrayOf cell ty ∧ cell.vm ≠ .unknown ∧ cell.slots.size = l.length ∧ ∀ j, j < l.length → cell.slots[j]? = some (.int (l.getD j 0))
theorem tab_of {args : Array Value} {s : State} {tm : Term} {ty : FieldType} {l : List Int32} {ws : List Cond} (hs : ∀ c ∈ ws, c.before args s = true) (hN : l.length < 2 ^ 31) (hm : ∀ c ∈ tabw tm ty l, c ∈ ws) :
    ∃ t : Nat, tm.eval args s none [] s = some (.ref t) ∧ isTab s ty l t := by
  have h1 := hs _ (hm _ List.mem_cons_self)
  have h2 := va_eqt (hs _ (hm _ (List.mem_cons_of_mem _ List.mem_cons_self)))
  have h3 : ∀ j, j < l.length → (Term.elem tm (.int (Int32.ofNat j))).eval args s none [] s = some (.int (l.getD j 0)) := fun j hj => va_eqt (hs _ (hm _ (List.mem_cons_of_mem _ (List.mem_cons_of_mem _ (List.mem_map.mpr ⟨j, List.mem_range.mpr hj, rfl⟩)))))
  obtain ⟨t, ht, cell, c1, c2, c3, c4, c5, c6, -⟩ := va_Tof (A := fun _ => False) (f := fun j => .int (l.getD j 0)) hN h1 h2 h3 (fun _ _ h => h)
  refine ⟨t, ht, cell, c1, c2, c3, ?_, c6⟩
  obtain ⟨a, cell2, e1, e2, e3⟩ := Term.length_spec h2
  have e4 : a = t := by
    have := e1.symm.trans ht
    cases this
    rfl
  subst e4
  have e5 : cell2 = cell := Option.some.inj ((State.arrayAt?_spec e2).1.symm.trans c1)
  subst e5
  have hlt : cell2.slots.size < 2 ^ 31 := by
    have h4 := h2
    simp only [Term.eval, ht, e2, Option.bind_eq_bind, Option.bind_some] at h4
    by_cases hz : cell2.slots.size < 2 ^ 31
    · exact hz
    · rw [if_neg hz] at h4
      cases h4
  have e6 := congrArg Int32.toNatClampNeg c5
  rw [Int32.toNatClampNeg_ofNat_of_lt hN] at e6
  rw [show cell2.slots.size.toInt32 = Int32.ofNat cell2.slots.size from rfl, Int32.toNatClampNeg_ofNat_of_lt hlt] at e6
  exact e6
/-- the words of a text -/
def strw (own : String) (i : Nat) (l : List Int32) : List Cond := .exactly (.string own i) "java/lang/String" :: .eq (.field (.string own i) "java/lang/String" "coder" "B") (.int 0) :: tabw (.field (.string own i) "java/lang/String" "value" "[B") .byte l
theorem str_of {args : Array Value} {s : State} {own : String} {i : Nat} {l : List Int32} {ws : List Cond} {cC : ClassId} {iS : Nat → Nat} (hKn : u_Kn s RJ0 TJ0 2 cC iS) (hs : ∀ c ∈ ws, c.before args s = true) (hN : l.length < 2 ^ 31) (hm : ∀ c ∈ strw own i l, c ∈ ws) :
    ∃ a v : Nat, (Term.string own i).eval args s none [] s = some (.ref a) ∧ (∃ cell : Cell, s.heap[a]? = some cell ∧ cell.cls = cC ∧ cell.vm ≠ .unknown ∧ cell.vm.isStatics = false ∧ cell.slots[iS 0]? = some (.ref v) ∧ cell.slots[iS 1]? = some (.int 0)) ∧ isTab s .byte l v := by
  obtain ⟨a, c, cell, k, e1, e2, e3, e4, e5, e6, -⟩ := Cond.exactly_spec (hs _ (hm _ List.mem_cons_self))
  have e7 : c = cC := Option.some.inj (e2.symm.trans hKn.2.1)
  obtain ⟨cf0, kf0, fi0, f0, hi0, hs0⟩ := hKn.1 0 (by decide)
  obtain ⟨cf1, kf1, fi1, f1, hi1, hs1⟩ := hKn.1 1 (by decide)
  have hcod := va_eqt (hs _ (hm _ (List.mem_cons_of_mem _ List.mem_cons_self)))
  obtain ⟨v, hv, hT⟩ := tab_of (tm := .field (.string own i) "java/lang/String" "value" "[B") (ty := .byte) (l := l) hs hN (fun w hw => hm w (List.mem_cons_of_mem _ (List.mem_cons_of_mem _ hw)))
  obtain ⟨-, cell1, g1, g2, g3, -, g4⟩ := Term.field_spec (show s.fieldFound? "java/lang/String" "coder" "B" = some (cf1, kf1, fi1, f1) from hi1) e1 hcod
  obtain ⟨-, cell0, j1, j2, j3, -, j4⟩ := Term.field_spec (show s.fieldFound? "java/lang/String" "value" "[B" = some (cf0, kf0, fi0, f0) from hi0) e1 hv
  have z1 : cell1 = cell := Option.some.inj (g1.symm.trans e3)
  have z0 : cell0 = cell := Option.some.inj (j1.symm.trans e3)
  rw [z1, hs1] at g4
  rw [z0, hs0] at j4
  rw [z0] at j2
  exact ⟨a, v, e1, ⟨cell, e3, e6.trans e7, j2, e5, j4, g4⟩, hT⟩
theorem slots_is {cell : Cell} {n : Nat} {f : Nat → Int32} (cA : ClassId) (hsz : cell.slots.size = n) (h : ∀ j, j < n → cell.slots[j]? = some (.int (f j))) : cell.slots = (vp_cell cA (n, .inl f)).slots := by
  rw [vp_cell_i]
  apply Array.ext_getElem?
  intro j
  by_cases hj : j < n
  · rw [h j hj, arrV_read _ _ hj]
  · rw [Array.getElem?_eq_none (by omega), Array.getElem?_eq_none (by rw [arrV_size]; omega)]
theorem am_of1 {s : State} {c : Cell} {t u : FieldType} (h1 : s.isArrayOf c t) (h2 : s.isArrayOf c u) : t = u := by
  obtain ⟨-, k, hk, cm, hkk⟩ := h1
  obtain ⟨-, k', hk', cm', hkk'⟩ := h2
  have e : k = k' := Option.some.inj (hk.symm.trans hk')
  subst e
  have e2 := hkk.symm.trans hkk'
  cases e2
  rfl
theorem am_ft1 {i j : Nat} {ty : FieldType} (h1 : am_ft[i]? = some ty) (h2 : am_ft[j]? = some ty) : i = j := by
  have hi : i < 9 := (List.getElem?_eq_some_iff.mp h1).1
  have hj : j < 9 := (List.getElem?_eq_some_iff.mp h2).1
  have key : ∀ i, i < 9 → ∀ j, j < 9 → am_ft[i]? = am_ft[j]? → i = j := by decide +kernel
  exact key i hi j hj (h1.trans h2.symm)
/-- the classes of arrays; from 9 on: of which type an old array is -/
noncomputable def gTo (s : State) (ts : Nat → ClassId) (k : Nat) : ClassId := by
  classical
  exact if k < 9 then ts k else if h : ∃ i : Nat, ∃ (ty : FieldType) (cell : Cell), am_ft[i]? = some ty ∧ s.heap[k - 9]? = some cell ∧ s.isArrayOf cell ty then Classical.choose h else 9
theorem gTo_lt {s : State} {ts : Nat → ClassId} {k : Nat} (h : k < 9) : gTo s ts k = ts k := by
  unfold gTo
  rw [if_pos h]
theorem gTo_is {s : State} {ts : Nat → ClassId} {q i : Nat} {ty : FieldType} {cell : Cell} (h1 : am_ft[i]? = some ty) (h2 : s.heap[q]? = some cell) (h3 : s.isArrayOf cell ty) : gTo s ts (q + 9) = i := by
  have hE : ∃ i : Nat, ∃ (ty : FieldType) (cell : Cell), am_ft[i]? = some ty ∧ s.heap[q + 9 - 9]? = some cell ∧ s.isArrayOf cell ty := ⟨i, ty, cell, h1, h2, h3⟩
  unfold gTo
  rw [if_neg (by omega), dif_pos hE]
  obtain ⟨ty', cell', k1, k2, k3⟩ := Classical.choose_spec hE
  have e : cell' = cell := Option.some.inj (k2.symm.trans h2)
  subst e
  have e2 := am_of1 k3 h3
  subst e2
  exact am_ft1 k1 h1
theorem gTo_of {s : State} {ts : Nat → ClassId} {q : Nat} {ty : FieldType} {cell : Cell} (h1 : s.heap[q]? = some cell) (h2 : am_ft[gTo s ts (q + 9)]? = some ty) : s.isArrayOf cell ty := by
  unfold gTo at h2
  rw [if_neg (by omega)] at h2
  by_cases hE : ∃ i : Nat, ∃ (ty : FieldType) (cell : Cell), am_ft[i]? = some ty ∧ s.heap[q + 9 - 9]? = some cell ∧ s.isArrayOf cell ty
  · rw [dif_pos hE] at h2
    obtain ⟨ty', cell', k1, k2, k3⟩ := Classical.choose_spec hE
    have e : cell' = cell := Option.some.inj (k2.symm.trans h1)
    subst e
    have e2 : ty' = ty := Option.some.inj (k1.symm.trans h2)
    rw [← e2]
    exact k3
  · rw [dif_neg hE] at h2
    have h3 : am_ft[9]? = none := rfl
    rw [h3] at h2
    cases h2
/-- what is told of old cells is told in one way -/
def canon (e : AE) : Prop := (∃ (t n : Nat) (f : Nat → Int32), e = .inl (t, n, .inl f) ∧ t < 9 ∧ ∀ j, n ≤ j → f j = 0) ∨ ∃ v w : Value, e = .inr (11, [v, w])
def ATs (g : AG) (H : Heap) (q : Nat) (e : AE) : Prop := q < gB g ∧ am_old g q e H ∧ canon e
theorem ATs_ao {g : AG} {s : State} {q t n : Nat} {f : Nat → Int32} {v w : Value} (hord : ∃ k, s.vm.classes[(gD g).1 11]? = some k ∧ k.kind = .ordinary) (hOA : am_OA g s) (ht : t < 9) (hq : q < gB g) (h : am_old g q (.inl (t, n, .inl f)) s.heap) (h' : am_old g q (.inr (11, [v, w])) s.heap) : False := by
  obtain ⟨cell, h1, h2, h3, a1, a2⟩ := h
  obtain ⟨cell', h1', h2', h3', r, b1, b2, b3⟩ := h'
  have e : cell' = cell := Option.some.inj (h1'.symm.trans h1)
  subst e
  change gT g (q + 9) = t at a1
  have hof := hOA q hq cell' _ h1 (by rw [a1]; exact List.getElem?_eq_getElem (show t < am_ft.length from ht))
  obtain ⟨-, k, hk, cm, hkk⟩ := hof
  obtain ⟨k2, hk2, hkk2⟩ := hord
  change cell'.cls = (gD g).1 11 at b2
  rw [b2] at hk
  have e2 : k = k2 := Option.some.inj (hk.symm.trans hk2)
  subst e2
  rw [hkk] at hkk2
  cases hkk2
theorem ATs_inj {g : AG} {s : State} {q : Nat} {e e' : AE} (hord : ∃ k, s.vm.classes[(gD g).1 11]? = some k ∧ k.kind = .ordinary) (hOA : am_OA g s) (h : ATs g s.heap q e) (h' : ATs g s.heap q e') : e = e' := by
  obtain ⟨hq, ho, hc⟩ := h
  obtain ⟨-, ho', hc'⟩ := h'
  rcases hc with ⟨t, n, f, rfl, ht, hf⟩ | ⟨v, w, rfl⟩ <;> rcases hc' with ⟨t', n', f', rfl, ht', hf'⟩ | ⟨v', w', rfl⟩
  · obtain ⟨cell, h1, h2, h3, a1, a2⟩ := ho
    obtain ⟨cell', h1', h2', h3', b1, b2⟩ := ho'
    have e : cell' = cell := Option.some.inj (h1'.symm.trans h1)
    subst e
    have e1 : t = t' := a1.symm.trans b1
    subst e1
    have e2 : (arrV (gT g t) n (fun j => .int (f j))).slots = (arrV (gT g t) n' (fun j => .int (f' j))).slots := a2.symm.trans b2
    have e3 : n = n' := by
      have := congrArg Array.size e2
      rwa [arrV_size, arrV_size] at this
    subst e3
    have e4 : f = f' := by
      funext j
      by_cases hj : j < n
      · have e5 : (arrV (gT g t) n (fun j => .int (f j))).slots[j]? = (arrV (gT g t) n (fun j => .int (f' j))).slots[j]? := by rw [e2]
        rw [arrV_read _ _ hj, arrV_read _ _ hj] at e5
        exact Value.int.inj (Option.some.inj e5)
      · rw [hf j (by omega), hf' j (by omega)]
    rw [e4]
  · exact (ATs_ao hord hOA ht hq ho ho').elim
  · exact (ATs_ao hord hOA ht' hq ho' ho).elim
  · obtain ⟨cell, h1, h2, h3, r, a1, a2, a3⟩ := ho
    obtain ⟨cell', h1', h2', h3', r', b1, b2, b3⟩ := ho'
    have e : cell' = cell := Option.some.inj (h1'.symm.trans h1)
    subst e
    have hr : r = (RJ0, TJ0, 2) := Option.some.inj (a1.symm.trans rfl)
    have hr' : r' = (RJ0, TJ0, 2) := Option.some.inj (b1.symm.trans rfl)
    subst hr
    subst hr'
    have e0 : v = v' := Option.some.inj ((a3 0 (by decide)).symm.trans (b3 0 (by decide)))
    have e1 : w = w' := Option.some.inj ((a3 1 (by decide)).symm.trans (b3 1 (by decide)))
    rw [e0, e1]
/-- what is known of the start's heap -/
noncomputable def h0f (g : AG) (H : Heap) (q : Nat) : Option AE := by
  classical
  exact if h : ∃ e, ATs g H q e then some (Classical.choose h) else none
theorem h0f_of {g : AG} {s : State} {q : Nat} {e : AE} (hord : ∃ k, s.vm.classes[(gD g).1 11]? = some k ∧ k.kind = .ordinary) (hOA : am_OA g s) (h : ATs g s.heap q e) : h0f g s.heap q = some e := by
  have hE : ∃ e, ATs g s.heap q e := ⟨e, h⟩
  unfold h0f
  rw [dif_pos hE]
  exact congrArg some (ATs_inj hord hOA (Classical.choose_spec hE) h)
theorem h0f_to {g : AG} {H : Heap} {q : Nat} {e : AE} (h : h0f g H q = some e) : ATs g H q e := by
  unfold h0f at h
  by_cases hE : ∃ e, ATs g H q e
  · rw [dif_pos hE] at h
    cases h
    exact Classical.choose_spec hE
  · rw [dif_neg hE] at h
    cases h
theorem ATs_tab {g : AG} {s : State} {t k : Nat} {ty : FieldType} {l : List Int32} (hB : gB g = s.heap.size) (hk : am_ft[k]? = some ty) (hg : ∀ (q i : Nat) (ty : FieldType) (cell : Cell), am_ft[i]? = some ty → s.heap[q]? = some cell → s.isArrayOf cell ty → gT g (q + 9) = i) (h : isTab s ty l t) : ATs g s.heap t (.inl (k, l.length, .inl (fun j => l.getD j 0))) := by
  obtain ⟨cell, c1, c2, c3, c4, c5⟩ := h
  refine ⟨by rw [hB]; exact (Array.getElem?_eq_some_iff.mp c1).1, ⟨cell, c1, c3, st_isSt c2.1, hg t k ty cell hk c1 c2, slots_is _ c4 c5⟩, Or.inl ⟨_, _, _, rfl, (List.getElem?_eq_some_iff.mp hk).1, fun j hj => ?_⟩⟩
  rw [List.getD_eq_getElem?_getD, List.getElem?_eq_none hj]
  rfl

theorem rng_of {args : Array Value} {s : State} (hs : ∀ c ∈ nrw, c.before args s = true) : ∀ k, k < 9 → ∃ q, am_st[k]? = some q ∧ ∃ t : Nat, (Term.static q.1 q.2.1 q.2.2).eval args s none [] s = some (.ref t) ∧ isTab s .int (rvl k) t := by
  intro k hk
  have h9 : k = 0 ∨ k = 1 ∨ k = 2 ∨ k = 3 ∨ k = 4 ∨ k = 5 ∨ k = 6 ∨ k = 7 ∨ k = 8 := by omega
  rcases h9 with rfl | rfl | rfl | rfl | rfl | rfl | rfl | rfl | rfl
  · exact ⟨_, rfl, tab_of (ws := nrw) hs (by decide) (by decide +kernel)⟩
  · exact ⟨_, rfl, tab_of (ws := nrw) hs (by decide) (by decide +kernel)⟩
  · exact ⟨_, rfl, tab_of (ws := nrw) hs (by decide) (by decide +kernel)⟩
  · exact ⟨_, rfl, tab_of (ws := nrw) hs (by decide) (by decide +kernel)⟩
  · exact ⟨_, rfl, tab_of (ws := nrw) hs (by decide) (by decide +kernel)⟩
  · exact ⟨_, rfl, tab_of (ws := nrw) hs (by decide) (by decide +kernel)⟩
  · exact ⟨_, rfl, tab_of (ws := nrw) hs (by decide) (by decide +kernel)⟩
  · exact ⟨_, rfl, tab_of (ws := nrw) hs (by decide) (by decide +kernel)⟩
  · exact ⟨_, rfl, tab_of (ws := nrw) hs (by decide) (by decide +kernel)⟩
theorem txt_of {args : Array Value} {s : State} {cC : ClassId} {iS : Nat → Nat} (hKn : u_Kn s RJ0 TJ0 2 cC iS) (hs : ∀ c ∈ nrw, c.before args s = true) : ∀ k, 4 ≤ k → k < 15 → ∃ q, am_tx[k]? = some q ∧ ∃ a v : Nat, (Term.string q.1 q.2.1).eval args s none [] s = some (.ref a) ∧ (∃ cell : Cell, s.heap[a]? = some cell ∧ cell.cls = cC ∧ cell.vm ≠ .unknown ∧ cell.vm.isStatics = false ∧ cell.slots[iS 0]? = some (.ref v) ∧ cell.slots[iS 1]? = some (.int 0)) ∧ isTab s .byte (txl k) v := by
  intro k hk0 hk
  have h9 : k = 4 ∨ k = 5 ∨ k = 6 ∨ k = 7 ∨ k = 8 ∨ k = 9 ∨ k = 10 ∨ k = 11 ∨ k = 12 ∨ k = 13 ∨ k = 14 := by omega
  rcases h9 with rfl | rfl | rfl | rfl | rfl | rfl | rfl | rfl | rfl | rfl | rfl
  · exact ⟨_, rfl, str_of (ws := nrw) hKn hs (by decide) (by decide +kernel)⟩
  · exact ⟨_, rfl, str_of (ws := nrw) hKn hs (by decide) (by decide +kernel)⟩
  · exact ⟨_, rfl, str_of (ws := nrw) hKn hs (by decide) (by decide +kernel)⟩
  · exact ⟨_, rfl, str_of (ws := nrw) hKn hs (by decide) (by decide +kernel)⟩
  · exact ⟨_, rfl, str_of (ws := nrw) hKn hs (by decide) (by decide +kernel)⟩
  · exact ⟨_, rfl, str_of (ws := nrw) hKn hs (by decide) (by decide +kernel)⟩
  · exact ⟨_, rfl, str_of (ws := nrw) hKn hs (by decide) (by decide +kernel)⟩
  · exact ⟨_, rfl, str_of (ws := nrw) hKn hs (by decide) (by decide +kernel)⟩
  · exact ⟨_, rfl, str_of (ws := nrw) hKn hs (by decide) (by decide +kernel)⟩
  · exact ⟨_, rfl, str_of (ws := nrw) hKn hs (by decide) (by decide +kernel)⟩
  · exact ⟨_, rfl, str_of (ws := nrw) hKn hs (by decide) (by decide +kernel)⟩
theorem txe_of {args : Array Value} {s : State} (hs : ∀ c ∈ nrw, c.before args s = true) : ∀ (k : Nat) (q : String × Nat × String), am_tx[k]? = some q → ∃ a : Nat, (Term.string q.1 q.2.1).eval args s none [] s = some (.ref a) := by
  intro k q h
  have hk : k < 15 := (List.getElem?_eq_some_iff.mp h).1
  have h9 : k = 0 ∨ k = 1 ∨ k = 2 ∨ k = 3 ∨ k = 4 ∨ k = 5 ∨ k = 6 ∨ k = 7 ∨ k = 8 ∨ k = 9 ∨ k = 10 ∨ k = 11 ∨ k = 12 ∨ k = 13 ∨ k = 14 := by omega
  have key : ∀ own i, Cond.exactly (.string own i) "java/lang/String" ∈ nrw → ∃ a : Nat, (Term.string own i).eval args s none [] s = some (.ref a) := fun own i hm => by
    obtain ⟨a, c, cell, k, e1, -⟩ := Cond.exactly_spec (hs _ hm)
    exact ⟨a, e1⟩
  rcases h9 with rfl | rfl | rfl | rfl | rfl | rfl | rfl | rfl | rfl | rfl | rfl | rfl | rfl | rfl | rfl
  · cases h; exact key _ _ (by decide +kernel)
  · cases h; exact key _ _ (by decide +kernel)
  · cases h; exact key _ _ (by decide +kernel)
  · cases h; exact key _ _ (by decide +kernel)
  · cases h; exact key _ _ (by decide +kernel)
  · cases h; exact key _ _ (by decide +kernel)
  · cases h; exact key _ _ (by decide +kernel)
  · cases h; exact key _ _ (by decide +kernel)
  · cases h; exact key _ _ (by decide +kernel)
  · cases h; exact key _ _ (by decide +kernel)
  · cases h; exact key _ _ (by decide +kernel)
  · cases h; exact key _ _ (by decide +kernel)
  · cases h; exact key _ _ (by decide +kernel)
  · cases h; exact key _ _ (by decide +kernel)
  · cases h; exact key _ _ (by decide +kernel)
theorem txr_of : ∀ (k : Nat) (q : String × Nat × String), am_tx[k]? = some q → Cond.stringRef q.1 q.2.1 q.2.2 ∈ lw_tbl := by
  intro k q h
  have hk : k < 15 := (List.getElem?_eq_some_iff.mp h).1
  have h9 : k = 0 ∨ k = 1 ∨ k = 2 ∨ k = 3 ∨ k = 4 ∨ k = 5 ∨ k = 6 ∨ k = 7 ∨ k = 8 ∨ k = 9 ∨ k = 10 ∨ k = 11 ∨ k = 12 ∨ k = 13 ∨ k = 14 := by omega
  rcases h9 with rfl | rfl | rfl | rfl | rfl | rfl | rfl | rfl | rfl | rfl | rfl | rfl | rfl | rfl | rfl
  · cases h; exact tb_in (tm_7 _ (by decide +kernel))
  · cases h; exact tb_in (tm_5 _ (by decide +kernel))
  · cases h; exact tb_in (tm_4 _ (by decide +kernel))
  · cases h; exact tb_in (tm_6 _ (by decide +kernel))
  · cases h; exact tb_in (tm_3 _ (by decide +kernel))
  · cases h; exact tb_in (tm_3 _ (by decide +kernel))
  · cases h; exact tb_in (tm_3 _ (by decide +kernel))
  · cases h; exact tb_in (tm_3 _ (by decide +kernel))
  · cases h; exact tb_in (tm_3 _ (by decide +kernel))
  · cases h; exact tb_in (tm_4 _ (by decide +kernel))
  · cases h; exact tb_in (tm_4 _ (by decide +kernel))
  · cases h; exact tb_in (tm_4 _ (by decide +kernel))
  · cases h; exact tb_in (tm_4 _ (by decide +kernel))
  · cases h; exact tb_in (tm_4 _ (by decide +kernel))
  · cases h; exact tb_in (tm_4 _ (by decide +kernel))
theorem stl_of : ∀ (k : Nat) (q : String × String × String), am_st[k]? = some q → Cond.laysStatic q.1 q.2.1 q.2.2 ∈ lw_tbl ∧ Cond.initialized q.1 ∈ lw_tbl := by
  intro k q h
  have hk : k < 11 := (List.getElem?_eq_some_iff.mp h).1
  have h9 : k = 0 ∨ k = 1 ∨ k = 2 ∨ k = 3 ∨ k = 4 ∨ k = 5 ∨ k = 6 ∨ k = 7 ∨ k = 8 ∨ k = 9 ∨ k = 10 := by omega
  rcases h9 with rfl | rfl | rfl | rfl | rfl | rfl | rfl | rfl | rfl | rfl | rfl
  · cases h; exact ⟨tb_in (tm_3 _ (by decide +kernel)), tb_in (tm_1 _ (by decide +kernel))⟩
  · cases h; exact ⟨tb_in (tm_3 _ (by decide +kernel)), tb_in (tm_1 _ (by decide +kernel))⟩
  · cases h; exact ⟨tb_in (tm_3 _ (by decide +kernel)), tb_in (tm_1 _ (by decide +kernel))⟩
  · cases h; exact ⟨tb_in (tm_2 _ (by decide +kernel)), tb_in (tm_1 _ (by decide +kernel))⟩
  · cases h; exact ⟨tb_in (tm_3 _ (by decide +kernel)), tb_in (tm_1 _ (by decide +kernel))⟩
  · cases h; exact ⟨tb_in (tm_3 _ (by decide +kernel)), tb_in (tm_1 _ (by decide +kernel))⟩
  · cases h; exact ⟨tb_in (tm_3 _ (by decide +kernel)), tb_in (tm_1 _ (by decide +kernel))⟩
  · cases h; exact ⟨tb_in (tm_3 _ (by decide +kernel)), tb_in (tm_1 _ (by decide +kernel))⟩
  · cases h; exact ⟨tb_in (tm_3 _ (by decide +kernel)), tb_in (tm_1 _ (by decide +kernel))⟩
  · cases h; exact ⟨tb_in (tm_3 _ (by decide +kernel)), tb_in (tm_1 _ (by decide +kernel))⟩
  · cases h; exact ⟨tb_in (tm_3 _ (by decide +kernel)), tb_in (tm_1 _ (by decide +kernel))⟩
theorem cls_of {args : Array Value} {s : State} (hts : ∀ w ∈ lw_tbl, w.before args s = true) : ∀ (c : Nat) (q : vw_C), am_cl[c]? = some q → ∃ (cC : ClassId) (iS : Nat → Nat), u_Kn s q.1 q.2.1 q.2.2 cC iS := by
  intro k q h
  have hk : k < 12 := (List.getElem?_eq_some_iff.mp h).1
  have h9 : k = 0 ∨ k = 1 ∨ k = 2 ∨ k = 3 ∨ k = 4 ∨ k = 5 ∨ k = 6 ∨ k = 7 ∨ k = 8 ∨ k = 9 ∨ k = 10 ∨ k = 11 := by omega
  rcases h9 with rfl | rfl | rfl | rfl | rfl | rfl | rfl | rfl | rfl | rfl | rfl | rfl
  · cases h; exact u_known (n := 3) hts (fun w hw => am_tb_in w (klX0.2.1 w hw)) (hts _ (tb_in (tm_1 _ (by decide +kernel))))
  · cases h; exact u_known (n := 3) hts (fun w hw => am_tb_in w (klX1.2.1 w hw)) (hts _ (tb_in (tm_2 _ (by decide +kernel))))
  · cases h; exact u_known (n := 19) hts (fun w hw => am_tb_in w (klX2.2.1 w hw)) (hts _ (tb_in (tm_1 _ (by decide +kernel))))
  · cases h; exact u_known (n := 3) hts (fun w hw => am_tb_in w (klX3.2.1 w hw)) (hts _ (tb_in (tm_1 _ (by decide +kernel))))
  · cases h; exact u_known (n := 8) hts (fun w hw => am_tb_in w (klX4.2.1 w hw)) (hts _ (tb_in (tm_2 _ (by decide +kernel))))
  · cases h; exact u_known (n := 8) hts (fun w hw => am_tb_in w (klX5.2.1 w hw)) (hts _ (tb_in (tm_1 _ (by decide +kernel))))
  · cases h; exact u_known (n := 1) hts (fun w hw => am_tb_in w (klX6.2.1 w hw)) (hts _ (tb_in (tm_2 _ (by decide +kernel))))
  · cases h; exact u_known (n := 16) hts (fun w hw => am_tb_in w (klX7.2.1 w hw)) (hts _ (tb_in (tm_1 _ (by decide +kernel))))
  · cases h; exact u_known (n := 6) hts (fun w hw => am_tb_in w (klX8.2.1 w hw)) (hts _ (tb_in (tm_2 _ (by decide +kernel))))
  · cases h; exact u_known (n := 9) hts (fun w hw => am_tb_in w (klX9.2.1 w hw)) (hts _ (tb_in (tm_1 _ (by decide +kernel))))
  · cases h; exact u_known (n := 24) hts (fun w hw => am_tb_in w (klX10.2.1 w hw)) (hts _ (tb_in (tm_7 _ (by decide +kernel))))
  · cases h; exact u_known (n := 4) hts (fun w hw => am_tb_in w (klJ0.2.1 w hw)) (hts _ (tb_in (tm_5 _ (by decide +kernel))))
theorem arr_of {args : Array Value} {s : State} (hts : ∀ w ∈ lw_tbl, w.before args s = true) : ∀ (t : Nat) (ty : FieldType), am_ft[t]? = some ty → ∃ cA : ClassId, ArrOfT s cA ty ∧ va_RA s cA ty := by
  intro k q h
  have hk : k < 9 := (List.getElem?_eq_some_iff.mp h).1
  have h9 : k = 0 ∨ k = 1 ∨ k = 2 ∨ k = 3 ∨ k = 4 ∨ k = 5 ∨ k = 6 ∨ k = 7 ∨ k = 8 := by omega
  rcases h9 with rfl | rfl | rfl | rfl | rfl | rfl | rfl | rfl | rfl
  · cases h
    obtain ⟨c, k, comp, h1, h2, h3⟩ := Cond.arrayClass_spec (hts (.arrayClass .int) (tb_in (tm_1 _ (by decide +kernel))))
    exact ⟨c, fun n z => ⟨fun k h => (nomatch h), k, h2, comp, h3⟩, h1⟩
  · cases h
    obtain ⟨c, k, comp, h1, h2, h3⟩ := Cond.arrayClass_spec (hts (.arrayClass .long) (tb_in (tm_2 _ (by decide +kernel))))
    exact ⟨c, fun n z => ⟨fun k h => (nomatch h), k, h2, comp, h3⟩, h1⟩
  · cases h
    obtain ⟨c, k, comp, h1, h2, h3⟩ := Cond.arrayClass_spec (hts (.arrayClass .boolean) (tb_in (tm_2 _ (by decide +kernel))))
    exact ⟨c, fun n z => ⟨fun k h => (nomatch h), k, h2, comp, h3⟩, h1⟩
  · cases h
    obtain ⟨c, k, comp, h1, h2, h3⟩ := Cond.arrayClass_spec (hts (.arrayClass .byte) (tb_in (tm_2 _ (by decide +kernel))))
    exact ⟨c, fun n z => ⟨fun k h => (nomatch h), k, h2, comp, h3⟩, h1⟩
  · cases h
    obtain ⟨c, k, comp, h1, h2, h3⟩ := Cond.arrayClass_spec (hts (.arrayClass .double) (tb_in (tm_10 _ (by decide +kernel))))
    exact ⟨c, fun n z => ⟨fun k h => (nomatch h), k, h2, comp, h3⟩, h1⟩
  · cases h
    obtain ⟨comp, c, k, f1, f2, f3, f4, f5⟩ := Cond.arrayOver_spec (hts (.arrayOver (.object "RepairStudio$Press")) (tb_in (tm_1 _ (by decide +kernel))))
    exact ⟨c, fun n z => ⟨fun k h => (nomatch h), k, f3, comp, f4⟩, k, comp, f3, f4, f1, f5⟩
  · cases h
    obtain ⟨comp, c, k, f1, f2, f3, f4, f5⟩ := Cond.arrayOver_spec (hts (.arrayOver (.object "RepairStudio$Recipe")) (tb_in (tm_1 _ (by decide +kernel))))
    exact ⟨c, fun n z => ⟨fun k h => (nomatch h), k, f3, comp, f4⟩, k, comp, f3, f4, f1, f5⟩
  · cases h
    obtain ⟨comp, c, k, f1, f2, f3, f4, f5⟩ := Cond.arrayOver_spec (hts (.arrayOver (.object "RepairStudio$Item")) (tb_in (tm_1 _ (by decide +kernel))))
    exact ⟨c, fun n z => ⟨fun k h => (nomatch h), k, f3, comp, f4⟩, k, comp, f3, f4, f1, f5⟩
  · cases h
    obtain ⟨comp, c, k, f1, f2, f3, f4, f5⟩ := Cond.arrayOver_spec (hts (.arrayOver (.object "RepairStudio$Studio")) (tb_in (tm_2 _ (by decide +kernel))))
    exact ⟨c, fun n z => ⟨fun k h => (nomatch h), k, f3, comp, f4⟩, k, comp, f3, f4, f1, f5⟩
theorem nw_of : ∀ w ∈ am_nw, w ∈ lw_tbl := by
  intro w hw
  unfold am_nw at hw
  simp only [List.mem_cons, List.not_mem_nil, or_false] at hw
  rcases hw with rfl | rfl | rfl | rfl | rfl | rfl | rfl | rfl | rfl | rfl | rfl | rfl | rfl | rfl | rfl | rfl | rfl | rfl
  · exact tb_in (tm_1 _ (by decide +kernel))
  · exact tb_in (tm_1 _ (by decide +kernel))
  · exact tb_in (tm_4 _ (by decide +kernel))
  · exact tb_in (tm_3 _ (by decide +kernel))
  · exact tb_in (tm_3 _ (by decide +kernel))
  · exact tb_in (tm_3 _ (by decide +kernel))
  · exact tb_in (tm_2 _ (by decide +kernel))
  · exact tb_in (tm_3 _ (by decide +kernel))
  · exact tb_in (tm_3 _ (by decide +kernel))
  · exact tb_in (tm_3 _ (by decide +kernel))
  · exact tb_in (tm_3 _ (by decide +kernel))
  · exact tb_in (tm_3 _ (by decide +kernel))
  · exact tb_in (tm_5 _ (by decide +kernel))
  · exact tb_in (tm_4 _ (by decide +kernel))
  · exact tb_in (tm_6 _ (by decide +kernel))
  · exact tb_in (tm_4 _ (by decide +kernel))
  · exact tb_in (tm_4 _ (by decide +kernel))
  · exact tb_in (tm_4 _ (by decide +kernel))
theorem oc_of : ∀ C ∈ am_oc, Cond.arrayOver (.object C) ∈ lw_tbl := by
  intro w hw
  unfold am_oc at hw
  simp only [List.mem_cons, List.not_mem_nil, or_false] at hw
  rcases hw with rfl | rfl | rfl | rfl
  · exact tb_in (tm_1 _ (by decide +kernel))
  · exact tb_in (tm_1 _ (by decide +kernel))
  · exact tb_in (tm_1 _ (by decide +kernel))
  · exact tb_in (tm_2 _ (by decide +kernel))
theorem SF_of {g : AG} {s : State} {args : Array Value} (hB : gB g = s.heap.size) (hD : ∀ (c : Nat) (q : vw_C), am_cl[c]? = some q → u_Kn s q.1 q.2.1 q.2.2 ((gD g).1 c) ((gD g).2 c)) (hT : ∀ (k : Nat) (ty : FieldType), am_ft[k]? = some ty → ArrOfT s (gT g k) ty ∧ va_RA s (gT g k) ty)
    (hV : ∀ (k : Nat) (q : String × String × String), am_st[k]? = some q → (Term.static q.1 q.2.1 q.2.2).eval args s none [] s = some (gV g k)) (hX : ∀ (k : Nat) (q : String × Nat × String), am_tx[k]? = some q → (Term.string q.1 q.2.1).eval args s none [] s = some (.ref (gS g k))) (hOA : am_OA g s)
    (hts : ∀ w ∈ lw_tbl, w.before args s = true) (hs : ∀ c ∈ nrw, c.before args s = true) : SF g s := by
  have hA : ∀ a : Nat, a < s.heap.size → ¬ am_A g a := fun a ha hb => by
    have hb2 : gB g ≤ a := hb
    omega
  refine ⟨⟨hD, fun k q hk => ?_⟩, fun k q hk => va_Zof (hts _ (stl_of k q hk).1) (hts _ (stl_of k q hk).2) (hV k q hk) hA, fun k q hk => vk_R.of (hts _ (txr_of k q hk)) (hX k q hk),
    vx_Zqof (hts _ (tb_in (tm_4 _ (by decide +kernel)))) (hts _ (tb_in (tm_1 _ (by decide +kernel)))) (hs _ (by decide +kernel)) hA, vx_Zqof (hts _ (tb_in (tm_4 _ (by decide +kernel)))) (hts _ (tb_in (tm_1 _ (by decide +kernel)))) (hs _ (by decide +kernel)) hA, Nat.le_of_eq hB, fun w hw => va_Nw.of (am_nwT w hw) (hts _ (nw_of w hw)), fun C hC => ?_, ⟨va_Nc.of (hs _ (by decide +kernel)), va_Nc.of (hs _ (by decide +kernel))⟩, hOA⟩
  · have h9 : k < 9 := (List.getElem?_eq_some_iff.mp hk).1
    have h2 : k = 0 ∨ k = 1 ∨ k = 2 ∨ k = 3 ∨ k = 4 ∨ k = 5 ∨ k = 6 ∨ k = 7 ∨ k = 8 := by omega
    rcases h2 with rfl | rfl | rfl | rfl | rfl | rfl | rfl | rfl | rfl <;> (cases hk; exact hT _ _ rfl)
  · exact hts _ (oc_of C hC)

/-- what the start offers: classes and the rest, all that is known, and the room -/
theorem start_g {args : Array Value} {s : State} (l : Launch) {b L : Nat} {xs : Nat → Int32} (hts : ∀ w ∈ lw_tbl, w.before args s = true) (hs : ∀ c ∈ nrw, c.before args s = true) (hX : va_X b L xs s s.heap) :
    ∃ (g : AG) (h0 : AH), gL g = l ∧ gB g = s.heap.size ∧ gC g = s.heap.size + 603072 ∧ gZ g = am_sl s.heap + 7207018 ∧ SF g s ∧ HC g h0 s.heap ∧ Sta g h0 ∧ h0.1 b = some (.inl (0, L, .inl (fun j => if j < L then xs j else 0))) ∧ h0.2 = (s.heap.size, 603072, 7207018) := by
  have hD0 : ∀ c : Nat, ∃ (cC : ClassId) (iS : Nat → Nat), ∀ q, am_cl[c]? = some q → u_Kn s q.1 q.2.1 q.2.2 cC iS := fun c => by
    cases hc : am_cl[c]? with
    | none => exact ⟨0, fun _ => 0, fun q h => by cases h⟩
    | some q =>
      obtain ⟨cC, iS, h⟩ := cls_of hts c q hc
      exact ⟨cC, iS, fun q' h' => by cases h'; exact h⟩
  have hT0 : ∀ t : Nat, ∃ cA : ClassId, ∀ ty, am_ft[t]? = some ty → ArrOfT s cA ty ∧ va_RA s cA ty := fun t => by
    cases hc : am_ft[t]? with
    | none => exact ⟨0, fun q h => by cases h⟩
    | some ty =>
      obtain ⟨cA, h⟩ := arr_of hts t ty hc
      exact ⟨cA, fun q' h' => by cases h'; exact h⟩
  have hV0 : ∀ k : Nat, ∃ v : Value, ∀ q, am_st[k]? = some q → (Term.static q.1 q.2.1 q.2.2).eval args s none [] s = some v := fun k => by
    cases hc : am_st[k]? with
    | none => exact ⟨.null, fun q h => by cases h⟩
    | some q =>
      have hk : k < 11 := (List.getElem?_eq_some_iff.mp hc).1
      by_cases h9 : k < 9
      · obtain ⟨q2, h1, t, h2, -⟩ := rng_of hs k h9
        cases h1.symm.trans hc
        exact ⟨.ref t, fun q' h' => by cases h'; exact h2⟩
      · have h10 : k = 9 ∨ k = 10 := by omega
        rcases h10 with rfl | rfl
        · cases hc
          exact ⟨.int 1, fun q' h' => by cases h'; exact va_eqi (hs _ (by decide +kernel))⟩
        · cases hc
          have h := hs (.isRef (.static "jdk/internal/util/Preconditions" "SIOOBE_FORMATTER" "Ljava/util/function/BiFunction;")) (by decide +kernel)
          cases hv : (Term.static "jdk/internal/util/Preconditions" "SIOOBE_FORMATTER" "Ljava/util/function/BiFunction;").eval args s none [] s with
          | none => simp [Cond.before, Cond.holds, Cond.value, hv] at h
          | some w => exact ⟨w, fun q' h' => by cases h'; exact hv⟩
  have hS0 : ∀ k : Nat, ∃ a : Nat, ∀ q, am_tx[k]? = some q → (Term.string q.1 q.2.1).eval args s none [] s = some (.ref a) := fun k => by
    cases hc : am_tx[k]? with
    | none => exact ⟨0, fun q h => by cases h⟩
    | some q =>
      obtain ⟨a, h⟩ := txe_of hs k q hc
      exact ⟨a, fun q' h' => by cases h'; exact h⟩
  obtain ⟨D1, D2, hD⟩ : ∃ (D1 : Nat → ClassId) (D2 : Nat → Nat → Nat), ∀ (c : Nat) (q : vw_C), am_cl[c]? = some q → u_Kn s q.1 q.2.1 q.2.2 (D1 c) (D2 c) := ⟨fun c => Classical.choose (hD0 c), fun c => Classical.choose (Classical.choose_spec (hD0 c)), fun c q h => Classical.choose_spec (Classical.choose_spec (hD0 c)) q h⟩
  obtain ⟨ts, hT⟩ : ∃ ts : Nat → ClassId, ∀ (t : Nat) (ty : FieldType), am_ft[t]? = some ty → ArrOfT s (ts t) ty ∧ va_RA s (ts t) ty := ⟨fun t => Classical.choose (hT0 t), fun t => Classical.choose_spec (hT0 t)⟩
  obtain ⟨V, hV⟩ : ∃ V : Nat → Value, ∀ (k : Nat) (q : String × String × String), am_st[k]? = some q → (Term.static q.1 q.2.1 q.2.2).eval args s none [] s = some (V k) := ⟨fun t => Classical.choose (hV0 t), fun t => Classical.choose_spec (hV0 t)⟩
  obtain ⟨Z, hZ⟩ : ∃ Z : Nat → Nat, ∀ (k : Nat) (q : String × Nat × String), am_tx[k]? = some q → (Term.string q.1 q.2.1).eval args s none [] s = some (.ref (Z k)) := ⟨fun t => Classical.choose (hS0 t), fun t => Classical.choose_spec (hS0 t)⟩
  obtain ⟨g, hgL, hgB, hgD, hgT, hgV, hgS, hgC, hgZ⟩ : ∃ g : AG, gL g = l ∧ gB g = s.heap.size ∧ gD g = (D1, D2) ∧ gT g = gTo s ts ∧ gV g = V ∧ gS g = Z ∧ gC g = s.heap.size + 603072 ∧ gZ g = am_sl s.heap + 7207018 := ⟨(l, s.heap.size, (D1, D2), gTo s ts, V, Z, s.heap.size + 603072, am_sl s.heap + 7207018), rfl, rfl, rfl, rfl, rfl, rfl, rfl, rfl⟩
  have hD' : ∀ (c : Nat) (q : vw_C), am_cl[c]? = some q → u_Kn s q.1 q.2.1 q.2.2 ((gD g).1 c) ((gD g).2 c) := by rw [hgD]; exact hD
  have hT' : ∀ (k : Nat) (ty : FieldType), am_ft[k]? = some ty → ArrOfT s (gT g k) ty ∧ va_RA s (gT g k) ty := fun k ty h => by
    rw [hgT, gTo_lt (List.getElem?_eq_some_iff.mp h).1]
    exact hT k ty h
  have hV' : ∀ (k : Nat) (q : String × String × String), am_st[k]? = some q → (Term.static q.1 q.2.1 q.2.2).eval args s none [] s = some (gV g k) := by rw [hgV]; exact hV
  have hZ' : ∀ (k : Nat) (q : String × Nat × String), am_tx[k]? = some q → (Term.string q.1 q.2.1).eval args s none [] s = some (.ref (gS g k)) := by rw [hgS]; exact hZ
  have hOA : am_OA g s := fun q hq cell ty h1 h2 => by
    rw [hgT] at h2
    exact gTo_of h1 h2
  have hG : ∀ (q i : Nat) (ty : FieldType) (cell : Cell), am_ft[i]? = some ty → s.heap[q]? = some cell → s.isArrayOf cell ty → gT g (q + 9) = i := fun q i ty cell h1 h2 h3 => by
    rw [hgT]
    exact gTo_is h1 h2 h3
  have hJ := hD' 11 (RJ0, TJ0, 2) rfl
  have hord : ∃ k, s.vm.classes[(gD g).1 11]? = some k ∧ k.kind = .ordinary := hJ.2.2
  have hSF := SF_of hgB hD' hT' hV' hZ' hOA hts hs
  have h0of : ∀ {q : Nat} {e : AE}, ATs g s.heap q e → h0f g s.heap q = some e := fun h => h0f_of hord hOA h
  refine ⟨g, (h0f g s.heap, s.heap.size, 603072, 7207018), hgL, hgB, hgC, hgZ, hSF, ⟨fun q e he => ?_, rfl, by rw [hgC]; exact Nat.le_refl _, by rw [hgZ]; exact Nat.le_refl _⟩, ⟨fun k hk => ?_, ⟨?_, ?_⟩, fun k hk4 hk => ?_⟩, ?_, rfl⟩
  · have h1 := h0f_to he
    exact ⟨fun hb => absurd h1.1 (Nat.not_lt.mpr hb), fun _ => h1.2.1⟩
  · obtain ⟨q, h1, t, h2, h3⟩ := rng_of hs k hk
    have h4 : gV g k = .ref t := Option.some.inj ((hV' k q h1).symm.trans h2)
    have h5 : sA g k = t := by unfold sA; rw [h4]
    have h6 := ATs_tab hgB (show am_ft[0]? = some .int from rfl) hG h3
    rw [h5]
    exact ⟨h4, h0of h6, h6.1⟩
  · exact Option.some.inj ((hV' 9 _ rfl).symm.trans (va_eqi (hs _ (by decide +kernel))))
  · have hv := hV' 10 _ rfl
    have h := hs (.isRef (.static "jdk/internal/util/Preconditions" "SIOOBE_FORMATTER" "Ljava/util/function/BiFunction;")) (by decide +kernel)
    change (Term.static "jdk/internal/util/Preconditions" "SIOOBE_FORMATTER" "Ljava/util/function/BiFunction;").eval args s none [] s = some (gV g 10) at hv
    simp only [Cond.before, Cond.holds, Cond.value, hv] at h
    generalize gV g 10 = w at h
    cases w with
    | null => exact Or.inl rfl
    | ref t => exact Or.inr ⟨t, rfl⟩
    | _ => simp at h
  · obtain ⟨q, h1, a, v, h2, ⟨cell, c1, c2, c3, c4, c5, c6⟩, h3⟩ := txt_of hJ hs k hk4 hk
    have h4 : gS g k = a := by
      have := (hZ' k q h1).symm.trans h2
      cases this
      rfl
    have h6 := ATs_tab hgB (show am_ft[3]? = some .byte from rfl) hG h3
    have h7 : ATs g s.heap a (.inr (11, [.ref v, .int 0])) := by
      refine ⟨by rw [hgB]; exact (Array.getElem?_eq_some_iff.mp c1).1, ⟨cell, c1, c3, c4, (RJ0, TJ0, 2), rfl, c2, fun j hj => ?_⟩, Or.inr ⟨_, _, rfl⟩⟩
      have hj2 : j = 0 ∨ j = 1 := by
        have : j < 2 := hj
        omega
      rcases hj2 with rfl | rfl
      · exact c5
      · exact c6
    rw [h4]
    exact ⟨h7.1, v, h6.1, h0of h7, h0of h6⟩
  · obtain ⟨scr, h1, h2, h3, h4, h5⟩ := hX
    refine h0of ⟨by rw [hgB]; exact (Array.getElem?_eq_some_iff.mp h1).1, ⟨scr, h1, h3, st_isSt h2.1, hG b 0 .int scr rfl h1 h2, slots_is _ h4 (fun j hj => ?_)⟩, Or.inl ⟨_, _, _, rfl, by decide, fun j hj => if_neg (by omega)⟩⟩
    rw [if_pos hj]
    exact h5 j hj
