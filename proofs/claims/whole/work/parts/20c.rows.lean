/-! ===== ROWS: THE STUDIOS THAT ARE KEPT ===== -/
abbrev XT : Type := (Nat × Nat × Nat) × Mem × Rows × Mem × Mem × Mem × (Nat → Mem)
section XT
variable {g : AG} {h0 : AH} {B : Nat} {Q : AO → AH → Prop} {z : Nat × Nat × Nat} {X R C L : Mem} {P : Rows} {W : Nat → Mem}
/-- what is known over a tuple, and a goal over its parts -/
theorem xt_c {M : AM} {pc : Nat} {l : List (Option Value)} {s : List Value} {S : XT} (hS : S = (z, X, P, R, C, L, W)) (h : AW g M pc l s (xh (bw h0 B S.1 S.2.2.1 S.2.2.2.2.2.2) B S.2.1 S.2.2.1 S.2.2.2.1 S.2.2.2.2.1 S.2.2.2.2.2.1) Q) : AW g M pc l s (xh (bw h0 B z P W) B X P R C L) Q := by
  subst hS; exact h
theorem xt_u {M : AM} {pc : Nat} {l : List (Option Value)} {s : List Value} {S : XT} (hS : S = (z, X, P, R, C, L, W)) (h : AW g M pc l s (xh (bw h0 B z P W) B X P R C L) Q) : AW g M pc l s (xh (bw h0 B S.1 S.2.2.1 S.2.2.2.2.2.2) B S.2.1 S.2.2.1 S.2.2.2.1 S.2.2.2.2.1 S.2.2.2.2.2.1) Q := by
  subst hS; exact h
theorem xt_q {o : AO} {r : XT} (hr : r = (z, X, P, R, C, L, W)) (h : Q o (xh (bw h0 B r.1 r.2.2.1 r.2.2.2.2.2.2) B r.2.1 r.2.2.1 r.2.2.2.1 r.2.2.2.2.1 r.2.2.2.2.2.1)) : Q o (xh (bw h0 B z P W) B X P R C L) := by
  subst hr; exact h
theorem xt_q1 {α : Type} {f : α → AO} {v : α} {r : α × XT} (hr : r = (v, z, X, P, R, C, L, W)) (h : Q (f r.1) (xh (bw h0 B r.2.1 r.2.2.2.1 r.2.2.2.2.2.2.2) B r.2.2.1 r.2.2.2.1 r.2.2.2.2.1 r.2.2.2.2.2.1 r.2.2.2.2.2.2.1)) : Q (f v) (xh (bw h0 B z P W) B X P R C L) := by
  subst hr; exact h
theorem xt_qp {α : Type} {p : α → Prop} {f : α → AO} {v : α} {r : α × XT} (hr : r = (v, z, X, P, R, C, L, W)) (hv : p v) (h : p r.1 → Q (f r.1) (xh (bw h0 B r.2.1 r.2.2.2.1 r.2.2.2.2.2.2.2) B r.2.2.1 r.2.2.2.1 r.2.2.2.2.1 r.2.2.2.2.2.1 r.2.2.2.2.2.2.1)) : Q (f v) (xh (bw h0 B z P W) B X P R C L) := by
  subst hr; exact h hv
theorem xt_e {k : Nat} {y : Nat} {e : Nat × XT} (he : e = (k, z, X, P, R, C, L, W)) (h : Q (.error e.1) (xh (bw h0 B (y, e.2.1.2.1 - 1, e.2.1.2.2 - 6) e.2.2.2.1 e.2.2.2.2.2.2.2) B e.2.2.1 e.2.2.2.1 e.2.2.2.2.1 e.2.2.2.2.2.1 e.2.2.2.2.2.2.1)) : Q (.error k) (xh (bw h0 B (y, z.2.1 - 1, z.2.2 - 6) P W) B X P R C L) := by
  subst he; exact h
theorem rt_c {u b : Nat} {T U : Mem} {M : AM} {pc : Nat} {l : List (Option Value)} {s : List Value} {S : Mem × Mem} (hS : S = (T, U)) (h : AW g M pc l s (rb (sb h0 b S.2) u S.1) Q) : AW g M pc l s (rb (sb h0 b U) u T) Q := by
  subst hS; exact h
end XT
/-! (the next section is a starting text: kit/laws/EXCEPTIONS.to-paste, the static call of a nest mate) -/
section
variable {p : Program} {l : Launch} {e : Env} {R : Room} {s : State} {m : MethodId} {args : Array Value} {below : List Frame} {meth : Method} {c : Code} {H : Heap} {locs : List Loc} {cells slots : Nat}
variable {T : State}
theorem vx_callSN (X : Stand p l e R s m args below meth c T locs cells slots) (hexec : p.tables.exec = Jvm.exec) {own : String} {index : Nat} {host : String} {y : MethodName} {bytes : ByteArray} {maxL : Nat} {ret : Option FieldType}
    (hown : s.vm.findClass own = some m.cls) (hlink : (Cond.methodLinkNest own index y host).before args s = true) (hstat : (Cond.static y).before args s = true) (hinit : (Cond.initialized y.cls).before args s = true)
    (hcode : (Cond.code y bytes maxL ret).before args s = true) (hy : y.cls ≠ "java/lang/invoke/MethodHandle" ∧ y.cls ≠ "java/lang/invoke/VarHandle")
    {W : Nat} {Pre : Pt → Array Value → Prop} {Post : Pt → Array Value → Option Value → Pt → Prop} {PostX : Pt → Array Value → Addr → Pt → Prop} (hK : vx_Back l R p e below s args y 3 W Pre Post PostX)
    {g : JFrame} (hg : g.method = m) (hsize : g.locals.size = c.maxLocals) {argsL rest : List Value} (hlen : ∀ sig, parseMethodDescriptor y.desc = some sig → argsL.length = sig.parameters.length)
    (hstack : g.stack = argsL.reverse ++ rest) (hW : 2 * g.monitorRoom + (rest.map fun v => v.category).sum ≤ W) (hdg : decode c.code g.pc = .ok (.invokestatic index, 3))
    (hpre : ∀ vm₁, s.WarmedH vm₁ → Pre ⟨T.setVm vm₁, locs, cells, slots⟩ argsL.toArray) :
    (∃ (v : Option Value) (vm₁ : Vm) (B : Pt), s.WarmedH vm₁ ∧ Stand p l e R s m args below meth c B.U B.locs B.cells B.slots ∧ Post ⟨T.setVm vm₁, locs, cells, slots⟩ argsL.toArray v B ∧
      ∀ target, Steps p.tables e below (B.U.setTop { g with pc := g.pc + 3, stack := v.toList ++ rest }) target → Steps p.tables e below (T.setTop g) target) ∨
    (∃ (q : Addr) (vm₁ : Vm) (B : Pt), s.WarmedH vm₁ ∧ Stand p l e R s m args below meth c B.U B.locs B.cells B.slots ∧ PostX ⟨T.setVm vm₁, locs, cells, slots⟩ argsL.toArray q B ∧
      Steps p.tables e below (T.setTop g) ((B.U.setTop { g with stack := rest }).pushFrame (.throwing q))) := by
  obtain ⟨mk, hnamed⟩ := Cond.code_named hcode
  obtain ⟨methM, cM, hmethM, -, -, -, -, -, -, hsigM⟩ := Cond.code_spec hnamed hcode
  have hstatic : methM.isStatic = true := Cond.static_spec hnamed hmethM hstat
  obtain ⟨kP, hkP, -⟩ := className_of_methodNamed hnamed
  have hinitP : kP.init = .initialized := Cond.initialized_spec (findClass_of_methodNamed hnamed) hkP hinit
  obtain ⟨vm₁, X₁, hstep₁⟩ := X.invokestaticNest hexec hown hlink hnamed hmethM hstatic hkP hinitP hy (g := g) hg (argsL := argsL) (rest := rest) (hlen _ hsigM) hstack hdg
  rcases hK m meth c ⟨T.setVm vm₁, locs, cells, slots⟩ { g with stack := rest } (.invokestatic index) mk argsL.toArray X₁ hg hsize hdg hW (X₁.named hnamed) (hpre vm₁ X₁.warmed) with ⟨v, B, X', hpost, hsteps⟩ | ⟨q, B, X', hpost, hsteps⟩
  · exact Or.inl ⟨v, vm₁, B, X₁.warmed, X', hpost, fun target h => hstep₁ _ fun acts => by rw [doInvoke_state]; exact hsteps.trans h⟩
  · exact Or.inr ⟨q, vm₁, B, X₁.warmed, X', hpost, hstep₁ _ fun acts => by rw [doInvoke_state]; exact hsteps⟩
theorem vx_runSN {y : MethodName} {bytes cc : ByteArray} {maxL nL mc ms n index : Nat} {ret : Option FieldType} {ws : List Cond} {rm : Room} {Pc : Array Value → State → Prop} {Qc : Array Value → State → Outcome → State → Prop} {XC : String → State → State → Prop} {free : Addr → Prop} {Ts : List Cond} {own host : String} {As rest : List Value} {g : JFrame}
    (S : CallFix p m c cc nL s args Ts own) (hM : vx_Met l y ws rm Pc Qc XC mc ms free) (cw : va_CN R s args own index y host bytes maxL ret ws rm mc ms n ∧ (Cond.static y).before args s = true ∧ True) (hp : PreS s H Pc As)
    (hg : g.method = m) (hn : As.length = n) (hsize : g.locals.size = nL) (hstack : g.stack = As.reverse ++ rest) (hW : 2 * g.monitorRoom + (rest.map fun v => v.category).sum ≤ 8) (hdg : decode cc g.pc = .ok (.invokestatic index, 3)) (hf : cells + mc ≤ R.cells ∧ slots + ms ≤ R.slots) :
    vx_Run p l e R s m args below meth c H locs cells slots mc ms g rest (Qc As.toArray) XC free := by
  obtain ⟨⟨⟨hrc, hrs, hfr, hlo, hws, hcw⟩, hcode, hini, hy, hlen, hl⟩, hx1, hx2⟩ := cw
  have hK : vx_Back l R p e below s args y 3 8 (PreOf R mc ms Pc) (PostOf Qc mc ms free) (vx_Post XC mc ms free) := vx_back (bytes := bytes) (maxL := maxL) (ret := ret) hM hp.1 hrc hrs hfr hlo hws hcw (fun a' U hW => word_at hW (Or.inl (by first | rfl | simp [Cond.onTables, Cond.keeps, Cond.steady])) hini)
  obtain ⟨hx, hb, hml, ho, -⟩ := S
  have hPc := hp.2
  intro T hT X
  rcases vx_callSN X hx (bytes := bytes) (maxL := maxL) (ret := ret) ho hl hx1 hini hcode hy hK hg (hsize.trans hml.symm) (argsL := As) (rest := rest) (fun sig h => hn.trans (hlen sig h)) hstack hW (by rw [hb]; exact hdg)
    (fun vm₁ hW₁ => ⟨hf.1, hf.2, hPc (T.setVm vm₁) hT hW₁⟩) with ⟨v, vm₁, ⟨U', l2, c2, s2⟩, hW₁, X', ⟨g', mk, t, L, e1, e2, hq, h1, hL, h2, h3⟩, st⟩ | ⟨q, vm₁, ⟨U', l2, c2, s2⟩, hW₁, X', ⟨g', mk, t, L, E, ce, e1, e2, hq, hce, hcv, hcl, h1, hL, h2, h3⟩, st⟩
  · dsimp only [Pt.U, Pt.locs, Pt.cells, Pt.slots] at X' e1 e2 h1 h2 h3 st
    subst h1; subst h2; subst h3
    exact Or.inl ⟨v, (T.setVm vm₁).calling g' mk As.toArray, t, U', L, hT, X', hL, e1, e2, hq, st⟩
  · dsimp only [Pt.U, Pt.locs, Pt.cells, Pt.slots] at X' e1 e2 h1 h2 h3 st hcl
    subst h1; subst h2; subst h3
    exact Or.inr ⟨q, (T.setVm vm₁).calling g' mk As.toArray, t, U', L, E, ce, hT, X', hL, e1, e2, hq, hce, hcv, vx_cls hW₁ hcl, st⟩
end
section AWSN
variable {g : AG} {M N : AM} {pc nx : Nat} {L : List (Option Value)} {S : List Value} {h : AH} {Q : AO → AH → Prop}
theorem AW.callSN {i : Nat} {host : String} {st0 As : List Value} {L0 : List (Option Value)} (hr : (pc, Instr.invokestatic i, 3) ∈ mR M) (hn : pc + 3 = nx) (hN : okS N) (hlk : Cond.methodLinkNest (mY M).cls i (mY N) host ∈ am_nw)
    (hst : st0 = As.reverse ++ S) (hrm : rmok M N S = true) (hna : mN N = As.length) (hz : Nat.ble (lg_sl As).length (mL N) = true) (hL0 : enL As (mL N) = L0)
    (k : AW g N 0 L0 [] h (cQ g M nx pc L S Q)) : AW g M pc L st0 h Q := by
  subst hL0
  intro p e s m args below meth c H locs cells slots ls hC hF hH hS hL
  obtain ⟨hx, hbb, hml, hret, hlk2, hown, hts, hmn, het, hok, hstk⟩ := id hC
  obtain ⟨hok2, hh, hcode, hstat⟩ := hN
  obtain ⟨hr1, hr2, hr3⟩ := rmok_s hrm
  obtain ⟨-, hz1, hz2, hz3⟩ := id hH
  refine W_tight fun n1 k1 hn1 hk1 => ?_
  have hM := am_met (args := As) (H := H) hok2 hh (Nat.le_of_ble_eq_true hz) hstk hH k
  have hdec := am_dec hok hr
  have hG : GoodIn am_tb (Cond.code (mY N) (mB N) (mL N) (mT N) :: am_tb) := fun w hw => by
    rcases List.mem_cons.mp hw with rfl | hw
    · exact ⟨hcode, good_of_word (List.mem_filter.mp hcode).2⟩
    · exact am_good w hw
  refine am_back hn hC hF hS hL (vx_runSN (host := host) (n := As.length) (As := As) ⟨hx, hbb, hml, hown, hts⟩ hM ⟨va_cnB As.length hts hG rfl rfl rfl (hF.2.2.2.2.2.2.1 _ hlk) (hts _ hok2.2.2.2.1) ⟨hok2.2.2.1.1, hok2.2.2.1.2.1, hna ▸ hok2.2.2.1.2.2⟩ ⟨hr1, hr2⟩, hts _ hstat, trivial⟩ ⟨am_blind, fun U hU hW => ⟨rfl, hF.moved hW hU hS, hU⟩⟩ rfl rfl hL.1 hst ?_ hdec ?_)
  · show 2 * 0 + _ ≤ 8
    omega
  · exact ⟨by show n1 + (gC g - H.size) ≤ gC g - s.heap.size; omega, by show k1 + (gZ g - am_sl H) ≤ gZ g - am_sl s.heap; omega⟩
end AWSN
def upW (W : Nat → Mem) (k : Nat) (S : Mem) : Nat → Mem := fun j => if j = k then S else W j
/-- the rows are apart, behind the studio x, below the heap's end -/
def rwf (lo top : Nat) (P : Rows) : Prop := ∀ k, k < 12 → ∀ a, P k = some a → (lo ≤ a ∧ a + 58 ≤ top) ∧ ∀ k', k' < 12 → ∀ a', P k' = some a' → k' ≠ k → a + 58 ≤ a' ∨ a' + 58 ≤ a
theorem rwf_mono {lo top top' : Nat} {P : Rows} (h : rwf lo top P) (ht : top ≤ top') : rwf lo top' P := fun k hk a ha => ⟨⟨(h k hk a ha).1.1, by have := (h k hk a ha).1.2; omega⟩, (h k hk a ha).2⟩
theorem rwf_new {lo top k : Nat} {P : Rows} (h : rwf lo top P) (hl : lo ≤ top) : rwf lo (top + 58) (upR P k (some top)) := by
  intro k1 hk1 a ha
  unfold upR at ha
  by_cases e : k1 = k
  · rw [if_pos e] at ha
    cases ha
    refine ⟨⟨hl, Nat.le_refl _⟩, fun k2 hk2 a2 ha2 e2 => ?_⟩
    unfold upR at ha2
    rw [if_neg (by omega)] at ha2
    have := (h k2 hk2 a2 ha2).1.2
    omega
  · rw [if_neg e] at ha
    have h1 := h k1 hk1 a ha
    refine ⟨⟨h1.1.1, by have := h1.1.2; omega⟩, fun k2 hk2 a2 ha2 e2 => ?_⟩
    unfold upR at ha2
    by_cases e3 : k2 = k
    · rw [if_pos e3] at ha2
      cases ha2
      have := h1.1.2
      omega
    · rw [if_neg e3] at ha2
      exact h1.2 k2 hk2 a2 ha2 e2
noncomputable def oifp {β : Type} (p : Prop) (x : Option β) : Option β := @ite _ p (Classical.propDecidable p) x none
theorem oifp_g {β : Type} {G p : Prop} {x : Option β} {r : β} (hs : oifp p x = some r) (k : p → x = some r → G) : G := by
  unfold oifp at hs
  by_cases h : p
  · rw [if_pos h] at hs; exact k h hs
  · rw [if_neg h] at hs; cases hs
theorem oifp_t {β : Type} {p : Prop} {x : Option β} (h : p) : oifp p x = x := if_pos h
section RWS
variable {h : AH} {lo q : Nat} {P P' : Rows} {W W' : Nat → Mem}
theorem rws_s {n : Nat} : (rws h lo P W (n + 1)).1 q = match P n with
    | none => (rws h lo P W n).1 q
    | some a => if lo ≤ a ∧ a ≤ q ∧ q < a + 58 then some (scell a (W n) (q - a)) else (rws h lo P W n).1 q := by
  show (match P n with
    | none => rws h lo P W n
    | some a => if lo ≤ a then sb (rws h lo P W n) a (W n) else rws h lo P W n).1 q = _
  cases P n with
  | none => rfl
  | some a =>
    dsimp only
    by_cases h1 : lo ≤ a
    · rw [if_pos h1]
      by_cases h2 : a ≤ q ∧ q < a + 58
      · rw [if_pos ⟨h1, h2⟩]
        exact if_pos h2
      · rw [if_neg (fun z => h2 z.2)]
        exact if_neg h2
    · rw [if_neg h1, if_neg (fun z => h1 z.1)]
theorem rws_in {top k a : Nat} (hw : rwf lo top P) (hk : k < 12) (ha : P k = some a) (h1 : a ≤ q) (h2 : q < a + 58) : ∀ n, k < n → n ≤ 12 → (rws h lo P W n).1 q = some (scell a (W k) (q - a)) := by
  intro n
  induction n with
  | zero => intro h3; omega
  | succ n ih =>
    intro h3 h4
    rw [rws_s]
    by_cases e : k = n
    · subst e
      rw [ha]
      exact if_pos ⟨(hw k hk a ha).1.1, h1, h2⟩
    · cases e2 : P n with
      | none => exact ih (by omega) (by omega)
      | some a' =>
        have := (hw k hk a ha).2 n (by omega) a' e2 (by omega)
        dsimp only
        rw [if_neg (by omega)]
        exact ih (by omega) (by omega)
theorem rws_cg : ∀ n, (∀ k, k < n → (P k = P' k ∧ W k = W' k) ∨ ((∀ a, P k = some a → q < a ∨ a + 58 ≤ q) ∧ (∀ a, P' k = some a → q < a ∨ a + 58 ≤ q))) → (rws h lo P W n).1 q = (rws h lo P' W' n).1 q := by
  intro n
  induction n with
  | zero => intro _; rfl
  | succ n ih =>
    intro hn
    rw [rws_s, rws_s, ih (fun k hk => hn k (by omega))]
    rcases hn n (by omega) with ⟨e1, e2⟩ | ⟨e1, e2⟩
    · rw [e1, e2]
    · cases e3 : P n with
      | none =>
        cases e4 : P' n with
        | none => rfl
        | some a' => dsimp only; rw [if_neg (by have := e2 a' e4; omega)]
      | some a =>
        have h5 := e1 a e3
        dsimp only
        rw [if_neg (by omega)]
        cases e4 : P' n with
        | none => rfl
        | some a' => dsimp only; rw [if_neg (by have := e2 a' e4; omega)]
end RWS
theorem sb_id {H : AH} {a : Nat} {S : Mem} (h : ∀ j, j < 58 → H.1 (a + j) = some (scell a S j)) : sb H a S = H := by
  refine Prod.ext (funext fun q => ?_) rfl
  show (if a ≤ q ∧ q < a + 58 then some (scell a S (q - a)) else H.1 q) = H.1 q
  by_cases h1 : a ≤ q ∧ q < a + 58
  · rw [if_pos h1, ← h (q - a) (by omega), show a + (q - a) = q by omega]
  · rw [if_neg h1]
section ROWX
variable {h0 : AH} {B : Nat} {z : Nat × Nat × Nat} {X R C L : Mem} {P : Rows} {W : Nat → Mem}
theorem xh_row_at {k a q : Nat} (hw : rwf (B + 129) z.1 P) (hk : k < 12) (ha : P k = some a) (h1 : a ≤ q) (h2 : q < a + 58) : (xh (bw h0 B z P W) B X P R C L).1 q = some (scell a (W k) (q - a)) := by
  have := (hw k hk a ha).1.1
  rw [xh_far (by omega)]
  exact rws_in hw hk ha h1 h2 12 hk (Nat.le_refl _)
theorem xh_row_sb {k a : Nat} (hw : rwf (B + 129) z.1 P) (hk : k < 12) (ha : P k = some a) : sb (xh (bw h0 B z P W) B X P R C L) a (W k) = xh (bw h0 B z P W) B X P R C L := sb_id fun j hj => by
  rw [xh_row_at hw hk ha (Nat.le_add_right _ _) (by omega), Nat.add_sub_cancel_left]
theorem xh_live_sb {h : AH} : sb (xh h B X P R C L) (B + 1) L = xh h B X P R C L := blk_blk
/-- a row and the living studio stand outermost -/
theorem xh_row_id {k a : Nat} (hw : rwf (B + 129) z.1 P) (hk : k < 12) (ha : P k = some a) : xh (bw h0 B z P W) B X P R C L = sb (sb (xh (bw h0 B z P W) B X P R C L) (B + 1) L) a (W k) := by
  rw [xh_live_sb, xh_row_sb hw hk ha]
theorem xh_live_id {k a : Nat} (hw : rwf (B + 129) z.1 P) (hk : k < 12) (ha : P k = some a) : xh (bw h0 B z P W) B X P R C L = sb (sb (xh (bw h0 B z P W) B X P R C L) a (W k)) (B + 1) L := by
  rw [xh_row_sb hw hk ha, xh_live_sb]
theorem xh_row_put {k a : Nat} {S' : Mem} (hw : rwf (B + 129) z.1 P) (hk : k < 12) (ha : P k = some a) : sb (sb (xh (bw h0 B z P W) B X P R C L) (B + 1) L) a S' = xh (bw h0 B z P (upW W k S')) B X P R C L := by
  rw [xh_live_sb]
  refine Prod.ext (funext fun q => ?_) rfl
  show (if a ≤ q ∧ q < a + 58 then some (scell a S' (q - a)) else (xh (bw h0 B z P W) B X P R C L).1 q) = _
  have h3 := (hw k hk a ha).1.1
  by_cases h1 : a ≤ q ∧ q < a + 58
  · rw [if_pos h1, xh_row_at hw hk ha h1.1 h1.2]
    show _ = some (scell a (if k = k then S' else W k) (q - a))
    rw [if_pos rfl]
  · rw [if_neg h1]
    by_cases h2 : B ≤ q ∧ q < B + 129
    · obtain ⟨j, rfl⟩ : ∃ j, q = B + j := ⟨q - B, by omega⟩
      rw [xh_cell (by omega), xh_cell (by omega)]
    · rw [xh_far (by omega), xh_far (by omega)]
      refine rws_cg 12 fun k' hk' => ?_
      by_cases e : k' = k
      · subst e
        exact Or.inr ⟨fun a' ha' => (by cases ha.symm.trans ha'; omega), fun a' ha' => (by cases ha.symm.trans ha'; omega)⟩
      · exact Or.inl ⟨rfl, by unfold upW; rw [if_neg e]⟩
theorem xh_live_put {k a : Nat} {L' : Mem} (hw : rwf (B + 129) z.1 P) (hk : k < 12) (ha : P k = some a) : sb (sb (xh (bw h0 B z P W) B X P R C L) a (W k)) (B + 1) L' = xh (bw h0 B z P W) B X P R C L' := by
  rw [xh_row_sb hw hk ha]
  exact blk_blk
/-- a new row -/
theorem xh_row_new {k a : Nat} (hw : rwf (B + 129) a P) (hk : k < 12) (hn : P k = none) (hl : B + 129 ≤ a) (hz : z.1 = a + 58) : sb (xh (bw h0 B z P W) B X (upR P k (some a)) R C L) a S0 = xh (bw h0 B z (upR P k (some a)) (upW W k S0)) B X (upR P k (some a)) R C L := by
  refine Prod.ext (funext fun q => ?_) rfl
  show (if a ≤ q ∧ q < a + 58 then some (scell a S0 (q - a)) else (xh (bw h0 B z P W) B X (upR P k (some a)) R C L).1 q) = _
  have hu : upR P k (some a) k = some a := if_pos rfl
  by_cases h1 : a ≤ q ∧ q < a + 58
  · rw [if_pos h1, xh_row_at (by rw [hz]; exact rwf_new hw hl) hk hu h1.1 h1.2]
    show _ = some (scell a (if k = k then S0 else W k) (q - a))
    rw [if_pos rfl]
  · rw [if_neg h1]
    by_cases h2 : B ≤ q ∧ q < B + 129
    · obtain ⟨j, rfl⟩ : ∃ j, q = B + j := ⟨q - B, by omega⟩
      rw [xh_cell (by omega), xh_cell (by omega)]
    · rw [xh_far (by omega), xh_far (by omega)]
      refine rws_cg 12 fun k' hk' => ?_
      by_cases e : k' = k
      · subst e
        exact Or.inr ⟨fun a' ha' => (by cases hn.symm.trans ha'), fun a' ha' => (by cases hu.symm.trans ha'; omega)⟩
      · exact Or.inl ⟨by unfold upR; rw [if_neg e], by unfold upW; rw [if_neg e]⟩
theorem gro_sb {g : AG} {H : AH} {n c s : Nat} (Hp : Heap) (k : HC g (gro H n 58 c s (sc n 6 10 16 9)) Hp) : HC g (sb (H.1, n + 58, c, s) n S0) Hp := by
  refine HC.mono (h := gro H n 58 c s (sc n 6 10 16 9)) rfl (fun q e' he => ?_) k
  have he1 : (if n ≤ q ∧ q < n + 58 then some (scell n S0 (q - n)) else H.1 q) = some e' := he
  show (if n ≤ q ∧ q < n + 58 then some (sc n 6 10 16 9 (q - n)) else H.1 q) = some e' ∨ ∃ (t : Nat) (a a' : vp_A), (if n ≤ q ∧ q < n + 58 then some (sc n 6 10 16 9 (q - n)) else H.1 q) = some (.inl (t, a)) ∧ _
  by_cases hq : n ≤ q ∧ q < n + 58
  · rw [if_pos hq] at he1 ⊢
    have he2 := Option.some.inj he1
    subst he2
    rcases sc_ceq (b := n) (j := q - n) with h1 | ⟨t, a, a', h1, h2, h3⟩
    · exact Or.inl (congrArg some h1)
    · exact Or.inr ⟨t, a, a', congrArg some h1, h2, h3⟩
  · rw [if_neg hq] at he1
    rw [if_neg hq]
    exact Or.inl he1
end ROWX
/-- the row of a place, made where there is none -/
noncomputable def sRow (S : XT) (B k : Nat) : Option (Nat × XT) :=
  oifp (rwf (B + 129) S.1.1 S.2.2.1 ∧ B + 129 ≤ S.1.1) (match S.2.2.1 k with
    | some a => some (a, S)
    | none => oifp (58 ≤ S.1.2.1 ∧ 1219 ≤ S.1.2.2) (some (S.1.1, (S.1.1 + 58, S.1.2.1 - 58, S.1.2.2 - 1219), S.2.1, upR S.2.2.1 k (some S.1.1), S.2.2.2.1, S.2.2.2.2.1, S.2.2.2.2.2.1, upW S.2.2.2.2.2.2 k S0)))
theorem sRow_ok {S : XT} {B k : Nat} {r : Nat × XT} (hk : k < 12) (hs : sRow S B k = some r) : r.2.2.2.1 k = some r.1 ∧ rwf (B + 129) r.2.1.1 r.2.2.2.1 := by
  unfold sRow at hs
  refine oifp_g hs fun hw hs => ?_
  cases e : S.2.2.1 k with
  | some a =>
    rw [e] at hs
    cases hs
    exact ⟨e, hw.1⟩
  | none =>
    rw [e] at hs
    refine oifp_g hs fun _ hs => ?_
    cases hs
    exact ⟨if_pos rfl, rwf_new hw.1 hw.2⟩
theorem vp_ge {p : Int32} {N : Nat} (h : vp_in p N) : ¬ p < 0 := fun z => h (Or.inl z)
theorem vp_ltI {p : Int32} {N : Nat} (h : vp_in p N) (hN : N < 2147483648) : p < Int32.ofNat N := by
  have h1 := vp_lt h
  have h2 := vp_ge h
  rw [Int32.lt_iff_toInt_lt, ofN_int hN]
  have e1 : (0 : Int32).toInt = 0 := rfl
  have e2 : p.toNatClampNeg = p.toInt.toNat := rfl
  rw [Int32.lt_iff_toInt_lt] at h2
  omega
set_option maxRecDepth 100000 in
theorem dX9_rowAtR {g : AG} {h0 : AH} {B : Nat} {z : Nat × Nat × Nat} {X R C L : Mem} {P : Rows} {W : Nat → Mem} {Q : AO → AH → Prop} {p : Int32} (hB : gB g ≤ B) (hin : vp_in p 10) {r : Nat × XT} (hs : sRow (z, X, P, R, C, L, W) B p.toNatClampNeg = some r)
    (hQ : Q (.ok (some (.ref r.1))) (xh (bw h0 B r.2.1 r.2.2.2.1 r.2.2.2.2.2.2.2) B r.2.2.1 r.2.2.2.1 r.2.2.2.2.1 r.2.2.2.2.2.1 r.2.2.2.2.2.2.1)) :
    AW g MX9_rowAt 0 [some (.ref (B + 118)), some (.int p), none] [] (xh (bw h0 B z P W) B X P R C L) Q := by
  have hlt := vp_lt hin
  unfold sRow at hs
  refine oifp_g hs fun hw hs => ?_
  dsimp only at hs hw
  refine AW.iload_n (z := 1) (am_r 0 rfl) rfl rfl ?_
  refine AW.if_lt (tg := 10) (am_r 1 rfl) rfl rfl (fun hc => absurd hc (vp_ge hin)) (fun _ => ?_)
  refine AW.iload_n (z := 1) (am_r 2 rfl) rfl rfl ?_
  refine AW.aload_n (z := 0) (am_r 3 rfl) rfl rfl ?_
  refine AW.alen (v := Int32.ofNat 10) (am_r 4 rfl) rfl rfl xh_118 rfl ?_
  refine AW.icmp_lt (tg := 18) (am_r 5 rfl) rfl rfl (fun _ => ?_) (fun hc => absurd (vp_ltI hin (by decide)) hc)
  refine AW.aload_n (z := 0) (am_r 10 rfl) rfl rfl ?_
  refine AW.iload_n (z := 1) (am_r 11 rfl) rfl rfl ?_
  cases e : P p.toNatClampNeg with
  | some a =>
    rw [e] at hs
    cases hs
    refine AW.aald (v := .ref a) (am_r 12 rfl) rfl rfl xh_118 hin (by show va_rf (if p.toNatClampNeg < 10 then P p.toNatClampNeg else none) = _; rw [if_pos hlt, e]; rfl) ?_
    refine AW.astore_n (z := 2) (L' := [some (.ref (B + 118)), some (.int p), some (.ref a)]) (am_r 13 rfl) rfl (Nat.le_of_ble_eq_true rfl) rfl ?_
    refine AW.aload_n (z := 2) (am_r 14 rfl) rfl rfl ?_
    refine AW.ifnonnull (tg := 38) (am_r 15 rfl) rfl ?_
    refine AW.aload_n (z := 2) (am_r 24 rfl) rfl rfl ?_
    exact AW.aret (am_r 25 rfl) rfl (Or.inl ⟨_, rfl⟩) (Or.inr ⟨_, rfl⟩) hQ
  | none =>
    rw [e] at hs
    refine oifp_g hs fun hr hs => ?_
    cases hs
    obtain ⟨z1, z2, z3⟩ := z
    dsimp only at hw hr hQ
    refine AW.aald (v := .null) (am_r 12 rfl) rfl rfl xh_118 hin (by show va_rf (if p.toNatClampNeg < 10 then P p.toNatClampNeg else none) = _; rw [if_pos hlt, e]; rfl) ?_
    refine AW.astore_nN (z := 2) (L' := [some (.ref (B + 118)), some (.int p), some .null]) (am_r 13 rfl) rfl (Nat.le_of_ble_eq_true rfl) rfl ?_
    refine AW.aload_nN (z := 2) (am_r 14 rfl) rfl rfl ?_
    refine AW.ifnonnullN (am_r 15 rfl) rfl ?_
    refine AW.new (fs := (List.range 16).map fdX7) (am_r 16 rfl) rfl klX7 q34 q35 q2 hdX7 (by show 1 ≤ z2; omega) (by show 16 ≤ z3; omega) ?_
    refine AW.heq gro_newS ?_
    refine AW.dup (am_r 17 rfl) rfl rfl ?_
    refine AW.callI (N := MX7_init) (As := []) (b := z1) (am_r 18 rfl) rfl oiX7_init q36 rfl rfl rfl rfl rfl ?_
    refine nX7_init (n := z1) (c := z2 - 1) (s := z3 - 16) (by omega) (by omega) (by omega) (cQ_v ?_)
    refine AW.hmono gro_sb ?_
    refine AW.astore_n (z := 2) (L' := [some (.ref (B + 118)), some (.int p), some (.ref z1)]) (am_r 19 rfl) rfl (Nat.le_of_ble_eq_true rfl) rfl ?_
    refine AW.aload_n (z := 0) (am_r 20 rfl) rfl rfl ?_
    refine AW.iload_n (z := 1) (am_r 21 rfl) rfl rfl ?_
    refine AW.aload_n (z := 2) (am_r 22 rfl) rfl rfl ?_
    have hA : (xh (bw h0 B (z1, z2, z3) P W) B X P R C L).1 (B + 118) = _ := xh_118
    refine AW.aast (t := 8) (ci := 7) (am_r 23 rfl) rfl rfl rfl ((blk_out (by omega)).trans hA) sb_st (by omega) hin ?_
    refine AW.heq (h' := xh (bw h0 B (z1 + 58, z2 - 58, z3 - 1219) (upR P p.toNatClampNeg (some z1)) (upW W p.toNatClampNeg S0)) B X (upR P p.toNatClampNeg (some z1)) R C L) ?_ ?_
    · rw [sb, hU_out (by omega), ← xh_row_new (P := P) (by exact hw.1) (by omega) e (by exact hw.2) rfl, ← xhp_118 (by omega)]
      rw [show z2 - 1 - 57 = z2 - 58 by omega, show z3 - 16 - 1203 = z3 - 1219 by omega]
      rfl
    refine AW.aload_n (z := 2) (am_r 24 rfl) rfl rfl ?_
    exact AW.aret (am_r 25 rfl) rfl (Or.inl ⟨_, rfl⟩) (Or.inr ⟨_, rfl⟩) hQ
set_option maxRecDepth 100000 in
theorem dX9_rowAtS {g : AG} {h0 : AH} {B : Nat} {z : Nat × Nat × Nat} {X R C L : Mem} {P : Rows} {W : Nat → Mem} {Q : AO → AH → Prop} {p : Int32} (hB : gB g ≤ B) (hin : vp_in p 2) {r : Nat × XT} (hs : sRow (z, X, P, R, C, L, W) B (10 + p.toNatClampNeg) = some r)
    (hQ : Q (.ok (some (.ref r.1))) (xh (bw h0 B r.2.1 r.2.2.2.1 r.2.2.2.2.2.2.2) B r.2.2.1 r.2.2.2.1 r.2.2.2.2.1 r.2.2.2.2.2.1 r.2.2.2.2.2.2.1)) :
    AW g MX9_rowAt 0 [some (.ref (B + 119)), some (.int p), none] [] (xh (bw h0 B z P W) B X P R C L) Q := by
  have hlt := vp_lt hin
  unfold sRow at hs
  refine oifp_g hs fun hw hs => ?_
  dsimp only at hs hw
  refine AW.iload_n (z := 1) (am_r 0 rfl) rfl rfl ?_
  refine AW.if_lt (tg := 10) (am_r 1 rfl) rfl rfl (fun hc => absurd hc (vp_ge hin)) (fun _ => ?_)
  refine AW.iload_n (z := 1) (am_r 2 rfl) rfl rfl ?_
  refine AW.aload_n (z := 0) (am_r 3 rfl) rfl rfl ?_
  refine AW.alen (v := Int32.ofNat 2) (am_r 4 rfl) rfl rfl xh_119 rfl ?_
  refine AW.icmp_lt (tg := 18) (am_r 5 rfl) rfl rfl (fun _ => ?_) (fun hc => absurd (vp_ltI hin (by decide)) hc)
  refine AW.aload_n (z := 0) (am_r 10 rfl) rfl rfl ?_
  refine AW.iload_n (z := 1) (am_r 11 rfl) rfl rfl ?_
  cases e : P (10 + p.toNatClampNeg) with
  | some a =>
    rw [e] at hs
    cases hs
    refine AW.aald (v := .ref a) (am_r 12 rfl) rfl rfl xh_119 hin (by show va_rf (if p.toNatClampNeg < 2 then P (10 + p.toNatClampNeg) else none) = _; rw [if_pos hlt, e]; rfl) ?_
    refine AW.astore_n (z := 2) (L' := [some (.ref (B + 119)), some (.int p), some (.ref a)]) (am_r 13 rfl) rfl (Nat.le_of_ble_eq_true rfl) rfl ?_
    refine AW.aload_n (z := 2) (am_r 14 rfl) rfl rfl ?_
    refine AW.ifnonnull (tg := 38) (am_r 15 rfl) rfl ?_
    refine AW.aload_n (z := 2) (am_r 24 rfl) rfl rfl ?_
    exact AW.aret (am_r 25 rfl) rfl (Or.inl ⟨_, rfl⟩) (Or.inr ⟨_, rfl⟩) hQ
  | none =>
    rw [e] at hs
    refine oifp_g hs fun hr hs => ?_
    cases hs
    obtain ⟨z1, z2, z3⟩ := z
    dsimp only at hw hr hQ
    refine AW.aald (v := .null) (am_r 12 rfl) rfl rfl xh_119 hin (by show va_rf (if p.toNatClampNeg < 2 then P (10 + p.toNatClampNeg) else none) = _; rw [if_pos hlt, e]; rfl) ?_
    refine AW.astore_nN (z := 2) (L' := [some (.ref (B + 119)), some (.int p), some .null]) (am_r 13 rfl) rfl (Nat.le_of_ble_eq_true rfl) rfl ?_
    refine AW.aload_nN (z := 2) (am_r 14 rfl) rfl rfl ?_
    refine AW.ifnonnullN (am_r 15 rfl) rfl ?_
    refine AW.new (fs := (List.range 16).map fdX7) (am_r 16 rfl) rfl klX7 q34 q35 q2 hdX7 (by show 1 ≤ z2; omega) (by show 16 ≤ z3; omega) ?_
    refine AW.heq gro_newS ?_
    refine AW.dup (am_r 17 rfl) rfl rfl ?_
    refine AW.callI (N := MX7_init) (As := []) (b := z1) (am_r 18 rfl) rfl oiX7_init q36 rfl rfl rfl rfl rfl ?_
    refine nX7_init (n := z1) (c := z2 - 1) (s := z3 - 16) (by omega) (by omega) (by omega) (cQ_v ?_)
    refine AW.hmono gro_sb ?_
    refine AW.astore_n (z := 2) (L' := [some (.ref (B + 119)), some (.int p), some (.ref z1)]) (am_r 19 rfl) rfl (Nat.le_of_ble_eq_true rfl) rfl ?_
    refine AW.aload_n (z := 0) (am_r 20 rfl) rfl rfl ?_
    refine AW.iload_n (z := 1) (am_r 21 rfl) rfl rfl ?_
    refine AW.aload_n (z := 2) (am_r 22 rfl) rfl rfl ?_
    have hA : (xh (bw h0 B (z1, z2, z3) P W) B X P R C L).1 (B + 119) = _ := xh_119
    refine AW.aast (t := 8) (ci := 7) (am_r 23 rfl) rfl rfl rfl ((blk_out (by omega)).trans hA) sb_st (by omega) hin ?_
    refine AW.heq (h' := xh (bw h0 B (z1 + 58, z2 - 58, z3 - 1219) (upR P (10 + p.toNatClampNeg) (some z1)) (upW W (10 + p.toNatClampNeg) S0)) B X (upR P (10 + p.toNatClampNeg) (some z1)) R C L) ?_ ?_
    · rw [sb, hU_out (by omega), ← xh_row_new (P := P) (by exact hw.1) (by omega) e (by exact hw.2) rfl, ← xhp_119 (by omega)]
      rw [show z2 - 1 - 57 = z2 - 58 by omega, show z3 - 16 - 1203 = z3 - 1219 by omega]
      rfl
    refine AW.aload_n (z := 2) (am_r 24 rfl) rfl rfl ?_
    exact AW.aret (am_r 25 rfl) rfl (Or.inl ⟨_, rfl⟩) (Or.inr ⟨_, rfl⟩) hQ
noncomputable def sX1_remember (S : XT) (B : Nat) : Option XT :=
  oif (inb (gi S.2.1 1 1 0) 10) (
  obind (sRow S B (gi S.2.1 1 1 0).toNatClampNeg) fun r =>
  obind (sX7_copyFrom (r.2.2.2.2.2.2.2 (gi S.2.1 1 1 0).toNatClampNeg) r.2.2.2.2.2.2.1) fun m =>
  some (r.2.1, si (si r.2.2.1 1 1 0 (gi r.2.2.1 1 1 0 + (1 : Int32) - (gi r.2.2.1 1 1 0 + (1 : Int32)) / (10 : Int32) * (10 : Int32))) 1 2 0 (jmin (gi r.2.2.1 1 2 0 + (1 : Int32)) (10 : Int32)), r.2.2.2.1, r.2.2.2.2.1, r.2.2.2.2.2.1, r.2.2.2.2.2.2.1, upW r.2.2.2.2.2.2.2 (gi S.2.1 1 1 0).toNatClampNeg m))
set_option maxRecDepth 100000 in
theorem dX1_remember {g : AG} {h0 : AH} {S : XT} {Q : AO → AH → Prop} {B : Nat} (hB : gB g ≤ B) (hst : Sta g h0) {r : XT} (hs : sX1_remember S B = some r) (hQ : Q (.ok none) (xh (bw h0 B r.1 r.2.2.1 r.2.2.2.2.2.2) B r.2.1 r.2.2.1 r.2.2.2.1 r.2.2.2.2.1 r.2.2.2.2.2.1)) : AW g MX1_remember 0 [some (.ref (B + 117)), some (.ref (B + 1))] [] (xh (bw h0 B S.1 S.2.2.1 S.2.2.2.2.2.2) B S.2.1 S.2.2.1 S.2.2.2.1 S.2.2.2.2.1 S.2.2.2.2.2.1) Q := by
  obtain ⟨z, X, P, R, C, L, W⟩ := S
  unfold sX1_remember at hs
  refine oif_g hs fun hin hs => ?_
  refine obind_e hs fun r1 hr1 hs => ?_
  refine obind_e hs fun m hm hs => ?_
  dsimp only at hin hr1 hm
  have hv := vp_of_inb hin
  have hlt := vp_lt hv
  refine AW.aload_n (z := 0) (am_r 0 rfl) rfl rfl ?_
  refine AW.getO (am_r 1 rfl) rfl klX1 (k := 0) (by omega) q301 xh_117 rfl ?_
  refine AW.aload_n (z := 0) (am_r 2 rfl) rfl rfl ?_
  refine AW.getO (am_r 3 rfl) rfl klX1 (k := 1) (by omega) q302 xh_117 rfl ?_
  refine AW.callSN (N := MX9_rowAt) (host := RX9) (As := [.ref (B + 118), .int (gi X 1 1 0)]) (S := []) (am_r 4 rfl) rfl osX9_rowAt (List.mem_of_getElem? (i := 2) rfl : Cond.methodLinkNest RX1 21 yX9_rowAt RX9 ∈ am_nw) rfl rfl rfl rfl rfl ?_
  refine dX9_rowAtR hB hv hr1 (cQ_r ?_)
  obtain ⟨ha, hw⟩ := sRow_ok (by omega) hr1
  obtain ⟨a, z', X', P', R', C', L', W'⟩ := r1
  dsimp only at ha hw hm hs ⊢
  have hk : (gi X 1 1 0).toNatClampNeg < 12 := by omega
  have h4 := (hw _ hk a ha).1.1
  have hc : (xh (bw h0 B z' P' W') B X' P' R' C' L').1 a = some (ob 7 16 (stF a (W' (gi X 1 1 0).toNatClampNeg))) := by
    rw [xh_row_at hw hk ha (Nat.le_refl _) (by omega), Nat.sub_self]; rfl
  refine AW.aload_n (z := 1) (am_r 5 rfl) rfl rfl ?_
  refine AW.callV (N := MX7_copyFrom) (As := [.ref (B + 1)]) (S := []) (b := a) (am_r 6 rfl) rfl ovX7_copyFrom q855 rfl rfl hc rfl rfl rfl rfl ?_
  refine AW.heq (xh_row_id hw hk ha) ?_
  refine dX7_copyFrom (by omega) (Nat.le_trans hB (by omega)) (by omega) hm (cQ_v ?_)
  refine AW.heq (xh_row_put hw hk ha) ?_
  refine AW.aload_n (z := 0) (am_r 7 rfl) rfl rfl ?_
  refine AW.aload_n (z := 0) (am_r 8 rfl) rfl rfl ?_
  refine AW.getO (am_r 9 rfl) rfl klX1 (k := 1) (by omega) q302 xh_117 rfl ?_
  refine AW.iconst (am_r 10 rfl) rfl ci_1 ?_
  refine AW.iadd (am_r 11 rfl) rfl ?_
  refine AW.bipush (v := (10 : Int32)) (am_r 12 rfl) rfl (by decide) ?_
  refine AW.irem (am_r 13 rfl) rfl (by decide) ?_
  refine AW.putO (am_r 14 rfl) rfl klX1 (k := 1) (by omega) q302 (Or.inl rfl) xh_117 (Nat.le_trans hB (by omega)) rfl rfl (xhp_117 (by omega)) ?_
  refine AW.aload_n (z := 0) (am_r 15 rfl) rfl rfl ?_
  refine AW.aload_n (z := 0) (am_r 16 rfl) rfl rfl ?_
  refine AW.getO (v := .int (gi X' 1 2 0)) (am_r 17 rfl) rfl klX1 (k := 2) (by omega) q303 xh_117 rfl ?_
  refine AW.iconst (am_r 18 rfl) rfl ci_1 ?_
  refine AW.iadd (am_r 19 rfl) rfl ?_
  refine AW.bipush (v := (10 : Int32)) (am_r 20 rfl) rfl (by decide) ?_
  refine AW.jmin (am_r 21 rfl) rfl q856 rfl ?_
  refine AW.putO (am_r 22 rfl) rfl klX1 (k := 2) (by omega) q303 (Or.inl rfl) xh_117 (Nat.le_trans hB (by omega)) rfl rfl (xhp_117 (by omega)) ?_
  cases hs
  exact AW.vret (am_r 23 rfl) rfl hQ
noncomputable def sX1_stepBack (S : XT) (B : Nat) : Option (Int32 × XT) :=
  if gi S.2.1 1 2 0 = 0 then some ((0 : Int32), S) else
  olet (gi S.2.1 1 1 0 + (10 : Int32) - (1 : Int32) - (gi S.2.1 1 1 0 + (10 : Int32) - (1 : Int32)) / (10 : Int32) * (10 : Int32)) fun e =>
  oif (inb e 10) (
  obind (sRow (S.1, si (si S.2.1 1 1 0 e) 1 2 0 (gi S.2.1 1 2 0 - (1 : Int32)), S.2.2) B e.toNatClampNeg) fun r =>
  obind (sX7_copyFrom r.2.2.2.2.2.2.1 (r.2.2.2.2.2.2.2 e.toNatClampNeg)) fun m =>
  some ((1 : Int32), r.2.1, r.2.2.1, r.2.2.2.1, r.2.2.2.2.1, r.2.2.2.2.2.1, m, r.2.2.2.2.2.2.2))
set_option maxRecDepth 100000 in
theorem dX1_stepBack {g : AG} {h0 : AH} {S : XT} {Q : AO → AH → Prop} {B : Nat} (hB : gB g ≤ B) (hst : Sta g h0) {r : Int32 × XT} (hs : sX1_stepBack S B = some r) (hQ : (r.1 = 0 ∨ r.1 = 1) → Q (.ok (some (.int r.1))) (xh (bw h0 B r.2.1 r.2.2.2.1 r.2.2.2.2.2.2.2) B r.2.2.1 r.2.2.2.1 r.2.2.2.2.1 r.2.2.2.2.2.1 r.2.2.2.2.2.2.1)) : AW g MX1_stepBack 0 [some (.ref (B + 117)), some (.ref (B + 1))] [] (xh (bw h0 B S.1 S.2.2.1 S.2.2.2.2.2.2) B S.2.1 S.2.2.1 S.2.2.2.1 S.2.2.2.2.1 S.2.2.2.2.2.1) Q := by
  obtain ⟨z, X, P, R, C, L, W⟩ := S
  unfold sX1_stepBack at hs
  dsimp only at hs ⊢
  refine AW.aload_n (z := 0) (am_r 0 rfl) rfl rfl ?_
  refine AW.getO (am_r 1 rfl) rfl klX1 (k := 2) (by omega) q303 xh_117 rfl ?_
  refine AW.if_ne (tg := 9) (am_r 2 rfl) rfl rfl (fun hc => ?_) (fun hc => ?_)
  · replace hs := (if_neg hc).symm.trans hs
    refine AW.aload_n (z := 0) (am_r 5 rfl) rfl rfl ?_
    refine AW.aload_n (z := 0) (am_r 6 rfl) rfl rfl ?_
    refine AW.getO (am_r 7 rfl) rfl klX1 (k := 1) (by omega) q302 xh_117 rfl ?_
    refine AW.bipush (v := (10 : Int32)) (am_r 8 rfl) rfl (by decide) ?_
    refine AW.iadd (am_r 9 rfl) rfl ?_
    refine AW.iconst (am_r 10 rfl) rfl ci_1 ?_
    refine AW.isub (am_r 11 rfl) rfl ?_
    refine AW.bipush (v := (10 : Int32)) (am_r 12 rfl) rfl (by decide) ?_
    refine AW.irem (am_r 13 rfl) rfl (by decide) ?_
    refine AW.putO (am_r 14 rfl) rfl klX1 (k := 1) (by omega) q302 (Or.inl rfl) xh_117 (Nat.le_trans hB (by omega)) rfl rfl (xhp_117 (by omega)) ?_
    refine AW.aload_n (z := 0) (am_r 15 rfl) rfl rfl ?_
    refine AW.dup (am_r 16 rfl) rfl rfl ?_
    refine AW.getO (v := .int (gi X 1 2 0)) (am_r 17 rfl) rfl klX1 (k := 2) (by omega) q303 xh_117 rfl ?_
    refine AW.iconst (am_r 18 rfl) rfl ci_1 ?_
    refine AW.isub (am_r 19 rfl) rfl ?_
    refine AW.putO (am_r 20 rfl) rfl klX1 (k := 2) (by omega) q303 (Or.inl rfl) xh_117 (Nat.le_trans hB (by omega)) rfl rfl (xhp_117 (by omega)) ?_
    refine olet_e (P := fun y => AW g MX1_stepBack 35 [some (.ref (B + 117)), some (.ref (B + 1))] [] (xh (bw h0 B z P W) B (si (si X 1 1 0 y) 1 2 0 (gi X 1 2 0 - (1 : Int32))) P R C L) Q) hs fun e hs => ?_
    refine oif_g hs fun hin hs => ?_
    refine obind_e hs fun r1 hr1 hs => ?_
    refine obind_e hs fun m hm hs => ?_
    have hv := vp_of_inb hin
    have hlt := vp_lt hv
    refine AW.aload_n (z := 1) (am_r 21 rfl) rfl rfl ?_
    refine AW.aload_n (z := 0) (am_r 22 rfl) rfl rfl ?_
    refine AW.getO (am_r 23 rfl) rfl klX1 (k := 0) (by omega) q301 xh_117 rfl ?_
    refine AW.aload_n (z := 0) (am_r 24 rfl) rfl rfl ?_
    refine AW.getO (v := .int e) (am_r 25 rfl) rfl klX1 (k := 1) (by omega) q302 xh_117 rfl ?_
    refine AW.callSN (N := MX9_rowAt) (host := RX9) (As := [.ref (B + 118), .int e]) (S := [.ref (B + 1)]) (am_r 26 rfl) rfl osX9_rowAt (List.mem_of_getElem? (i := 2) rfl : Cond.methodLinkNest RX1 21 yX9_rowAt RX9 ∈ am_nw) rfl rfl rfl rfl rfl ?_
    refine dX9_rowAtR hB hv hr1 (cQ_r ?_)
    obtain ⟨ha, hw⟩ := sRow_ok (by omega) hr1
    obtain ⟨a, z', X', P', R', C', L', W'⟩ := r1
    dsimp only at ha hw hm hs ⊢
    have hk : e.toNatClampNeg < 12 := by omega
    have h4 := (hw _ hk a ha).1.1
    refine AW.callV (N := MX7_copyFrom) (As := [.ref a]) (S := []) (b := B + 1) (am_r 27 rfl) rfl ovX7_copyFrom q855 rfl rfl (xl_get (fun _ => sb_st)) rfl rfl rfl rfl ?_
    refine AW.heq (xh_live_id hw hk ha) ?_
    refine dX7_copyFrom (Nat.le_trans hB (by omega)) (by omega) (by omega) hm (cQ_v ?_)
    refine AW.heq (xh_live_put hw hk ha) ?_
    refine AW.iconst (am_r 28 rfl) rfl ci_1 ?_
    cases hs
    exact AW.zret (am_r 29 rfl) rfl (Or.inr rfl) (hQ (Or.inr rfl))
  · replace hs := (if_pos hc).symm.trans hs
    refine AW.iconst (am_r 3 rfl) rfl ci_0 ?_
    cases hs
    exact AW.zret (am_r 4 rfl) rfl (Or.inl rfl) (hQ (Or.inl rfl))
