/-! ===== WHAT CONSTRUCTORS MAKE (laid by a program, but for its first part) ===== -/
theorem HC.mono {g : AG} {h h' : AH} {H : Heap} (h2 : h'.2 = h.2) (hq : ∀ (q : Nat) (e' : AE), h'.1 q = some e' → h.1 q = some e' ∨ ∃ (t : Nat) (a a' : vp_A), h.1 q = some (.inl (t, a)) ∧ e' = .inl (t, a') ∧ ∀ c : ClassId, vp_cell c a = vp_cell c a') (k : HC g h H) : HC g h' H := by
  obtain ⟨k1, k2, k3, k4⟩ := k
  refine ⟨fun q e' he => ?_, by rw [h2]; exact k2, by rw [h2]; exact k3, by rw [h2]; exact k4⟩
  rcases hq q e' he with z | ⟨t, a, a', z1, z2, z3⟩
  · exact k1 q e' z
  · subst z2
    have := k1 q _ z1
    refine ⟨fun hb => ?_, fun hb => ?_⟩
    · show H[q]? = some (vp_cell (gT g t) a')
      rw [← z3]
      exact this.1 hb
    · obtain ⟨cell, j1, j2, j3, j4, j5⟩ := this.2 hb
      exact ⟨cell, j1, j2, j3, j4, by rw [j5]; show (vp_cell (gT g t) a).slots = _; rw [z3]⟩
theorem AW.hmono {g : AG} {M : AM} {pc : Nat} {L : List (Option Value)} {S : List Value} {h h' : AH} {Q : AO → AH → Prop} (hh : ∀ H : Heap, HC g h H → HC g h' H) (k : AW g M pc L S h' Q) : AW g M pc L S h Q :=
  fun p e s m args below meth c H locs cells slots ls hC hF hH => k p e s m args below meth c H locs cells slots ls hC hF (hh H hH)
/-- a block that grows: k cells from n on, of the heap h0 -/
def gro (h0 : AH) (n k : Nat) (c s : Nat) (f : Nat → AE) : AH := ((blk h0 n k f).1, n + k, c, s)
theorem gro_eq {h0 : AH} {n k k' c c' s s' : Nat} {f f' : Nat → AE} (hk : k = k') (hc : c = c') (hs : s = s') (hf : ∀ j, j < k → f j = f' j) : gro h0 n k c s f = gro h0 n k' c' s' f' := by
  subst hk; subst hc; subst hs
  refine Prod.ext (funext fun q => ?_) rfl
  show (if n ≤ q ∧ q < n + k then some (f (q - n)) else h0.1 q) = (if n ≤ q ∧ q < n + k then some (f' (q - n)) else h0.1 q)
  by_cases h1 : n ≤ q ∧ q < n + k
  · rw [if_pos h1, if_pos h1, hf _ (by omega)]
  · rw [if_neg h1, if_neg h1]
theorem gro_get {h0 : AH} {n k c s j : Nat} {f : Nat → AE} (hj : j < k) : (gro h0 n k c s f).1 (n + j) = some (f j) := blk_in hj
theorem gro_put {h0 : AH} {n k c s j : Nat} {f : Nat → AE} {e : AE} (hj : j < k) : hU (gro h0 n k c s f) (n + j) e = gro h0 n k c s (fun i => if i = j then e else f i) := by
  refine Prod.ext ?_ rfl
  have h1 := blk_put (h := h0) (a := n) (n := k) (k := j) (f := f) (f' := fun i => if i = j then e else f i) (e := e) hj (fun _ _ => rfl)
  show (hU (blk h0 n k f) (n + j) e).1 = _
  rw [h1]
  rfl
theorem gro_new {h0 : AH} {n k c s N : Nat} {f : Nat → AE} {e : AE} : hN (gro h0 n k c s f) N e = gro h0 n (k + 1) (c - 1) (s - N) (fun i => if i = k then e else f i) := by
  refine Prod.ext (funext fun q => ?_) rfl
  show (if q = n + k then some e else if n ≤ q ∧ q < n + k then some (f (q - n)) else h0.1 q) = (if n ≤ q ∧ q < n + (k + 1) then some (if q - n = k then e else f (q - n)) else h0.1 q)
  by_cases h1 : q = n + k
  · rw [if_pos h1, if_pos (by omega), if_pos (by omega)]
  · rw [if_neg h1]
    by_cases h2 : n ≤ q ∧ q < n + k
    · rw [if_pos h2, if_pos (by omega), if_neg (by omega)]
    · rw [if_neg h2, if_neg (by omega)]
theorem gro_0 {h0 : AH} {f : Nat → AE} : h0 = gro h0 h0.2.1 0 h0.2.2.1 h0.2.2.2 f := by
  refine Prod.ext (funext fun q => ?_) rfl
  show h0.1 q = (if h0.2.1 ≤ q ∧ q < h0.2.1 + 0 then _ else h0.1 q)
  rw [if_neg (by omega)]

theorem le2 {P : Nat → Prop} (h0 : P 0) (h1 : P 1) : ∀ j, j < 2 → P j := fun j hj => by
  rcases (show j = 0 ∨ j = 1 by omega) with rfl | rfl
  · exact h0
  · exact h1
theorem gro_get0 {h0 : AH} {n k c s : Nat} {f : Nat → AE} (hj : 0 < k) : (gro h0 n k c s f).1 n = some (f 0) := gro_get (j := 0) hj
theorem gro_newS {h : AH} {N : Nat} {e : AE} : hN h N e = gro h h.2.1 1 (h.2.2.1 - 1) (h.2.2.2 - N) (fun _ => e) := by
  refine Prod.ext (funext fun q => ?_) rfl
  show (if q = h.2.1 then some e else h.1 q) = (if h.2.1 ≤ q ∧ q < h.2.1 + 1 then some e else h.1 q)
  by_cases h1 : q = h.2.1
  · rw [if_pos h1, if_pos (by omega)]
  · rw [if_neg h1, if_neg (by omega)]
theorem gro_gro {h0 : AH} {n k c s k' c' s' : Nat} {f f' : Nat → AE} : gro (gro h0 n k c s f) (n + k) k' c' s' f' = gro h0 n (k + k') c' s' (fun j => if j < k then f j else f' (j - k)) := by
  refine Prod.ext (funext fun q => ?_) (by show (n + k + k', c', s') = (n + (k + k'), c', s'); rw [Nat.add_assoc])
  show (if n + k ≤ q ∧ q < n + k + k' then some (f' (q - (n + k))) else if n ≤ q ∧ q < n + k then some (f (q - n)) else h0.1 q) = (if n ≤ q ∧ q < n + (k + k') then some (if q - n < k then f (q - n) else f' (q - n - k)) else h0.1 q)
  by_cases h1 : n + k ≤ q ∧ q < n + k + k'
  · rw [if_pos h1, if_pos (by omega), if_neg (by omega), Nat.sub_sub]
  · rw [if_neg h1]
    by_cases h2 : n ≤ q ∧ q < n + k
    · rw [if_pos h2, if_pos (by omega), if_pos (by omega)]
    · rw [if_neg h2, if_neg (by omega)]
theorem gro_sub {h0 : AH} {n k c s c0 s0 : Nat} {e : AE} {f : Nat → AE} : gro h0 n (k + 1) c s (fun i => if i = k then e else f i) = gro (gro h0 n k c0 s0 f) (n + k) 1 c s (fun _ => e) := by
  rw [gro_gro]
  refine gro_eq rfl rfl rfl fun j hj => ?_
  by_cases h1 : j = k
  · rw [if_pos h1, if_neg (by omega)]
  · rw [if_neg h1, if_pos (by omega)]
theorem gg_at {α : Type} {j k : Nat} {a : α} {f : Nat → α} (h : k = j) : (if j < k then a else f (j - k)) = f 0 := by
  subst h
  rw [if_neg (Nat.lt_irrefl _), Nat.sub_self]
theorem ha_int (N : Nat) : ∀ cA : ClassId, vp_cell cA (N, .inl (fun _ => 0)) = arrV cA N (fun _ => defaultValue .int) := fun _ => rfl
section AWG
variable {g : AG} {M : AM} {pc nx : Nat} {L : List (Option Value)} {S : List Value} {h0 : AH} {n K c s : Nat} {f : Nat → AE} {Q : AO → AH → Prop}
theorem AW.newG {ci N i : Nat} {C : String} {T : u_T} {ty : Nat → FieldType} {F : Nat → Value} (hr : (pc, Instr.new i, 3) ∈ mR M) (hn : pc + 3 = nx) (hc : am_Kl ci C T N ty) (hcl : Cond.classLink (mY M).cls i C ∈ am_tb) (hins : Cond.instantiable C N ∈ am_tb) (hini : Cond.initialized C ∈ am_tb) (hfs : ∀ j, j < N → defaultValue (ty j) = vp_V ((List.range N).map F) j) (hrc : 1 ≤ c) (hrs : N ≤ s) (kk : AW g M nx L (.ref (n + K) :: S) (gro h0 n (K + 1) (c - 1) (s - N) (fun i => if i = K then ob ci N F else f i)) Q) : AW g M pc L S (gro h0 n K c s f) Q :=
  AW.new hr hn hc hcl hins hini hfs hrc hrs (AW.heq gro_new kk)
theorem AW.newaG {t N : Nat} {x : Int32} {atype : ArrayType} {ty : FieldType} {a0 : vp_A} (hr : (pc, Instr.newarray atype, 2) ∈ mR M) (hn : pc + 2 = nx) (harr : Cond.arrayClass ty ∈ am_tb) (ht0 : newarray.typeOf atype = ty) (ht : am_ft[t]? = some ty) (ha0 : ∀ cA : ClassId, vp_cell cA a0 = arrV cA N (fun _ => defaultValue ty)) (h0' : ¬ x < 0) (hNN : x.toNatClampNeg = N) (hbytes : N * componentBytes ty ≤ 536870912) (hrc : 1 ≤ c) (hrs : N ≤ s) (kk : AW g M nx L (.ref (n + K) :: S) (gro h0 n (K + 1) (c - 1) (s - N) (fun i => if i = K then .inl (t, a0) else f i)) Q) : AW g M pc L (.int x :: S) (gro h0 n K c s f) Q :=
  AW.newa hr hn harr ht0 ht ha0 h0' hNN hbytes hrc hrs (AW.heq gro_new kk)
theorem AW.anewG {t i N : Nat} {x : Int32} {C : String} (hr : (pc, Instr.anewarray i, 3) ∈ mR M) (hn : pc + 3 = nx) (hcl : Cond.classLink (mY M).cls i C ∈ am_tb) (hov : C ∈ am_oc) (ht : am_ft[t]? = some (.object C)) (h0' : ¬ x < 0) (hNN : x.toNatClampNeg = N) (hbytes : N * 4 ≤ 536870912) (hrc : 1 ≤ c) (hrs : N ≤ s) (kk : AW g M nx L (.ref (n + K) :: S) (gro h0 n (K + 1) (c - 1) (s - N) (fun i => if i = K then .inl (t, N, .inr (.inr (.inr (.inr (fun _ => none))))) else f i)) Q) : AW g M pc L (.int x :: S) (gro h0 n K c s f) Q :=
  AW.anew hr hn hcl hov ht h0' hNN hbytes hrc hrs (AW.heq gro_new kk)
theorem AW.putG {ci N i k j : Nat} {C : String} {T : u_T} {ty : Nat → FieldType} {F : Nat → Value} {v : Value} (hr : (pc, Instr.putfield i, 3) ∈ mR M) (hn : pc + 3 = nx) (hc : am_Kl ci C T N ty) (hk : k < N) (hw : Cond.fieldLink (mY M).cls i (T k).1 (T k).2.1 (T k).2.2.1 ∈ am_tb) (hfin : (T k).2.2.2 = false ∨ ((mY M).name = "<init>" ∧ (T k).1 = (mY M).cls)) (hj : j < K) (hf : f j = ob ci N F) (hA : gB g ≤ n) (hnv : narrow (ty k) v = v) (hfit : fits (ty k) v = true) (kk : AW g M nx L S (gro h0 n K c s (fun q => if q = j then ob ci N (fun p => if p = k then v else F p) else f q)) Q) : AW g M pc L (v :: .ref (n + j) :: S) (gro h0 n K c s f) Q :=
  AW.putO hr hn hc hk hw hfin ((gro_get hj).trans (congrArg some hf)) (by omega) hnv hfit (gro_put hj) kk
theorem AW.getG {ci N i k j : Nat} {C : String} {T : u_T} {ty : Nat → FieldType} {F : Nat → Value} {v : Value} (hr : (pc, Instr.getfield i, 3) ∈ mR M) (hn : pc + 3 = nx) (hc : am_Kl ci C T N ty) (hk : k < N) (hw : Cond.fieldLink (mY M).cls i (T k).1 (T k).2.1 (T k).2.2.1 ∈ am_tb) (hj : j < K) (hf : f j = ob ci N F) (hv : F k = v) (kk : AW g M nx L (v :: S) (gro h0 n K c s f) Q) : AW g M pc L (.ref (n + j) :: S) (gro h0 n K c s f) Q :=
  AW.getO hr hn hc hk hw ((gro_get hj).trans (congrArg some hf)) hv kk
theorem AW.alenG {t j : Nat} {x : vp_A} {ty : FieldType} {v : Int32} (hr : (pc, Instr.arraylength, 1) ∈ mR M) (hn : pc + 1 = nx) (ht : am_ft[t]? = some ty) (hj : j < K) (hf : f j = .inl (t, x)) (hv : Int32.ofNat x.1 = v) (kk : AW g M nx L (.int v :: S) (gro h0 n K c s f) Q) : AW g M pc L (.ref (n + j) :: S) (gro h0 n K c s f) Q :=
  AW.alen hr hn ht ((gro_get hj).trans (congrArg some hf)) hv kk
theorem AW.aastG {j jv N t ci : Nat} {i : Int32} {r : vw_C} {vs : List Value} {fa : Nat → Option Nat} (hr : (pc, Instr.aastore, 1) ∈ mR M) (hn : pc + 1 = nx) (ht : am_ft[t]? = some (.object r.1)) (hc : am_cl[ci]? = some r) (hj : j < K) (hjv : jv < K) (hf : f j = .inl (t, N, .inr (.inr (.inr (.inr fa))))) (hv : f jv = .inr (ci, vs)) (hA : gB g ≤ n) (hin : vp_in i N) (kk : AW g M nx L S (gro h0 n K c s (fun q => if q = j then .inl (t, N, .inr (.inr (.inr (.inr (va_up fa i.toNatClampNeg (some (n + jv))))))) else f q)) Q) : AW g M pc L (.ref (n + jv) :: .int i :: .ref (n + j) :: S) (gro h0 n K c s f) Q :=
  AW.aast hr hn ht hc ((gro_get hj).trans (congrArg some hf)) ((gro_get hjv).trans (congrArg some hv)) (by omega) hin (AW.heq (gro_put hj) kk)
end AWG
/-! numbers of loops -/
theorem ofN_int {n : Nat} (h : n < 2147483648) : (Int32.ofNat n).toInt = (n : Int) := Int32.toInt_ofNat_of_lt (by exact h)
theorem ofN_nat {n : Nat} (h : n < 2147483648) : (Int32.ofNat n).toNatClampNeg = n := by
  show (Int32.ofNat n).toInt.toNat = n
  rw [ofN_int h]; rfl
theorem ofN_lt {a b : Nat} (h : a < b) (hb : b < 2147483648) : Int32.ofNat a < Int32.ofNat b := by
  rw [Int32.lt_iff_toInt_lt, ofN_int (by omega), ofN_int hb]; omega
theorem ofN_in {a b : Nat} (h : a < b) (hb : b < 2147483648) : vp_in (Int32.ofNat a) b := by
  rintro (h1 | h1)
  · rw [Int32.lt_iff_toInt_lt, ofN_int (by omega)] at h1
    have e : (0 : Int32).toInt = 0 := rfl
    omega
  · rw [ofN_nat (by omega)] at h1; omega
theorem ofN_suc {m : Nat} : Int32.ofNat m + Int32.ofInt 1 = Int32.ofNat (m + 1) := by
  rw [Int32.ofNat_add]; rfl
/-! ===== a fresh studio ===== -/
def S0 : Mem := (fun c j i => if c = 0 ∧ j = 10 then 1 else if c = 0 ∧ j = 11 then 72 else if c = 3 ∧ j = 0 then (if i = 17 then -1 else Int32.ofNat i) else 0, fun _ _ => 0)
def soF (b o : Nat) : Nat → Value := fun k => if k < 7 then (if k < o then stF b S0 k else .null) else if k = 10 then .int (if 8 ≤ o then 1 else 0) else if k = 11 then .int (if 9 ≤ o then 72 else 0) else .int 0
/-- the cells of a Studio while it is made: so many presses, recipes, items in their arrays, so many fields -/
def sc (b np nr ni o j : Nat) : AE :=
  if j = 0 then ob 7 16 (soF b o)
  else if j = 1 then .inl (5, 6, .inr (.inr (.inr (.inr (fun q => if q < np then some (b + 2 + q) else none)))))
  else if j = 8 then .inl (6, 10, .inr (.inr (.inr (.inr (fun q => if q < nr then some (b + 9 + q) else none)))))
  else if j = 19 then .inl (7, 16, .inr (.inr (.inr (.inr (fun q => if q < ni then some (b + 20 + 2 * q) else none)))))
  else scell b S0 j
theorem paZ {f : Nat → Nat} : (fun q => if q < 0 then some (f q) else none) = (fun _ => (none : Option Nat)) := funext fun q => if_neg (Nat.not_lt_zero q)
theorem paS {f : Nat → Nat} {m a : Nat} (h : a = f m) : va_up (fun q => if q < m then some (f q) else none) m (some a) = (fun q => if q < m + 1 then some (f q) else none) := by
  subst h
  funext q
  show (if q = m then some (f m) else if q < m then some (f q) else none) = _
  by_cases h1 : q = m
  · subst h1; rw [if_pos rfl, if_pos (by omega)]
  · rw [if_neg h1]
    by_cases h2 : q < m
    · rw [if_pos h2, if_pos (by omega)]
    · rw [if_neg h2, if_neg (by omega)]
theorem sc_ne {b np nr ni o o' j : Nat} (h : j ≠ 0) : sc b np nr ni o j = sc b np nr ni o' j := by
  unfold sc
  rw [if_neg h, if_neg h]
theorem sc_step {b np nr ni o o' j kf K : Nat} {v : Value} {e : AE} (ho : ∀ q, (if q = kf then v else soF b o q) = soF b o' q) (he : e = sc b np nr ni o' K) (hK : K ≠ 0) : (if j = 0 then ob 7 16 (fun q => if q = kf then v else soF b o q) else if j = K then e else sc b np nr ni o j) = sc b np nr ni o' j := by
  by_cases h0 : j = 0
  · subst h0; rw [if_pos rfl]; exact ob_cg ho
  · rw [if_neg h0]
    by_cases h1 : j = K
    · subst h1; rw [if_pos rfl]; exact he
    · rw [if_neg h1]; exact sc_ne h0
theorem sc_step0 {b np nr ni o o' j kf : Nat} {v : Value} (ho : ∀ q, (if q = kf then v else soF b o q) = soF b o' q) : (if j = 0 then ob 7 16 (fun q => if q = kf then v else soF b o q) else sc b np nr ni o j) = sc b np nr ni o' j := by
  by_cases h0 : j = 0
  · subst h0; rw [if_pos rfl]; exact ob_cg ho
  · rw [if_neg h0]; exact sc_ne h0
/-- one more reference among the fields -/
theorem so_r {b o : Nat} {v : Value} (ho : o < 7) (hv : v = stF b S0 o) (q : Nat) : (if q = o then v else soF b o q) = soF b (o + 1) q := by
  subst hv
  unfold soF
  by_cases h1 : q = o
  · subst h1; rw [if_pos rfl, if_pos ho, if_pos (by omega)]
  · rw [if_neg h1]
    by_cases h2 : q < 7
    · rw [if_pos h2, if_pos h2]
      by_cases h3 : q < o
      · rw [if_pos h3, if_pos (by omega)]
      · rw [if_neg h3, if_neg (by omega)]
    · rw [if_neg h2, if_neg h2]
      by_cases h3 : q = 10
      · rw [if_pos h3, if_pos h3, if_neg (by omega), if_neg (by omega)]
      · rw [if_neg h3, if_neg h3]
        by_cases h4 : q = 11
        · rw [if_pos h4, if_pos h4, if_neg (by omega), if_neg (by omega)]
        · rw [if_neg h4, if_neg h4]
theorem so_7 {b : Nat} (q : Nat) : (if q = 10 then .int (1 : Int32) else soF b 7 q) = soF b 8 q := by
  unfold soF
  by_cases h1 : q = 10
  · subst h1; rfl
  · rw [if_neg h1]
    by_cases h2 : q < 7
    · rw [if_pos h2, if_pos h2, if_pos h2, if_pos (by omega)]
    · rw [if_neg h2, if_neg h2, if_neg h1, if_neg h1]; rfl
theorem so_8 {b : Nat} (q : Nat) : (if q = 11 then .int (72 : Int32) else soF b 8 q) = soF b 9 q := by
  unfold soF
  by_cases h1 : q = 11
  · subst h1; rfl
  · rw [if_neg h1]
    by_cases h2 : q < 7
    · rw [if_pos h2, if_pos h2, if_pos (by omega), if_pos (by omega)]
    · rw [if_neg h2, if_neg h2, if_neg h1, if_neg h1]; rfl
def fdX0 : Nat → Value := fun j => match j with | 0 => .null | _ => .int 0
theorem hdX0 : ∀ j, j < 3 → defaultValue (tyX0 j) = vp_V ((List.range 3).map fdX0) j := fun j hj => match j, hj with
  | 0, _ => rfl
  | 1, _ => rfl
  | 2, _ => rfl
  | _ + 3, h => absurd h (by omega)
def fdX1 : Nat → Value := fun j => match j with | 0 => .null | _ => .int 0
theorem hdX1 : ∀ j, j < 3 → defaultValue (tyX1 j) = vp_V ((List.range 3).map fdX1) j := fun j hj => match j, hj with
  | 0, _ => rfl
  | 1, _ => rfl
  | 2, _ => rfl
  | _ + 3, h => absurd h (by omega)
def fdX2 : Nat → Value := fun j => match j with | 1 => .null | 14 => .long 0 | _ => .int 0
theorem hdX2 : ∀ j, j < 19 → defaultValue (tyX2 j) = vp_V ((List.range 19).map fdX2) j := fun j hj => match j, hj with
  | 0, _ => rfl
  | 1, _ => rfl
  | 2, _ => rfl
  | 3, _ => rfl
  | 4, _ => rfl
  | 5, _ => rfl
  | 6, _ => rfl
  | 7, _ => rfl
  | 8, _ => rfl
  | 9, _ => rfl
  | 10, _ => rfl
  | 11, _ => rfl
  | 12, _ => rfl
  | 13, _ => rfl
  | 14, _ => rfl
  | 15, _ => rfl
  | 16, _ => rfl
  | 17, _ => rfl
  | 18, _ => rfl
  | _ + 19, h => absurd h (by omega)
def fdX3 : Nat → Value := fun _ => .int 0
theorem hdX3 : ∀ j, j < 3 → defaultValue (tyX3 j) = vp_V ((List.range 3).map fdX3) j := fun j hj => match j, hj with
  | 0, _ => rfl
  | 1, _ => rfl
  | 2, _ => rfl
  | _ + 3, h => absurd h (by omega)
def fdX4 : Nat → Value := fun j => match j with | 0 => .null | 1 => .null | 2 => .null | _ => .int 0
theorem hdX4 : ∀ j, j < 8 → defaultValue (tyX4 j) = vp_V ((List.range 8).map fdX4) j := fun j hj => match j, hj with
  | 0, _ => rfl
  | 1, _ => rfl
  | 2, _ => rfl
  | 3, _ => rfl
  | 4, _ => rfl
  | 5, _ => rfl
  | 6, _ => rfl
  | 7, _ => rfl
  | _ + 8, h => absurd h (by omega)
def fdX5 : Nat → Value := fun _ => .int 0
theorem hdX5 : ∀ j, j < 8 → defaultValue (tyX5 j) = vp_V ((List.range 8).map fdX5) j := fun j hj => match j, hj with
  | 0, _ => rfl
  | 1, _ => rfl
  | 2, _ => rfl
  | 3, _ => rfl
  | 4, _ => rfl
  | 5, _ => rfl
  | 6, _ => rfl
  | 7, _ => rfl
  | _ + 8, h => absurd h (by omega)
def fdX6 : Nat → Value := fun _ => .null
theorem hdX6 : ∀ j, j < 1 → defaultValue (tyX6 j) = vp_V ((List.range 1).map fdX6) j := fun j hj => match j, hj with
  | 0, _ => rfl
  | _ + 1, h => absurd h (by omega)
def fdX7 : Nat → Value := fun j => match j with | 0 => .null | 1 => .null | 2 => .null | 3 => .null | 4 => .null | 5 => .null | 6 => .null | _ => .int 0
theorem hdX7 : ∀ j, j < 16 → defaultValue (tyX7 j) = vp_V ((List.range 16).map fdX7) j := fun j hj => match j, hj with
  | 0, _ => rfl
  | 1, _ => rfl
  | 2, _ => rfl
  | 3, _ => rfl
  | 4, _ => rfl
  | 5, _ => rfl
  | 6, _ => rfl
  | 7, _ => rfl
  | 8, _ => rfl
  | 9, _ => rfl
  | 10, _ => rfl
  | 11, _ => rfl
  | 12, _ => rfl
  | 13, _ => rfl
  | 14, _ => rfl
  | 15, _ => rfl
  | _ + 16, h => absurd h (by omega)
def fdX8 : Nat → Value := fun j => match j with | 0 => .null | _ => .int 0
theorem hdX8 : ∀ j, j < 6 → defaultValue (tyX8 j) = vp_V ((List.range 6).map fdX8) j := fun j hj => match j, hj with
  | 0, _ => rfl
  | 1, _ => rfl
  | 2, _ => rfl
  | 3, _ => rfl
  | 4, _ => rfl
  | 5, _ => rfl
  | _ + 6, h => absurd h (by omega)
def fdX9 : Nat → Value := fun j => match j with | 0 => .null | 1 => .null | 2 => .null | 3 => .null | 4 => .null | 5 => .null | 6 => .null | 7 => .null | _ => .int 0
theorem hdX9 : ∀ j, j < 9 → defaultValue (tyX9 j) = vp_V ((List.range 9).map fdX9) j := fun j hj => match j, hj with
  | 0, _ => rfl
  | 1, _ => rfl
  | 2, _ => rfl
  | 3, _ => rfl
  | 4, _ => rfl
  | 5, _ => rfl
  | 6, _ => rfl
  | 7, _ => rfl
  | 8, _ => rfl
  | _ + 9, h => absurd h (by omega)
def fdX10 : Nat → Value := fun j => match j with | 0 => .null | 1 => .null | 2 => .null | 5 => .null | 7 => .null | 8 => .null | 9 => .null | 11 => .null | 19 => .long 0 | 22 => .null | _ => .int 0
theorem hdX10 : ∀ j, j < 24 → defaultValue (tyX10 j) = vp_V ((List.range 24).map fdX10) j := fun j hj => match j, hj with
  | 0, _ => rfl
  | 1, _ => rfl
  | 2, _ => rfl
  | 3, _ => rfl
  | 4, _ => rfl
  | 5, _ => rfl
  | 6, _ => rfl
  | 7, _ => rfl
  | 8, _ => rfl
  | 9, _ => rfl
  | 10, _ => rfl
  | 11, _ => rfl
  | 12, _ => rfl
  | 13, _ => rfl
  | 14, _ => rfl
  | 15, _ => rfl
  | 16, _ => rfl
  | 17, _ => rfl
  | 18, _ => rfl
  | 19, _ => rfl
  | 20, _ => rfl
  | 21, _ => rfl
  | 22, _ => rfl
  | 23, _ => rfl
  | _ + 24, h => absurd h (by omega)
theorem nX3_init {g : AG} {h : AH} {b : Nat} {Q : AO → AH → Prop} (hQ : Q (.ok none) h) : AW g MX3_init 0 [some (.ref b)] [] h Q := by
  refine AW.aload_n (z := 0) (am_r 0 rfl) rfl rfl ?_
  refine AW.objInit (am_r 1 rfl) rfl q46 q32 q33 rfl ?_
  exact AW.vret (am_r 2 rfl) rfl hQ
theorem nX5_init {g : AG} {h : AH} {b : Nat} {Q : AO → AH → Prop} (hQ : Q (.ok none) h) : AW g MX5_init 0 [some (.ref b)] [] h Q := by
  refine AW.aload_n (z := 0) (am_r 0 rfl) rfl rfl ?_
  refine AW.objInit (am_r 1 rfl) rfl q69 q32 q33 rfl ?_
  exact AW.vret (am_r 2 rfl) rfl hQ
def itC (n : Nat) (x : Int32) : Nat → AE := fun j => if j = 0 then ob 2 19 (fun k => if k = 1 then .ref (n + 1) else if k = 0 then .int x else fdX2 k) else .inl (0, 8, .inl (fun _ => 0))
set_option maxRecDepth 100000 in
theorem nX2_init {g : AG} {h0 : AH} {n c s : Nat} {Q : AO → AH → Prop} {x : Int32} (hc : 1 ≤ c) (hs : 8 ≤ s) (hA : gB g ≤ n) (hQ : Q (.ok none) (gro h0 n 2 (c - 1) (s - 8) (itC n x))) : AW g MX2_init 0 [some (.ref n), some (.int x)] [] (gro h0 n 1 c s (fun _ => ob 2 19 fdX2)) Q := by
  refine AW.aload_n (z := 0) (am_r 0 rfl) rfl rfl ?_
  refine AW.objInit (am_r 1 rfl) rfl q120 q32 q33 rfl ?_
  refine AW.aload_n (z := 0) (am_r 2 rfl) rfl rfl ?_
  refine AW.iload_n (z := 1) (am_r 3 rfl) rfl rfl ?_
  refine AW.putG (j := 0) (am_r 4 rfl) rfl klX2 (k := 0) (by omega) q121 (Or.inr ⟨rfl, rfl⟩) (by omega) rfl hA rfl rfl ?_
  refine AW.aload_n (z := 0) (am_r 5 rfl) rfl rfl ?_
  refine AW.bipush (v := (8 : Int32)) (am_r 6 rfl) rfl (by decide) ?_
  refine AW.newaG (t := 0) (N := 8) (ty := .int) (a0 := (8, .inl (fun _ => 0))) (am_r 7 rfl) rfl q210 rfl rfl (fun _ => rfl) (by decide) (by decide) (by decide) (by omega) (by omega) ?_
  refine AW.putG (j := 0) (am_r 8 rfl) rfl klX2 (k := 1) (by omega) q123 (Or.inr ⟨rfl, rfl⟩) (by omega) rfl hA rfl rfl ?_
  refine AW.heq (gro_eq (k' := 2) (f' := itC n x) rfl rfl rfl (le2 rfl rfl)) ?_
  exact AW.vret (am_r 9 rfl) rfl hQ
def boC (n : Nat) : Nat → AE := fun j => if j = 0 then ob 0 3 (fun k => if k = 0 then .ref (n + 1) else fdX0 k) else .inl (0, 600, .inl (fun _ => 0))
set_option maxRecDepth 100000 in
theorem nX0_init {g : AG} {h0 : AH} {n c s : Nat} {Q : AO → AH → Prop} (hc : 1 ≤ c) (hs : 600 ≤ s) (hA : gB g ≤ n) (hQ : Q (.ok none) (gro h0 n 2 (c - 1) (s - 600) (boC n))) : AW g MX0_init 0 [some (.ref n)] [] (gro h0 n 1 c s (fun _ => ob 0 3 fdX0)) Q := by
  refine AW.aload_n (z := 0) (am_r 0 rfl) rfl rfl ?_
  refine AW.objInit (am_r 1 rfl) rfl q216 q32 q33 rfl ?_
  refine AW.aload_n (z := 0) (am_r 2 rfl) rfl rfl ?_
  refine AW.sipush (v := (600 : Int32)) (am_r 3 rfl) rfl (by decide) ?_
  refine AW.newaG (t := 0) (N := 600) (ty := .int) (a0 := (600, .inl (fun _ => 0))) (am_r 4 rfl) rfl q210 rfl rfl (fun _ => rfl) (by decide) (by decide) (by decide) (by omega) (by omega) ?_
  refine AW.putG (j := 0) (am_r 5 rfl) rfl klX0 (k := 0) (by omega) q217 (Or.inr ⟨rfl, rfl⟩) (by omega) rfl hA rfl rfl ?_
  refine AW.heq (gro_eq (k' := 2) (f' := boC n) rfl rfl rfl (le2 rfl rfl)) ?_
  exact AW.vret (am_r 6 rfl) rfl hQ
def tkC (n : Nat) : Nat → AE := fun j => if j = 0 then ob 8 6 (fun k => if k = 0 then .ref (n + 1) else fdX8 k) else .inl (3, 1000, .inl (fun _ => 0))
set_option maxRecDepth 100000 in
theorem nX8_init {g : AG} {h0 : AH} {n c s : Nat} {Q : AO → AH → Prop} (hc : 1 ≤ c) (hs : 1000 ≤ s) (hA : gB g ≤ n) (hQ : Q (.ok none) (gro h0 n 2 (c - 1) (s - 1000) (tkC n))) : AW g MX8_init 0 [some (.ref n)] [] (gro h0 n 1 c s (fun _ => ob 8 6 fdX8)) Q := by
  refine AW.aload_n (z := 0) (am_r 0 rfl) rfl rfl ?_
  refine AW.objInit (am_r 1 rfl) rfl q323 q32 q33 rfl ?_
  refine AW.aload_n (z := 0) (am_r 2 rfl) rfl rfl ?_
  refine AW.sipush (v := (1000 : Int32)) (am_r 3 rfl) rfl (by decide) ?_
  refine AW.newaG (t := 3) (N := 1000) (ty := .byte) (a0 := (1000, .inl (fun _ => 0))) (am_r 4 rfl) rfl q349 rfl rfl (fun _ => rfl) (by decide) (by decide) (by decide) (by omega) (by omega) ?_
  refine AW.putG (j := 0) (am_r 5 rfl) rfl klX8 (k := 0) (by omega) q324 (Or.inr ⟨rfl, rfl⟩) (by omega) rfl hA rfl rfl ?_
  refine AW.heq (gro_eq (k' := 2) (f' := tkC n) rfl rfl rfl (le2 rfl rfl)) ?_
  exact AW.vret (am_r 6 rfl) rfl hQ
def roC (n : Nat) : Nat → AE := fun j => if j = 0 then ob 6 1 (fun k => if k = 0 then .ref (n + 1) else fdX6 k) else .inl (1, 1001, .inr (.inl (fun _ => 0)))
set_option maxRecDepth 100000 in
theorem nX6_init {g : AG} {h0 : AH} {n c s : Nat} {Q : AO → AH → Prop} (hc : 1 ≤ c) (hs : 1001 ≤ s) (hA : gB g ≤ n) (hQ : Q (.ok none) (gro h0 n 2 (c - 1) (s - 1001) (roC n))) : AW g MX6_init 0 [some (.ref n)] [] (gro h0 n 1 c s (fun _ => ob 6 1 fdX6)) Q := by
  refine AW.aload_n (z := 0) (am_r 0 rfl) rfl rfl ?_
  refine AW.objInit (am_r 1 rfl) rfl q386 q32 q33 rfl ?_
  refine AW.aload_n (z := 0) (am_r 2 rfl) rfl rfl ?_
  refine AW.sipush (v := (1001 : Int32)) (am_r 3 rfl) rfl (by decide) ?_
  refine AW.newaG (t := 1) (N := 1001) (ty := .long) (a0 := (1001, .inr (.inl (fun _ => 0)))) (am_r 4 rfl) rfl q391 rfl rfl (fun _ => rfl) (by decide) (by decide) (by decide) (by omega) (by omega) ?_
  refine AW.putG (j := 0) (am_r 5 rfl) rfl klX6 (k := 0) (by omega) q387 (Or.inr ⟨rfl, rfl⟩) (by omega) rfl hA rfl rfl ?_
  refine AW.heq (gro_eq (k' := 2) (f' := roC n) rfl rfl rfl (le2 rfl rfl)) ?_
  exact AW.vret (am_r 6 rfl) rfl hQ
def hiC (n : Nat) : Nat → AE := fun j => if j = 0 then ob 1 3 (fun k => if k = 0 then .ref (n + 1) else fdX1 k) else .inl (8, 10, .inr (.inr (.inr (.inr (fun _ => none)))))
set_option maxRecDepth 100000 in
theorem nX1_init {g : AG} {h0 : AH} {n c s : Nat} {Q : AO → AH → Prop} (hc : 1 ≤ c) (hs : 10 ≤ s) (hA : gB g ≤ n) (hQ : Q (.ok none) (gro h0 n 2 (c - 1) (s - 10) (hiC n))) : AW g MX1_init 0 [some (.ref n)] [] (gro h0 n 1 c s (fun _ => ob 1 3 fdX1)) Q := by
  refine AW.aload_n (z := 0) (am_r 0 rfl) rfl rfl ?_
  refine AW.objInit (am_r 1 rfl) rfl q298 q32 q33 rfl ?_
  refine AW.aload_n (z := 0) (am_r 2 rfl) rfl rfl ?_
  refine AW.bipush (v := (10 : Int32)) (am_r 3 rfl) rfl (by decide) ?_
  refine AW.anewG (t := 8) (N := 10) (C := RX7) (am_r 4 rfl) rfl q299 (List.mem_of_getElem? (i := 3) rfl) rfl (by decide) (by decide) (by decide) (by omega) (by omega) ?_
  refine AW.putG (j := 0) (am_r 5 rfl) rfl klX1 (k := 0) (by omega) q301 (Or.inr ⟨rfl, rfl⟩) (by omega) rfl hA rfl rfl ?_
  refine AW.heq (gro_eq (k' := 2) (f' := hiC n) rfl rfl rfl (le2 rfl rfl)) ?_
  exact AW.vret (am_r 6 rfl) rfl hQ
theorem sc_start {n : Nat} : ob 7 16 fdX7 = sc n 0 0 0 0 0 := ob_cg fun j => by
  by_cases h : j < 7
  · rw [show fdX7 j = .null from match j, h with
      | 0, _ => rfl
      | 1, _ => rfl
      | 2, _ => rfl
      | 3, _ => rfl
      | 4, _ => rfl
      | 5, _ => rfl
      | 6, _ => rfl
      | _ + 7, h => absurd h (by omega)]
    unfold soF
    rw [if_pos h, if_neg (Nat.not_lt_zero _)]
  · obtain ⟨k, rfl⟩ : ∃ k, j = k + 7 := ⟨j - 7, by omega⟩
    show (Value.int 0) = soF n 0 (k + 7)
    unfold soF
    rw [if_neg h]
    split
    · rfl
    · split <;> rfl
theorem sc_a1 {n : Nat} : ∀ j, j < 2 → (if j = 0 then ob 7 16 (fun q => if q = 0 then .ref (n + 1) else soF n 0 q) else if j = 1 then .inl (5, 6, .inr (.inr (.inr (.inr (fun _ => none))))) else sc n 0 0 0 0 j) = sc n 0 0 0 1 j :=
  fun j _ => sc_step (so_r (by omega) rfl) (by unfold sc; rw [if_neg (by omega), if_pos rfl, paZ]) (by omega)
theorem sc_a2 {n : Nat} : ∀ j, j < 9 → (if j = 0 then ob 7 16 (fun q => if q = 1 then .ref (n + 8) else soF n 1 q) else if j = 8 then .inl (6, 10, .inr (.inr (.inr (.inr (fun _ => none))))) else sc n 6 0 0 1 j) = sc n 6 0 0 2 j :=
  fun j _ => sc_step (so_r (by omega) rfl) (by unfold sc; rw [if_neg (by omega), if_neg (by omega), if_pos rfl, paZ]) (by omega)
theorem sc_a3 {n : Nat} : ∀ j, j < 20 → (if j = 0 then ob 7 16 (fun q => if q = 2 then .ref (n + 19) else soF n 2 q) else if j = 19 then .inl (7, 16, .inr (.inr (.inr (.inr (fun _ => none))))) else sc n 6 10 0 2 j) = sc n 6 10 0 3 j :=
  fun j _ => sc_step (so_r (by omega) rfl) (by unfold sc; rw [if_neg (by omega), if_neg (by omega), if_neg (by omega), if_pos rfl, paZ]) (by omega)
theorem sc_at {b np nr ni o k : Nat} (h0 : k ≠ 0) (h1 : k ≠ 1) (h2 : k ≠ 8) (h3 : k ≠ 19) : sc b np nr ni o k = scell b S0 k := by
  unfold sc
  rw [if_neg h0, if_neg h1, if_neg h2, if_neg h3]
theorem g0_1 {j p : Nat} : gi S0 1 j p = 0 := rfl
theorem g0_2 {j p : Nat} : gi S0 2 j p = 0 := rfl
theorem fd_pr {p : Nat} : ob 3 3 fdX3 = ob 3 3 (prF S0 p) := rfl
theorem fd_re {r : Nat} : ob 5 8 fdX5 = ob 5 8 (reF S0 r) := rfl
theorem fd_it {n b i : Nat} {x : Int32} (hx : gi S0 3 0 i = x) (hn : b + 21 + 2 * i = n + 1) : itC n x 0 = ob 2 19 (itF b S0 i) := ob_cg fun j => by
  unfold itF fdX2
  by_cases h1 : j = 1
  · subst h1; rw [if_pos rfl, hn]; try rfl
  · rw [if_neg h1]
    by_cases h2 : j = 0
    · subst h2; rw [if_pos rfl, ← hx]; try rfl
    · rw [if_neg h2]
      split
      · exact absurd rfl h1
      · rfl
      · rename_i h3 h4
        split
        · exact absurd rfl h1
        · exact absurd rfl h4
        · rfl
        · rename_i h5 h6 h7
          have e : gi S0 3 j i = 0 := by
            show (if 3 = 0 ∧ j = 10 then (1 : Int32) else if 3 = 0 ∧ j = 11 then 72 else if 3 = 3 ∧ j = 0 then _ else 0) = 0
            rw [if_neg (by omega), if_neg (by omega), if_neg (by omega)]
          rw [e]
theorem fd_qu {n i : Nat} {x : Int32} : itC n x 1 = quA S0 i := rfl
theorem fd_bo {n b : Nat} (hn : b + 57 = n + 1) : boC n 0 = ob 0 3 (boF b S0) := ob_cg fun j => by
  unfold boF fdX0
  by_cases h1 : j = 0
  · subst h1; rw [if_pos rfl, hn]; try rfl
  · rw [if_neg h1]
    split
    · exact absurd rfl h1
    · split
      · exact absurd rfl h1
      · rfl
theorem fd_ce {n : Nat} : boC n 1 = ceA S0 := rfl
theorem sc_p1 {n m : Nat} (hm : m < 6) : ∀ j, j < 2 + m + 1 → (if j = 1 then .inl (5, 6, .inr (.inr (.inr (.inr (va_up (fun q => if q < m then some (n + 2 + q) else none) m (some (n + (2 + m)))))))) else if j = 2 + m then ob 3 3 fdX3 else sc n m 0 0 1 j) = sc n (m + 1) 0 0 1 j := by
  intro j hj
  by_cases h1 : j = 1
  · subst h1
    rw [if_pos rfl, paS (f := fun q => n + 2 + q) (by omega)]
    rfl
  · rw [if_neg h1]
    by_cases h2 : j = 2 + m
    · subst h2
      rw [if_pos rfl, sc_at (by omega) (by omega) (by omega) (by omega), scell_pr (Or.inl hm)]
      rfl
    · rw [if_neg h2]
      unfold sc
      by_cases h3 : j = 0
      · rw [if_pos h3, if_pos h3]
      · rw [if_neg h3, if_neg h3, if_neg h1, if_neg h1]
theorem sc_p2 {n m : Nat} (hm : m < 10) : ∀ j, j < 9 + m + 1 → (if j = 8 then .inl (6, 10, .inr (.inr (.inr (.inr (va_up (fun q => if q < m then some (n + 9 + q) else none) m (some (n + (9 + m)))))))) else if j = 9 + m then ob 5 8 fdX5 else sc n 6 m 0 2 j) = sc n 6 (m + 1) 0 2 j := by
  intro j hj
  by_cases h1 : j = 8
  · subst h1
    rw [if_pos rfl, paS (f := fun q => n + 9 + q) (by omega)]
    rfl
  · rw [if_neg h1]
    by_cases h2 : j = 9 + m
    · subst h2
      rw [if_pos rfl, sc_at (by omega) (by omega) (by omega) (by omega), scell_re (Or.inl hm)]
      rfl
    · rw [if_neg h2]
      unfold sc
      by_cases h3 : j = 0
      · rw [if_pos h3, if_pos h3]
      · rw [if_neg h3, if_neg h3]
        by_cases h4 : j = 1
        · rw [if_pos h4, if_pos h4]
        · rw [if_neg h4, if_neg h4, if_neg h1, if_neg h1]
theorem S0_num {i : Nat} (h : i ≠ 17) : gi S0 3 0 i = Int32.ofNat i := by
  show (if 3 = 0 ∧ 0 = 10 then (1 : Int32) else if 3 = 0 ∧ 0 = 11 then 72 else if 3 = 3 ∧ 0 = 0 then (if i = 17 then -1 else Int32.ofNat i) else 0) = _
  rw [if_neg (by omega), if_neg (by omega), if_pos ⟨rfl, rfl⟩, if_neg h]
theorem sc_p3 {n m : Nat} (hm : m < 16) : ∀ j, j < 20 + 2 * m + 2 → (if j = 19 then .inl (7, 16, .inr (.inr (.inr (.inr (va_up (fun q => if q < m then some (n + 20 + 2 * q) else none) m (some (n + (20 + 2 * m)))))))) else if j < 20 + 2 * m then sc n 6 10 m 3 j else itC (n + (20 + 2 * m)) (Int32.ofNat m) (j - (20 + 2 * m))) = sc n 6 10 (m + 1) 3 j := by
  intro j hj
  by_cases h1 : j = 19
  · subst h1
    rw [if_pos rfl, paS (f := fun q => n + 20 + 2 * q) (by omega)]
    rfl
  · rw [if_neg h1]
    by_cases h2 : j < 20 + 2 * m
    · rw [if_pos h2]
      unfold sc
      by_cases h3 : j = 0
      · rw [if_pos h3, if_pos h3]
      · rw [if_neg h3, if_neg h3]
        by_cases h4 : j = 1
        · rw [if_pos h4, if_pos h4]
        · rw [if_neg h4, if_neg h4]
          by_cases h5 : j = 8
          · rw [if_pos h5, if_pos h5]
          · rw [if_neg h5, if_neg h5, if_neg h1, if_neg h1]
    · rw [if_neg h2, sc_at (by omega) (by omega) (by omega) (by omega)]
      by_cases h6 : j = 20 + 2 * m
      · subst h6
        rw [Nat.sub_self, scell_it (Or.inl hm)]
        exact fd_it (S0_num (by omega)) (by omega)
      · have h7 : j = 21 + 2 * m := by omega
        subst h7
        rw [show 21 + 2 * m - (20 + 2 * m) = 1 by omega, scell_qu (Or.inl hm)]
        exact fd_qu
theorem sc_b1 {n : Nat} : ∀ j, j < 53 → (if j = 0 then ob 7 16 (fun q => if q = 3 then .ref (n + 52) else soF n 3 q) else if j = 52 then ob 3 3 fdX3 else sc n 6 10 16 3 j) = sc n 6 10 16 4 j :=
  fun j _ => sc_step (so_r (by omega) rfl) rfl (by omega)
theorem sc_b2 {n : Nat} : ∀ j, j < 54 → (if j = 0 then ob 7 16 (fun q => if q = 4 then .ref (n + 53) else soF n 4 q) else if j = 53 then ob 5 8 fdX5 else sc n 6 10 16 4 j) = sc n 6 10 16 5 j :=
  fun j _ => sc_step (so_r (by omega) rfl) rfl (by omega)
theorem sc_b3 {n : Nat} : ∀ j, j < 56 → (if j = 0 then ob 7 16 (fun q => if q = 5 then .ref (n + 54) else soF n 5 q) else if j < 54 then sc n 6 10 16 5 j else itC (n + 54) (-1) (j - 54)) = sc n 6 10 16 6 j := by
  intro j hj
  by_cases h0 : j = 0
  · subst h0; rw [if_pos rfl]; exact ob_cg (so_r (by omega) rfl)
  · rw [if_neg h0]
    by_cases h1 : j < 54
    · rw [if_pos h1]; exact sc_ne h0
    · rw [if_neg h1]
      by_cases h2 : j = 54
      · subst h2
        exact fd_it (n := n + 54) (b := n) (i := 17) rfl (by omega)
      · have h3 : j = 55 := by omega
        subst h3
        rfl
theorem sc_b4 {n : Nat} : ∀ j, j < 58 → (if j = 0 then ob 7 16 (fun q => if q = 6 then .ref (n + 56) else soF n 6 q) else if j < 56 then sc n 6 10 16 6 j else boC (n + 56) (j - 56)) = sc n 6 10 16 7 j := by
  intro j hj
  by_cases h0 : j = 0
  · subst h0; rw [if_pos rfl]; exact ob_cg (so_r (by omega) rfl)
  · rw [if_neg h0]
    by_cases h1 : j < 56
    · rw [if_pos h1]; exact sc_ne h0
    · rw [if_neg h1]
      by_cases h2 : j = 56
      · subst h2
        exact fd_bo (n := n + 56) (b := n) (by omega)
      · have h3 : j = 57 := by omega
        subst h3
        rfl
theorem sc_b5 {n : Nat} : ∀ j, j < 58 → (if j = 0 then ob 7 16 (fun q => if q = 10 then .int (1 : Int32) else soF n 7 q) else sc n 6 10 16 7 j) = sc n 6 10 16 8 j := fun j _ => sc_step0 so_7
theorem sc_b6 {n : Nat} : ∀ j, j < 58 → (if j = 0 then ob 7 16 (fun q => if q = 11 then .int (72 : Int32) else soF n 8 q) else sc n 6 10 16 8 j) = sc n 6 10 16 9 j := fun j _ => sc_step0 so_8
set_option maxRecDepth 100000 in
theorem nX7_l15 {g : AG} {h0 : AH} {n c s m : Nat} {Q : AO → AH → Prop} (hm : m ≤ 6) (hc : 1 * (6 - m) ≤ c) (hs : 3 * (6 - m) ≤ s) (hA : gB g ≤ n) (k : AW g MX7_init 43 [some (.ref n), some (.int (Int32.ofNat 6))] [] (gro h0 n 8 (c - 1 * (6 - m)) (s - 3 * (6 - m)) (sc n 6 0 0 1)) Q) : AW g MX7_init 15 [some (.ref n), some (.int (Int32.ofNat m))] [] (gro h0 n (2 + m) c s (sc n m 0 0 1)) Q := by
  obtain ⟨d, hd⟩ : ∃ d, m + d = 6 := ⟨6 - m, by omega⟩
  induction d generalizing m c s with
  | zero =>
    have hm : m = 6 := by omega
    subst hm
    refine AW.iload_n (z := 1) (am_r 8 rfl) rfl rfl ?_
    refine AW.aload_n (z := 0) (am_r 9 rfl) rfl rfl ?_
    refine AW.getG (j := 0) (am_r 10 rfl) rfl klX7 (k := 0) (by omega) q228 (by omega) rfl rfl ?_
    refine AW.alenG (j := 1) (v := 6) (am_r 11 rfl) rfl rfl (by omega) rfl rfl ?_
    refine AW.icmp_ge (tg := 43) (am_r 12 rfl) rfl rfl (fun hc1 => ?_) (fun hc1 => absurd (by decide : (6 : Int32) ≤ Int32.ofNat 6) hc1)
    exact k
  | succ d ih =>
    have hm : m < 6 := by omega
    refine AW.iload_n (z := 1) (am_r 8 rfl) rfl rfl ?_
    refine AW.aload_n (z := 0) (am_r 9 rfl) rfl rfl ?_
    refine AW.getG (j := 0) (am_r 10 rfl) rfl klX7 (k := 0) (by omega) q228 (by omega) rfl rfl ?_
    refine AW.alenG (j := 1) (v := 6) (am_r 11 rfl) rfl rfl (by omega) rfl rfl ?_
    refine AW.icmp_ge (tg := 43) (am_r 12 rfl) rfl rfl (fun hc1 => absurd hc1 (Int32.not_le.mpr (ofN_lt hm (by decide)))) (fun hc1 => ?_)
    refine AW.aload_n (z := 0) (am_r 13 rfl) rfl rfl ?_
    refine AW.getG (j := 0) (am_r 14 rfl) rfl klX7 (k := 0) (by omega) q228 (by omega) rfl rfl ?_
    refine AW.iload_n (z := 1) (am_r 15 rfl) rfl rfl ?_
    refine AW.newG (F := fdX3) (am_r 16 rfl) rfl klX3 q40 q42 q3 hdX3 (by omega) (by omega) ?_
    refine AW.dup (am_r 17 rfl) rfl rfl ?_
    refine AW.callIN (N := MX3_init) (As := []) (host := RX9) (b := _) (am_r 18 rfl) rfl oiX3_init (List.mem_of_getElem? (i := 0) rfl : Cond.methodLinkNest RX7 17 yX3_init RX9 ∈ am_nw) rfl rfl rfl rfl rfl (nX3_init (cQ_v ?_))
    refine AW.aastG (j := 1) (jv := 2 + m) (t := 5) (ci := 3) (am_r 19 rfl) rfl rfl rfl (by omega) (by omega) (if_neg (by omega)) (if_pos rfl) hA (ofN_in hm (by decide)) ?_
    rw [ofN_nat (show m < 2147483648 by omega)]
    refine AW.heq (gro_eq rfl rfl rfl (sc_p1 hm)) ?_
    refine AW.iinc (v := Int32.ofNat (m + 1)) (L' := [some (.ref n), some (.int (Int32.ofNat (m + 1)))]) (am_r 20 rfl) rfl (Nat.le_of_ble_eq_true rfl) rfl ofN_suc rfl ?_
    refine AW.goto (tg := 15) (am_r 21 rfl) rfl ?_
    refine AW.heq (gro_eq (k' := (2 + (m + 1))) (c' := c - 1) (s' := s - 3) (by omega) (by omega) (by omega) (fun _ _ => rfl)) ?_
    refine ih (c := c - 1) (s := s - 3) (m := m + 1) (by omega) (by omega) (by omega) ?_ (by omega)
    refine AW.heq (gro_eq (k' := 8) (c' := c - 1 * (6 - m)) (s' := s - 3 * (6 - m)) rfl (by omega) (by omega) (fun _ _ => rfl)) ?_
    exact k
set_option maxRecDepth 100000 in
theorem nX7_l54 {g : AG} {h0 : AH} {n c s m : Nat} {Q : AO → AH → Prop} (hm : m ≤ 10) (hc : 1 * (10 - m) ≤ c) (hs : 8 * (10 - m) ≤ s) (hA : gB g ≤ n) (k : AW g MX7_init 82 [some (.ref n), some (.int (Int32.ofNat 10))] [] (gro h0 n 19 (c - 1 * (10 - m)) (s - 8 * (10 - m)) (sc n 6 10 0 2)) Q) : AW g MX7_init 54 [some (.ref n), some (.int (Int32.ofNat m))] [] (gro h0 n (9 + m) c s (sc n 6 m 0 2)) Q := by
  obtain ⟨d, hd⟩ : ∃ d, m + d = 10 := ⟨10 - m, by omega⟩
  induction d generalizing m c s with
  | zero =>
    have hm : m = 10 := by omega
    subst hm
    refine AW.iload_n (z := 1) (am_r 28 rfl) rfl rfl ?_
    refine AW.aload_n (z := 0) (am_r 29 rfl) rfl rfl ?_
    refine AW.getG (j := 0) (am_r 30 rfl) rfl klX7 (k := 1) (by omega) q229 (by omega) rfl rfl ?_
    refine AW.alenG (j := 8) (v := 10) (am_r 31 rfl) rfl rfl (by omega) rfl rfl ?_
    refine AW.icmp_ge (tg := 82) (am_r 32 rfl) rfl rfl (fun hc1 => ?_) (fun hc1 => absurd (by decide : (10 : Int32) ≤ Int32.ofNat 10) hc1)
    exact k
  | succ d ih =>
    have hm : m < 10 := by omega
    refine AW.iload_n (z := 1) (am_r 28 rfl) rfl rfl ?_
    refine AW.aload_n (z := 0) (am_r 29 rfl) rfl rfl ?_
    refine AW.getG (j := 0) (am_r 30 rfl) rfl klX7 (k := 1) (by omega) q229 (by omega) rfl rfl ?_
    refine AW.alenG (j := 8) (v := 10) (am_r 31 rfl) rfl rfl (by omega) rfl rfl ?_
    refine AW.icmp_ge (tg := 82) (am_r 32 rfl) rfl rfl (fun hc1 => absurd hc1 (Int32.not_le.mpr (ofN_lt hm (by decide)))) (fun hc1 => ?_)
    refine AW.aload_n (z := 0) (am_r 33 rfl) rfl rfl ?_
    refine AW.getG (j := 0) (am_r 34 rfl) rfl klX7 (k := 1) (by omega) q229 (by omega) rfl rfl ?_
    refine AW.iload_n (z := 1) (am_r 35 rfl) rfl rfl ?_
    refine AW.newG (F := fdX5) (am_r 36 rfl) rfl klX5 q63 q65 q4 hdX5 (by omega) (by omega) ?_
    refine AW.dup (am_r 37 rfl) rfl rfl ?_
    refine AW.callIN (N := MX5_init) (As := []) (host := RX9) (b := _) (am_r 38 rfl) rfl oiX5_init (List.mem_of_getElem? (i := 1) rfl : Cond.methodLinkNest RX7 24 yX5_init RX9 ∈ am_nw) rfl rfl rfl rfl rfl (nX5_init (cQ_v ?_))
    refine AW.aastG (j := 8) (jv := 9 + m) (t := 6) (ci := 5) (am_r 39 rfl) rfl rfl rfl (by omega) (by omega) (if_neg (by omega)) (if_pos rfl) hA (ofN_in hm (by decide)) ?_
    rw [ofN_nat (show m < 2147483648 by omega)]
    refine AW.heq (gro_eq rfl rfl rfl (sc_p2 hm)) ?_
    refine AW.iinc (v := Int32.ofNat (m + 1)) (L' := [some (.ref n), some (.int (Int32.ofNat (m + 1)))]) (am_r 40 rfl) rfl (Nat.le_of_ble_eq_true rfl) rfl ofN_suc rfl ?_
    refine AW.goto (tg := 54) (am_r 41 rfl) rfl ?_
    refine AW.heq (gro_eq (k' := (9 + (m + 1))) (c' := c - 1) (s' := s - 8) (by omega) (by omega) (by omega) (fun _ _ => rfl)) ?_
    refine ih (c := c - 1) (s := s - 8) (m := m + 1) (by omega) (by omega) (by omega) ?_ (by omega)
    refine AW.heq (gro_eq (k' := 19) (c' := c - 1 * (10 - m)) (s' := s - 8 * (10 - m)) rfl (by omega) (by omega) (fun _ _ => rfl)) ?_
    exact k
set_option maxRecDepth 100000 in
theorem nX7_l93 {g : AG} {h0 : AH} {n c s m : Nat} {Q : AO → AH → Prop} (hm : m ≤ 16) (hc : 2 * (16 - m) ≤ c) (hs : 27 * (16 - m) ≤ s) (hA : gB g ≤ n) (k : AW g MX7_init 122 [some (.ref n), some (.int (Int32.ofNat 16))] [] (gro h0 n 52 (c - 2 * (16 - m)) (s - 27 * (16 - m)) (sc n 6 10 16 3)) Q) : AW g MX7_init 93 [some (.ref n), some (.int (Int32.ofNat m))] [] (gro h0 n (20 + 2 * m) c s (sc n 6 10 m 3)) Q := by
  obtain ⟨d, hd⟩ : ∃ d, m + d = 16 := ⟨16 - m, by omega⟩
  induction d generalizing m c s with
  | zero =>
    have hm : m = 16 := by omega
    subst hm
    refine AW.iload_n (z := 1) (am_r 48 rfl) rfl rfl ?_
    refine AW.aload_n (z := 0) (am_r 49 rfl) rfl rfl ?_
    refine AW.getG (j := 0) (am_r 50 rfl) rfl klX7 (k := 2) (by omega) q230 (by omega) rfl rfl ?_
    refine AW.alenG (j := 19) (v := 16) (am_r 51 rfl) rfl rfl (by omega) rfl rfl ?_
    refine AW.icmp_ge (tg := 122) (am_r 52 rfl) rfl rfl (fun hc1 => ?_) (fun hc1 => absurd (by decide : (16 : Int32) ≤ Int32.ofNat 16) hc1)
    exact k
  | succ d ih =>
    have hm : m < 16 := by omega
    refine AW.iload_n (z := 1) (am_r 48 rfl) rfl rfl ?_
    refine AW.aload_n (z := 0) (am_r 49 rfl) rfl rfl ?_
    refine AW.getG (j := 0) (am_r 50 rfl) rfl klX7 (k := 2) (by omega) q230 (by omega) rfl rfl ?_
    refine AW.alenG (j := 19) (v := 16) (am_r 51 rfl) rfl rfl (by omega) rfl rfl ?_
    refine AW.icmp_ge (tg := 122) (am_r 52 rfl) rfl rfl (fun hc1 => absurd hc1 (Int32.not_le.mpr (ofN_lt hm (by decide)))) (fun hc1 => ?_)
    refine AW.aload_n (z := 0) (am_r 53 rfl) rfl rfl ?_
    refine AW.getG (j := 0) (am_r 54 rfl) rfl klX7 (k := 2) (by omega) q230 (by omega) rfl rfl ?_
    refine AW.iload_n (z := 1) (am_r 55 rfl) rfl rfl ?_
    refine AW.newG (F := fdX2) (am_r 56 rfl) rfl klX2 q114 q116 q5 hdX2 (by omega) (by omega) ?_
    refine AW.dup (am_r 57 rfl) rfl rfl ?_
    refine AW.iload_n (z := 1) (am_r 58 rfl) rfl rfl ?_
    refine AW.callI (N := MX2_init) (As := [.int (Int32.ofNat m)]) (b := _) (am_r 59 rfl) rfl oiX2_init q117 rfl rfl rfl rfl rfl ?_
    refine AW.heq (gro_sub (c0 := 0) (s0 := 0)) ?_
    refine nX2_init (by omega) (by omega) (by omega) (cQ_v ?_)
    refine AW.heq gro_gro ?_
    refine AW.aastG (j := 19) (jv := 20 + 2 * m) (t := 7) (ci := 2) (am_r 60 rfl) rfl rfl rfl (by omega) (by omega) (if_pos (by omega)) (gg_at rfl) hA (ofN_in hm (by decide)) ?_
    rw [ofN_nat (show m < 2147483648 by omega)]
    refine AW.heq (gro_eq rfl rfl rfl (sc_p3 hm)) ?_
    refine AW.iinc (v := Int32.ofNat (m + 1)) (L' := [some (.ref n), some (.int (Int32.ofNat (m + 1)))]) (am_r 61 rfl) rfl (Nat.le_of_ble_eq_true rfl) rfl ofN_suc rfl ?_
    refine AW.goto (tg := 93) (am_r 62 rfl) rfl ?_
    refine AW.heq (gro_eq (k' := (20 + 2 * (m + 1))) (c' := c - 2) (s' := s - 27) (by omega) (by omega) (by omega) (fun _ _ => rfl)) ?_
    refine ih (c := c - 2) (s := s - 27) (m := m + 1) (by omega) (by omega) (by omega) ?_ (by omega)
    refine AW.heq (gro_eq (k' := 52) (c' := c - 2 * (16 - m)) (s' := s - 27 * (16 - m)) rfl (by omega) (by omega) (fun _ _ => rfl)) ?_
    exact k
set_option maxRecDepth 100000 in
theorem nX7_init {g : AG} {h0 : AH} {n c s : Nat} {Q : AO → AH → Prop} (hc : 57 ≤ c) (hs : 1203 ≤ s) (hA : gB g ≤ n) (hQ : Q (.ok none) (gro h0 n 58 (c - 57) (s - 1203) (sc n 6 10 16 9))) : AW g MX7_init 0 [some (.ref n), none] [] (gro h0 n 1 c s (fun _ => ob 7 16 fdX7)) Q := by
  refine AW.heq (gro_eq (f' := sc n 0 0 0 0) rfl rfl rfl (fun j hj => by rw [show j = 0 by omega]; exact sc_start)) ?_
  refine AW.aload_n (z := 0) (am_r 0 rfl) rfl rfl ?_
  refine AW.objInit (am_r 1 rfl) rfl q39 q32 q33 rfl ?_
  refine AW.aload_n (z := 0) (am_r 2 rfl) rfl rfl ?_
  refine AW.bipush (v := (6 : Int32)) (am_r 3 rfl) rfl (by decide) ?_
  refine AW.anewG (t := 5) (N := 6) (C := RX3) (am_r 4 rfl) rfl q40 (List.mem_of_getElem? (i := 0) rfl) rfl (by decide) (by decide) (by decide) (by omega) (by omega) ?_
  refine AW.putG (j := 0) (am_r 5 rfl) rfl klX7 (k := 0) (by omega) q228 (Or.inr ⟨rfl, rfl⟩) (by omega) rfl hA rfl rfl ?_
  refine AW.heq (gro_eq rfl rfl rfl (sc_a1)) ?_
  refine AW.iconst (am_r 6 rfl) rfl ci_0 ?_
  refine AW.istore_n (z := 1) (L' := [some (.ref n), some (.int (0 : Int32))]) (am_r 7 rfl) rfl (Nat.le_of_ble_eq_true rfl) rfl ?_
  refine nX7_l15 (m := 0) (by omega) (by omega) (by omega) hA ?_
  refine AW.aload_n (z := 0) (am_r 22 rfl) rfl rfl ?_
  refine AW.bipush (v := (10 : Int32)) (am_r 23 rfl) rfl (by decide) ?_
  refine AW.anewG (t := 6) (N := 10) (C := RX5) (am_r 24 rfl) rfl q63 (List.mem_of_getElem? (i := 1) rfl) rfl (by decide) (by decide) (by decide) (by omega) (by omega) ?_
  refine AW.putG (j := 0) (am_r 25 rfl) rfl klX7 (k := 1) (by omega) q229 (Or.inr ⟨rfl, rfl⟩) (by omega) rfl hA rfl rfl ?_
  refine AW.heq (gro_eq rfl rfl rfl (sc_a2)) ?_
  refine AW.iconst (am_r 26 rfl) rfl ci_0 ?_
  refine AW.istore_n (z := 1) (L' := [some (.ref n), some (.int (0 : Int32))]) (am_r 27 rfl) rfl (Nat.le_of_ble_eq_true rfl) rfl ?_
  refine nX7_l54 (m := 0) (by omega) (by omega) (by omega) hA ?_
  refine AW.aload_n (z := 0) (am_r 42 rfl) rfl rfl ?_
  refine AW.bipush (v := (16 : Int32)) (am_r 43 rfl) rfl (by decide) ?_
  refine AW.anewG (t := 7) (N := 16) (C := RX2) (am_r 44 rfl) rfl q114 (List.mem_of_getElem? (i := 2) rfl) rfl (by decide) (by decide) (by decide) (by omega) (by omega) ?_
  refine AW.putG (j := 0) (am_r 45 rfl) rfl klX7 (k := 2) (by omega) q230 (Or.inr ⟨rfl, rfl⟩) (by omega) rfl hA rfl rfl ?_
  refine AW.heq (gro_eq rfl rfl rfl (sc_a3)) ?_
  refine AW.iconst (am_r 46 rfl) rfl ci_0 ?_
  refine AW.istore_n (z := 1) (L' := [some (.ref n), some (.int (0 : Int32))]) (am_r 47 rfl) rfl (Nat.le_of_ble_eq_true rfl) rfl ?_
  refine nX7_l93 (m := 0) (by omega) (by omega) (by omega) hA ?_
  refine AW.aload_n (z := 0) (am_r 63 rfl) rfl rfl ?_
  refine AW.newG (F := fdX3) (am_r 64 rfl) rfl klX3 q40 q42 q3 hdX3 (by omega) (by omega) ?_
  refine AW.dup (am_r 65 rfl) rfl rfl ?_
  refine AW.callIN (N := MX3_init) (As := []) (host := RX9) (b := _) (am_r 66 rfl) rfl oiX3_init (List.mem_of_getElem? (i := 0) rfl : Cond.methodLinkNest RX7 17 yX3_init RX9 ∈ am_nw) rfl rfl rfl rfl rfl (nX3_init (cQ_v ?_))
  refine AW.putG (j := 0) (am_r 67 rfl) rfl klX7 (k := 3) (by omega) q231 (Or.inr ⟨rfl, rfl⟩) (by omega) rfl hA rfl rfl ?_
  refine AW.heq (gro_eq rfl rfl rfl (sc_b1)) ?_
  refine AW.aload_n (z := 0) (am_r 68 rfl) rfl rfl ?_
  refine AW.newG (F := fdX5) (am_r 69 rfl) rfl klX5 q63 q65 q4 hdX5 (by omega) (by omega) ?_
  refine AW.dup (am_r 70 rfl) rfl rfl ?_
  refine AW.callIN (N := MX5_init) (As := []) (host := RX9) (b := _) (am_r 71 rfl) rfl oiX5_init (List.mem_of_getElem? (i := 1) rfl : Cond.methodLinkNest RX7 24 yX5_init RX9 ∈ am_nw) rfl rfl rfl rfl rfl (nX5_init (cQ_v ?_))
  refine AW.putG (j := 0) (am_r 72 rfl) rfl klX7 (k := 4) (by omega) q232 (Or.inr ⟨rfl, rfl⟩) (by omega) rfl hA rfl rfl ?_
  refine AW.heq (gro_eq rfl rfl rfl (sc_b2)) ?_
  refine AW.aload_n (z := 0) (am_r 73 rfl) rfl rfl ?_
  refine AW.newG (F := fdX2) (am_r 74 rfl) rfl klX2 q114 q116 q5 hdX2 (by omega) (by omega) ?_
  refine AW.dup (am_r 75 rfl) rfl rfl ?_
  refine AW.iconst (am_r 76 rfl) rfl ci_m1 ?_
  refine AW.callI (N := MX2_init) (As := [.int (-1)]) (b := _) (am_r 77 rfl) rfl oiX2_init q117 rfl rfl rfl rfl rfl ?_
  refine AW.heq (gro_sub (c0 := 0) (s0 := 0)) ?_
  refine nX2_init (by omega) (by omega) (by omega) (cQ_v ?_)
  refine AW.heq gro_gro ?_
  refine AW.putG (j := 0) (am_r 78 rfl) rfl klX7 (k := 5) (by omega) q233 (Or.inr ⟨rfl, rfl⟩) (by omega) rfl hA rfl rfl ?_
  refine AW.heq (gro_eq rfl rfl rfl (sc_b3)) ?_
  refine AW.aload_n (z := 0) (am_r 79 rfl) rfl rfl ?_
  refine AW.newG (F := fdX0) (am_r 80 rfl) rfl klX0 q211 q212 q6 hdX0 (by omega) (by omega) ?_
  refine AW.dup (am_r 81 rfl) rfl rfl ?_
  refine AW.callI (N := MX0_init) (As := []) (b := _) (am_r 82 rfl) rfl oiX0_init q213 rfl rfl rfl rfl rfl ?_
  refine AW.heq (gro_sub (c0 := 0) (s0 := 0)) ?_
  refine nX0_init (by omega) (by omega) (by omega) (cQ_v ?_)
  refine AW.heq gro_gro ?_
  refine AW.putG (j := 0) (am_r 83 rfl) rfl klX7 (k := 6) (by omega) q234 (Or.inr ⟨rfl, rfl⟩) (by omega) rfl hA rfl rfl ?_
  refine AW.heq (gro_eq rfl rfl rfl (sc_b4)) ?_
  refine AW.aload_n (z := 0) (am_r 84 rfl) rfl rfl ?_
  refine AW.iconst (am_r 85 rfl) rfl ci_1 ?_
  refine AW.putG (j := 0) (am_r 86 rfl) rfl klX7 (k := 10) (by omega) q246 (Or.inr ⟨rfl, rfl⟩) (by omega) rfl hA rfl rfl ?_
  refine AW.heq (gro_eq rfl rfl rfl (sc_b5)) ?_
  refine AW.aload_n (z := 0) (am_r 87 rfl) rfl rfl ?_
  refine AW.bipush (v := (72 : Int32)) (am_r 88 rfl) rfl (by decide) ?_
  refine AW.putG (j := 0) (am_r 89 rfl) rfl klX7 (k := 11) (by omega) q249 (Or.inr ⟨rfl, rfl⟩) (by omega) rfl hA rfl rfl ?_
  refine AW.heq (gro_eq rfl rfl rfl (sc_b6)) ?_
  refine AW.heq (gro_eq (k' := 58) (c' := c - 57) (s' := s - 1203) (f' := sc n 6 10 16 9) rfl (by omega) (by omega) (fun _ _ => rfl)) ?_
  exact AW.vret (am_r 90 rfl) rfl hQ
