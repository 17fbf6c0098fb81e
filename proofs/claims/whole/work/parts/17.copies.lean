/-! ===== ARRAYCOPY; TWO STUDIOS ===== -/
theorem qac_n : Cond.native arraycopyName ∈ am_tb := am_inj tm_3 [165] [.native arraycopyName] (by decide +kernel) (by decide +kernel) _ List.mem_cons_self
theorem qac_s : Cond.static arraycopyName ∈ am_tb := am_inj tm_3 [164] [.static arraycopyName] (by decide +kernel) (by decide +kernel) _ List.mem_cons_self
theorem qac_i : Cond.initialized "java/lang/System" ∈ am_tb := am_inj tm_1 [17] [.initialized "java/lang/System"] (by decide +kernel) (by decide +kernel) _ List.mem_cons_self
theorem qac_X0_28 : Cond.methodLink RX0 28 arraycopyName ∈ am_tb := am_inj tm_3 [163] [.methodLink RX0 28 arraycopyName] (by decide +kernel) (by decide +kernel) _ List.mem_cons_self
theorem qac_X2_81 : Cond.methodLink RX2 81 arraycopyName ∈ am_tb := am_inj tm_3 [179] [.methodLink RX2 81 arraycopyName] (by decide +kernel) (by decide +kernel) _ List.mem_cons_self
section AWK
variable {g : AG} {M : AM} {pc nx : Nat} {L : List (Option Value)} {S : List Value} {h : AH} {Q : AO → AH → Prop}
theorem fit_b {x : Int32} (h : x = 0 ∨ x = 1) : fits .boolean (.int x) = true := by rcases h with rfl | rfl <;> rfl
theorem AW.heq {h' : AH} (e : h = h') (k : AW g M pc L S h' Q) : AW g M pc L S h Q := by rw [e]; exact k
theorem AW.acopy {i a a0 n0 n1 : Nat} {f f1 : Nat → Int32} {sp dp n : Int32} (hr : (pc, Instr.invokestatic i, 3) ∈ mR M) (hn : pc + 3 = nx) (hlk : Cond.methodLink (mY M).cls i arraycopyName ∈ am_tb) (ha0 : h.1 a0 = some (.inl (0, n0, .inl f))) (ha : h.1 a = some (.inl (0, n1, .inl f1))) (hA : gB g ≤ a)
    (h1 : ¬ sp < 0) (h2 : ¬ dp < 0) (h3 : ¬ n < 0) (h4 : sp.toNatClampNeg + n.toNatClampNeg ≤ n0) (h5 : dp.toNatClampNeg + n.toNatClampNeg ≤ n1) (hrm : (Nat.ble 1 (mD M) && Nat.ble ((S.map fun v => v.category).sum + (nativeFrameWords "java/lang/System" "arraycopy" 5 + 11)) (mW M)) = true)
    (k : AW g M nx L S (hU h a (.inl (0, n1, .inl (va_cpy f f1 sp.toNatClampNeg dp.toNatClampNeg n.toNatClampNeg)))) Q) : AW g M pc L (.int n :: .int dp :: .ref a :: .int sp :: .ref a0 :: S) h Q := by
  subst hn
  rw [Bool.and_eq_true] at hrm
  have j1 := Nat.le_of_ble_eq_true hrm.1
  have j2 := Nat.le_of_ble_eq_true hrm.2
  have nn : ∀ z : Int32, ¬ z < 0 → z.toInt = (z.toNatClampNeg : Int) := by
    intro z hz
    have e3 := Int32.le_iff_toInt_le.mp (Int32.not_lt.mp hz)
    have e4 : (0 : Int32).toInt = 0 := rfl
    have e5 : z.toNatClampNeg = z.toInt.toNat := rfl
    omega
  intro p e s m args below meth c H locs cells slots ls hC hF hH hS hL T hT X
  obtain ⟨hx, hb, hml, -, -, hown, hts, -, -, hok, -⟩ := id hC
  obtain ⟨cs, c0, ⟨hs6, k0, hk0, cm0, hkk0⟩, hs3, cs0⟩ := hH.arr (ty := .int) hF hS rfl ha0
  have hs4 : cs.slots.size = n0 := by rw [cs0]; show (arrV _ _ _).slots.size = _; rw [arrV_size]
  have hs5 : ∀ j, j < n0 → cs.slots[j]? = some (.int (f j)) := fun j hj => by rw [cs0]; show (arrV _ _ _).slots[_]? = _; rw [arrV_read _ _ hj]
  have c1 : H[a]? = some (vp_cell (gT g 0) (n1, .inl f1)) := (hH.1 a _ ha).1 hA
  obtain ⟨-, k1, hk1, cm1, hkk1⟩ := (hF.1.2 0 _ rfl).1 n1 (fun j => .int (f1 j))
  obtain ⟨vm', X', step⟩ := X.arraycopy hx hown (hts _ hlk) (hts _ qac_n) (hts _ qac_s) (hts _ qac_i) (src := a0) (dst := a) (cs := cs) (cd := vp_cell (gT g 0) (n1, .inl f1)) (srcPos := sp) (destPos := dp) (n := n) (by rw [hT]; exact c0) (by rw [hT]; exact c1)
    hs6 (fun _ z => by cases z) hs3 (fun z => by cases z) hk0 hk1 hkk0 hkk1 (by simp [refKind]) h1 h2 h3
    (by rw [nn sp h1, nn n h3, hs4]; omega)
    (by rw [nn dp h2, nn n h3]; show ¬ _ > ((arrV (gT g 0) n1 (fun j => .int (f1 j))).slots.size : Int); rw [arrV_size]; omega)
    (fun vm₁ _ i hi => by
      have e : cs.slots.getD (sp.toNatClampNeg + i) .null = .int (f (sp.toNatClampNeg + i)) := by
        rw [Array.getD_eq_getD_getElem?, hs5 _ (by omega)]
        rfl
      rw [e]
      exact ⟨rfl, trivial⟩)
    (g := F0 m pc ls (.int n :: .int dp :: .ref a :: .int sp :: .ref a0 :: S)) rfl (hL.1.trans hml.symm) (rest := S) rfl (by rw [hb]; exact am_dec hok hr) j1 (by show 2 * 0 + _ + _ ≤ mW M; omega)
  have e1 : copied cs (vp_cell (gT g 0) (n1, .inl f1)) sp dp n = vp_cell (gT g 0) (n1, .inl (va_cpy f f1 sp.toNatClampNeg dp.toNatClampNeg n.toNatClampNeg)) := va_copiedX (fun z => .int z) cs (gT g 0) f f1 hs5 h4
  rw [e1] at X' step
  have hl : a < H.size := (Array.getElem?_eq_some_iff.mp c1).1
  generalize hN : va_cpy f f1 sp.toNatClampNeg dp.toNatClampNeg n.toNatClampNeg = fN at k X' step
  have hheap : ((T.setVm vm').setCell a (vp_cell (gT g 0) (n1, .inl fN))).heap = H.setIfInBounds a (vp_cell (gT g 0) (n1, .inl fN)) := by rw [← hT]; rfl
  have oq : ∀ q : Nat, q ≠ a → (H.setIfInBounds a (vp_cell (gT g 0) (n1, .inl fN)))[q]? = H[q]? := fun q hq => by simp [Array.getElem?_setIfInBounds, Ne.symm hq]
  have es : (H.setIfInBounds a (vp_cell (gT g 0) (n1, .inl fN)))[a]? = some (vp_cell (gT g 0) (n1, .inl fN)) := by simp [Array.getElem?_setIfInBounds, hl]
  have hput := hH.put (e' := .inl (0, n1, .inl fN)) (by simp) oq c1 es (by show (arrV _ _ _).slots.size = (arrV _ _ _).slots.size; rw [arrV_size, arrV_size]) hA es
  obtain ⟨t, a1, b1⟩ := k p e s m args below meth c _ _ cells slots ls hC hF hput ⟨by simp; exact hS.1, fun q g1 g2 => by
      rw [oq q (fun e => g2 (by rw [e]; exact hA))]
      exact hS.2.1 q g1 g2, fun q hq => by
      rcases List.mem_append.mp hq with z | z
      · exact hS.2.2 q z
      · obtain ⟨w, -, hw⟩ := List.mem_map.mp z
        rw [← hw]
        exact hA⟩ hL _ hheap X'
  exact ⟨t, step t a1, b1⟩
end AWK
section SBO
variable {h : AH} {b c : Nat} {S T : Mem} (hd : b + 58 ≤ c ∨ c + 58 ≤ b)
theorem sb_comm (hd : b + 58 ≤ c ∨ c + 58 ≤ b) : sb (sb h c T) b S = sb (sb h b S) c T := blk_comm (by omega)
theorem sbo_st (hd : b + 58 ≤ c ∨ c + 58 ≤ b) : (sb (sb h c T) b S).1 c = some (ob 7 16 (stF c T)) := by rw [sb_comm hd]; exact sb_st
theorem sbo_bo (hd : b + 58 ≤ c ∨ c + 58 ≤ b) : (sb (sb h c T) b S).1 (c + 56) = some (ob 0 3 (boF c T)) := by rw [sb_comm hd]; exact sb_bo
theorem sbo_ce (hd : b + 58 ≤ c ∨ c + 58 ≤ b) : (sb (sb h c T) b S).1 (c + 57) = some (ceA T) := by rw [sb_comm hd]; exact sb_ce
theorem sbo_pr (hd : b + 58 ≤ c ∨ c + 58 ≤ b) {p : Nat} (hp : pok p) : (sb (sb h c T) b S).1 (c + 2 + p) = some (ob 3 3 (prF T p)) := by rw [sb_comm hd]; exact sb_pr hp
theorem sbo_re (hd : b + 58 ≤ c ∨ c + 58 ≤ b) {p : Nat} (hp : rok p) : (sb (sb h c T) b S).1 (c + 9 + p) = some (ob 5 8 (reF T p)) := by rw [sb_comm hd]; exact sb_re hp
theorem sbo_it (hd : b + 58 ≤ c ∨ c + 58 ≤ b) {p : Nat} (hp : iok p) : (sb (sb h c T) b S).1 (c + 20 + 2 * p) = some (ob 2 19 (itF c T p)) := by rw [sb_comm hd]; exact sb_it hp
theorem sbo_qu (hd : b + 58 ≤ c ∨ c + 58 ≤ b) {p : Nat} (hp : iok p) : (sb (sb h c T) b S).1 (c + 21 + 2 * p) = some (quA T p) := by rw [sb_comm hd]; exact sb_qu hp
end SBO
def sX3_copyFrom (S : Mem) (T : Mem) (i0 : Nat) (i1 : Nat) : Mem :=
  olet (si S 1 0 i0 (gi T 1 0 i1)) fun S1 =>
  olet (si S1 1 1 i0 (gi T 1 1 i1)) fun S2 =>
  olet (si S2 1 2 i0 (gi T 1 2 i1)) fun S3 =>
  S3
set_option maxRecDepth 100000 in
theorem dX3_copyFrom {g : AG} {h0 : AH} {b c : Nat} {S : Mem} {Q : AO → AH → Prop} {T : Mem} {i0 : Nat} {i1 : Nat} (hA : gB g ≤ b) (hA2 : gB g ≤ c) (hd : b + 58 ≤ c ∨ c + 58 ≤ b) (hi0 : pok i0) (hi1 : pok i1) {r : Mem} (hs : sX3_copyFrom S T i0 i1 = r) (hQ : Q (.ok none) (sb (sb h0 c T) b r)) : AW g MX3_copyFrom 0 [some (.ref (b + 2 + i0)), some (.ref (c + 2 + i1))] [] (sb (sb h0 c T) b S) Q := by
  unfold sX3_copyFrom at hs
  refine AW.aload_n (z := 0) (am_r 0 rfl) rfl rfl ?_
  refine AW.aload_n (z := 1) (am_r 1 rfl) rfl rfl ?_
  refine AW.getO (am_r 2 rfl) rfl klX3 (k := 0) (by omega) q47 (sbo_pr hd hi1) rfl ?_
  refine AW.putO (am_r 3 rfl) rfl klX3 (k := 0) (by omega) q47 (Or.inl rfl) (sb_pr hi0) (Nat.le_trans hA (by omega)) rfl rfl (sbp_pr hi0) ?_
  refine olet_e (P := fun y => AW g MX3_copyFrom 8 [some (.ref (b + 2 + i0)), some (.ref (c + 2 + i1))] [] (sb (sb h0 c T) b y) Q) hs (fun S1 hs => ?_)
  refine AW.aload_n (z := 0) (am_r 4 rfl) rfl rfl ?_
  refine AW.aload_n (z := 1) (am_r 5 rfl) rfl rfl ?_
  refine AW.getO (am_r 6 rfl) rfl klX3 (k := 1) (by omega) q50 (sbo_pr hd hi1) rfl ?_
  refine AW.putO (am_r 7 rfl) rfl klX3 (k := 1) (by omega) q50 (Or.inl rfl) (sb_pr hi0) (Nat.le_trans hA (by omega)) rfl rfl (sbp_pr hi0) ?_
  refine olet_e (P := fun y => AW g MX3_copyFrom 16 [some (.ref (b + 2 + i0)), some (.ref (c + 2 + i1))] [] (sb (sb h0 c T) b y) Q) hs (fun S2 hs => ?_)
  refine AW.aload_n (z := 0) (am_r 8 rfl) rfl rfl ?_
  refine AW.aload_n (z := 1) (am_r 9 rfl) rfl rfl ?_
  refine AW.getO (am_r 10 rfl) rfl klX3 (k := 2) (by omega) q53 (sbo_pr hd hi1) rfl ?_
  refine AW.putO (am_r 11 rfl) rfl klX3 (k := 2) (by omega) q53 (Or.inl rfl) (sb_pr hi0) (Nat.le_trans hA (by omega)) rfl rfl (sbp_pr hi0) ?_
  refine olet_e (P := fun y => AW g MX3_copyFrom 24 [some (.ref (b + 2 + i0)), some (.ref (c + 2 + i1))] [] (sb (sb h0 c T) b y) Q) hs (fun S3 hs => ?_)
  have hr := hs.symm
  subst hr
  exact AW.vret (am_r 12 rfl) rfl hQ
def sX5_copyFrom (S : Mem) (T : Mem) (i0 : Nat) (i1 : Nat) : Mem :=
  olet (si S 2 0 i0 (gi T 2 0 i1)) fun S1 =>
  olet (si S1 2 1 i0 (gi T 2 1 i1)) fun S2 =>
  olet (si S2 2 2 i0 (gi T 2 2 i1)) fun S3 =>
  olet (si S3 2 3 i0 (gi T 2 3 i1)) fun S4 =>
  olet (si S4 2 4 i0 (gi T 2 4 i1)) fun S5 =>
  olet (si S5 2 5 i0 (gi T 2 5 i1)) fun S6 =>
  olet (si S6 2 6 i0 (gi T 2 6 i1)) fun S7 =>
  olet (si S7 2 7 i0 (gi T 2 7 i1)) fun S8 =>
  S8
set_option maxRecDepth 100000 in
theorem dX5_copyFrom {g : AG} {h0 : AH} {b c : Nat} {S : Mem} {Q : AO → AH → Prop} {T : Mem} {i0 : Nat} {i1 : Nat} (hA : gB g ≤ b) (hA2 : gB g ≤ c) (hd : b + 58 ≤ c ∨ c + 58 ≤ b) (hi0 : rok i0) (hi1 : rok i1) {r : Mem} (hs : sX5_copyFrom S T i0 i1 = r) (hQ : Q (.ok none) (sb (sb h0 c T) b r)) : AW g MX5_copyFrom 0 [some (.ref (b + 9 + i0)), some (.ref (c + 9 + i1))] [] (sb (sb h0 c T) b S) Q := by
  unfold sX5_copyFrom at hs
  refine AW.aload_n (z := 0) (am_r 0 rfl) rfl rfl ?_
  refine AW.aload_n (z := 1) (am_r 1 rfl) rfl rfl ?_
  refine AW.getO (am_r 2 rfl) rfl klX5 (k := 0) (by omega) q70 (sbo_re hd hi1) rfl ?_
  refine AW.putO (am_r 3 rfl) rfl klX5 (k := 0) (by omega) q70 (Or.inl rfl) (sb_re hi0) (Nat.le_trans hA (by omega)) rfl rfl (sbp_re hi0) ?_
  refine olet_e (P := fun y => AW g MX5_copyFrom 8 [some (.ref (b + 9 + i0)), some (.ref (c + 9 + i1))] [] (sb (sb h0 c T) b y) Q) hs (fun S1 hs => ?_)
  refine AW.aload_n (z := 0) (am_r 4 rfl) rfl rfl ?_
  refine AW.aload_n (z := 1) (am_r 5 rfl) rfl rfl ?_
  refine AW.getO (am_r 6 rfl) rfl klX5 (k := 1) (by omega) q74 (sbo_re hd hi1) rfl ?_
  refine AW.putO (am_r 7 rfl) rfl klX5 (k := 1) (by omega) q74 (Or.inl rfl) (sb_re hi0) (Nat.le_trans hA (by omega)) rfl rfl (sbp_re hi0) ?_
  refine olet_e (P := fun y => AW g MX5_copyFrom 16 [some (.ref (b + 9 + i0)), some (.ref (c + 9 + i1))] [] (sb (sb h0 c T) b y) Q) hs (fun S2 hs => ?_)
  refine AW.aload_n (z := 0) (am_r 8 rfl) rfl rfl ?_
  refine AW.aload_n (z := 1) (am_r 9 rfl) rfl rfl ?_
  refine AW.getO (am_r 10 rfl) rfl klX5 (k := 2) (by omega) q78 (sbo_re hd hi1) rfl ?_
  refine AW.putO (am_r 11 rfl) rfl klX5 (k := 2) (by omega) q78 (Or.inl rfl) (sb_re hi0) (Nat.le_trans hA (by omega)) rfl rfl (sbp_re hi0) ?_
  refine olet_e (P := fun y => AW g MX5_copyFrom 24 [some (.ref (b + 9 + i0)), some (.ref (c + 9 + i1))] [] (sb (sb h0 c T) b y) Q) hs (fun S3 hs => ?_)
  refine AW.aload_n (z := 0) (am_r 12 rfl) rfl rfl ?_
  refine AW.aload_n (z := 1) (am_r 13 rfl) rfl rfl ?_
  refine AW.getO (am_r 14 rfl) rfl klX5 (k := 3) (by omega) q82 (sbo_re hd hi1) rfl ?_
  refine AW.putO (am_r 15 rfl) rfl klX5 (k := 3) (by omega) q82 (Or.inl rfl) (sb_re hi0) (Nat.le_trans hA (by omega)) rfl rfl (sbp_re hi0) ?_
  refine olet_e (P := fun y => AW g MX5_copyFrom 32 [some (.ref (b + 9 + i0)), some (.ref (c + 9 + i1))] [] (sb (sb h0 c T) b y) Q) hs (fun S4 hs => ?_)
  refine AW.aload_n (z := 0) (am_r 16 rfl) rfl rfl ?_
  refine AW.aload_n (z := 1) (am_r 17 rfl) rfl rfl ?_
  refine AW.getO (am_r 18 rfl) rfl klX5 (k := 4) (by omega) q85 (sbo_re hd hi1) rfl ?_
  refine AW.putO (am_r 19 rfl) rfl klX5 (k := 4) (by omega) q85 (Or.inl rfl) (sb_re hi0) (Nat.le_trans hA (by omega)) rfl rfl (sbp_re hi0) ?_
  refine olet_e (P := fun y => AW g MX5_copyFrom 40 [some (.ref (b + 9 + i0)), some (.ref (c + 9 + i1))] [] (sb (sb h0 c T) b y) Q) hs (fun S5 hs => ?_)
  refine AW.aload_n (z := 0) (am_r 20 rfl) rfl rfl ?_
  refine AW.aload_n (z := 1) (am_r 21 rfl) rfl rfl ?_
  refine AW.getO (am_r 22 rfl) rfl klX5 (k := 5) (by omega) q88 (sbo_re hd hi1) rfl ?_
  refine AW.putO (am_r 23 rfl) rfl klX5 (k := 5) (by omega) q88 (Or.inl rfl) (sb_re hi0) (Nat.le_trans hA (by omega)) rfl rfl (sbp_re hi0) ?_
  refine olet_e (P := fun y => AW g MX5_copyFrom 48 [some (.ref (b + 9 + i0)), some (.ref (c + 9 + i1))] [] (sb (sb h0 c T) b y) Q) hs (fun S6 hs => ?_)
  refine AW.aload_n (z := 0) (am_r 24 rfl) rfl rfl ?_
  refine AW.aload_n (z := 1) (am_r 25 rfl) rfl rfl ?_
  refine AW.getO (am_r 26 rfl) rfl klX5 (k := 6) (by omega) q91 (sbo_re hd hi1) rfl ?_
  refine AW.putO (am_r 27 rfl) rfl klX5 (k := 6) (by omega) q91 (Or.inl rfl) (sb_re hi0) (Nat.le_trans hA (by omega)) rfl rfl (sbp_re hi0) ?_
  refine olet_e (P := fun y => AW g MX5_copyFrom 56 [some (.ref (b + 9 + i0)), some (.ref (c + 9 + i1))] [] (sb (sb h0 c T) b y) Q) hs (fun S7 hs => ?_)
  refine AW.aload_n (z := 0) (am_r 28 rfl) rfl rfl ?_
  refine AW.aload_n (z := 1) (am_r 29 rfl) rfl rfl ?_
  refine AW.getO (am_r 30 rfl) rfl klX5 (k := 7) (by omega) q94 (sbo_re hd hi1) rfl ?_
  refine AW.putO (am_r 31 rfl) rfl klX5 (k := 7) (by omega) q94 (Or.inl rfl) (sb_re hi0) (Nat.le_trans hA (by omega)) rfl rfl (sbp_re hi0) ?_
  refine olet_e (P := fun y => AW g MX5_copyFrom 64 [some (.ref (b + 9 + i0)), some (.ref (c + 9 + i1))] [] (sb (sb h0 c T) b y) Q) hs (fun S8 hs => ?_)
  have hr := hs.symm
  subst hr
  exact AW.vret (am_r 32 rfl) rfl hQ
def sX2_copyFrom (S : Mem) (T : Mem) (i0 : Nat) (i1 : Nat) : Mem :=
  olet (si S 3 2 i0 (gi T 3 2 i1)) fun S1 =>
  olet (si S1 3 3 i0 (gi T 3 3 i1)) fun S2 =>
  olet (si S2 3 4 i0 (gi T 3 4 i1)) fun S3 =>
  olet (si S3 3 5 i0 (gi T 3 5 i1)) fun S4 =>
  olet (si S4 3 6 i0 (gi T 3 6 i1)) fun S5 =>
  olet (si S5 3 7 i0 (gi T 3 7 i1)) fun S6 =>
  olet (si S6 3 8 i0 (gi T 3 8 i1)) fun S7 =>
  olet (si S7 3 9 i0 (gi T 3 9 i1)) fun S8 =>
  olet (si S8 3 10 i0 (gi T 3 10 i1)) fun S9 =>
  olet (si S9 3 11 i0 (gi T 3 11 i1)) fun S10 =>
  olet (si S10 3 12 i0 (gi T 3 12 i1)) fun S11 =>
  olet (si S11 3 13 i0 (gi T 3 13 i1)) fun S12 =>
  olet (sq S12 3 i0 (gq T 3 i1)) fun S13 =>
  olet (si S13 3 15 i0 (bz (gi T 3 15 i1))) fun S14 =>
  olet (si S14 3 16 i0 (gi T 3 16 i1)) fun S15 =>
  olet (si S15 3 17 i0 (gi T 3 17 i1)) fun S16 =>
  olet (si S16 3 18 i0 (gi T 3 18 i1)) fun S17 =>
  olet (sr S17 4 i0 (va_cpy (fun j => gi T 4 j i1) (fun j => gi S17 4 j i0) (0 : Int32).toNatClampNeg (0 : Int32).toNatClampNeg (jmin (8 : Int32) (8 : Int32)).toNatClampNeg)) fun S18 =>
  S18
set_option maxRecDepth 100000 in
theorem dX2_copyFrom {g : AG} {h0 : AH} {b c : Nat} {S : Mem} {Q : AO → AH → Prop} {T : Mem} {i0 : Nat} {i1 : Nat} (hA : gB g ≤ b) (hA2 : gB g ≤ c) (hd : b + 58 ≤ c ∨ c + 58 ≤ b) (hi0 : iok i0) (hi1 : iok i1) {r : Mem} (hs : sX2_copyFrom S T i0 i1 = r) (hQ : Q (.ok none) (sb (sb h0 c T) b r)) : AW g MX2_copyFrom 0 [some (.ref (b + 20 + 2 * i0)), some (.ref (c + 20 + 2 * i1))] [] (sb (sb h0 c T) b S) Q := by
  unfold sX2_copyFrom at hs
  refine AW.aload_n (z := 0) (am_r 0 rfl) rfl rfl ?_
  refine AW.aload_n (z := 1) (am_r 1 rfl) rfl rfl ?_
  refine AW.getO (am_r 2 rfl) rfl klX2 (k := 2) (by omega) q124 (sbo_it hd hi1) rfl ?_
  refine AW.putO (am_r 3 rfl) rfl klX2 (k := 2) (by omega) q124 (Or.inl rfl) (sb_it hi0) (Nat.le_trans hA (by omega)) rfl rfl (sbp_it hi0 (by decide) (fun z => by omega)) ?_
  refine olet_e (P := fun y => AW g MX2_copyFrom 8 [some (.ref (b + 20 + 2 * i0)), some (.ref (c + 20 + 2 * i1))] [] (sb (sb h0 c T) b y) Q) hs (fun S1 hs => ?_)
  refine AW.aload_n (z := 0) (am_r 4 rfl) rfl rfl ?_
  refine AW.aload_n (z := 1) (am_r 5 rfl) rfl rfl ?_
  refine AW.getO (am_r 6 rfl) rfl klX2 (k := 3) (by omega) q127 (sbo_it hd hi1) rfl ?_
  refine AW.putO (am_r 7 rfl) rfl klX2 (k := 3) (by omega) q127 (Or.inl rfl) (sb_it hi0) (Nat.le_trans hA (by omega)) rfl rfl (sbp_it hi0 (by decide) (fun z => by omega)) ?_
  refine olet_e (P := fun y => AW g MX2_copyFrom 16 [some (.ref (b + 20 + 2 * i0)), some (.ref (c + 20 + 2 * i1))] [] (sb (sb h0 c T) b y) Q) hs (fun S2 hs => ?_)
  refine AW.aload_n (z := 0) (am_r 8 rfl) rfl rfl ?_
  refine AW.aload_n (z := 1) (am_r 9 rfl) rfl rfl ?_
  refine AW.getO (am_r 10 rfl) rfl klX2 (k := 4) (by omega) q130 (sbo_it hd hi1) rfl ?_
  refine AW.putO (am_r 11 rfl) rfl klX2 (k := 4) (by omega) q130 (Or.inl rfl) (sb_it hi0) (Nat.le_trans hA (by omega)) rfl rfl (sbp_it hi0 (by decide) (fun z => by omega)) ?_
  refine olet_e (P := fun y => AW g MX2_copyFrom 24 [some (.ref (b + 20 + 2 * i0)), some (.ref (c + 20 + 2 * i1))] [] (sb (sb h0 c T) b y) Q) hs (fun S3 hs => ?_)
  refine AW.aload_n (z := 0) (am_r 12 rfl) rfl rfl ?_
  refine AW.aload_n (z := 1) (am_r 13 rfl) rfl rfl ?_
  refine AW.getO (am_r 14 rfl) rfl klX2 (k := 5) (by omega) q133 (sbo_it hd hi1) rfl ?_
  refine AW.putO (am_r 15 rfl) rfl klX2 (k := 5) (by omega) q133 (Or.inl rfl) (sb_it hi0) (Nat.le_trans hA (by omega)) rfl rfl (sbp_it hi0 (by decide) (fun z => by omega)) ?_
  refine olet_e (P := fun y => AW g MX2_copyFrom 32 [some (.ref (b + 20 + 2 * i0)), some (.ref (c + 20 + 2 * i1))] [] (sb (sb h0 c T) b y) Q) hs (fun S4 hs => ?_)
  refine AW.aload_n (z := 0) (am_r 16 rfl) rfl rfl ?_
  refine AW.aload_n (z := 1) (am_r 17 rfl) rfl rfl ?_
  refine AW.getO (am_r 18 rfl) rfl klX2 (k := 6) (by omega) q136 (sbo_it hd hi1) rfl ?_
  refine AW.putO (am_r 19 rfl) rfl klX2 (k := 6) (by omega) q136 (Or.inl rfl) (sb_it hi0) (Nat.le_trans hA (by omega)) rfl rfl (sbp_it hi0 (by decide) (fun z => by omega)) ?_
  refine olet_e (P := fun y => AW g MX2_copyFrom 40 [some (.ref (b + 20 + 2 * i0)), some (.ref (c + 20 + 2 * i1))] [] (sb (sb h0 c T) b y) Q) hs (fun S5 hs => ?_)
  refine AW.aload_n (z := 0) (am_r 20 rfl) rfl rfl ?_
  refine AW.aload_n (z := 1) (am_r 21 rfl) rfl rfl ?_
  refine AW.getO (am_r 22 rfl) rfl klX2 (k := 7) (by omega) q139 (sbo_it hd hi1) rfl ?_
  refine AW.putO (am_r 23 rfl) rfl klX2 (k := 7) (by omega) q139 (Or.inl rfl) (sb_it hi0) (Nat.le_trans hA (by omega)) rfl rfl (sbp_it hi0 (by decide) (fun z => by omega)) ?_
  refine olet_e (P := fun y => AW g MX2_copyFrom 48 [some (.ref (b + 20 + 2 * i0)), some (.ref (c + 20 + 2 * i1))] [] (sb (sb h0 c T) b y) Q) hs (fun S6 hs => ?_)
  refine AW.aload_n (z := 0) (am_r 24 rfl) rfl rfl ?_
  refine AW.aload_n (z := 1) (am_r 25 rfl) rfl rfl ?_
  refine AW.getO (am_r 26 rfl) rfl klX2 (k := 8) (by omega) q142 (sbo_it hd hi1) rfl ?_
  refine AW.putO (am_r 27 rfl) rfl klX2 (k := 8) (by omega) q142 (Or.inl rfl) (sb_it hi0) (Nat.le_trans hA (by omega)) rfl rfl (sbp_it hi0 (by decide) (fun z => by omega)) ?_
  refine olet_e (P := fun y => AW g MX2_copyFrom 56 [some (.ref (b + 20 + 2 * i0)), some (.ref (c + 20 + 2 * i1))] [] (sb (sb h0 c T) b y) Q) hs (fun S7 hs => ?_)
  refine AW.aload_n (z := 0) (am_r 28 rfl) rfl rfl ?_
  refine AW.aload_n (z := 1) (am_r 29 rfl) rfl rfl ?_
  refine AW.getO (am_r 30 rfl) rfl klX2 (k := 9) (by omega) q145 (sbo_it hd hi1) rfl ?_
  refine AW.putO (am_r 31 rfl) rfl klX2 (k := 9) (by omega) q145 (Or.inl rfl) (sb_it hi0) (Nat.le_trans hA (by omega)) rfl rfl (sbp_it hi0 (by decide) (fun z => by omega)) ?_
  refine olet_e (P := fun y => AW g MX2_copyFrom 64 [some (.ref (b + 20 + 2 * i0)), some (.ref (c + 20 + 2 * i1))] [] (sb (sb h0 c T) b y) Q) hs (fun S8 hs => ?_)
  refine AW.aload_n (z := 0) (am_r 32 rfl) rfl rfl ?_
  refine AW.aload_n (z := 1) (am_r 33 rfl) rfl rfl ?_
  refine AW.getO (am_r 34 rfl) rfl klX2 (k := 10) (by omega) q148 (sbo_it hd hi1) rfl ?_
  refine AW.putO (am_r 35 rfl) rfl klX2 (k := 10) (by omega) q148 (Or.inl rfl) (sb_it hi0) (Nat.le_trans hA (by omega)) rfl rfl (sbp_it hi0 (by decide) (fun z => by omega)) ?_
  refine olet_e (P := fun y => AW g MX2_copyFrom 72 [some (.ref (b + 20 + 2 * i0)), some (.ref (c + 20 + 2 * i1))] [] (sb (sb h0 c T) b y) Q) hs (fun S9 hs => ?_)
  refine AW.aload_n (z := 0) (am_r 36 rfl) rfl rfl ?_
  refine AW.aload_n (z := 1) (am_r 37 rfl) rfl rfl ?_
  refine AW.getO (am_r 38 rfl) rfl klX2 (k := 11) (by omega) q151 (sbo_it hd hi1) rfl ?_
  refine AW.putO (am_r 39 rfl) rfl klX2 (k := 11) (by omega) q151 (Or.inl rfl) (sb_it hi0) (Nat.le_trans hA (by omega)) rfl rfl (sbp_it hi0 (by decide) (fun z => by omega)) ?_
  refine olet_e (P := fun y => AW g MX2_copyFrom 80 [some (.ref (b + 20 + 2 * i0)), some (.ref (c + 20 + 2 * i1))] [] (sb (sb h0 c T) b y) Q) hs (fun S10 hs => ?_)
  refine AW.aload_n (z := 0) (am_r 40 rfl) rfl rfl ?_
  refine AW.aload_n (z := 1) (am_r 41 rfl) rfl rfl ?_
  refine AW.getO (am_r 42 rfl) rfl klX2 (k := 12) (by omega) q152 (sbo_it hd hi1) rfl ?_
  refine AW.putO (am_r 43 rfl) rfl klX2 (k := 12) (by omega) q152 (Or.inl rfl) (sb_it hi0) (Nat.le_trans hA (by omega)) rfl rfl (sbp_it hi0 (by decide) (fun z => by omega)) ?_
  refine olet_e (P := fun y => AW g MX2_copyFrom 88 [some (.ref (b + 20 + 2 * i0)), some (.ref (c + 20 + 2 * i1))] [] (sb (sb h0 c T) b y) Q) hs (fun S11 hs => ?_)
  refine AW.aload_n (z := 0) (am_r 44 rfl) rfl rfl ?_
  refine AW.aload_n (z := 1) (am_r 45 rfl) rfl rfl ?_
  refine AW.getO (am_r 46 rfl) rfl klX2 (k := 13) (by omega) q154 (sbo_it hd hi1) rfl ?_
  refine AW.putO (am_r 47 rfl) rfl klX2 (k := 13) (by omega) q154 (Or.inl rfl) (sb_it hi0) (Nat.le_trans hA (by omega)) rfl rfl (sbp_it hi0 (by decide) (fun z => by omega)) ?_
  refine olet_e (P := fun y => AW g MX2_copyFrom 96 [some (.ref (b + 20 + 2 * i0)), some (.ref (c + 20 + 2 * i1))] [] (sb (sb h0 c T) b y) Q) hs (fun S12 hs => ?_)
  refine AW.aload_n (z := 0) (am_r 48 rfl) rfl rfl ?_
  refine AW.aload_n (z := 1) (am_r 49 rfl) rfl rfl ?_
  refine AW.getO (am_r 50 rfl) rfl klX2 (k := 14) (by omega) q157 (sbo_it hd hi1) rfl ?_
  refine AW.putO (am_r 51 rfl) rfl klX2 (k := 14) (by omega) q157 (Or.inl rfl) (sb_it hi0) (Nat.le_trans hA (by omega)) rfl rfl (sbp_ow hi0) ?_
  refine olet_e (P := fun y => AW g MX2_copyFrom 104 [some (.ref (b + 20 + 2 * i0)), some (.ref (c + 20 + 2 * i1))] [] (sb (sb h0 c T) b y) Q) hs (fun S13 hs => ?_)
  refine AW.aload_n (z := 0) (am_r 52 rfl) rfl rfl ?_
  refine AW.aload_n (z := 1) (am_r 53 rfl) rfl rfl ?_
  refine AW.getO (am_r 54 rfl) rfl klX2 (k := 15) (by omega) q160 (sbo_it hd hi1) rfl ?_
  refine AW.putO (am_r 55 rfl) rfl klX2 (k := 15) (by omega) q160 (Or.inl rfl) (sb_it hi0) (Nat.le_trans hA (by omega)) (nar_b (bz_01 _)) (fit_b (bz_01 _)) (sbp_it hi0 (by decide) (fun _ => bz_01 _)) ?_
  refine olet_e (P := fun y => AW g MX2_copyFrom 112 [some (.ref (b + 20 + 2 * i0)), some (.ref (c + 20 + 2 * i1))] [] (sb (sb h0 c T) b y) Q) hs (fun S14 hs => ?_)
  refine AW.aload_n (z := 0) (am_r 56 rfl) rfl rfl ?_
  refine AW.aload_n (z := 1) (am_r 57 rfl) rfl rfl ?_
  refine AW.getO (am_r 58 rfl) rfl klX2 (k := 16) (by omega) q163 (sbo_it hd hi1) rfl ?_
  refine AW.putO (am_r 59 rfl) rfl klX2 (k := 16) (by omega) q163 (Or.inl rfl) (sb_it hi0) (Nat.le_trans hA (by omega)) rfl rfl (sbp_it hi0 (by decide) (fun z => by omega)) ?_
  refine olet_e (P := fun y => AW g MX2_copyFrom 120 [some (.ref (b + 20 + 2 * i0)), some (.ref (c + 20 + 2 * i1))] [] (sb (sb h0 c T) b y) Q) hs (fun S15 hs => ?_)
  refine AW.aload_n (z := 0) (am_r 60 rfl) rfl rfl ?_
  refine AW.aload_n (z := 1) (am_r 61 rfl) rfl rfl ?_
  refine AW.getO (am_r 62 rfl) rfl klX2 (k := 17) (by omega) q166 (sbo_it hd hi1) rfl ?_
  refine AW.putO (am_r 63 rfl) rfl klX2 (k := 17) (by omega) q166 (Or.inl rfl) (sb_it hi0) (Nat.le_trans hA (by omega)) rfl rfl (sbp_it hi0 (by decide) (fun z => by omega)) ?_
  refine olet_e (P := fun y => AW g MX2_copyFrom 128 [some (.ref (b + 20 + 2 * i0)), some (.ref (c + 20 + 2 * i1))] [] (sb (sb h0 c T) b y) Q) hs (fun S16 hs => ?_)
  refine AW.aload_n (z := 0) (am_r 64 rfl) rfl rfl ?_
  refine AW.aload_n (z := 1) (am_r 65 rfl) rfl rfl ?_
  refine AW.getO (am_r 66 rfl) rfl klX2 (k := 18) (by omega) q168 (sbo_it hd hi1) rfl ?_
  refine AW.putO (am_r 67 rfl) rfl klX2 (k := 18) (by omega) q168 (Or.inl rfl) (sb_it hi0) (Nat.le_trans hA (by omega)) rfl rfl (sbp_it hi0 (by decide) (fun z => by omega)) ?_
  refine olet_e (P := fun y => AW g MX2_copyFrom 136 [some (.ref (b + 20 + 2 * i0)), some (.ref (c + 20 + 2 * i1))] [] (sb (sb h0 c T) b y) Q) hs (fun S17 hs => ?_)
  refine AW.aload_n (z := 1) (am_r 68 rfl) rfl rfl ?_
  refine AW.getO (am_r 69 rfl) rfl klX2 (k := 1) (by omega) q123 (sbo_it hd hi1) rfl ?_
  refine AW.iconst (am_r 70 rfl) rfl ci_0 ?_
  refine AW.aload_n (z := 0) (am_r 71 rfl) rfl rfl ?_
  refine AW.getO (am_r 72 rfl) rfl klX2 (k := 1) (by omega) q123 (sb_it hi0) rfl ?_
  refine AW.iconst (am_r 73 rfl) rfl ci_0 ?_
  refine AW.aload_n (z := 0) (am_r 74 rfl) rfl rfl ?_
  refine AW.getO (am_r 75 rfl) rfl klX2 (k := 1) (by omega) q123 (sb_it hi0) rfl ?_
  refine AW.alen (am_r 76 rfl) rfl rfl (sb_qu hi0) cn_8 ?_
  refine AW.aload_n (z := 1) (am_r 77 rfl) rfl rfl ?_
  refine AW.getO (am_r 78 rfl) rfl klX2 (k := 1) (by omega) q123 (sbo_it hd hi1) rfl ?_
  refine AW.alen (am_r 79 rfl) rfl rfl (sbo_qu hd hi1) cn_8 ?_
  refine AW.jmin (am_r 80 rfl) rfl q658 rfl ?_
  refine AW.acopy (am_r 81 rfl) rfl qac_X2_81 (sbo_qu hd hi1) (sb_qu hi0) (Nat.le_trans hA (by omega)) (by decide) (by decide) (by decide) (by decide) (by decide) rfl ?_
  rw [show _ = _ from (sbp_qr hi0)]
  refine olet_e (P := fun y => AW g MX2_copyFrom 162 [some (.ref (b + 20 + 2 * i0)), some (.ref (c + 20 + 2 * i1))] [] (sb (sb h0 c T) b y) Q) hs (fun S18 hs => ?_)
  have hr := hs.symm
  subst hr
  exact AW.vret (am_r 82 rfl) rfl hQ
def sX0_copyFrom (S : Mem) (T : Mem) : Mem :=
  olet (si S 5 1 0 (gi T 5 1 0)) fun S1 =>
  olet (si S1 5 2 0 (gi T 5 2 0)) fun S2 =>
  olet (sr S2 6 0 (va_cpy (fun j => gi T 6 j 0) (fun j => gi S2 6 j 0) (0 : Int32).toNatClampNeg (0 : Int32).toNatClampNeg (jmin (600 : Int32) (600 : Int32)).toNatClampNeg)) fun S3 =>
  S3
set_option maxRecDepth 100000 in
theorem dX0_copyFrom {g : AG} {h0 : AH} {b c : Nat} {S : Mem} {Q : AO → AH → Prop} {T : Mem} (hA : gB g ≤ b) (hA2 : gB g ≤ c) (hd : b + 58 ≤ c ∨ c + 58 ≤ b)  {r : Mem} (hs : sX0_copyFrom S T = r) (hQ : Q (.ok none) (sb (sb h0 c T) b r)) : AW g MX0_copyFrom 0 [some (.ref (b + 56)), some (.ref (c + 56))] [] (sb (sb h0 c T) b S) Q := by
  unfold sX0_copyFrom at hs
  refine AW.aload_n (z := 0) (am_r 0 rfl) rfl rfl ?_
  refine AW.aload_n (z := 1) (am_r 1 rfl) rfl rfl ?_
  refine AW.getO (am_r 2 rfl) rfl klX0 (k := 1) (by omega) q218 (sbo_bo hd) rfl ?_
  refine AW.putO (am_r 3 rfl) rfl klX0 (k := 1) (by omega) q218 (Or.inl rfl) sb_bo (Nat.le_trans hA (by omega)) rfl rfl (sbp_bo (by omega)) ?_
  refine olet_e (P := fun y => AW g MX0_copyFrom 8 [some (.ref (b + 56)), some (.ref (c + 56))] [] (sb (sb h0 c T) b y) Q) hs (fun S1 hs => ?_)
  refine AW.aload_n (z := 0) (am_r 4 rfl) rfl rfl ?_
  refine AW.aload_n (z := 1) (am_r 5 rfl) rfl rfl ?_
  refine AW.getO (am_r 6 rfl) rfl klX0 (k := 2) (by omega) q219 (sbo_bo hd) rfl ?_
  refine AW.putO (am_r 7 rfl) rfl klX0 (k := 2) (by omega) q219 (Or.inl rfl) sb_bo (Nat.le_trans hA (by omega)) rfl rfl (sbp_bo (by omega)) ?_
  refine olet_e (P := fun y => AW g MX0_copyFrom 16 [some (.ref (b + 56)), some (.ref (c + 56))] [] (sb (sb h0 c T) b y) Q) hs (fun S2 hs => ?_)
  refine AW.aload_n (z := 1) (am_r 8 rfl) rfl rfl ?_
  refine AW.getO (am_r 9 rfl) rfl klX0 (k := 0) (by omega) q217 (sbo_bo hd) rfl ?_
  refine AW.iconst (am_r 10 rfl) rfl ci_0 ?_
  refine AW.aload_n (z := 0) (am_r 11 rfl) rfl rfl ?_
  refine AW.getO (am_r 12 rfl) rfl klX0 (k := 0) (by omega) q217 sb_bo rfl ?_
  refine AW.iconst (am_r 13 rfl) rfl ci_0 ?_
  refine AW.aload_n (z := 0) (am_r 14 rfl) rfl rfl ?_
  refine AW.getO (am_r 15 rfl) rfl klX0 (k := 0) (by omega) q217 sb_bo rfl ?_
  refine AW.alen (am_r 16 rfl) rfl rfl sb_ce cn_600 ?_
  refine AW.aload_n (z := 1) (am_r 17 rfl) rfl rfl ?_
  refine AW.getO (am_r 18 rfl) rfl klX0 (k := 0) (by omega) q217 (sbo_bo hd) rfl ?_
  refine AW.alen (am_r 19 rfl) rfl rfl (sbo_ce hd) cn_600 ?_
  refine AW.jmin (am_r 20 rfl) rfl q640 rfl ?_
  refine AW.acopy (am_r 21 rfl) rfl qac_X0_28 (sbo_ce hd) sb_ce (Nat.le_trans hA (by omega)) (by decide) (by decide) (by decide) (by decide) (by decide) rfl ?_
  rw [show _ = _ from sbp_cr]
  refine olet_e (P := fun y => AW g MX0_copyFrom 42 [some (.ref (b + 56)), some (.ref (c + 56))] [] (sb (sb h0 c T) b y) Q) hs (fun S3 hs => ?_)
  have hr := hs.symm
  subst hr
  exact AW.vret (am_r 22 rfl) rfl hQ
noncomputable def sX7_copyFrom_l143_step  (T : Mem) (a : (Int32 × Mem)) : Option ((Int32 × Mem) ⊕ Mem) :=
  if (gi a.2 0 9 0) ≤ a.1 then
    oinr (
    some (a.2))
  else
    olet (sX2_copyFrom a.2 T (sX7_itemAt a.2 a.1) (sX7_itemAt T a.1)) fun S28 =>
    some (.inl (a.1 + (1 : Int32), S28))
noncomputable def sX7_copyFrom_l143  (T : Mem) (a : (Int32 × Mem)) : Option Mem := itw (sX7_copyFrom_l143_step  T) a
set_option maxRecDepth 100000 in
theorem dX7_copyFrom_l143 {g : AG} {h0 : AH} {b c : Nat} {Q : AO → AH → Prop} {T : Mem} (hA : gB g ≤ b) (hA2 : gB g ≤ c) (hd : b + 58 ≤ c ∨ c + 58 ≤ b)  {a : (Int32 × Mem)}  {r : Mem} (hs : sX7_copyFrom_l143  T a = some r) (hQ : Q (.ok none) (sb (sb h0 c T) b r)) : AW g MX7_copyFrom 143 [some (.ref (b)), some (.ref (c)), some (.int (a.1))] [] (sb (sb h0 c T) b a.2) Q := by
  refine itw_e (P := fun a => AW g MX7_copyFrom 143 [some (.ref (b)), some (.ref (c)), some (.int (a.1))] [] (sb (sb h0 c T) b a.2) Q) (Post := fun r => Q (.ok none) (sb (sb h0 c T) b r)) (fun a r hs hc he  => ?_) hs hQ 
  unfold sX7_copyFrom_l143_step at hs
  refine AW.iload_n (z := 2) (am_r 73 rfl) rfl rfl ?_
  refine AW.aload_n (z := 0) (am_r 74 rfl) rfl rfl ?_
  refine AW.getO (am_r 75 rfl) rfl klX7 (k := 9) (by omega) q243 sb_st rfl ?_
  refine AW.icmp_ge (tg := 170) (am_r 76 rfl) rfl rfl (fun hc19 => ?_) (fun hc19 => ?_)
  · replace hs := (if_pos hc19).symm.trans hs
    refine oinr_e hs (fun z20 hz21 hs => ?_)
    have hQ := he _ hz21
    have hr := (Option.some.inj hs).symm
    subst hr
    exact AW.vret (am_r 86 rfl) rfl hQ
  · replace hs := (if_neg hc19).symm.trans hs
    refine AW.aload_n (z := 0) (am_r 77 rfl) rfl rfl ?_
    refine AW.iload_n (z := 2) (am_r 78 rfl) rfl rfl ?_
    refine AW.callV (N := MX7_itemAt) (As := [.int (a.1)]) (S := []) (L0 := [some (.ref (b)), some (.int (a.1))]) (b := b) (am_r 79 rfl) rfl ovX7_itemAt q620 rfl rfl sb_st rfl rfl rfl rfl (dX7_itemAt hA  rfl (fun hok23 => (cQ_r ?_)))
    refine AW.aload_n (z := 1) (am_r 80 rfl) rfl rfl ?_
    refine AW.iload_n (z := 2) (am_r 81 rfl) rfl rfl ?_
    refine AW.callV (N := MX7_itemAt) (As := [.int (a.1)]) (S := [(.ref (b + 20 + 2 * (sX7_itemAt a.2 a.1)))]) (L0 := [some (.ref (c)), some (.int (a.1))]) (b := c) (am_r 82 rfl) rfl ovX7_itemAt q620 rfl rfl (sbo_st hd) rfl rfl rfl rfl (AW.heq (sb_comm hd) (dX7_itemAt hA2  rfl (fun hok25 => (cQ_r (AW.heq (sb_comm hd).symm ?_)))))
    refine AW.callV (N := MX2_copyFrom) (As := [.ref (c + 20 + 2 * (sX7_itemAt T a.1))]) (S := []) (L0 := [some (.ref (b + 20 + 2 * (sX7_itemAt a.2 a.1))), some (.ref (c + 20 + 2 * (sX7_itemAt T a.1)))]) (b := b + 20 + 2 * (sX7_itemAt a.2 a.1)) (am_r 83 rfl) rfl ovX2_copyFrom q654 rfl rfl (sb_it hok23) rfl rfl rfl rfl (dX2_copyFrom hA hA2 hd hok23 hok25 rfl (cQ_v ?_))
    refine olet_e (P := fun (y : Mem) => AW g MX7_copyFrom 164 [some (.ref (b)), some (.ref (c)), some (.int (a.1))] [] (sb (sb h0 c T) b y) Q) hs (fun S28 hs => ?_)
    refine AW.iinc (v := a.1 + (1 : Int32)) (L' := [some (.ref (b)), some (.ref (c)), some (.int (a.1 + (1 : Int32)))]) (am_r 84 rfl) rfl (Nat.le_of_ble_eq_true rfl) rfl (congrArg (fun z => a.1 + z) ci_1) rfl ?_
    refine AW.goto (tg := 143) (am_r 85 rfl) rfl ?_
    have hr := (Option.some.inj hs).symm
    exact hc (a.1 + (1 : Int32), S28) hr 
noncomputable def sX7_copyFrom_l114_step  (T : Mem) (a : (Int32 × Mem)) : Option ((Int32 × Mem) ⊕ Mem) :=
  if (gi a.2 0 8 0) ≤ a.1 then
    oinr (
    sX7_copyFrom_l143  T ((0 : Int32), a.2))
  else
    olet (sX5_copyFrom a.2 T (sX7_recipeAt a.2 a.1) (sX7_recipeAt T a.1)) fun S35 =>
    some (.inl (a.1 + (1 : Int32), S35))
noncomputable def sX7_copyFrom_l114  (T : Mem) (a : (Int32 × Mem)) : Option Mem := itw (sX7_copyFrom_l114_step  T) a
set_option maxRecDepth 100000 in
theorem dX7_copyFrom_l114 {g : AG} {h0 : AH} {b c : Nat} {Q : AO → AH → Prop} {T : Mem} (hA : gB g ≤ b) (hA2 : gB g ≤ c) (hd : b + 58 ≤ c ∨ c + 58 ≤ b)  {a : (Int32 × Mem)}  {r : Mem} (hs : sX7_copyFrom_l114  T a = some r) (hQ : Q (.ok none) (sb (sb h0 c T) b r)) : AW g MX7_copyFrom 114 [some (.ref (b)), some (.ref (c)), some (.int (a.1))] [] (sb (sb h0 c T) b a.2) Q := by
  refine itw_e (P := fun a => AW g MX7_copyFrom 114 [some (.ref (b)), some (.ref (c)), some (.int (a.1))] [] (sb (sb h0 c T) b a.2) Q) (Post := fun r => Q (.ok none) (sb (sb h0 c T) b r)) (fun a r hs hc he  => ?_) hs hQ 
  unfold sX7_copyFrom_l114_step at hs
  refine AW.iload_n (z := 2) (am_r 58 rfl) rfl rfl ?_
  refine AW.aload_n (z := 0) (am_r 59 rfl) rfl rfl ?_
  refine AW.getO (am_r 60 rfl) rfl klX7 (k := 8) (by omega) q239 sb_st rfl ?_
  refine AW.icmp_ge (tg := 141) (am_r 61 rfl) rfl rfl (fun hc16 => ?_) (fun hc16 => ?_)
  · replace hs := (if_pos hc16).symm.trans hs
    refine oinr_e hs (fun z17 hz18 hs => ?_)
    have hQ := he _ hz18
    refine AW.iconst (am_r 71 rfl) rfl ci_0 ?_
    refine AW.istore_n (L' := [some (.ref (b)), some (.ref (c)), some (.int ((0 : Int32)))]) (z := 2) (am_r 72 rfl) rfl (Nat.le_of_ble_eq_true rfl) rfl ?_
    exact dX7_copyFrom_l143 hA hA2 hd   hs hQ
  · replace hs := (if_neg hc16).symm.trans hs
    refine AW.aload_n (z := 0) (am_r 62 rfl) rfl rfl ?_
    refine AW.iload_n (z := 2) (am_r 63 rfl) rfl rfl ?_
    refine AW.callV (N := MX7_recipeAt) (As := [.int (a.1)]) (S := []) (L0 := [some (.ref (b)), some (.int (a.1))]) (b := b) (am_r 64 rfl) rfl ovX7_recipeAt q608 rfl rfl sb_st rfl rfl rfl rfl (dX7_recipeAt hA  rfl (fun hok30 => (cQ_r ?_)))
    refine AW.aload_n (z := 1) (am_r 65 rfl) rfl rfl ?_
    refine AW.iload_n (z := 2) (am_r 66 rfl) rfl rfl ?_
    refine AW.callV (N := MX7_recipeAt) (As := [.int (a.1)]) (S := [(.ref (b + 9 + (sX7_recipeAt a.2 a.1)))]) (L0 := [some (.ref (c)), some (.int (a.1))]) (b := c) (am_r 67 rfl) rfl ovX7_recipeAt q608 rfl rfl (sbo_st hd) rfl rfl rfl rfl (AW.heq (sb_comm hd) (dX7_recipeAt hA2  rfl (fun hok32 => (cQ_r (AW.heq (sb_comm hd).symm ?_)))))
    refine AW.callV (N := MX5_copyFrom) (As := [.ref (c + 9 + (sX7_recipeAt T a.1))]) (S := []) (L0 := [some (.ref (b + 9 + (sX7_recipeAt a.2 a.1))), some (.ref (c + 9 + (sX7_recipeAt T a.1)))]) (b := b + 9 + (sX7_recipeAt a.2 a.1)) (am_r 68 rfl) rfl ovX5_copyFrom q650 rfl rfl (sb_re hok30) rfl rfl rfl rfl (dX5_copyFrom hA hA2 hd hok30 hok32 rfl (cQ_v ?_))
    refine olet_e (P := fun (y : Mem) => AW g MX7_copyFrom 135 [some (.ref (b)), some (.ref (c)), some (.int (a.1))] [] (sb (sb h0 c T) b y) Q) hs (fun S35 hs => ?_)
    refine AW.iinc (v := a.1 + (1 : Int32)) (L' := [some (.ref (b)), some (.ref (c)), some (.int (a.1 + (1 : Int32)))]) (am_r 69 rfl) rfl (Nat.le_of_ble_eq_true rfl) rfl (congrArg (fun z => a.1 + z) ci_1) rfl ?_
    refine AW.goto (tg := 114) (am_r 70 rfl) rfl ?_
    have hr := (Option.some.inj hs).symm
    exact hc (a.1 + (1 : Int32), S35) hr 
noncomputable def sX7_copyFrom_l85_step  (T : Mem) (a : (Int32 × Mem)) : Option ((Int32 × Mem) ⊕ Mem) :=
  if (gi a.2 0 7 0) ≤ a.1 then
    oinr (
    sX7_copyFrom_l114  T ((0 : Int32), a.2))
  else
    olet (sX3_copyFrom a.2 T (sX7_pressAt a.2 a.1) (sX7_pressAt T a.1)) fun S42 =>
    some (.inl (a.1 + (1 : Int32), S42))
noncomputable def sX7_copyFrom_l85  (T : Mem) (a : (Int32 × Mem)) : Option Mem := itw (sX7_copyFrom_l85_step  T) a
set_option maxRecDepth 100000 in
theorem dX7_copyFrom_l85 {g : AG} {h0 : AH} {b c : Nat} {Q : AO → AH → Prop} {T : Mem} (hA : gB g ≤ b) (hA2 : gB g ≤ c) (hd : b + 58 ≤ c ∨ c + 58 ≤ b)  {a : (Int32 × Mem)}  {r : Mem} (hs : sX7_copyFrom_l85  T a = some r) (hQ : Q (.ok none) (sb (sb h0 c T) b r)) : AW g MX7_copyFrom 85 [some (.ref (b)), some (.ref (c)), some (.int (a.1))] [] (sb (sb h0 c T) b a.2) Q := by
  refine itw_e (P := fun a => AW g MX7_copyFrom 85 [some (.ref (b)), some (.ref (c)), some (.int (a.1))] [] (sb (sb h0 c T) b a.2) Q) (Post := fun r => Q (.ok none) (sb (sb h0 c T) b r)) (fun a r hs hc he  => ?_) hs hQ 
  unfold sX7_copyFrom_l85_step at hs
  refine AW.iload_n (z := 2) (am_r 43 rfl) rfl rfl ?_
  refine AW.aload_n (z := 0) (am_r 44 rfl) rfl rfl ?_
  refine AW.getO (am_r 45 rfl) rfl klX7 (k := 7) (by omega) q236 sb_st rfl ?_
  refine AW.icmp_ge (tg := 112) (am_r 46 rfl) rfl rfl (fun hc13 => ?_) (fun hc13 => ?_)
  · replace hs := (if_pos hc13).symm.trans hs
    refine oinr_e hs (fun z14 hz15 hs => ?_)
    have hQ := he _ hz15
    refine AW.iconst (am_r 56 rfl) rfl ci_0 ?_
    refine AW.istore_n (L' := [some (.ref (b)), some (.ref (c)), some (.int ((0 : Int32)))]) (z := 2) (am_r 57 rfl) rfl (Nat.le_of_ble_eq_true rfl) rfl ?_
    exact dX7_copyFrom_l114 hA hA2 hd   hs hQ
  · replace hs := (if_neg hc13).symm.trans hs
    refine AW.aload_n (z := 0) (am_r 47 rfl) rfl rfl ?_
    refine AW.iload_n (z := 2) (am_r 48 rfl) rfl rfl ?_
    refine AW.callV (N := MX7_pressAt) (As := [.int (a.1)]) (S := []) (L0 := [some (.ref (b)), some (.int (a.1))]) (b := b) (am_r 49 rfl) rfl ovX7_pressAt q596 rfl rfl sb_st rfl rfl rfl rfl (dX7_pressAt hA  rfl (fun hok37 => (cQ_r ?_)))
    refine AW.aload_n (z := 1) (am_r 50 rfl) rfl rfl ?_
    refine AW.iload_n (z := 2) (am_r 51 rfl) rfl rfl ?_
    refine AW.callV (N := MX7_pressAt) (As := [.int (a.1)]) (S := [(.ref (b + 2 + (sX7_pressAt a.2 a.1)))]) (L0 := [some (.ref (c)), some (.int (a.1))]) (b := c) (am_r 52 rfl) rfl ovX7_pressAt q596 rfl rfl (sbo_st hd) rfl rfl rfl rfl (AW.heq (sb_comm hd) (dX7_pressAt hA2  rfl (fun hok39 => (cQ_r (AW.heq (sb_comm hd).symm ?_)))))
    refine AW.callV (N := MX3_copyFrom) (As := [.ref (c + 2 + (sX7_pressAt T a.1))]) (S := []) (L0 := [some (.ref (b + 2 + (sX7_pressAt a.2 a.1))), some (.ref (c + 2 + (sX7_pressAt T a.1)))]) (b := b + 2 + (sX7_pressAt a.2 a.1)) (am_r 53 rfl) rfl ovX3_copyFrom q646 rfl rfl (sb_pr hok37) rfl rfl rfl rfl (dX3_copyFrom hA hA2 hd hok37 hok39 rfl (cQ_v ?_))
    refine olet_e (P := fun (y : Mem) => AW g MX7_copyFrom 106 [some (.ref (b)), some (.ref (c)), some (.int (a.1))] [] (sb (sb h0 c T) b y) Q) hs (fun S42 hs => ?_)
    refine AW.iinc (v := a.1 + (1 : Int32)) (L' := [some (.ref (b)), some (.ref (c)), some (.int (a.1 + (1 : Int32)))]) (am_r 54 rfl) rfl (Nat.le_of_ble_eq_true rfl) rfl (congrArg (fun z => a.1 + z) ci_1) rfl ?_
    refine AW.goto (tg := 85) (am_r 55 rfl) rfl ?_
    have hr := (Option.some.inj hs).symm
    exact hc (a.1 + (1 : Int32), S42) hr 
noncomputable def sX7_copyFrom (S : Mem) (T : Mem) : Option Mem :=
  olet (si S 0 7 0 (gi T 0 7 0)) fun S1 =>
  olet (si S1 0 8 0 (gi T 0 8 0)) fun S2 =>
  olet (si S2 0 9 0 (gi T 0 9 0)) fun S3 =>
  olet (si S3 0 10 0 (gi T 0 10 0)) fun S4 =>
  olet (si S4 0 11 0 (gi T 0 11 0)) fun S5 =>
  olet (si S5 0 12 0 (gi T 0 12 0)) fun S6 =>
  olet (si S6 0 13 0 (gi T 0 13 0)) fun S7 =>
  olet (si S7 0 14 0 (gi T 0 14 0)) fun S8 =>
  olet (si S8 0 15 0 (gi T 0 15 0)) fun S9 =>
  olet (sX0_copyFrom S9 T) fun S12 =>
  sX7_copyFrom_l85  T ((0 : Int32), S12)
set_option maxRecDepth 100000 in
theorem dX7_copyFrom {g : AG} {h0 : AH} {b c : Nat} {S : Mem} {Q : AO → AH → Prop} {T : Mem} (hA : gB g ≤ b) (hA2 : gB g ≤ c) (hd : b + 58 ≤ c ∨ c + 58 ≤ b)  {r : Mem} (hs : sX7_copyFrom S T = some r) (hQ : Q (.ok none) (sb (sb h0 c T) b r)) : AW g MX7_copyFrom 0 [some (.ref (b)), some (.ref (c)), none] [] (sb (sb h0 c T) b S) Q := by
  unfold sX7_copyFrom at hs
  refine AW.aload_n (z := 0) (am_r 0 rfl) rfl rfl ?_
  refine AW.aload_n (z := 1) (am_r 1 rfl) rfl rfl ?_
  refine AW.getO (am_r 2 rfl) rfl klX7 (k := 7) (by omega) q236 (sbo_st hd) rfl ?_
  refine AW.putO (am_r 3 rfl) rfl klX7 (k := 7) (by omega) q236 (Or.inl rfl) sb_st hA rfl rfl (sbp_st (by omega)) ?_
  refine olet_e (P := fun y => AW g MX7_copyFrom 8 [some (.ref (b)), some (.ref (c)), none] [] (sb (sb h0 c T) b y) Q) hs (fun S1 hs => ?_)
  refine AW.aload_n (z := 0) (am_r 4 rfl) rfl rfl ?_
  refine AW.aload_n (z := 1) (am_r 5 rfl) rfl rfl ?_
  refine AW.getO (am_r 6 rfl) rfl klX7 (k := 8) (by omega) q239 (sbo_st hd) rfl ?_
  refine AW.putO (am_r 7 rfl) rfl klX7 (k := 8) (by omega) q239 (Or.inl rfl) sb_st hA rfl rfl (sbp_st (by omega)) ?_
  refine olet_e (P := fun y => AW g MX7_copyFrom 16 [some (.ref (b)), some (.ref (c)), none] [] (sb (sb h0 c T) b y) Q) hs (fun S2 hs => ?_)
  refine AW.aload_n (z := 0) (am_r 8 rfl) rfl rfl ?_
  refine AW.aload_n (z := 1) (am_r 9 rfl) rfl rfl ?_
  refine AW.getO (am_r 10 rfl) rfl klX7 (k := 9) (by omega) q243 (sbo_st hd) rfl ?_
  refine AW.putO (am_r 11 rfl) rfl klX7 (k := 9) (by omega) q243 (Or.inl rfl) sb_st hA rfl rfl (sbp_st (by omega)) ?_
  refine olet_e (P := fun y => AW g MX7_copyFrom 24 [some (.ref (b)), some (.ref (c)), none] [] (sb (sb h0 c T) b y) Q) hs (fun S3 hs => ?_)
  refine AW.aload_n (z := 0) (am_r 12 rfl) rfl rfl ?_
  refine AW.aload_n (z := 1) (am_r 13 rfl) rfl rfl ?_
  refine AW.getO (am_r 14 rfl) rfl klX7 (k := 10) (by omega) q246 (sbo_st hd) rfl ?_
  refine AW.putO (am_r 15 rfl) rfl klX7 (k := 10) (by omega) q246 (Or.inl rfl) sb_st hA rfl rfl (sbp_st (by omega)) ?_
  refine olet_e (P := fun y => AW g MX7_copyFrom 32 [some (.ref (b)), some (.ref (c)), none] [] (sb (sb h0 c T) b y) Q) hs (fun S4 hs => ?_)
  refine AW.aload_n (z := 0) (am_r 16 rfl) rfl rfl ?_
  refine AW.aload_n (z := 1) (am_r 17 rfl) rfl rfl ?_
  refine AW.getO (am_r 18 rfl) rfl klX7 (k := 11) (by omega) q249 (sbo_st hd) rfl ?_
  refine AW.putO (am_r 19 rfl) rfl klX7 (k := 11) (by omega) q249 (Or.inl rfl) sb_st hA rfl rfl (sbp_st (by omega)) ?_
  refine olet_e (P := fun y => AW g MX7_copyFrom 40 [some (.ref (b)), some (.ref (c)), none] [] (sb (sb h0 c T) b y) Q) hs (fun S5 hs => ?_)
  refine AW.aload_n (z := 0) (am_r 20 rfl) rfl rfl ?_
  refine AW.aload_n (z := 1) (am_r 21 rfl) rfl rfl ?_
  refine AW.getO (am_r 22 rfl) rfl klX7 (k := 12) (by omega) q252 (sbo_st hd) rfl ?_
  refine AW.putO (am_r 23 rfl) rfl klX7 (k := 12) (by omega) q252 (Or.inl rfl) sb_st hA rfl rfl (sbp_st (by omega)) ?_
  refine olet_e (P := fun y => AW g MX7_copyFrom 48 [some (.ref (b)), some (.ref (c)), none] [] (sb (sb h0 c T) b y) Q) hs (fun S6 hs => ?_)
  refine AW.aload_n (z := 0) (am_r 24 rfl) rfl rfl ?_
  refine AW.aload_n (z := 1) (am_r 25 rfl) rfl rfl ?_
  refine AW.getO (am_r 26 rfl) rfl klX7 (k := 13) (by omega) q254 (sbo_st hd) rfl ?_
  refine AW.putO (am_r 27 rfl) rfl klX7 (k := 13) (by omega) q254 (Or.inl rfl) sb_st hA rfl rfl (sbp_st (by omega)) ?_
  refine olet_e (P := fun y => AW g MX7_copyFrom 56 [some (.ref (b)), some (.ref (c)), none] [] (sb (sb h0 c T) b y) Q) hs (fun S7 hs => ?_)
  refine AW.aload_n (z := 0) (am_r 28 rfl) rfl rfl ?_
  refine AW.aload_n (z := 1) (am_r 29 rfl) rfl rfl ?_
  refine AW.getO (am_r 30 rfl) rfl klX7 (k := 14) (by omega) q256 (sbo_st hd) rfl ?_
  refine AW.putO (am_r 31 rfl) rfl klX7 (k := 14) (by omega) q256 (Or.inl rfl) sb_st hA rfl rfl (sbp_st (by omega)) ?_
  refine olet_e (P := fun y => AW g MX7_copyFrom 64 [some (.ref (b)), some (.ref (c)), none] [] (sb (sb h0 c T) b y) Q) hs (fun S8 hs => ?_)
  refine AW.aload_n (z := 0) (am_r 32 rfl) rfl rfl ?_
  refine AW.aload_n (z := 1) (am_r 33 rfl) rfl rfl ?_
  refine AW.getO (am_r 34 rfl) rfl klX7 (k := 15) (by omega) q258 (sbo_st hd) rfl ?_
  refine AW.putO (am_r 35 rfl) rfl klX7 (k := 15) (by omega) q258 (Or.inl rfl) sb_st hA rfl rfl (sbp_st (by omega)) ?_
  refine olet_e (P := fun y => AW g MX7_copyFrom 72 [some (.ref (b)), some (.ref (c)), none] [] (sb (sb h0 c T) b y) Q) hs (fun S9 hs => ?_)
  refine AW.aload_n (z := 0) (am_r 36 rfl) rfl rfl ?_
  refine AW.getO (am_r 37 rfl) rfl klX7 (k := 6) (by omega) q234 sb_st rfl ?_
  refine AW.aload_n (z := 1) (am_r 38 rfl) rfl rfl ?_
  refine AW.getO (am_r 39 rfl) rfl klX7 (k := 6) (by omega) q234 (sbo_st hd) rfl ?_
  refine AW.callV (N := MX0_copyFrom) (As := [.ref (c + 56)]) (S := []) (L0 := [some (.ref (b + 56)), some (.ref (c + 56))]) (b := b + 56) (am_r 40 rfl) rfl ovX0_copyFrom q636 rfl rfl sb_bo rfl rfl rfl rfl (dX0_copyFrom hA hA2 hd  rfl (cQ_v ?_))
  refine olet_e (P := fun (y : Mem) => AW g MX7_copyFrom 83 [some (.ref (b)), some (.ref (c)), none] [] (sb (sb h0 c T) b y) Q) hs (fun S12 hs => ?_)
  refine AW.iconst (am_r 41 rfl) rfl ci_0 ?_
  refine AW.istore_n (L' := [some (.ref (b)), some (.ref (c)), some (.int ((0 : Int32)))]) (z := 2) (am_r 42 rfl) rfl (Nat.le_of_ble_eq_true rfl) rfl ?_
  exact dX7_copyFrom_l85 hA hA2 hd   hs hQ
