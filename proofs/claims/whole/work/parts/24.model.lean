/-! ===== the Model's constructor ===== -/
def M0 : Mem := (fun c j _ => if c = 100 ∧ j = 15 then -1 else 0, fun _ _ => 0)
theorem le10 {P : Nat → Prop} (h0 : P 0) (h1 : P 1) (h2 : P 2) (h3 : P 3) (h4 : P 4) (h5 : P 5) (h6 : P 6) (h7 : P 7) (h8 : P 8) (h9 : P 9) : ∀ j, j < 10 → P j := fun j hj => by
  rcases m_ten hj with rfl | rfl | rfl | rfl | rfl | rfl | rfl | rfl | rfl | rfl <;> assumption
theorem le24 {P : Nat → Prop} (h0 : P 0) (h1 : P 1) (h2 : P 2) (h3 : P 3) (h4 : P 4) (h5 : P 5) (h6 : P 6) (h7 : P 7) (h8 : P 8) (h9 : P 9) (h10 : P 10) (h11 : P 11) (h12 : P 12) (h13 : P 13) (h14 : P 14) (h15 : P 15) (h16 : P 16) (h17 : P 17) (h18 : P 18) (h19 : P 19) (h20 : P 20) (h21 : P 21) (h22 : P 22) (h23 : P 23) : ∀ j, j < 24 → P j := fun j hj => match j, hj with
  | 0, _ => h0
  | 1, _ => h1
  | 2, _ => h2
  | 3, _ => h3
  | 4, _ => h4
  | 5, _ => h5
  | 6, _ => h6
  | 7, _ => h7
  | 8, _ => h8
  | 9, _ => h9
  | 10, _ => h10
  | 11, _ => h11
  | 12, _ => h12
  | 13, _ => h13
  | 14, _ => h14
  | 15, _ => h15
  | 16, _ => h16
  | 17, _ => h17
  | 18, _ => h18
  | 19, _ => h19
  | 20, _ => h20
  | 21, _ => h21
  | 22, _ => h22
  | 23, _ => h23
  | _ + 24, h => absurd h (by omega)
set_option maxRecDepth 100000 in
theorem nX10_init {g : AG} {h0 : AH} {n c s : Nat} {Q : AO → AH → Prop} {r : Mem} (hc : 9 ≤ c) (hs : 16137 ≤ s) (hA : gB g ≤ n) (hs0 : sX10_clearStudio M0 (0 : Int32) = some r) (hQ : Q (.ok none) (mb (h0.1, n + 10, c - 9, s - 16137) n r)) : AW g MX10_init 0 [some (.ref n)] [] (gro h0 n 1 c s (fun _ => ob 10 24 fdX10)) Q := by
  refine AW.aload_n (z := 0) (am_r 0 rfl) rfl rfl ?_
  refine AW.objInit (am_r 1 rfl) rfl q1498 q32 q33 rfl ?_
  refine AW.aload_n (z := 0) (am_r 2 rfl) rfl rfl ?_
  refine AW.sipush (v := (13412 : Int32)) (am_r 3 rfl) rfl (by decide) ?_
  refine AW.newaG (t := 0) (N := 13412) (ty := .int) (a0 := (13412, .inl (fun _ => 0))) (am_r 4 rfl) rfl q210 rfl rfl (fun _ => rfl) (by decide) (by decide) (by decide) (by omega) (by omega) ?_
  refine AW.putG (j := 0) (am_r 5 rfl) rfl klX10 (k := 0) (by omega) q1503 (Or.inr ⟨rfl, rfl⟩) (by omega) rfl hA rfl rfl ?_
  refine AW.aload_n (z := 0) (am_r 6 rfl) rfl rfl ?_
  refine AW.sipush (v := (224 : Int32)) (am_r 7 rfl) rfl (by decide) ?_
  refine AW.newaG (t := 1) (N := 224) (ty := .long) (a0 := (224, .inr (.inl (fun _ => 0)))) (am_r 8 rfl) rfl q391 rfl rfl (fun _ => rfl) (by decide) (by decide) (by decide) (by omega) (by omega) ?_
  refine AW.putG (j := 0) (am_r 9 rfl) rfl klX10 (k := 1) (by omega) q1504 (Or.inr ⟨rfl, rfl⟩) (by omega) rfl hA rfl rfl ?_
  refine AW.aload_n (z := 0) (am_r 10 rfl) rfl rfl ?_
  refine AW.iconst (am_r 11 rfl) rfl ci_2 ?_
  refine AW.newaG (t := 2) (N := 2) (ty := .boolean) (a0 := (2, .inl (fun _ => 0))) (am_r 12 rfl) rfl q348 rfl rfl (fun _ => rfl) (by decide) (by decide) (by decide) (by omega) (by omega) ?_
  refine AW.putG (j := 0) (am_r 13 rfl) rfl klX10 (k := 2) (by omega) q1505 (Or.inr ⟨rfl, rfl⟩) (by omega) rfl hA rfl rfl ?_
  refine AW.aload_n (z := 0) (am_r 14 rfl) rfl rfl ?_
  refine AW.sipush (v := (258 : Int32)) (am_r 15 rfl) rfl (by decide) ?_
  refine AW.newaG (t := 0) (N := 258) (ty := .int) (a0 := (258, .inl (fun _ => 0))) (am_r 16 rfl) rfl q210 rfl rfl (fun _ => rfl) (by decide) (by decide) (by decide) (by omega) (by omega) ?_
  refine AW.putG (j := 0) (am_r 17 rfl) rfl klX10 (k := 5) (by omega) q1508 (Or.inr ⟨rfl, rfl⟩) (by omega) rfl hA rfl rfl ?_
  refine AW.aload_n (z := 0) (am_r 18 rfl) rfl rfl ?_
  refine AW.bipush (v := (16 : Int32)) (am_r 19 rfl) rfl (by decide) ?_
  refine AW.newaG (t := 2) (N := 16) (ty := .boolean) (a0 := (16, .inl (fun _ => 0))) (am_r 20 rfl) rfl q348 rfl rfl (fun _ => rfl) (by decide) (by decide) (by decide) (by omega) (by omega) ?_
  refine AW.putG (j := 0) (am_r 21 rfl) rfl klX10 (k := 7) (by omega) q1510 (Or.inr ⟨rfl, rfl⟩) (by omega) rfl hA rfl rfl ?_
  refine AW.aload_n (z := 0) (am_r 22 rfl) rfl rfl ?_
  refine AW.sipush (v := (1001 : Int32)) (am_r 23 rfl) rfl (by decide) ?_
  refine AW.newaG (t := 1) (N := 1001) (ty := .long) (a0 := (1001, .inr (.inl (fun _ => 0)))) (am_r 24 rfl) rfl q391 rfl rfl (fun _ => rfl) (by decide) (by decide) (by decide) (by omega) (by omega) ?_
  refine AW.putG (j := 0) (am_r 25 rfl) rfl klX10 (k := 8) (by omega) q1511 (Or.inr ⟨rfl, rfl⟩) (by omega) rfl hA rfl rfl ?_
  refine AW.aload_n (z := 0) (am_r 26 rfl) rfl rfl ?_
  refine AW.bipush (v := (24 : Int32)) (am_r 27 rfl) rfl (by decide) ?_
  refine AW.newaG (t := 0) (N := 24) (ty := .int) (a0 := (24, .inl (fun _ => 0))) (am_r 28 rfl) rfl q210 rfl rfl (fun _ => rfl) (by decide) (by decide) (by decide) (by omega) (by omega) ?_
  refine AW.putG (j := 0) (am_r 29 rfl) rfl klX10 (k := 9) (by omega) q1512 (Or.inr ⟨rfl, rfl⟩) (by omega) rfl hA rfl rfl ?_
  refine AW.aload_n (z := 0) (am_r 30 rfl) rfl rfl ?_
  refine AW.sipush (v := (1000 : Int32)) (am_r 31 rfl) rfl (by decide) ?_
  refine AW.newaG (t := 3) (N := 1000) (ty := .byte) (a0 := (1000, .inl (fun _ => 0))) (am_r 32 rfl) rfl q349 rfl rfl (fun _ => rfl) (by decide) (by decide) (by decide) (by omega) (by omega) ?_
  refine AW.putG (j := 0) (am_r 33 rfl) rfl klX10 (k := 11) (by omega) q1514 (Or.inr ⟨rfl, rfl⟩) (by omega) rfl hA rfl rfl ?_
  refine AW.aload_n (z := 0) (am_r 34 rfl) rfl rfl ?_
  refine AW.iconst (am_r 35 rfl) rfl ci_m1 ?_
  refine AW.putG (j := 0) (am_r 36 rfl) rfl klX10 (k := 15) (by omega) q1518 (Or.inr ⟨rfl, rfl⟩) (by omega) rfl hA rfl rfl ?_
  refine AW.aload_n (z := 0) (am_r 37 rfl) rfl rfl ?_
  refine AW.sipush (v := (200 : Int32)) (am_r 38 rfl) rfl (by decide) ?_
  refine AW.newaG (t := 0) (N := 200) (ty := .int) (a0 := (200, .inl (fun _ => 0))) (am_r 39 rfl) rfl q210 rfl rfl (fun _ => rfl) (by decide) (by decide) (by decide) (by omega) (by omega) ?_
  refine AW.putG (j := 0) (am_r 40 rfl) rfl klX10 (k := 22) (by omega) q1525 (Or.inr ⟨rfl, rfl⟩) (by omega) rfl hA rfl rfl ?_
  refine AW.heq (gro_eq (k' := 10) (c' := c - 9) (s' := s - 16137) (f' := mcell n M0) rfl (by omega) (by omega) (le10 (ob_cgN (le24 rfl rfl rfl rfl rfl rfl rfl rfl rfl rfl rfl rfl rfl rfl rfl rfl rfl rfl rfl rfl rfl rfl rfl rfl)) rfl rfl rfl rfl rfl rfl rfl rfl rfl)) ?_
  refine AW.aload_n (z := 0) (am_r 41 rfl) rfl rfl ?_
  refine AW.iconst (am_r 42 rfl) rfl ci_0 ?_
  refine AW.callV (N := MX10_clearStudio) (As := [.int (0 : Int32)]) (S := []) (b := n) (am_r 43 rfl) rfl ovX10_clearStudio q1499 rfl rfl (mb_ob (h := (h0.1, n + 10, c - 9, s - 16137)) (S := M0)) rfl rfl rfl rfl ?_
  refine AW.heq (h' := mb (h0.1, n + 10, c - 9, s - 16137) n M0) rfl ?_
  refine dX10_clearStudio hA hs0 (cQ_v ?_)
  exact AW.vret (am_r 44 rfl) rfl hQ
