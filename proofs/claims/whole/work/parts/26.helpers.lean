/-! ===== THE LAW'S HELPERS (laid by a program) ===== -/
set_option maxRecDepth 100000 in
theorem hL_press {g : AG} {h0 : AH} {B : Nat} {S : XT} {T : Mem} {o : Int64} {d : UInt64} {Q : AO → AH → Prop} {p1 p2 : Int32} (hB : gB g ≤ B) (hst : Sta g h0) {r : Except Nat Int64 × XT} (hs : uP (sX9_press S B p1 p2) S = some r) (hl : lrw B r.2.2.2.1) (hok : ∀ v, r.1 = .ok v → Q (.ok (some (.int 0))) (LH h0 B r.2 T v d)) (hex : ∀ e, r.1 = .error e → ∃ c, co1 e = some c ∧ ∀ z, r.2.1.1 ≤ z → z ≤ r.2.1.1 + 1 → Q (.ok (some (.int c))) (LH h0 B (bump r.2 z) T o d)) : AW g ML_press 0 [some (.ref B), some (.int p1), some (.int p2), some (.ref (B + 139)), none] [] (LH h0 B S T o d) Q := by
  refine AW.aload_n (z := 3) (am_r 0 rfl) rfl rfl ?_
  refine AW.iconst (am_r 1 rfl) rfl ci_0 ?_
  refine AW.aload_n (z := 0) (am_r 2 rfl) rfl rfl ?_
  refine AW.iload_n (z := 1) (am_r 3 rfl) rfl rfl ?_
  refine AW.iload_n (z := 2) (am_r 4 rfl) rfl rfl ?_
  refine AW.callV (N := MX9_press) (As := [.int p1, .int p2]) (S := [.int (0 : Int32), .ref (B + 139)]) (b := B) (am_r 5 rfl) rfl ovX9_press q1064 rfl rfl LH_x rfl rfl rfl rfl ?_
  unfold uP at hs
  cases e1 : sX9_press S B p1 p2 with
  | none => rw [e1] at hs; cases hs
  | some r1 =>
    rw [e1] at hs
    refine dX9_press hB (sta_lb hst hB) e1 ⟨fun v h1 => ?_, fun e h1 z z1 z2 => ?_⟩
    · subst h1
      cases hs
      have hq := hok _ rfl
      have hl2 := hl
      refine cQ_r ?_
      show AW g ML_press 8 _ _ (LH h0 B S T o d) Q
      refine AW.i2l (am_r 6 rfl) rfl ?_
      refine AW.last (am_r 7 rfl) rfl (LH_o hl2) (Nat.le_trans hB (by omega)) (vp_of_inb rfl) ?_
      refine AW.heq (LH_po hl2) ?_
      refine AW.goto (tg := 17) (am_r 8 rfl) rfl ?_
      refine AW.iconst (am_r 12 rfl) rfl ci_0 ?_
      exact AW.iret (am_r 13 rfl) rfl hq
    · subst h1
      cases hs
      obtain ⟨c, hc, hq⟩ := hex _ rfl
      have hq := hq z z1 z2
      refine cQ_x ?_
      show AX g ML_press 5 _ _ e (LH h0 B (bump S z) T o d) Q
      unfold co1 at hc
      by_cases h0 : e = 1
      · rw [if_pos h0] at hc
        cases hc
        rw [h0]
        refine AX.catch (E := "java/lang/IndexOutOfBoundsException") [] _ [] rfl (fun _ h => nomatch h) (by decide) (by decide) q1043 (List.mem_of_getElem? (i := 12) rfl) fun q9 => ?_
        refine AW.astore (L' := [some (.ref B), some (.int p1), some (.int p2), some (.ref (B + 139)), some (.ref q9)]) (am_r 9 rfl) rfl (Nat.le_of_ble_eq_true rfl) rfl ?_
        refine AW.iconst (am_r 10 rfl) rfl ci_1 ?_
        exact AW.iret (am_r 11 rfl) rfl hq
      rw [if_neg h0] at hc
      cases hc
set_option maxRecDepth 100000 in
theorem hL_recipe {g : AG} {h0 : AH} {B : Nat} {S : XT} {T : Mem} {o : Int64} {d : UInt64} {Q : AO → AH → Prop} {p1 p2 : Int32} (hB : gB g ≤ B) (hst : Sta g h0) {r : Except Nat Int64 × XT} (hs : uP (sX9_recipe S B p1 p2) S = some r) (hl : lrw B r.2.2.2.1) (hok : ∀ v, r.1 = .ok v → Q (.ok (some (.int 0))) (LH h0 B r.2 T v d)) (hex : ∀ e, r.1 = .error e → ∃ c, co1 e = some c ∧ ∀ z, r.2.1.1 ≤ z → z ≤ r.2.1.1 + 1 → Q (.ok (some (.int c))) (LH h0 B (bump r.2 z) T o d)) : AW g ML_recipe 0 [some (.ref B), some (.int p1), some (.int p2), some (.ref (B + 139)), none] [] (LH h0 B S T o d) Q := by
  refine AW.aload_n (z := 3) (am_r 0 rfl) rfl rfl ?_
  refine AW.iconst (am_r 1 rfl) rfl ci_0 ?_
  refine AW.aload_n (z := 0) (am_r 2 rfl) rfl rfl ?_
  refine AW.iload_n (z := 1) (am_r 3 rfl) rfl rfl ?_
  refine AW.iload_n (z := 2) (am_r 4 rfl) rfl rfl ?_
  refine AW.callV (N := MX9_recipe) (As := [.int p1, .int p2]) (S := [.int (0 : Int32), .ref (B + 139)]) (b := B) (am_r 5 rfl) rfl ovX9_recipe q1076 rfl rfl LH_x rfl rfl rfl rfl ?_
  unfold uP at hs
  cases e1 : sX9_recipe S B p1 p2 with
  | none => rw [e1] at hs; cases hs
  | some r1 =>
    rw [e1] at hs
    refine dX9_recipe hB (sta_lb hst hB) e1 ⟨fun v h1 => ?_, fun e h1 z z1 z2 => ?_⟩
    · subst h1
      cases hs
      have hq := hok _ rfl
      have hl2 := hl
      refine cQ_r ?_
      show AW g ML_recipe 8 _ _ (LH h0 B S T o d) Q
      refine AW.i2l (am_r 6 rfl) rfl ?_
      refine AW.last (am_r 7 rfl) rfl (LH_o hl2) (Nat.le_trans hB (by omega)) (vp_of_inb rfl) ?_
      refine AW.heq (LH_po hl2) ?_
      refine AW.goto (tg := 17) (am_r 8 rfl) rfl ?_
      refine AW.iconst (am_r 12 rfl) rfl ci_0 ?_
      exact AW.iret (am_r 13 rfl) rfl hq
    · subst h1
      cases hs
      obtain ⟨c, hc, hq⟩ := hex _ rfl
      have hq := hq z z1 z2
      refine cQ_x ?_
      show AX g ML_recipe 5 _ _ e (LH h0 B (bump S z) T o d) Q
      unfold co1 at hc
      by_cases h0 : e = 1
      · rw [if_pos h0] at hc
        cases hc
        rw [h0]
        refine AX.catch (E := "java/lang/IndexOutOfBoundsException") [] _ [] rfl (fun _ h => nomatch h) (by decide) (by decide) q1043 (List.mem_of_getElem? (i := 12) rfl) fun q9 => ?_
        refine AW.astore (L' := [some (.ref B), some (.int p1), some (.int p2), some (.ref (B + 139)), some (.ref q9)]) (am_r 9 rfl) rfl (Nat.le_of_ble_eq_true rfl) rfl ?_
        refine AW.iconst (am_r 10 rfl) rfl ci_1 ?_
        exact AW.iret (am_r 11 rfl) rfl hq
      rw [if_neg h0] at hc
      cases hc
set_option maxRecDepth 100000 in
theorem hL_object {g : AG} {h0 : AH} {B : Nat} {S : XT} {T : Mem} {o : Int64} {d : UInt64} {Q : AO → AH → Prop} {p1 p2 : Int32} (hB : gB g ≤ B) (hst : Sta g h0) {r : Except Nat Int64 × XT} (hs : uP (sX9_object S B p1 p2) S = some r) (hl : lrw B r.2.2.2.1) (hok : ∀ v, r.1 = .ok v → Q (.ok (some (.int 0))) (LH h0 B r.2 T v d)) (hex : ∀ e, r.1 = .error e → ∃ c, co1 e = some c ∧ ∀ z, r.2.1.1 ≤ z → z ≤ r.2.1.1 + 1 → Q (.ok (some (.int c))) (LH h0 B (bump r.2 z) T o d)) : AW g ML_object 0 [some (.ref B), some (.int p1), some (.int p2), some (.ref (B + 139)), none] [] (LH h0 B S T o d) Q := by
  refine AW.aload_n (z := 3) (am_r 0 rfl) rfl rfl ?_
  refine AW.iconst (am_r 1 rfl) rfl ci_0 ?_
  refine AW.aload_n (z := 0) (am_r 2 rfl) rfl rfl ?_
  refine AW.iload_n (z := 1) (am_r 3 rfl) rfl rfl ?_
  refine AW.iload_n (z := 2) (am_r 4 rfl) rfl rfl ?_
  refine AW.callV (N := MX9_object) (As := [.int p1, .int p2]) (S := [.int (0 : Int32), .ref (B + 139)]) (b := B) (am_r 5 rfl) rfl ovX9_object q1083 rfl rfl LH_x rfl rfl rfl rfl ?_
  unfold uP at hs
  cases e1 : sX9_object S B p1 p2 with
  | none => rw [e1] at hs; cases hs
  | some r1 =>
    rw [e1] at hs
    refine dX9_object hB (sta_lb hst hB) e1 ⟨fun v h1 => ?_, fun e h1 z z1 z2 => ?_⟩
    · subst h1
      cases hs
      have hq := hok _ rfl
      have hl2 := hl
      refine cQ_r ?_
      show AW g ML_object 8 _ _ (LH h0 B S T o d) Q
      refine AW.i2l (am_r 6 rfl) rfl ?_
      refine AW.last (am_r 7 rfl) rfl (LH_o hl2) (Nat.le_trans hB (by omega)) (vp_of_inb rfl) ?_
      refine AW.heq (LH_po hl2) ?_
      refine AW.goto (tg := 17) (am_r 8 rfl) rfl ?_
      refine AW.iconst (am_r 12 rfl) rfl ci_0 ?_
      exact AW.iret (am_r 13 rfl) rfl hq
    · subst h1
      cases hs
      obtain ⟨c, hc, hq⟩ := hex _ rfl
      have hq := hq z z1 z2
      refine cQ_x ?_
      show AX g ML_object 5 _ _ e (LH h0 B (bump S z) T o d) Q
      unfold co1 at hc
      by_cases h0 : e = 1
      · rw [if_pos h0] at hc
        cases hc
        rw [h0]
        refine AX.catch (E := "java/lang/IndexOutOfBoundsException") [] _ [] rfl (fun _ h => nomatch h) (by decide) (by decide) q1043 (List.mem_of_getElem? (i := 12) rfl) fun q9 => ?_
        refine AW.astore (L' := [some (.ref B), some (.int p1), some (.int p2), some (.ref (B + 139)), some (.ref q9)]) (am_r 9 rfl) rfl (Nat.le_of_ble_eq_true rfl) rfl ?_
        refine AW.iconst (am_r 10 rfl) rfl ci_1 ?_
        exact AW.iret (am_r 11 rfl) rfl hq
      rw [if_neg h0] at hc
      cases hc
set_option maxRecDepth 100000 in
theorem hL_queued {g : AG} {h0 : AH} {B : Nat} {S : XT} {T : Mem} {o : Int64} {d : UInt64} {Q : AO → AH → Prop} {p1 p2 : Int32} (hB : gB g ≤ B) (hst : Sta g h0) {r : Except Nat Int64 × XT} (hs : uP (sX9_queued S B p1 p2) S = some r) (hl : lrw B r.2.2.2.1) (hok : ∀ v, r.1 = .ok v → Q (.ok (some (.int 0))) (LH h0 B r.2 T v d)) (hex : ∀ e, r.1 = .error e → ∃ c, co1 e = some c ∧ ∀ z, r.2.1.1 ≤ z → z ≤ r.2.1.1 + 1 → Q (.ok (some (.int c))) (LH h0 B (bump r.2 z) T o d)) : AW g ML_queued 0 [some (.ref B), some (.int p1), some (.int p2), some (.ref (B + 139)), none] [] (LH h0 B S T o d) Q := by
  refine AW.aload_n (z := 3) (am_r 0 rfl) rfl rfl ?_
  refine AW.iconst (am_r 1 rfl) rfl ci_0 ?_
  refine AW.aload_n (z := 0) (am_r 2 rfl) rfl rfl ?_
  refine AW.iload_n (z := 1) (am_r 3 rfl) rfl rfl ?_
  refine AW.iload_n (z := 2) (am_r 4 rfl) rfl rfl ?_
  refine AW.callV (N := MX9_queued) (As := [.int p1, .int p2]) (S := [.int (0 : Int32), .ref (B + 139)]) (b := B) (am_r 5 rfl) rfl ovX9_queued q1090 rfl rfl LH_x rfl rfl rfl rfl ?_
  unfold uP at hs
  cases e1 : sX9_queued S B p1 p2 with
  | none => rw [e1] at hs; cases hs
  | some r1 =>
    rw [e1] at hs
    refine dX9_queued hB (sta_lb hst hB) e1 ⟨fun v h1 => ?_, fun e h1 z z1 z2 => ?_⟩
    · subst h1
      cases hs
      have hq := hok _ rfl
      have hl2 := hl
      refine cQ_r ?_
      show AW g ML_queued 8 _ _ (LH h0 B S T o d) Q
      refine AW.i2l (am_r 6 rfl) rfl ?_
      refine AW.last (am_r 7 rfl) rfl (LH_o hl2) (Nat.le_trans hB (by omega)) (vp_of_inb rfl) ?_
      refine AW.heq (LH_po hl2) ?_
      refine AW.goto (tg := 17) (am_r 8 rfl) rfl ?_
      refine AW.iconst (am_r 12 rfl) rfl ci_0 ?_
      exact AW.iret (am_r 13 rfl) rfl hq
    · subst h1
      cases hs
      obtain ⟨c, hc, hq⟩ := hex _ rfl
      have hq := hq z z1 z2
      refine cQ_x ?_
      show AX g ML_queued 5 _ _ e (LH h0 B (bump S z) T o d) Q
      unfold co1 at hc
      by_cases h0 : e = 1
      · rw [if_pos h0] at hc
        cases hc
        rw [h0]
        refine AX.catch (E := "java/lang/IndexOutOfBoundsException") [] _ [] rfl (fun _ h => nomatch h) (by decide) (by decide) q1043 (List.mem_of_getElem? (i := 12) rfl) fun q9 => ?_
        refine AW.astore (L' := [some (.ref B), some (.int p1), some (.int p2), some (.ref (B + 139)), some (.ref q9)]) (am_r 9 rfl) rfl (Nat.le_of_ble_eq_true rfl) rfl ?_
        refine AW.iconst (am_r 10 rfl) rfl ci_1 ?_
        exact AW.iret (am_r 11 rfl) rfl hq
      rw [if_neg h0] at hc
      cases hc
set_option maxRecDepth 100000 in
theorem hL_loan {g : AG} {h0 : AH} {B : Nat} {S : XT} {T : Mem} {o : Int64} {d : UInt64} {Q : AO → AH → Prop} {p1 p2 : Int32} (hB : gB g ≤ B) (hst : Sta g h0) {r : Except Nat Int64 × XT} (hs : uP (sX9_loan S B p1 p2) S = some r) (hl : lrw B r.2.2.2.1) (hok : ∀ v, r.1 = .ok v → Q (.ok (some (.int 0))) (LH h0 B r.2 T v d)) (hex : ∀ e, r.1 = .error e → ∃ c, co1 e = some c ∧ ∀ z, r.2.1.1 ≤ z → z ≤ r.2.1.1 + 1 → Q (.ok (some (.int c))) (LH h0 B (bump r.2 z) T o d)) : AW g ML_loan 0 [some (.ref B), some (.int p1), some (.int p2), some (.ref (B + 139)), none] [] (LH h0 B S T o d) Q := by
  refine AW.aload_n (z := 3) (am_r 0 rfl) rfl rfl ?_
  refine AW.iconst (am_r 1 rfl) rfl ci_0 ?_
  refine AW.aload_n (z := 0) (am_r 2 rfl) rfl rfl ?_
  refine AW.iload_n (z := 1) (am_r 3 rfl) rfl rfl ?_
  refine AW.iload_n (z := 2) (am_r 4 rfl) rfl rfl ?_
  refine AW.callV (N := MX9_loan) (As := [.int p1, .int p2]) (S := [.int (0 : Int32), .ref (B + 139)]) (b := B) (am_r 5 rfl) rfl ovX9_loan q1098 rfl rfl LH_x rfl rfl rfl rfl ?_
  unfold uP at hs
  cases e1 : sX9_loan S B p1 p2 with
  | none => rw [e1] at hs; cases hs
  | some r1 =>
    rw [e1] at hs
    refine dX9_loan hB (sta_lb hst hB) e1 ⟨fun v h1 => ?_, fun e h1 z z1 z2 => ?_⟩
    · subst h1
      cases hs
      have hq := hok _ rfl
      have hl2 := hl
      refine cQ_r ?_
      show AW g ML_loan 8 _ _ (LH h0 B S T o d) Q
      refine AW.i2l (am_r 6 rfl) rfl ?_
      refine AW.last (am_r 7 rfl) rfl (LH_o hl2) (Nat.le_trans hB (by omega)) (vp_of_inb rfl) ?_
      refine AW.heq (LH_po hl2) ?_
      refine AW.goto (tg := 17) (am_r 8 rfl) rfl ?_
      refine AW.iconst (am_r 12 rfl) rfl ci_0 ?_
      exact AW.iret (am_r 13 rfl) rfl hq
    · subst h1
      cases hs
      obtain ⟨c, hc, hq⟩ := hex _ rfl
      have hq := hq z z1 z2
      refine cQ_x ?_
      show AX g ML_loan 5 _ _ e (LH h0 B (bump S z) T o d) Q
      unfold co1 at hc
      by_cases h0 : e = 1
      · rw [if_pos h0] at hc
        cases hc
        rw [h0]
        refine AX.catch (E := "java/lang/IndexOutOfBoundsException") [] _ [] rfl (fun _ h => nomatch h) (by decide) (by decide) q1043 (List.mem_of_getElem? (i := 12) rfl) fun q9 => ?_
        refine AW.astore (L' := [some (.ref B), some (.int p1), some (.int p2), some (.ref (B + 139)), some (.ref q9)]) (am_r 9 rfl) rfl (Nat.le_of_ble_eq_true rfl) rfl ?_
        refine AW.iconst (am_r 10 rfl) rfl ci_1 ?_
        exact AW.iret (am_r 11 rfl) rfl hq
      rw [if_neg h0] at hc
      cases hc
set_option maxRecDepth 100000 in
theorem hL_plan {g : AG} {h0 : AH} {B : Nat} {S : XT} {T : Mem} {o : Int64} {d : UInt64} {Q : AO → AH → Prop} {p1 p2 : Int32} (hB : gB g ≤ B) (hst : Sta g h0) {r : Except Nat Int64 × XT} (hs : uW (sX9_plan S B p1 p2) = some r) (hl : lrw B r.2.2.2.1) (hok : ∀ v, r.1 = .ok v → Q (.ok (some (.int 0))) (LH h0 B r.2 T v d)) (hex : ∀ e, r.1 = .error e → ∃ c, co1 e = some c ∧ ∀ z, r.2.1.1 ≤ z → z ≤ r.2.1.1 + 1 → Q (.ok (some (.int c))) (LH h0 B (bump r.2 z) T o d)) : AW g ML_plan 0 [some (.ref B), some (.int p1), some (.int p2), some (.ref (B + 139)), none] [] (LH h0 B S T o d) Q := by
  refine AW.aload_n (z := 3) (am_r 0 rfl) rfl rfl ?_
  refine AW.iconst (am_r 1 rfl) rfl ci_0 ?_
  refine AW.aload_n (z := 0) (am_r 2 rfl) rfl rfl ?_
  refine AW.iload_n (z := 1) (am_r 3 rfl) rfl rfl ?_
  refine AW.iload_n (z := 2) (am_r 4 rfl) rfl rfl ?_
  refine AW.callV (N := MX9_plan) (As := [.int p1, .int p2]) (S := [.int (0 : Int32), .ref (B + 139)]) (b := B) (am_r 5 rfl) rfl ovX9_plan q1105 rfl rfl LH_x rfl rfl rfl rfl ?_
  unfold uW at hs
  cases e1 : sX9_plan S B p1 p2 with
  | none => rw [e1] at hs; cases hs
  | some r1 =>
    rw [e1] at hs
    refine dX9_plan hB (sta_lb hst hB) e1 ⟨fun v h1 => ?_, fun e h1 z z1 z2 => ?_⟩
    · subst h1
      cases hs
      have hq := hok _ rfl
      have hl2 := hl
      refine cQ_r ?_
      show AW g ML_plan 8 _ _ (LH h0 B v.2 T o d) Q
      refine AW.i2l (am_r 6 rfl) rfl ?_
      refine AW.last (am_r 7 rfl) rfl (LH_o hl2) (Nat.le_trans hB (by omega)) (vp_of_inb rfl) ?_
      refine AW.heq (LH_po hl2) ?_
      refine AW.goto (tg := 17) (am_r 8 rfl) rfl ?_
      refine AW.iconst (am_r 12 rfl) rfl ci_0 ?_
      exact AW.iret (am_r 13 rfl) rfl hq
    · subst h1
      cases hs
      obtain ⟨c, hc, hq⟩ := hex _ rfl
      have hq := hq z z1 z2
      refine cQ_x ?_
      show AX g ML_plan 5 _ _ e.1 (LH h0 B (bump e.2 z) T o d) Q
      unfold co1 at hc
      by_cases h0 : e.1 = 1
      · rw [if_pos h0] at hc
        cases hc
        rw [h0]
        refine AX.catch (E := "java/lang/IndexOutOfBoundsException") [] _ [] rfl (fun _ h => nomatch h) (by decide) (by decide) q1043 (List.mem_of_getElem? (i := 12) rfl) fun q9 => ?_
        refine AW.astore (L' := [some (.ref B), some (.int p1), some (.int p2), some (.ref (B + 139)), some (.ref q9)]) (am_r 9 rfl) rfl (Nat.le_of_ble_eq_true rfl) rfl ?_
        refine AW.iconst (am_r 10 rfl) rfl ci_1 ?_
        exact AW.iret (am_r 11 rfl) rfl hq
      rw [if_neg h0] at hc
      cases hc
set_option maxRecDepth 100000 in
theorem hL_cancel {g : AG} {h0 : AH} {B : Nat} {S : XT} {T : Mem} {o : Int64} {d : UInt64} {Q : AO → AH → Prop} {p1 : Int32} (hB : gB g ≤ B) (hst : Sta g h0) {r : Except Nat Int64 × XT} (hs : uW (sX9_cancel S B p1) = some r) (hl : lrw B r.2.2.2.1) (hok : ∀ v, r.1 = .ok v → Q (.ok (some (.int 0))) (LH h0 B r.2 T v d)) (hex : ∀ e, r.1 = .error e → ∃ c, co1 e = some c ∧ ∀ z, r.2.1.1 ≤ z → z ≤ r.2.1.1 + 1 → Q (.ok (some (.int c))) (LH h0 B (bump r.2 z) T o d)) : AW g ML_cancel 0 [some (.ref B), some (.int p1), some (.ref (B + 139)), none] [] (LH h0 B S T o d) Q := by
  refine AW.aload_n (z := 2) (am_r 0 rfl) rfl rfl ?_
  refine AW.iconst (am_r 1 rfl) rfl ci_0 ?_
  refine AW.aload_n (z := 0) (am_r 2 rfl) rfl rfl ?_
  refine AW.iload_n (z := 1) (am_r 3 rfl) rfl rfl ?_
  refine AW.callV (N := MX9_cancel) (As := [.int p1]) (S := [.int (0 : Int32), .ref (B + 139)]) (b := B) (am_r 4 rfl) rfl ovX9_cancel q1109 rfl rfl LH_x rfl rfl rfl rfl ?_
  unfold uW at hs
  cases e1 : sX9_cancel S B p1 with
  | none => rw [e1] at hs; cases hs
  | some r1 =>
    rw [e1] at hs
    refine dX9_cancel hB (sta_lb hst hB) e1 ⟨fun v h1 => ?_, fun e h1 z z1 z2 => ?_⟩
    · subst h1
      cases hs
      have hq := hok _ rfl
      have hl2 := hl
      refine cQ_r ?_
      show AW g ML_cancel 7 _ _ (LH h0 B v.2 T o d) Q
      refine AW.i2l (am_r 5 rfl) rfl ?_
      refine AW.last (am_r 6 rfl) rfl (LH_o hl2) (Nat.le_trans hB (by omega)) (vp_of_inb rfl) ?_
      refine AW.heq (LH_po hl2) ?_
      refine AW.goto (tg := 15) (am_r 7 rfl) rfl ?_
      refine AW.iconst (am_r 11 rfl) rfl ci_0 ?_
      exact AW.iret (am_r 12 rfl) rfl hq
    · subst h1
      cases hs
      obtain ⟨c, hc, hq⟩ := hex _ rfl
      have hq := hq z z1 z2
      refine cQ_x ?_
      show AX g ML_cancel 4 _ _ e.1 (LH h0 B (bump e.2 z) T o d) Q
      unfold co1 at hc
      by_cases h0 : e.1 = 1
      · rw [if_pos h0] at hc
        cases hc
        rw [h0]
        refine AX.catch (E := "java/lang/IndexOutOfBoundsException") [] _ [] rfl (fun _ h => nomatch h) (by decide) (by decide) q1043 (List.mem_of_getElem? (i := 12) rfl) fun q9 => ?_
        refine AW.astore_n (L' := [some (.ref B), some (.int p1), some (.ref (B + 139)), some (.ref q9)]) (z := 3) (am_r 8 rfl) rfl (Nat.le_of_ble_eq_true rfl) rfl ?_
        refine AW.iconst (am_r 9 rfl) rfl ci_1 ?_
        exact AW.iret (am_r 10 rfl) rfl hq
      rw [if_neg h0] at hc
      cases hc
set_option maxRecDepth 100000 in
theorem hL_clearQueue {g : AG} {h0 : AH} {B : Nat} {S : XT} {T : Mem} {o : Int64} {d : UInt64} {Q : AO → AH → Prop} {p1 : Int32} (hB : gB g ≤ B) (hst : Sta g h0) {r : Except Nat Int64 × XT} (hs : uW (sX9_clearQueue S B p1) = some r) (hl : lrw B r.2.2.2.1) (hok : ∀ v, r.1 = .ok v → Q (.ok (some (.int 0))) (LH h0 B r.2 T v d)) (hex : ∀ e, r.1 = .error e → ∃ c, co1 e = some c ∧ ∀ z, r.2.1.1 ≤ z → z ≤ r.2.1.1 + 1 → Q (.ok (some (.int c))) (LH h0 B (bump r.2 z) T o d)) : AW g ML_clearQueue 0 [some (.ref B), some (.int p1), some (.ref (B + 139)), none] [] (LH h0 B S T o d) Q := by
  refine AW.aload_n (z := 2) (am_r 0 rfl) rfl rfl ?_
  refine AW.iconst (am_r 1 rfl) rfl ci_0 ?_
  refine AW.aload_n (z := 0) (am_r 2 rfl) rfl rfl ?_
  refine AW.iload_n (z := 1) (am_r 3 rfl) rfl rfl ?_
  refine AW.callV (N := MX9_clearQueue) (As := [.int p1]) (S := [.int (0 : Int32), .ref (B + 139)]) (b := B) (am_r 4 rfl) rfl ovX9_clearQueue q1113 rfl rfl LH_x rfl rfl rfl rfl ?_
  unfold uW at hs
  cases e1 : sX9_clearQueue S B p1 with
  | none => rw [e1] at hs; cases hs
  | some r1 =>
    rw [e1] at hs
    refine dX9_clearQueue hB (sta_lb hst hB) e1 ⟨fun v h1 => ?_, fun e h1 z z1 z2 => ?_⟩
    · subst h1
      cases hs
      have hq := hok _ rfl
      have hl2 := hl
      refine cQ_r ?_
      show AW g ML_clearQueue 7 _ _ (LH h0 B v.2 T o d) Q
      refine AW.i2l (am_r 5 rfl) rfl ?_
      refine AW.last (am_r 6 rfl) rfl (LH_o hl2) (Nat.le_trans hB (by omega)) (vp_of_inb rfl) ?_
      refine AW.heq (LH_po hl2) ?_
      refine AW.goto (tg := 15) (am_r 7 rfl) rfl ?_
      refine AW.iconst (am_r 11 rfl) rfl ci_0 ?_
      exact AW.iret (am_r 12 rfl) rfl hq
    · subst h1
      cases hs
      obtain ⟨c, hc, hq⟩ := hex _ rfl
      have hq := hq z z1 z2
      refine cQ_x ?_
      show AX g ML_clearQueue 4 _ _ e.1 (LH h0 B (bump e.2 z) T o d) Q
      unfold co1 at hc
      by_cases h0 : e.1 = 1
      · rw [if_pos h0] at hc
        cases hc
        rw [h0]
        refine AX.catch (E := "java/lang/IndexOutOfBoundsException") [] _ [] rfl (fun _ h => nomatch h) (by decide) (by decide) q1043 (List.mem_of_getElem? (i := 12) rfl) fun q9 => ?_
        refine AW.astore_n (L' := [some (.ref B), some (.int p1), some (.ref (B + 139)), some (.ref q9)]) (z := 3) (am_r 8 rfl) rfl (Nat.le_of_ble_eq_true rfl) rfl ?_
        refine AW.iconst (am_r 9 rfl) rfl ci_1 ?_
        exact AW.iret (am_r 10 rfl) rfl hq
      rw [if_neg h0] at hc
      cases hc
set_option maxRecDepth 100000 in
theorem hL_exchange {g : AG} {h0 : AH} {B : Nat} {S : XT} {T : Mem} {o : Int64} {d : UInt64} {Q : AO → AH → Prop} {p1 p2 p3 : Int32} (hB : gB g ≤ B) (hst : Sta g h0) {r : Except Nat Int64 × XT} (hs : uW (sX9_exchange S B p1 p2 p3) = some r) (hl : lrw B r.2.2.2.1) (hok : ∀ v, r.1 = .ok v → Q (.ok (some (.int 0))) (LH h0 B r.2 T v d)) (hex : ∀ e, r.1 = .error e → ∃ c, co1 e = some c ∧ ∀ z, r.2.1.1 ≤ z → z ≤ r.2.1.1 + 1 → Q (.ok (some (.int c))) (LH h0 B (bump r.2 z) T o d)) : AW g ML_exchange 0 [some (.ref B), some (.int p1), some (.int p2), some (.int p3), some (.ref (B + 139)), none] [] (LH h0 B S T o d) Q := by
  refine AW.aload (am_r 0 rfl) rfl rfl ?_
  refine AW.iconst (am_r 1 rfl) rfl ci_0 ?_
  refine AW.aload_n (z := 0) (am_r 2 rfl) rfl rfl ?_
  refine AW.iload_n (z := 1) (am_r 3 rfl) rfl rfl ?_
  refine AW.iload_n (z := 2) (am_r 4 rfl) rfl rfl ?_
  refine AW.iload_n (z := 3) (am_r 5 rfl) rfl rfl ?_
  refine AW.callV (N := MX9_exchange) (As := [.int p1, .int p2, .int p3]) (S := [.int (0 : Int32), .ref (B + 139)]) (b := B) (am_r 6 rfl) rfl ovX9_exchange q1120 rfl rfl LH_x rfl rfl rfl rfl ?_
  unfold uW at hs
  cases e1 : sX9_exchange S B p1 p2 p3 with
  | none => rw [e1] at hs; cases hs
  | some r1 =>
    rw [e1] at hs
    refine dX9_exchange hB (sta_lb hst hB) e1 ⟨fun v h1 => ?_, fun e h1 z z1 z2 => ?_⟩
    · subst h1
      cases hs
      have hq := hok _ rfl
      have hl2 := hl
      refine cQ_r ?_
      show AW g ML_exchange 10 _ _ (LH h0 B v.2 T o d) Q
      refine AW.i2l (am_r 7 rfl) rfl ?_
      refine AW.last (am_r 8 rfl) rfl (LH_o hl2) (Nat.le_trans hB (by omega)) (vp_of_inb rfl) ?_
      refine AW.heq (LH_po hl2) ?_
      refine AW.goto (tg := 19) (am_r 9 rfl) rfl ?_
      refine AW.iconst (am_r 13 rfl) rfl ci_0 ?_
      exact AW.iret (am_r 14 rfl) rfl hq
    · subst h1
      cases hs
      obtain ⟨c, hc, hq⟩ := hex _ rfl
      have hq := hq z z1 z2
      refine cQ_x ?_
      show AX g ML_exchange 7 _ _ e.1 (LH h0 B (bump e.2 z) T o d) Q
      unfold co1 at hc
      by_cases h0 : e.1 = 1
      · rw [if_pos h0] at hc
        cases hc
        rw [h0]
        refine AX.catch (E := "java/lang/IndexOutOfBoundsException") [] _ [] rfl (fun _ h => nomatch h) (by decide) (by decide) q1043 (List.mem_of_getElem? (i := 12) rfl) fun q9 => ?_
        refine AW.astore (L' := [some (.ref B), some (.int p1), some (.int p2), some (.int p3), some (.ref (B + 139)), some (.ref q9)]) (am_r 10 rfl) rfl (Nat.le_of_ble_eq_true rfl) rfl ?_
        refine AW.iconst (am_r 11 rfl) rfl ci_1 ?_
        exact AW.iret (am_r 12 rfl) rfl hq
      rw [if_neg h0] at hc
      cases hc
set_option maxRecDepth 100000 in
theorem hL_approve {g : AG} {h0 : AH} {B : Nat} {S : XT} {T : Mem} {o : Int64} {d : UInt64} {Q : AO → AH → Prop} {p1 : Int32} (hB : gB g ≤ B) (hst : Sta g h0) {r : Except Nat Int64 × XT} (hs : uW (sX9_approve S B p1) = some r) (hl : lrw B r.2.2.2.1) (hok : ∀ v, r.1 = .ok v → Q (.ok (some (.int 0))) (LH h0 B r.2 T v d)) (hex : ∀ e, r.1 = .error e → ∃ c, co1 e = some c ∧ ∀ z, r.2.1.1 ≤ z → z ≤ r.2.1.1 + 1 → Q (.ok (some (.int c))) (LH h0 B (bump r.2 z) T o d)) : AW g ML_approve 0 [some (.ref B), some (.int p1), some (.ref (B + 139)), none] [] (LH h0 B S T o d) Q := by
  refine AW.aload_n (z := 2) (am_r 0 rfl) rfl rfl ?_
  refine AW.iconst (am_r 1 rfl) rfl ci_0 ?_
  refine AW.aload_n (z := 0) (am_r 2 rfl) rfl rfl ?_
  refine AW.iload_n (z := 1) (am_r 3 rfl) rfl rfl ?_
  refine AW.callV (N := MX9_approve) (As := [.int p1]) (S := [.int (0 : Int32), .ref (B + 139)]) (b := B) (am_r 4 rfl) rfl ovX9_approve q1132 rfl rfl LH_x rfl rfl rfl rfl ?_
  unfold uW at hs
  cases e1 : sX9_approve S B p1 with
  | none => rw [e1] at hs; cases hs
  | some r1 =>
    rw [e1] at hs
    refine dX9_approve hB (sta_lb hst hB) e1 ⟨fun v h1 => ?_, fun e h1 z z1 z2 => ?_⟩
    · subst h1
      cases hs
      have hq := hok _ rfl
      have hl2 := hl
      refine cQ_r ?_
      show AW g ML_approve 7 _ _ (LH h0 B v.2 T o d) Q
      refine AW.i2l (am_r 5 rfl) rfl ?_
      refine AW.last (am_r 6 rfl) rfl (LH_o hl2) (Nat.le_trans hB (by omega)) (vp_of_inb rfl) ?_
      refine AW.heq (LH_po hl2) ?_
      refine AW.goto (tg := 15) (am_r 7 rfl) rfl ?_
      refine AW.iconst (am_r 11 rfl) rfl ci_0 ?_
      exact AW.iret (am_r 12 rfl) rfl hq
    · subst h1
      cases hs
      obtain ⟨c, hc, hq⟩ := hex _ rfl
      have hq := hq z z1 z2
      refine cQ_x ?_
      show AX g ML_approve 4 _ _ e.1 (LH h0 B (bump e.2 z) T o d) Q
      unfold co1 at hc
      by_cases h0 : e.1 = 1
      · rw [if_pos h0] at hc
        cases hc
        rw [h0]
        refine AX.catch (E := "java/lang/IndexOutOfBoundsException") [] _ [] rfl (fun _ h => nomatch h) (by decide) (by decide) q1043 (List.mem_of_getElem? (i := 12) rfl) fun q9 => ?_
        refine AW.astore_n (L' := [some (.ref B), some (.int p1), some (.ref (B + 139)), some (.ref q9)]) (z := 3) (am_r 8 rfl) rfl (Nat.le_of_ble_eq_true rfl) rfl ?_
        refine AW.iconst (am_r 9 rfl) rfl ci_1 ?_
        exact AW.iret (am_r 10 rfl) rfl hq
      rw [if_neg h0] at hc
      cases hc
set_option maxRecDepth 100000 in
theorem hL_lend {g : AG} {h0 : AH} {B : Nat} {S : XT} {T : Mem} {o : Int64} {d : UInt64} {Q : AO → AH → Prop} {p1 p2 p3 p4 : Int32} (hB : gB g ≤ B) (hst : Sta g h0) {r : Except Nat Int64 × XT} (hs : uW (sX9_lend S B p1 p2 p3 p4) = some r) (hl : lrw B r.2.2.2.1) (hok : ∀ v, r.1 = .ok v → Q (.ok (some (.int 0))) (LH h0 B r.2 T v d)) (hex : ∀ e, r.1 = .error e → ∃ c, co12 e = some c ∧ ∀ z, r.2.1.1 ≤ z → z ≤ r.2.1.1 + 1 → Q (.ok (some (.int c))) (LH h0 B (bump r.2 z) T o d)) : AW g ML_lend 0 [some (.ref B), some (.int p1), some (.int p2), some (.int p3), some (.int p4), some (.ref (B + 139)), none] [] (LH h0 B S T o d) Q := by
  refine AW.aload (am_r 0 rfl) rfl rfl ?_
  refine AW.iconst (am_r 1 rfl) rfl ci_0 ?_
  refine AW.aload_n (z := 0) (am_r 2 rfl) rfl rfl ?_
  refine AW.iload_n (z := 1) (am_r 3 rfl) rfl rfl ?_
  refine AW.iload_n (z := 2) (am_r 4 rfl) rfl rfl ?_
  refine AW.iload_n (z := 3) (am_r 5 rfl) rfl rfl ?_
  refine AW.iload (am_r 6 rfl) rfl rfl ?_
  refine AW.callV (N := MX9_lend) (As := [.int p1, .int p2, .int p3, .int p4]) (S := [.int (0 : Int32), .ref (B + 139)]) (b := B) (am_r 7 rfl) rfl ovX9_lend q1137 rfl rfl LH_x rfl rfl rfl rfl ?_
  unfold uW at hs
  cases e1 : sX9_lend S B p1 p2 p3 p4 with
  | none => rw [e1] at hs; cases hs
  | some r1 =>
    rw [e1] at hs
    refine dX9_lend hB (sta_lb hst hB) e1 ⟨fun v h1 => ?_, fun e h1 z z1 z2 => ?_⟩
    · subst h1
      cases hs
      have hq := hok _ rfl
      have hl2 := hl
      refine cQ_r ?_
      show AW g ML_lend 12 _ _ (LH h0 B v.2 T o d) Q
      refine AW.i2l (am_r 8 rfl) rfl ?_
      refine AW.last (am_r 9 rfl) rfl (LH_o hl2) (Nat.le_trans hB (by omega)) (vp_of_inb rfl) ?_
      refine AW.heq (LH_po hl2) ?_
      refine AW.goto (tg := 25) (am_r 10 rfl) rfl ?_
      refine AW.iconst (am_r 17 rfl) rfl ci_0 ?_
      exact AW.iret (am_r 18 rfl) rfl hq
    · subst h1
      cases hs
      obtain ⟨c, hc, hq⟩ := hex _ rfl
      have hq := hq z z1 z2
      refine cQ_x ?_
      show AX g ML_lend 9 _ _ e.1 (LH h0 B (bump e.2 z) T o d) Q
      unfold co12 at hc
      by_cases h0 : e.1 = 1
      · rw [if_pos h0] at hc
        cases hc
        rw [h0]
        refine AX.catch (E := "java/lang/IndexOutOfBoundsException") [] _ [_] rfl (fun _ h => nomatch h) (by decide) (by decide) q1043 (List.mem_of_getElem? (i := 12) rfl) fun q9 => ?_
        refine AW.astore (L' := [some (.ref B), some (.int p1), some (.int p2), some (.int p3), some (.int p4), some (.ref (B + 139)), some (.ref q9)]) (am_r 11 rfl) rfl (Nat.le_of_ble_eq_true rfl) rfl ?_
        refine AW.iconst (am_r 12 rfl) rfl ci_1 ?_
        exact AW.iret (am_r 13 rfl) rfl hq
      by_cases h1 : e.1 = 2
      · rw [if_neg h0, if_pos h1] at hc
        cases hc
        rw [h1]
        refine AX.catch2 (E := "java/lang/IllegalArgumentException") (nm := "java/lang/IndexOutOfBoundsException") _ _ rfl (by decide) q1043 (fun _ h => SF.nc2 h) (by decide) (by decide) q1136 (List.mem_of_getElem? (i := 13) rfl) fun q9 => ?_
        refine AW.astore (L' := [some (.ref B), some (.int p1), some (.int p2), some (.int p3), some (.int p4), some (.ref (B + 139)), some (.ref q9)]) (am_r 14 rfl) rfl (Nat.le_of_ble_eq_true rfl) rfl ?_
        refine AW.iconst (am_r 15 rfl) rfl ci_2 ?_
        exact AW.iret (am_r 16 rfl) rfl hq
      rw [if_neg h0, if_neg h1] at hc
      cases hc
set_option maxRecDepth 100000 in
theorem hL_recall {g : AG} {h0 : AH} {B : Nat} {S : XT} {T : Mem} {o : Int64} {d : UInt64} {Q : AO → AH → Prop} {p1 : Int32} (hB : gB g ≤ B) (hst : Sta g h0) {r : Except Nat Int64 × XT} (hs : uW (sX9_recall S B p1) = some r) (hl : lrw B r.2.2.2.1) (hok : ∀ v, r.1 = .ok v → Q (.ok (some (.int 0))) (LH h0 B r.2 T v d)) (hex : ∀ e, r.1 = .error e → ∃ c, co1 e = some c ∧ ∀ z, r.2.1.1 ≤ z → z ≤ r.2.1.1 + 1 → Q (.ok (some (.int c))) (LH h0 B (bump r.2 z) T o d)) : AW g ML_recall 0 [some (.ref B), some (.int p1), some (.ref (B + 139)), none] [] (LH h0 B S T o d) Q := by
  refine AW.aload_n (z := 2) (am_r 0 rfl) rfl rfl ?_
  refine AW.iconst (am_r 1 rfl) rfl ci_0 ?_
  refine AW.aload_n (z := 0) (am_r 2 rfl) rfl rfl ?_
  refine AW.iload_n (z := 1) (am_r 3 rfl) rfl rfl ?_
  refine AW.callV (N := MX9_recall) (As := [.int p1]) (S := [.int (0 : Int32), .ref (B + 139)]) (b := B) (am_r 4 rfl) rfl ovX9_recall q1141 rfl rfl LH_x rfl rfl rfl rfl ?_
  unfold uW at hs
  cases e1 : sX9_recall S B p1 with
  | none => rw [e1] at hs; cases hs
  | some r1 =>
    rw [e1] at hs
    refine dX9_recall hB (sta_lb hst hB) e1 ⟨fun v h1 => ?_, fun e h1 z z1 z2 => ?_⟩
    · subst h1
      cases hs
      have hq := hok _ rfl
      have hl2 := hl
      refine cQ_r ?_
      show AW g ML_recall 7 _ _ (LH h0 B v.2 T o d) Q
      refine AW.i2l (am_r 5 rfl) rfl ?_
      refine AW.last (am_r 6 rfl) rfl (LH_o hl2) (Nat.le_trans hB (by omega)) (vp_of_inb rfl) ?_
      refine AW.heq (LH_po hl2) ?_
      refine AW.goto (tg := 15) (am_r 7 rfl) rfl ?_
      refine AW.iconst (am_r 11 rfl) rfl ci_0 ?_
      exact AW.iret (am_r 12 rfl) rfl hq
    · subst h1
      cases hs
      obtain ⟨c, hc, hq⟩ := hex _ rfl
      have hq := hq z z1 z2
      refine cQ_x ?_
      show AX g ML_recall 4 _ _ e.1 (LH h0 B (bump e.2 z) T o d) Q
      unfold co1 at hc
      by_cases h0 : e.1 = 1
      · rw [if_pos h0] at hc
        cases hc
        rw [h0]
        refine AX.catch (E := "java/lang/IndexOutOfBoundsException") [] _ [] rfl (fun _ h => nomatch h) (by decide) (by decide) q1043 (List.mem_of_getElem? (i := 12) rfl) fun q9 => ?_
        refine AW.astore_n (L' := [some (.ref B), some (.int p1), some (.ref (B + 139)), some (.ref q9)]) (z := 3) (am_r 8 rfl) rfl (Nat.le_of_ble_eq_true rfl) rfl ?_
        refine AW.iconst (am_r 9 rfl) rfl ci_1 ?_
        exact AW.iret (am_r 10 rfl) rfl hq
      rw [if_neg h0] at hc
      cases hc
set_option maxRecDepth 100000 in
theorem hL_tick {g : AG} {h0 : AH} {B : Nat} {S : XT} {T : Mem} {o : Int64} {d : UInt64} {Q : AO → AH → Prop} {p1 : Int32} (hB : gB g ≤ B) (hst : Sta g h0) {r : Except Nat Int64 × XT} (hs : uW (sX9_tick S B p1) = some r) (hl : lrw B r.2.2.2.1) (hok : ∀ v, r.1 = .ok v → Q (.ok (some (.int 0))) (LH h0 B r.2 T v d)) (hex : ∀ e, r.1 = .error e → ∃ c, co2 e = some c ∧ ∀ z, r.2.1.1 ≤ z → z ≤ r.2.1.1 + 1 → Q (.ok (some (.int c))) (LH h0 B (bump r.2 z) T o d)) : AW g ML_tick 0 [some (.ref B), some (.int p1), some (.ref (B + 139)), none] [] (LH h0 B S T o d) Q := by
  refine AW.aload_n (z := 2) (am_r 0 rfl) rfl rfl ?_
  refine AW.iconst (am_r 1 rfl) rfl ci_0 ?_
  refine AW.aload_n (z := 0) (am_r 2 rfl) rfl rfl ?_
  refine AW.iload_n (z := 1) (am_r 3 rfl) rfl rfl ?_
  refine AW.callV (N := MX9_tick) (As := [.int p1]) (S := [.int (0 : Int32), .ref (B + 139)]) (b := B) (am_r 4 rfl) rfl ovX9_tick q1145 rfl rfl LH_x rfl rfl rfl rfl ?_
  unfold uW at hs
  cases e1 : sX9_tick S B p1 with
  | none => rw [e1] at hs; cases hs
  | some r1 =>
    rw [e1] at hs
    refine dX9_tick hB (sta_lb hst hB) e1 ⟨fun v h1 => ?_, fun e h1 z z1 z2 => ?_⟩
    · subst h1
      cases hs
      have hq := hok _ rfl
      have hl2 := hl
      refine cQ_r ?_
      show AW g ML_tick 7 _ _ (LH h0 B v.2 T o d) Q
      refine AW.i2l (am_r 5 rfl) rfl ?_
      refine AW.last (am_r 6 rfl) rfl (LH_o hl2) (Nat.le_trans hB (by omega)) (vp_of_inb rfl) ?_
      refine AW.heq (LH_po hl2) ?_
      refine AW.goto (tg := 15) (am_r 7 rfl) rfl ?_
      refine AW.iconst (am_r 11 rfl) rfl ci_0 ?_
      exact AW.iret (am_r 12 rfl) rfl hq
    · subst h1
      cases hs
      obtain ⟨c, hc, hq⟩ := hex _ rfl
      have hq := hq z z1 z2
      refine cQ_x ?_
      show AX g ML_tick 4 _ _ e.1 (LH h0 B (bump e.2 z) T o d) Q
      unfold co2 at hc
      by_cases h0 : e.1 = 2
      · rw [if_pos h0] at hc
        cases hc
        rw [h0]
        refine AX.catch (E := "java/lang/IllegalArgumentException") [] _ [] rfl (fun _ h => nomatch h) (by decide) (by decide) q1136 (List.mem_of_getElem? (i := 13) rfl) fun q9 => ?_
        refine AW.astore_n (L' := [some (.ref B), some (.int p1), some (.ref (B + 139)), some (.ref q9)]) (z := 3) (am_r 8 rfl) rfl (Nat.le_of_ble_eq_true rfl) rfl ?_
        refine AW.iconst (am_r 9 rfl) rfl ci_1 ?_
        exact AW.iret (am_r 10 rfl) rfl hq
      rw [if_neg h0] at hc
      cases hc
set_option maxRecDepth 100000 in
theorem hL_reason {g : AG} {h0 : AH} {B : Nat} {S : XT} {T : Mem} {o : Int64} {d : UInt64} {Q : AO → AH → Prop} {p1 : Int32} (hB : gB g ≤ B) (hst : Sta g h0) {r : Except Nat Int64 × XT} (hs : uP (sX9_reason S B p1) S = some r) (hl : lrw B r.2.2.2.1) (hok : ∀ v, r.1 = .ok v → Q (.ok (some (.int 0))) (LH h0 B r.2 T v d)) (hex : ∀ e, r.1 = .error e → ∃ c, co1 e = some c ∧ ∀ z, r.2.1.1 ≤ z → z ≤ r.2.1.1 + 1 → Q (.ok (some (.int c))) (LH h0 B (bump r.2 z) T o d)) : AW g ML_reason 0 [some (.ref B), some (.int p1), some (.ref (B + 139)), none] [] (LH h0 B S T o d) Q := by
  refine AW.aload_n (z := 2) (am_r 0 rfl) rfl rfl ?_
  refine AW.iconst (am_r 1 rfl) rfl ci_0 ?_
  refine AW.aload_n (z := 0) (am_r 2 rfl) rfl rfl ?_
  refine AW.iload_n (z := 1) (am_r 3 rfl) rfl rfl ?_
  refine AW.callV (N := MX9_reason) (As := [.int p1]) (S := [.int (0 : Int32), .ref (B + 139)]) (b := B) (am_r 4 rfl) rfl ovX9_reason q1149 rfl rfl LH_x rfl rfl rfl rfl ?_
  unfold uP at hs
  cases e1 : sX9_reason S B p1 with
  | none => rw [e1] at hs; cases hs
  | some r1 =>
    rw [e1] at hs
    refine dX9_reason hB (sta_lb hst hB) e1 ⟨fun v h1 => ?_, fun e h1 z z1 z2 => ?_⟩
    · subst h1
      cases hs
      have hq := hok _ rfl
      have hl2 := hl
      refine cQ_r ?_
      show AW g ML_reason 7 _ _ (LH h0 B S T o d) Q
      refine AW.i2l (am_r 5 rfl) rfl ?_
      refine AW.last (am_r 6 rfl) rfl (LH_o hl2) (Nat.le_trans hB (by omega)) (vp_of_inb rfl) ?_
      refine AW.heq (LH_po hl2) ?_
      refine AW.goto (tg := 15) (am_r 7 rfl) rfl ?_
      refine AW.iconst (am_r 11 rfl) rfl ci_0 ?_
      exact AW.iret (am_r 12 rfl) rfl hq
    · subst h1
      cases hs
      obtain ⟨c, hc, hq⟩ := hex _ rfl
      have hq := hq z z1 z2
      refine cQ_x ?_
      show AX g ML_reason 4 _ _ e (LH h0 B (bump S z) T o d) Q
      unfold co1 at hc
      by_cases h0 : e = 1
      · rw [if_pos h0] at hc
        cases hc
        rw [h0]
        refine AX.catch (E := "java/lang/IndexOutOfBoundsException") [] _ [] rfl (fun _ h => nomatch h) (by decide) (by decide) q1043 (List.mem_of_getElem? (i := 12) rfl) fun q9 => ?_
        refine AW.astore_n (L' := [some (.ref B), some (.int p1), some (.ref (B + 139)), some (.ref q9)]) (z := 3) (am_r 8 rfl) rfl (Nat.le_of_ble_eq_true rfl) rfl ?_
        refine AW.iconst (am_r 9 rfl) rfl ci_1 ?_
        exact AW.iret (am_r 10 rfl) rfl hq
      rw [if_neg h0] at hc
      cases hc
set_option maxRecDepth 100000 in
theorem hL_cause {g : AG} {h0 : AH} {B : Nat} {S : XT} {T : Mem} {o : Int64} {d : UInt64} {Q : AO → AH → Prop} {p1 : Int32} (hB : gB g ≤ B) (hst : Sta g h0) {r : Except Nat Int64 × XT} (hs : uP (sX9_cause S B p1) S = some r) (hl : lrw B r.2.2.2.1) (hok : ∀ v, r.1 = .ok v → Q (.ok (some (.int 0))) (LH h0 B r.2 T v d)) (hex : ∀ e, r.1 = .error e → ∃ c, co1 e = some c ∧ ∀ z, r.2.1.1 ≤ z → z ≤ r.2.1.1 + 1 → Q (.ok (some (.int c))) (LH h0 B (bump r.2 z) T o d)) : AW g ML_cause 0 [some (.ref B), some (.int p1), some (.ref (B + 139)), none] [] (LH h0 B S T o d) Q := by
  refine AW.aload_n (z := 2) (am_r 0 rfl) rfl rfl ?_
  refine AW.iconst (am_r 1 rfl) rfl ci_0 ?_
  refine AW.aload_n (z := 0) (am_r 2 rfl) rfl rfl ?_
  refine AW.iload_n (z := 1) (am_r 3 rfl) rfl rfl ?_
  refine AW.callV (N := MX9_cause) (As := [.int p1]) (S := [.int (0 : Int32), .ref (B + 139)]) (b := B) (am_r 4 rfl) rfl ovX9_cause q1157 rfl rfl LH_x rfl rfl rfl rfl ?_
  unfold uP at hs
  cases e1 : sX9_cause S B p1 with
  | none => rw [e1] at hs; cases hs
  | some r1 =>
    rw [e1] at hs
    refine dX9_cause hB (sta_lb hst hB) e1 ⟨fun v h1 => ?_, fun e h1 z z1 z2 => ?_⟩
    · subst h1
      cases hs
      have hq := hok _ rfl
      have hl2 := hl
      refine cQ_r ?_
      show AW g ML_cause 7 _ _ (LH h0 B S T o d) Q
      refine AW.i2l (am_r 5 rfl) rfl ?_
      refine AW.last (am_r 6 rfl) rfl (LH_o hl2) (Nat.le_trans hB (by omega)) (vp_of_inb rfl) ?_
      refine AW.heq (LH_po hl2) ?_
      refine AW.goto (tg := 15) (am_r 7 rfl) rfl ?_
      refine AW.iconst (am_r 11 rfl) rfl ci_0 ?_
      exact AW.iret (am_r 12 rfl) rfl hq
    · subst h1
      cases hs
      obtain ⟨c, hc, hq⟩ := hex _ rfl
      have hq := hq z z1 z2
      refine cQ_x ?_
      show AX g ML_cause 4 _ _ e (LH h0 B (bump S z) T o d) Q
      unfold co1 at hc
      by_cases h0 : e = 1
      · rw [if_pos h0] at hc
        cases hc
        rw [h0]
        refine AX.catch (E := "java/lang/IndexOutOfBoundsException") [] _ [] rfl (fun _ h => nomatch h) (by decide) (by decide) q1043 (List.mem_of_getElem? (i := 12) rfl) fun q9 => ?_
        refine AW.astore_n (L' := [some (.ref B), some (.int p1), some (.ref (B + 139)), some (.ref q9)]) (z := 3) (am_r 8 rfl) rfl (Nat.le_of_ble_eq_true rfl) rfl ?_
        refine AW.iconst (am_r 9 rfl) rfl ci_1 ?_
        exact AW.iret (am_r 10 rfl) rfl hq
      rw [if_neg h0] at hc
      cases hc
set_option maxRecDepth 100000 in
theorem hL_objectsWith {g : AG} {h0 : AH} {B : Nat} {S : XT} {T : Mem} {o : Int64} {d : UInt64} {Q : AO → AH → Prop} {p1 : Int32} (hB : gB g ≤ B) (hst : Sta g h0) {r : Except Nat Int64 × XT} (hs : uP (sX9_objectsWith S B p1) S = some r) (hl : lrw B r.2.2.2.1) (hok : ∀ v, r.1 = .ok v → Q (.ok (some (.int 0))) (LH h0 B r.2 T v d)) (hex : ∀ e, r.1 = .error e → ∃ c, co2 e = some c ∧ ∀ z, r.2.1.1 ≤ z → z ≤ r.2.1.1 + 1 → Q (.ok (some (.int c))) (LH h0 B (bump r.2 z) T o d)) : AW g ML_objectsWith 0 [some (.ref B), some (.int p1), some (.ref (B + 139)), none] [] (LH h0 B S T o d) Q := by
  refine AW.aload_n (z := 2) (am_r 0 rfl) rfl rfl ?_
  refine AW.iconst (am_r 1 rfl) rfl ci_0 ?_
  refine AW.aload_n (z := 0) (am_r 2 rfl) rfl rfl ?_
  refine AW.iload_n (z := 1) (am_r 3 rfl) rfl rfl ?_
  refine AW.callV (N := MX9_objectsWith) (As := [.int p1]) (S := [.int (0 : Int32), .ref (B + 139)]) (b := B) (am_r 4 rfl) rfl ovX9_objectsWith q1165 rfl rfl LH_x rfl rfl rfl rfl ?_
  unfold uP at hs
  cases e1 : sX9_objectsWith S B p1 with
  | none => rw [e1] at hs; cases hs
  | some r1 =>
    rw [e1] at hs
    refine dX9_objectsWith hB (sta_lb hst hB) e1 ⟨fun v h1 => ?_, fun e h1 z z1 z2 => ?_⟩
    · subst h1
      cases hs
      have hq := hok _ rfl
      have hl2 := hl
      refine cQ_r ?_
      show AW g ML_objectsWith 7 _ _ (LH h0 B S T o d) Q
      refine AW.i2l (am_r 5 rfl) rfl ?_
      refine AW.last (am_r 6 rfl) rfl (LH_o hl2) (Nat.le_trans hB (by omega)) (vp_of_inb rfl) ?_
      refine AW.heq (LH_po hl2) ?_
      refine AW.goto (tg := 15) (am_r 7 rfl) rfl ?_
      refine AW.iconst (am_r 11 rfl) rfl ci_0 ?_
      exact AW.iret (am_r 12 rfl) rfl hq
    · subst h1
      cases hs
      obtain ⟨c, hc, hq⟩ := hex _ rfl
      have hq := hq z z1 z2
      refine cQ_x ?_
      show AX g ML_objectsWith 4 _ _ e (LH h0 B (bump S z) T o d) Q
      unfold co2 at hc
      by_cases h0 : e = 2
      · rw [if_pos h0] at hc
        cases hc
        rw [h0]
        refine AX.catch (E := "java/lang/IllegalArgumentException") [] _ [] rfl (fun _ h => nomatch h) (by decide) (by decide) q1136 (List.mem_of_getElem? (i := 13) rfl) fun q9 => ?_
        refine AW.astore_n (L' := [some (.ref B), some (.int p1), some (.ref (B + 139)), some (.ref q9)]) (z := 3) (am_r 8 rfl) rfl (Nat.le_of_ble_eq_true rfl) rfl ?_
        refine AW.iconst (am_r 9 rfl) rfl ci_1 ?_
        exact AW.iret (am_r 10 rfl) rfl hq
      rw [if_neg h0] at hc
      cases hc
set_option maxRecDepth 100000 in
theorem hL_needsApproval {g : AG} {h0 : AH} {B : Nat} {S : XT} {T : Mem} {o : Int64} {d : UInt64} {Q : AO → AH → Prop} {p1 p2 : Int32} (hB : gB g ≤ B) (hst : Sta g h0) {r : Except Nat Int64 × XT} (hs : uB (sX9_needsApproval S B p1 p2) S = some r) (hl : lrw B r.2.2.2.1) (hok : ∀ v, r.1 = .ok v → Q (.ok (some (.int 0))) (LH h0 B r.2 T v d)) (hex : ∀ e, r.1 = .error e → ∃ c, co1 e = some c ∧ ∀ z, r.2.1.1 ≤ z → z ≤ r.2.1.1 + 1 → Q (.ok (some (.int c))) (LH h0 B (bump r.2 z) T o d)) : AW g ML_needsApproval 0 [some (.ref B), some (.int p1), some (.int p2), some (.ref (B + 139)), none] [] (LH h0 B S T o d) Q := by
  refine AW.aload_n (z := 3) (am_r 0 rfl) rfl rfl ?_
  refine AW.iconst (am_r 1 rfl) rfl ci_0 ?_
  refine AW.aload_n (z := 0) (am_r 2 rfl) rfl rfl ?_
  refine AW.iload_n (z := 1) (am_r 3 rfl) rfl rfl ?_
  refine AW.iload_n (z := 2) (am_r 4 rfl) rfl rfl ?_
  refine AW.callV (N := MX9_needsApproval) (As := [.int p1, .int p2]) (S := [.int (0 : Int32), .ref (B + 139)]) (b := B) (am_r 5 rfl) rfl ovX9_needsApproval q1172 rfl rfl LH_x rfl rfl rfl rfl ?_
  unfold uB at hs
  cases e1 : sX9_needsApproval S B p1 p2 with
  | none => rw [e1] at hs; cases hs
  | some r1 =>
    rw [e1] at hs
    refine dX9_needsApproval hB (sta_lb hst hB) e1 ⟨fun v h1 => ?_, fun e h1 z z1 z2 => ?_⟩
    · subst h1
      cases hs
      have hq := hok _ rfl
      have hl2 := hl
      refine fun _ => cQ_r ?_
      show AW g ML_needsApproval 8 _ _ (LH h0 B S T o d) Q
      refine AW.if_eq (tg := 15) (am_r 6 rfl) rfl rfl (fun hc => ?_) (fun hc => ?_)
      · rw [if_pos hc] at hq
        refine AW.lconst (v := (0 : Int64)) (z := 0) (am_r 9 rfl) rfl (by decide) ?_
        refine AW.last (am_r 10 rfl) rfl (LH_o hl2) (Nat.le_trans hB (by omega)) (vp_of_inb rfl) ?_
        refine AW.heq (LH_po hl2) ?_
        refine AW.goto (tg := 24) (am_r 11 rfl) rfl ?_
        refine AW.iconst (am_r 15 rfl) rfl ci_0 ?_
        exact AW.iret (am_r 16 rfl) rfl hq
      · rw [if_neg hc] at hq
        refine AW.lconst (v := (1 : Int64)) (z := 1) (am_r 7 rfl) rfl (by decide) ?_
        refine AW.goto (tg := 16) (am_r 8 rfl) rfl ?_
        refine AW.last (am_r 10 rfl) rfl (LH_o hl2) (Nat.le_trans hB (by omega)) (vp_of_inb rfl) ?_
        refine AW.heq (LH_po hl2) ?_
        refine AW.goto (tg := 24) (am_r 11 rfl) rfl ?_
        refine AW.iconst (am_r 15 rfl) rfl ci_0 ?_
        exact AW.iret (am_r 16 rfl) rfl hq
    · subst h1
      cases hs
      obtain ⟨c, hc, hq⟩ := hex _ rfl
      have hq := hq z z1 z2
      refine cQ_x ?_
      show AX g ML_needsApproval 5 _ _ e (LH h0 B (bump S z) T o d) Q
      unfold co1 at hc
      by_cases h0 : e = 1
      · rw [if_pos h0] at hc
        cases hc
        rw [h0]
        refine AX.catch (E := "java/lang/IndexOutOfBoundsException") [] _ [] rfl (fun _ h => nomatch h) (by decide) (by decide) q1043 (List.mem_of_getElem? (i := 12) rfl) fun q9 => ?_
        refine AW.astore (L' := [some (.ref B), some (.int p1), some (.int p2), some (.ref (B + 139)), some (.ref q9)]) (am_r 12 rfl) rfl (Nat.le_of_ble_eq_true rfl) rfl ?_
        refine AW.iconst (am_r 13 rfl) rfl ci_1 ?_
        exact AW.iret (am_r 14 rfl) rfl hq
      rw [if_neg h0] at hc
      cases hc
set_option maxRecDepth 100000 in
theorem hL_approvalsAhead {g : AG} {h0 : AH} {B : Nat} {S : XT} {T : Mem} {o : Int64} {d : UInt64} {Q : AO → AH → Prop} {p1 : Int32} (hB : gB g ≤ B) (hst : Sta g h0) {r : Except Nat Int64 × XT} (hs : uP (sX9_approvalsAhead S B p1) S = some r) (hl : lrw B r.2.2.2.1) (hok : ∀ v, r.1 = .ok v → Q (.ok (some (.int 0))) (LH h0 B r.2 T v d)) (hex : ∀ e, r.1 = .error e → ∃ c, co1 e = some c ∧ ∀ z, r.2.1.1 ≤ z → z ≤ r.2.1.1 + 1 → Q (.ok (some (.int c))) (LH h0 B (bump r.2 z) T o d)) : AW g ML_approvalsAhead 0 [some (.ref B), some (.int p1), some (.ref (B + 139)), none] [] (LH h0 B S T o d) Q := by
  refine AW.aload_n (z := 2) (am_r 0 rfl) rfl rfl ?_
  refine AW.iconst (am_r 1 rfl) rfl ci_0 ?_
  refine AW.aload_n (z := 0) (am_r 2 rfl) rfl rfl ?_
  refine AW.iload_n (z := 1) (am_r 3 rfl) rfl rfl ?_
  refine AW.callV (N := MX9_approvalsAhead) (As := [.int p1]) (S := [.int (0 : Int32), .ref (B + 139)]) (b := B) (am_r 4 rfl) rfl ovX9_approvalsAhead q1179 rfl rfl LH_x rfl rfl rfl rfl ?_
  unfold uP at hs
  cases e1 : sX9_approvalsAhead S B p1 with
  | none => rw [e1] at hs; cases hs
  | some r1 =>
    rw [e1] at hs
    refine dX9_approvalsAhead hB (sta_lb hst hB) e1 ⟨fun v h1 => ?_, fun e h1 z z1 z2 => ?_⟩
    · subst h1
      cases hs
      have hq := hok _ rfl
      have hl2 := hl
      refine cQ_r ?_
      show AW g ML_approvalsAhead 7 _ _ (LH h0 B S T o d) Q
      refine AW.i2l (am_r 5 rfl) rfl ?_
      refine AW.last (am_r 6 rfl) rfl (LH_o hl2) (Nat.le_trans hB (by omega)) (vp_of_inb rfl) ?_
      refine AW.heq (LH_po hl2) ?_
      refine AW.goto (tg := 15) (am_r 7 rfl) rfl ?_
      refine AW.iconst (am_r 11 rfl) rfl ci_0 ?_
      exact AW.iret (am_r 12 rfl) rfl hq
    · subst h1
      cases hs
      obtain ⟨c, hc, hq⟩ := hex _ rfl
      have hq := hq z z1 z2
      refine cQ_x ?_
      show AX g ML_approvalsAhead 4 _ _ e (LH h0 B (bump S z) T o d) Q
      unfold co1 at hc
      by_cases h0 : e = 1
      · rw [if_pos h0] at hc
        cases hc
        rw [h0]
        refine AX.catch (E := "java/lang/IndexOutOfBoundsException") [] _ [] rfl (fun _ h => nomatch h) (by decide) (by decide) q1043 (List.mem_of_getElem? (i := 12) rfl) fun q9 => ?_
        refine AW.astore_n (L' := [some (.ref B), some (.int p1), some (.ref (B + 139)), some (.ref q9)]) (z := 3) (am_r 8 rfl) rfl (Nat.le_of_ble_eq_true rfl) rfl ?_
        refine AW.iconst (am_r 9 rfl) rfl ci_1 ?_
        exact AW.iret (am_r 10 rfl) rfl hq
      rw [if_neg h0] at hc
      cases hc
set_option maxRecDepth 100000 in
theorem hL_pressFor {g : AG} {h0 : AH} {B : Nat} {S : XT} {T : Mem} {o : Int64} {d : UInt64} {Q : AO → AH → Prop} {p1 : Int32} (hB : gB g ≤ B) (hst : Sta g h0) {r : Except Nat Int64 × XT} (hs : uP (sX9_pressFor S B p1) S = some r) (hl : lrw B r.2.2.2.1) (hok : ∀ v, r.1 = .ok v → Q (.ok (some (.int 0))) (LH h0 B r.2 T v d)) (hex : ∀ e, r.1 = .error e → ∃ c, co1 e = some c ∧ ∀ z, r.2.1.1 ≤ z → z ≤ r.2.1.1 + 1 → Q (.ok (some (.int c))) (LH h0 B (bump r.2 z) T o d)) : AW g ML_pressFor 0 [some (.ref B), some (.int p1), some (.ref (B + 139)), none] [] (LH h0 B S T o d) Q := by
  refine AW.aload_n (z := 2) (am_r 0 rfl) rfl rfl ?_
  refine AW.iconst (am_r 1 rfl) rfl ci_0 ?_
  refine AW.aload_n (z := 0) (am_r 2 rfl) rfl rfl ?_
  refine AW.iload_n (z := 1) (am_r 3 rfl) rfl rfl ?_
  refine AW.callV (N := MX9_pressFor) (As := [.int p1]) (S := [.int (0 : Int32), .ref (B + 139)]) (b := B) (am_r 4 rfl) rfl ovX9_pressFor q1186 rfl rfl LH_x rfl rfl rfl rfl ?_
  unfold uP at hs
  cases e1 : sX9_pressFor S B p1 with
  | none => rw [e1] at hs; cases hs
  | some r1 =>
    rw [e1] at hs
    refine dX9_pressFor hB (sta_lb hst hB) e1 ⟨fun v h1 => ?_, fun e h1 z z1 z2 => ?_⟩
    · subst h1
      cases hs
      have hq := hok _ rfl
      have hl2 := hl
      refine cQ_r ?_
      show AW g ML_pressFor 7 _ _ (LH h0 B S T o d) Q
      refine AW.i2l (am_r 5 rfl) rfl ?_
      refine AW.last (am_r 6 rfl) rfl (LH_o hl2) (Nat.le_trans hB (by omega)) (vp_of_inb rfl) ?_
      refine AW.heq (LH_po hl2) ?_
      refine AW.goto (tg := 15) (am_r 7 rfl) rfl ?_
      refine AW.iconst (am_r 11 rfl) rfl ci_0 ?_
      exact AW.iret (am_r 12 rfl) rfl hq
    · subst h1
      cases hs
      obtain ⟨c, hc, hq⟩ := hex _ rfl
      have hq := hq z z1 z2
      refine cQ_x ?_
      show AX g ML_pressFor 4 _ _ e (LH h0 B (bump S z) T o d) Q
      unfold co1 at hc
      by_cases h0 : e = 1
      · rw [if_pos h0] at hc
        cases hc
        rw [h0]
        refine AX.catch (E := "java/lang/IndexOutOfBoundsException") [] _ [] rfl (fun _ h => nomatch h) (by decide) (by decide) q1043 (List.mem_of_getElem? (i := 12) rfl) fun q9 => ?_
        refine AW.astore_n (L' := [some (.ref B), some (.int p1), some (.ref (B + 139)), some (.ref q9)]) (z := 3) (am_r 8 rfl) rfl (Nat.le_of_ble_eq_true rfl) rfl ?_
        refine AW.iconst (am_r 9 rfl) rfl ci_1 ?_
        exact AW.iret (am_r 10 rfl) rfl hq
      rw [if_neg h0] at hc
      cases hc
set_option maxRecDepth 100000 in
theorem hL_scoreAfter {g : AG} {h0 : AH} {B : Nat} {S : XT} {T : Mem} {o : Int64} {d : UInt64} {Q : AO → AH → Prop} {p1 p2 : Int32} (hB : gB g ≤ B) (hst : Sta g h0) {r : Except Nat Int64 × XT} (hs : uP (sX9_scoreAfter S B p1 p2) S = some r) (hl : lrw B r.2.2.2.1) (hok : ∀ v, r.1 = .ok v → Q (.ok (some (.int 0))) (LH h0 B r.2 T v d)) (hex : ∀ e, r.1 = .error e → ∃ c, co1 e = some c ∧ ∀ z, r.2.1.1 ≤ z → z ≤ r.2.1.1 + 1 → Q (.ok (some (.int c))) (LH h0 B (bump r.2 z) T o d)) : AW g ML_scoreAfter 0 [some (.ref B), some (.int p1), some (.int p2), some (.ref (B + 139)), none] [] (LH h0 B S T o d) Q := by
  refine AW.aload_n (z := 3) (am_r 0 rfl) rfl rfl ?_
  refine AW.iconst (am_r 1 rfl) rfl ci_0 ?_
  refine AW.aload_n (z := 0) (am_r 2 rfl) rfl rfl ?_
  refine AW.iload_n (z := 1) (am_r 3 rfl) rfl rfl ?_
  refine AW.iload_n (z := 2) (am_r 4 rfl) rfl rfl ?_
  refine AW.callV (N := MX9_scoreAfter) (As := [.int p1, .int p2]) (S := [.int (0 : Int32), .ref (B + 139)]) (b := B) (am_r 5 rfl) rfl ovX9_scoreAfter q1194 rfl rfl LH_x rfl rfl rfl rfl ?_
  unfold uP at hs
  cases e1 : sX9_scoreAfter S B p1 p2 with
  | none => rw [e1] at hs; cases hs
  | some r1 =>
    rw [e1] at hs
    refine dX9_scoreAfter hB (sta_lb hst hB) e1 ⟨fun v h1 => ?_, fun e h1 z z1 z2 => ?_⟩
    · subst h1
      cases hs
      have hq := hok _ rfl
      have hl2 := hl
      refine cQ_r ?_
      show AW g ML_scoreAfter 8 _ _ (LH h0 B S T o d) Q
      refine AW.i2l (am_r 6 rfl) rfl ?_
      refine AW.last (am_r 7 rfl) rfl (LH_o hl2) (Nat.le_trans hB (by omega)) (vp_of_inb rfl) ?_
      refine AW.heq (LH_po hl2) ?_
      refine AW.goto (tg := 17) (am_r 8 rfl) rfl ?_
      refine AW.iconst (am_r 12 rfl) rfl ci_0 ?_
      exact AW.iret (am_r 13 rfl) rfl hq
    · subst h1
      cases hs
      obtain ⟨c, hc, hq⟩ := hex _ rfl
      have hq := hq z z1 z2
      refine cQ_x ?_
      show AX g ML_scoreAfter 5 _ _ e (LH h0 B (bump S z) T o d) Q
      unfold co1 at hc
      by_cases h0 : e = 1
      · rw [if_pos h0] at hc
        cases hc
        rw [h0]
        refine AX.catch (E := "java/lang/IndexOutOfBoundsException") [] _ [] rfl (fun _ h => nomatch h) (by decide) (by decide) q1043 (List.mem_of_getElem? (i := 12) rfl) fun q9 => ?_
        refine AW.astore (L' := [some (.ref B), some (.int p1), some (.int p2), some (.ref (B + 139)), some (.ref q9)]) (am_r 9 rfl) rfl (Nat.le_of_ble_eq_true rfl) rfl ?_
        refine AW.iconst (am_r 10 rfl) rfl ci_1 ?_
        exact AW.iret (am_r 11 rfl) rfl hq
      rw [if_neg h0] at hc
      cases hc
set_option maxRecDepth 100000 in
theorem hL_scoreAhead {g : AG} {h0 : AH} {B : Nat} {S : XT} {T : Mem} {o : Int64} {d : UInt64} {Q : AO → AH → Prop} {p1 : Int32} (hB : gB g ≤ B) (hst : Sta g h0) {r : Except Nat Int64 × XT} (hs : uP (sX9_scoreAhead S B p1) S = some r) (hl : lrw B r.2.2.2.1) (hok : ∀ v, r.1 = .ok v → Q (.ok (some (.int 0))) (LH h0 B r.2 T v d)) (hex : ∀ e, r.1 = .error e → ∃ c, co1 e = some c ∧ ∀ z, r.2.1.1 ≤ z → z ≤ r.2.1.1 + 1 → Q (.ok (some (.int c))) (LH h0 B (bump r.2 z) T o d)) : AW g ML_scoreAhead 0 [some (.ref B), some (.int p1), some (.ref (B + 139)), none] [] (LH h0 B S T o d) Q := by
  refine AW.aload_n (z := 2) (am_r 0 rfl) rfl rfl ?_
  refine AW.iconst (am_r 1 rfl) rfl ci_0 ?_
  refine AW.aload_n (z := 0) (am_r 2 rfl) rfl rfl ?_
  refine AW.iload_n (z := 1) (am_r 3 rfl) rfl rfl ?_
  refine AW.callV (N := MX9_scoreAhead) (As := [.int p1]) (S := [.int (0 : Int32), .ref (B + 139)]) (b := B) (am_r 4 rfl) rfl ovX9_scoreAhead q1202 rfl rfl LH_x rfl rfl rfl rfl ?_
  unfold uP at hs
  cases e1 : sX9_scoreAhead S B p1 with
  | none => rw [e1] at hs; cases hs
  | some r1 =>
    rw [e1] at hs
    refine dX9_scoreAhead hB (sta_lb hst hB) e1 ⟨fun v h1 => ?_, fun e h1 z z1 z2 => ?_⟩
    · subst h1
      cases hs
      have hq := hok _ rfl
      have hl2 := hl
      refine cQ_r ?_
      show AW g ML_scoreAhead 7 _ _ (LH h0 B S T o d) Q
      refine AW.i2l (am_r 5 rfl) rfl ?_
      refine AW.last (am_r 6 rfl) rfl (LH_o hl2) (Nat.le_trans hB (by omega)) (vp_of_inb rfl) ?_
      refine AW.heq (LH_po hl2) ?_
      refine AW.goto (tg := 15) (am_r 7 rfl) rfl ?_
      refine AW.iconst (am_r 11 rfl) rfl ci_0 ?_
      exact AW.iret (am_r 12 rfl) rfl hq
    · subst h1
      cases hs
      obtain ⟨c, hc, hq⟩ := hex _ rfl
      have hq := hq z z1 z2
      refine cQ_x ?_
      show AX g ML_scoreAhead 4 _ _ e (LH h0 B (bump S z) T o d) Q
      unfold co1 at hc
      by_cases h0 : e = 1
      · rw [if_pos h0] at hc
        cases hc
        rw [h0]
        refine AX.catch (E := "java/lang/IndexOutOfBoundsException") [] _ [] rfl (fun _ h => nomatch h) (by decide) (by decide) q1043 (List.mem_of_getElem? (i := 12) rfl) fun q9 => ?_
        refine AW.astore_n (L' := [some (.ref B), some (.int p1), some (.ref (B + 139)), some (.ref q9)]) (z := 3) (am_r 8 rfl) rfl (Nat.le_of_ble_eq_true rfl) rfl ?_
        refine AW.iconst (am_r 9 rfl) rfl ci_1 ?_
        exact AW.iret (am_r 10 rfl) rfl hq
      rw [if_neg h0] at hc
      cases hc
set_option maxRecDepth 100000 in
theorem hL_bestRecipe {g : AG} {h0 : AH} {B : Nat} {S : XT} {T : Mem} {o : Int64} {d : UInt64} {Q : AO → AH → Prop} {p1 : Int32} (hB : gB g ≤ B) (hst : Sta g h0) {r : Except Nat Int64 × XT} (hs : uP (sX9_bestRecipe S B p1) S = some r) (hl : lrw B r.2.2.2.1) (hok : ∀ v, r.1 = .ok v → Q (.ok (some (.int 0))) (LH h0 B r.2 T v d)) (hex : ∀ e, r.1 = .error e → ∃ c, co1 e = some c ∧ ∀ z, r.2.1.1 ≤ z → z ≤ r.2.1.1 + 1 → Q (.ok (some (.int c))) (LH h0 B (bump r.2 z) T o d)) : AW g ML_bestRecipe 0 [some (.ref B), some (.int p1), some (.ref (B + 139)), none] [] (LH h0 B S T o d) Q := by
  refine AW.aload_n (z := 2) (am_r 0 rfl) rfl rfl ?_
  refine AW.iconst (am_r 1 rfl) rfl ci_0 ?_
  refine AW.aload_n (z := 0) (am_r 2 rfl) rfl rfl ?_
  refine AW.iload_n (z := 1) (am_r 3 rfl) rfl rfl ?_
  refine AW.callV (N := MX9_bestRecipe) (As := [.int p1]) (S := [.int (0 : Int32), .ref (B + 139)]) (b := B) (am_r 4 rfl) rfl ovX9_bestRecipe q1209 rfl rfl LH_x rfl rfl rfl rfl ?_
  unfold uP at hs
  cases e1 : sX9_bestRecipe S B p1 with
  | none => rw [e1] at hs; cases hs
  | some r1 =>
    rw [e1] at hs
    refine dX9_bestRecipe hB (sta_lb hst hB) e1 ⟨fun v h1 => ?_, fun e h1 z z1 z2 => ?_⟩
    · subst h1
      cases hs
      have hq := hok _ rfl
      have hl2 := hl
      refine cQ_r ?_
      show AW g ML_bestRecipe 7 _ _ (LH h0 B S T o d) Q
      refine AW.i2l (am_r 5 rfl) rfl ?_
      refine AW.last (am_r 6 rfl) rfl (LH_o hl2) (Nat.le_trans hB (by omega)) (vp_of_inb rfl) ?_
      refine AW.heq (LH_po hl2) ?_
      refine AW.goto (tg := 15) (am_r 7 rfl) rfl ?_
      refine AW.iconst (am_r 11 rfl) rfl ci_0 ?_
      exact AW.iret (am_r 12 rfl) rfl hq
    · subst h1
      cases hs
      obtain ⟨c, hc, hq⟩ := hex _ rfl
      have hq := hq z z1 z2
      refine cQ_x ?_
      show AX g ML_bestRecipe 4 _ _ e (LH h0 B (bump S z) T o d) Q
      unfold co1 at hc
      by_cases h0 : e = 1
      · rw [if_pos h0] at hc
        cases hc
        rw [h0]
        refine AX.catch (E := "java/lang/IndexOutOfBoundsException") [] _ [] rfl (fun _ h => nomatch h) (by decide) (by decide) q1043 (List.mem_of_getElem? (i := 12) rfl) fun q9 => ?_
        refine AW.astore_n (L' := [some (.ref B), some (.int p1), some (.ref (B + 139)), some (.ref q9)]) (z := 3) (am_r 8 rfl) rfl (Nat.le_of_ble_eq_true rfl) rfl ?_
        refine AW.iconst (am_r 9 rfl) rfl ci_1 ?_
        exact AW.iret (am_r 10 rfl) rfl hq
      rw [if_neg h0] at hc
      cases hc
set_option maxRecDepth 100000 in
theorem hL_stepsTo {g : AG} {h0 : AH} {B : Nat} {S : XT} {T : Mem} {o : Int64} {d : UInt64} {Q : AO → AH → Prop} {p1 p2 p3 : Int32} (hB : gB g ≤ B) (hst : Sta g h0) {r : Except Nat Int64 × XT} (hs : uP (sX9_stepsTo S B p1 p2 p3) S = some r) (hl : lrw B r.2.2.2.1) (hok : ∀ v, r.1 = .ok v → Q (.ok (some (.int 0))) (LH h0 B r.2 T v d)) (hex : ∀ e, r.1 = .error e → ∃ c, co12 e = some c ∧ ∀ z, r.2.1.1 ≤ z → z ≤ r.2.1.1 + 1 → Q (.ok (some (.int c))) (LH h0 B (bump r.2 z) T o d)) : AW g ML_stepsTo 0 [some (.ref B), some (.int p1), some (.int p2), some (.int p3), some (.ref (B + 139)), none] [] (LH h0 B S T o d) Q := by
  refine AW.aload (am_r 0 rfl) rfl rfl ?_
  refine AW.iconst (am_r 1 rfl) rfl ci_0 ?_
  refine AW.aload_n (z := 0) (am_r 2 rfl) rfl rfl ?_
  refine AW.iload_n (z := 1) (am_r 3 rfl) rfl rfl ?_
  refine AW.iload_n (z := 2) (am_r 4 rfl) rfl rfl ?_
  refine AW.iload_n (z := 3) (am_r 5 rfl) rfl rfl ?_
  refine AW.callV (N := MX9_stepsTo) (As := [.int p1, .int p2, .int p3]) (S := [.int (0 : Int32), .ref (B + 139)]) (b := B) (am_r 6 rfl) rfl ovX9_stepsTo q1220 rfl rfl LH_x rfl rfl rfl rfl ?_
  unfold uP at hs
  cases e1 : sX9_stepsTo S B p1 p2 p3 with
  | none => rw [e1] at hs; cases hs
  | some r1 =>
    rw [e1] at hs
    refine dX9_stepsTo hB (sta_lb hst hB) e1 ⟨fun v h1 => ?_, fun e h1 z z1 z2 => ?_⟩
    · subst h1
      cases hs
      have hq := hok _ rfl
      have hl2 := hl
      refine cQ_r ?_
      show AW g ML_stepsTo 10 _ _ (LH h0 B S T o d) Q
      refine AW.i2l (am_r 7 rfl) rfl ?_
      refine AW.last (am_r 8 rfl) rfl (LH_o hl2) (Nat.le_trans hB (by omega)) (vp_of_inb rfl) ?_
      refine AW.heq (LH_po hl2) ?_
      refine AW.goto (tg := 23) (am_r 9 rfl) rfl ?_
      refine AW.iconst (am_r 16 rfl) rfl ci_0 ?_
      exact AW.iret (am_r 17 rfl) rfl hq
    · subst h1
      cases hs
      obtain ⟨c, hc, hq⟩ := hex _ rfl
      have hq := hq z z1 z2
      refine cQ_x ?_
      show AX g ML_stepsTo 7 _ _ e (LH h0 B (bump S z) T o d) Q
      unfold co12 at hc
      by_cases h0 : e = 1
      · rw [if_pos h0] at hc
        cases hc
        rw [h0]
        refine AX.catch (E := "java/lang/IndexOutOfBoundsException") [] _ [_] rfl (fun _ h => nomatch h) (by decide) (by decide) q1043 (List.mem_of_getElem? (i := 12) rfl) fun q9 => ?_
        refine AW.astore (L' := [some (.ref B), some (.int p1), some (.int p2), some (.int p3), some (.ref (B + 139)), some (.ref q9)]) (am_r 10 rfl) rfl (Nat.le_of_ble_eq_true rfl) rfl ?_
        refine AW.iconst (am_r 11 rfl) rfl ci_1 ?_
        exact AW.iret (am_r 12 rfl) rfl hq
      by_cases h1 : e = 2
      · rw [if_neg h0, if_pos h1] at hc
        cases hc
        rw [h1]
        refine AX.catch2 (E := "java/lang/IllegalArgumentException") (nm := "java/lang/IndexOutOfBoundsException") _ _ rfl (by decide) q1043 (fun _ h => SF.nc2 h) (by decide) (by decide) q1136 (List.mem_of_getElem? (i := 13) rfl) fun q9 => ?_
        refine AW.astore (L' := [some (.ref B), some (.int p1), some (.int p2), some (.int p3), some (.ref (B + 139)), some (.ref q9)]) (am_r 13 rfl) rfl (Nat.le_of_ble_eq_true rfl) rfl ?_
        refine AW.iconst (am_r 14 rfl) rfl ci_2 ?_
        exact AW.iret (am_r 15 rfl) rfl hq
      rw [if_neg h0, if_neg h1] at hc
      cases hc
set_option maxRecDepth 100000 in
theorem hL_quickestTo {g : AG} {h0 : AH} {B : Nat} {S : XT} {T : Mem} {o : Int64} {d : UInt64} {Q : AO → AH → Prop} {p1 p2 : Int32} (hB : gB g ≤ B) (hst : Sta g h0) {r : Except Nat Int64 × XT} (hs : uW (sX9_quickestTo S B p1 p2) = some r) (hl : lrw B r.2.2.2.1) (hok : ∀ v, r.1 = .ok v → Q (.ok (some (.int 0))) (LH h0 B r.2 T v d)) (hex : ∀ e, r.1 = .error e → ∃ c, co12 e = some c ∧ ∀ z, r.2.1.1 ≤ z → z ≤ r.2.1.1 + 1 → Q (.ok (some (.int c))) (LH h0 B (bump r.2 z) T o d)) : AW g ML_quickestTo 0 [some (.ref B), some (.int p1), some (.int p2), some (.ref (B + 139)), none] [] (LH h0 B S T o d) Q := by
  refine AW.aload_n (z := 3) (am_r 0 rfl) rfl rfl ?_
  refine AW.iconst (am_r 1 rfl) rfl ci_0 ?_
  refine AW.aload_n (z := 0) (am_r 2 rfl) rfl rfl ?_
  refine AW.iload_n (z := 1) (am_r 3 rfl) rfl rfl ?_
  refine AW.iload_n (z := 2) (am_r 4 rfl) rfl rfl ?_
  refine AW.callV (N := MX9_quickestTo) (As := [.int p1, .int p2]) (S := [.int (0 : Int32), .ref (B + 139)]) (b := B) (am_r 5 rfl) rfl ovX9_quickestTo q1232 rfl rfl LH_x rfl rfl rfl rfl ?_
  unfold uW at hs
  cases e1 : sX9_quickestTo S B p1 p2 with
  | none => rw [e1] at hs; cases hs
  | some r1 =>
    rw [e1] at hs
    refine dX9_quickestTo hB (sta_lb hst hB) e1 ⟨fun v h1 => ?_, fun e h1 z z1 z2 => ?_⟩
    · subst h1
      cases hs
      have hq := hok _ rfl
      have hl2 := hl
      refine cQ_r ?_
      show AW g ML_quickestTo 8 _ _ (LH h0 B v.2 T o d) Q
      refine AW.i2l (am_r 6 rfl) rfl ?_
      refine AW.last (am_r 7 rfl) rfl (LH_o hl2) (Nat.le_trans hB (by omega)) (vp_of_inb rfl) ?_
      refine AW.heq (LH_po hl2) ?_
      refine AW.goto (tg := 21) (am_r 8 rfl) rfl ?_
      refine AW.iconst (am_r 15 rfl) rfl ci_0 ?_
      exact AW.iret (am_r 16 rfl) rfl hq
    · subst h1
      cases hs
      obtain ⟨c, hc, hq⟩ := hex _ rfl
      have hq := hq z z1 z2
      refine cQ_x ?_
      show AX g ML_quickestTo 5 _ _ e.1 (LH h0 B (bump e.2 z) T o d) Q
      unfold co12 at hc
      by_cases h0 : e.1 = 1
      · rw [if_pos h0] at hc
        cases hc
        rw [h0]
        refine AX.catch (E := "java/lang/IndexOutOfBoundsException") [] _ [_] rfl (fun _ h => nomatch h) (by decide) (by decide) q1043 (List.mem_of_getElem? (i := 12) rfl) fun q9 => ?_
        refine AW.astore (L' := [some (.ref B), some (.int p1), some (.int p2), some (.ref (B + 139)), some (.ref q9)]) (am_r 9 rfl) rfl (Nat.le_of_ble_eq_true rfl) rfl ?_
        refine AW.iconst (am_r 10 rfl) rfl ci_1 ?_
        exact AW.iret (am_r 11 rfl) rfl hq
      by_cases h1 : e.1 = 2
      · rw [if_neg h0, if_pos h1] at hc
        cases hc
        rw [h1]
        refine AX.catch2 (E := "java/lang/IllegalArgumentException") (nm := "java/lang/IndexOutOfBoundsException") _ _ rfl (by decide) q1043 (fun _ h => SF.nc2 h) (by decide) (by decide) q1136 (List.mem_of_getElem? (i := 13) rfl) fun q9 => ?_
        refine AW.astore (L' := [some (.ref B), some (.int p1), some (.int p2), some (.ref (B + 139)), some (.ref q9)]) (am_r 12 rfl) rfl (Nat.le_of_ble_eq_true rfl) rfl ?_
        refine AW.iconst (am_r 13 rfl) rfl ci_2 ?_
        exact AW.iret (am_r 14 rfl) rfl hq
      rw [if_neg h0, if_neg h1] at hc
      cases hc
set_option maxRecDepth 100000 in
theorem hL_cheapestTo {g : AG} {h0 : AH} {B : Nat} {S : XT} {T : Mem} {o : Int64} {d : UInt64} {Q : AO → AH → Prop} {p1 p2 : Int32} (hB : gB g ≤ B) (hst : Sta g h0) {r : Except Nat Int64 × XT} (hs : uV (sX9_cheapestTo S B p1 p2) = some r) (hl : lrw B r.2.2.2.1) (hok : ∀ v, r.1 = .ok v → Q (.ok (some (.int 0))) (LH h0 B r.2 T v d)) (hex : ∀ e, r.1 = .error e → ∃ c, co12 e = some c ∧ ∀ z, r.2.1.1 ≤ z → z ≤ r.2.1.1 + 1 → Q (.ok (some (.int c))) (LH h0 B (bump r.2 z) T o d)) : AW g ML_cheapestTo 0 [some (.ref B), some (.int p1), some (.int p2), some (.ref (B + 139)), none] [] (LH h0 B S T o d) Q := by
  refine AW.aload_n (z := 3) (am_r 0 rfl) rfl rfl ?_
  refine AW.iconst (am_r 1 rfl) rfl ci_0 ?_
  refine AW.aload_n (z := 0) (am_r 2 rfl) rfl rfl ?_
  refine AW.iload_n (z := 1) (am_r 3 rfl) rfl rfl ?_
  refine AW.iload_n (z := 2) (am_r 4 rfl) rfl rfl ?_
  refine AW.callV (N := MX9_cheapestTo) (As := [.int p1, .int p2]) (S := [.int (0 : Int32), .ref (B + 139)]) (b := B) (am_r 5 rfl) rfl ovX9_cheapestTo q1256 rfl rfl LH_x rfl rfl rfl rfl ?_
  unfold uV at hs
  cases e1 : sX9_cheapestTo S B p1 p2 with
  | none => rw [e1] at hs; cases hs
  | some r1 =>
    rw [e1] at hs
    refine dX9_cheapestTo hB (sta_lb hst hB) e1 ⟨fun v h1 => ?_, fun e h1 z z1 z2 => ?_⟩
    · subst h1
      cases hs
      have hq := hok _ rfl
      have hl2 := hl
      refine cQ_r ?_
      show AW g ML_cheapestTo 8 _ _ (LH h0 B v.2 T o d) Q
      refine AW.last (am_r 6 rfl) rfl (LH_o hl2) (Nat.le_trans hB (by omega)) (vp_of_inb rfl) ?_
      refine AW.heq (LH_po hl2) ?_
      refine AW.goto (tg := 20) (am_r 7 rfl) rfl ?_
      refine AW.iconst (am_r 14 rfl) rfl ci_0 ?_
      exact AW.iret (am_r 15 rfl) rfl hq
    · subst h1
      cases hs
      obtain ⟨c, hc, hq⟩ := hex _ rfl
      have hq := hq z z1 z2
      refine cQ_x ?_
      show AX g ML_cheapestTo 5 _ _ e.1 (LH h0 B (bump e.2 z) T o d) Q
      unfold co12 at hc
      by_cases h0 : e.1 = 1
      · rw [if_pos h0] at hc
        cases hc
        rw [h0]
        refine AX.catch (E := "java/lang/IndexOutOfBoundsException") [] _ [_] rfl (fun _ h => nomatch h) (by decide) (by decide) q1043 (List.mem_of_getElem? (i := 12) rfl) fun q9 => ?_
        refine AW.astore (L' := [some (.ref B), some (.int p1), some (.int p2), some (.ref (B + 139)), some (.ref q9)]) (am_r 8 rfl) rfl (Nat.le_of_ble_eq_true rfl) rfl ?_
        refine AW.iconst (am_r 9 rfl) rfl ci_1 ?_
        exact AW.iret (am_r 10 rfl) rfl hq
      by_cases h1 : e.1 = 2
      · rw [if_neg h0, if_pos h1] at hc
        cases hc
        rw [h1]
        refine AX.catch2 (E := "java/lang/IllegalArgumentException") (nm := "java/lang/IndexOutOfBoundsException") _ _ rfl (by decide) q1043 (fun _ h => SF.nc2 h) (by decide) (by decide) q1136 (List.mem_of_getElem? (i := 13) rfl) fun q9 => ?_
        refine AW.astore (L' := [some (.ref B), some (.int p1), some (.int p2), some (.ref (B + 139)), some (.ref q9)]) (am_r 11 rfl) rfl (Nat.le_of_ble_eq_true rfl) rfl ?_
        refine AW.iconst (am_r 12 rfl) rfl ci_2 ?_
        exact AW.iret (am_r 13 rfl) rfl hq
      rw [if_neg h0, if_neg h1] at hc
      cases hc
set_option maxRecDepth 100000 in
theorem hL_hoursAhead {g : AG} {h0 : AH} {B : Nat} {S : XT} {T : Mem} {o : Int64} {d : UInt64} {Q : AO → AH → Prop} {p1 : Int32} (hB : gB g ≤ B) (hst : Sta g h0) {r : Except Nat Int64 × XT} (hs : uP (sX9_hoursAhead S B p1) S = some r) (hl : lrw B r.2.2.2.1) (hok : ∀ v, r.1 = .ok v → Q (.ok (some (.int 0))) (LH h0 B r.2 T v d)) (hex : ∀ e, r.1 = .error e → ∃ c, co1 e = some c ∧ ∀ z, r.2.1.1 ≤ z → z ≤ r.2.1.1 + 1 → Q (.ok (some (.int c))) (LH h0 B (bump r.2 z) T o d)) : AW g ML_hoursAhead 0 [some (.ref B), some (.int p1), some (.ref (B + 139)), none] [] (LH h0 B S T o d) Q := by
  refine AW.aload_n (z := 2) (am_r 0 rfl) rfl rfl ?_
  refine AW.iconst (am_r 1 rfl) rfl ci_0 ?_
  refine AW.aload_n (z := 0) (am_r 2 rfl) rfl rfl ?_
  refine AW.iload_n (z := 1) (am_r 3 rfl) rfl rfl ?_
  refine AW.callV (N := MX9_hoursAhead) (As := [.int p1]) (S := [.int (0 : Int32), .ref (B + 139)]) (b := B) (am_r 4 rfl) rfl ovX9_hoursAhead q1263 rfl rfl LH_x rfl rfl rfl rfl ?_
  unfold uP at hs
  cases e1 : sX9_hoursAhead S B p1 with
  | none => rw [e1] at hs; cases hs
  | some r1 =>
    rw [e1] at hs
    refine dX9_hoursAhead hB (sta_lb hst hB) e1 ⟨fun v h1 => ?_, fun e h1 z z1 z2 => ?_⟩
    · subst h1
      cases hs
      have hq := hok _ rfl
      have hl2 := hl
      refine cQ_r ?_
      show AW g ML_hoursAhead 7 _ _ (LH h0 B S T o d) Q
      refine AW.i2l (am_r 5 rfl) rfl ?_
      refine AW.last (am_r 6 rfl) rfl (LH_o hl2) (Nat.le_trans hB (by omega)) (vp_of_inb rfl) ?_
      refine AW.heq (LH_po hl2) ?_
      refine AW.goto (tg := 15) (am_r 7 rfl) rfl ?_
      refine AW.iconst (am_r 11 rfl) rfl ci_0 ?_
      exact AW.iret (am_r 12 rfl) rfl hq
    · subst h1
      cases hs
      obtain ⟨c, hc, hq⟩ := hex _ rfl
      have hq := hq z z1 z2
      refine cQ_x ?_
      show AX g ML_hoursAhead 4 _ _ e (LH h0 B (bump S z) T o d) Q
      unfold co1 at hc
      by_cases h0 : e = 1
      · rw [if_pos h0] at hc
        cases hc
        rw [h0]
        refine AX.catch (E := "java/lang/IndexOutOfBoundsException") [] _ [] rfl (fun _ h => nomatch h) (by decide) (by decide) q1043 (List.mem_of_getElem? (i := 12) rfl) fun q9 => ?_
        refine AW.astore_n (L' := [some (.ref B), some (.int p1), some (.ref (B + 139)), some (.ref q9)]) (z := 3) (am_r 8 rfl) rfl (Nat.le_of_ble_eq_true rfl) rfl ?_
        refine AW.iconst (am_r 9 rfl) rfl ci_1 ?_
        exact AW.iret (am_r 10 rfl) rfl hq
      rw [if_neg h0] at hc
      cases hc
set_option maxRecDepth 100000 in
theorem hL_bill {g : AG} {h0 : AH} {B : Nat} {S : XT} {T : Mem} {o : Int64} {d : UInt64} {Q : AO → AH → Prop} {p1 : Int32} (hB : gB g ≤ B) (hst : Sta g h0) {r : Except Nat Int64 × XT} (hs : uP (sX9_bill S B p1) S = some r) (hl : lrw B r.2.2.2.1) (hok : ∀ v, r.1 = .ok v → Q (.ok (some (.int 0))) (LH h0 B r.2 T v d)) (hex : ∀ e, r.1 = .error e → ∃ c, co13 e = some c ∧ ∀ z, r.2.1.1 ≤ z → z ≤ r.2.1.1 + 1 → Q (.ok (some (.int c))) (LH h0 B (bump r.2 z) T o d)) : AW g ML_bill 0 [some (.ref B), some (.int p1), some (.ref (B + 139)), none] [] (LH h0 B S T o d) Q := by
  refine AW.aload_n (z := 2) (am_r 0 rfl) rfl rfl ?_
  refine AW.iconst (am_r 1 rfl) rfl ci_0 ?_
  refine AW.aload_n (z := 0) (am_r 2 rfl) rfl rfl ?_
  refine AW.iload_n (z := 1) (am_r 3 rfl) rfl rfl ?_
  refine AW.callV (N := MX9_bill) (As := [.int p1]) (S := [.int (0 : Int32), .ref (B + 139)]) (b := B) (am_r 4 rfl) rfl ovX9_bill q1284 rfl rfl LH_x rfl rfl rfl rfl ?_
  unfold uP at hs
  cases e1 : sX9_bill S B p1 with
  | none => rw [e1] at hs; cases hs
  | some r1 =>
    rw [e1] at hs
    refine dX9_bill hB (sta_lb hst hB) e1 ⟨fun v h1 => ?_, fun e h1 z z1 z2 => ?_⟩
    · subst h1
      cases hs
      have hq := hok _ rfl
      have hl2 := hl
      refine cQ_r ?_
      show AW g ML_bill 7 _ _ (LH h0 B S T o d) Q
      refine AW.i2l (am_r 5 rfl) rfl ?_
      refine AW.last (am_r 6 rfl) rfl (LH_o hl2) (Nat.le_trans hB (by omega)) (vp_of_inb rfl) ?_
      refine AW.heq (LH_po hl2) ?_
      refine AW.goto (tg := 18) (am_r 7 rfl) rfl ?_
      refine AW.iconst (am_r 14 rfl) rfl ci_0 ?_
      exact AW.iret (am_r 15 rfl) rfl hq
    · subst h1
      cases hs
      obtain ⟨c, hc, hq⟩ := hex _ rfl
      have hq := hq z z1 z2
      refine cQ_x ?_
      show AX g ML_bill 4 _ _ e (LH h0 B (bump S z) T o d) Q
      unfold co13 at hc
      by_cases h0 : e = 1
      · rw [if_pos h0] at hc
        cases hc
        rw [h0]
        refine AX.catch (E := "java/lang/IndexOutOfBoundsException") [] _ [_] rfl (fun _ h => nomatch h) (by decide) (by decide) q1043 (List.mem_of_getElem? (i := 12) rfl) fun q9 => ?_
        refine AW.astore_n (L' := [some (.ref B), some (.int p1), some (.ref (B + 139)), some (.ref q9)]) (z := 3) (am_r 8 rfl) rfl (Nat.le_of_ble_eq_true rfl) rfl ?_
        refine AW.iconst (am_r 9 rfl) rfl ci_1 ?_
        exact AW.iret (am_r 10 rfl) rfl hq
      by_cases h1 : e = 3
      · rw [if_neg h0, if_pos h1] at hc
        cases hc
        rw [h1]
        refine AX.catch2 (E := "java/lang/ArithmeticException") (nm := "java/lang/IndexOutOfBoundsException") _ _ rfl (by decide) q1043 (fun _ h => SF.nc3 h) (by decide) (by decide) q1270 (List.mem_of_getElem? (i := 14) rfl) fun q9 => ?_
        refine AW.astore_n (L' := [some (.ref B), some (.int p1), some (.ref (B + 139)), some (.ref q9)]) (z := 3) (am_r 11 rfl) rfl (Nat.le_of_ble_eq_true rfl) rfl ?_
        refine AW.iconst (am_r 12 rfl) rfl ci_2 ?_
        exact AW.iret (am_r 13 rfl) rfl hq
      rw [if_neg h0, if_neg h1] at hc
      cases hc
set_option maxRecDepth 100000 in
theorem hL_allBills {g : AG} {h0 : AH} {B : Nat} {S : XT} {T : Mem} {o : Int64} {d : UInt64} {Q : AO → AH → Prop} (hB : gB g ≤ B) (hst : Sta g h0) {r : Except Nat Int64 × XT} (hs : uP (sX9_allBills S B ) S = some r) (hl : lrw B r.2.2.2.1) (hok : ∀ v, r.1 = .ok v → Q (.ok (some (.int 0))) (LH h0 B r.2 T v d)) (hex : ∀ e, r.1 = .error e → ∃ c, co3 e = some c ∧ ∀ z, r.2.1.1 ≤ z → z ≤ r.2.1.1 + 1 → Q (.ok (some (.int c))) (LH h0 B (bump r.2 z) T o d)) : AW g ML_allBills 0 [some (.ref B), some (.ref (B + 139)), none] [] (LH h0 B S T o d) Q := by
  refine AW.aload_n (z := 1) (am_r 0 rfl) rfl rfl ?_
  refine AW.iconst (am_r 1 rfl) rfl ci_0 ?_
  refine AW.aload_n (z := 0) (am_r 2 rfl) rfl rfl ?_
  refine AW.callV (N := MX9_allBills) (As := []) (S := [.int (0 : Int32), .ref (B + 139)]) (b := B) (am_r 3 rfl) rfl ovX9_allBills q1298 rfl rfl LH_x rfl rfl rfl rfl ?_
  unfold uP at hs
  cases e1 : sX9_allBills S B  with
  | none => rw [e1] at hs; cases hs
  | some r1 =>
    rw [e1] at hs
    refine dX9_allBills hB (sta_lb hst hB) e1 ⟨fun v h1 => ?_, fun e h1 z z1 z2 => ?_⟩
    · subst h1
      cases hs
      have hq := hok _ rfl
      have hl2 := hl
      refine cQ_r ?_
      show AW g ML_allBills 6 _ _ (LH h0 B S T o d) Q
      refine AW.i2l (am_r 4 rfl) rfl ?_
      refine AW.last (am_r 5 rfl) rfl (LH_o hl2) (Nat.le_trans hB (by omega)) (vp_of_inb rfl) ?_
      refine AW.heq (LH_po hl2) ?_
      refine AW.goto (tg := 14) (am_r 6 rfl) rfl ?_
      refine AW.iconst (am_r 10 rfl) rfl ci_0 ?_
      exact AW.iret (am_r 11 rfl) rfl hq
    · subst h1
      cases hs
      obtain ⟨c, hc, hq⟩ := hex _ rfl
      have hq := hq z z1 z2
      refine cQ_x ?_
      show AX g ML_allBills 3 _ _ e (LH h0 B (bump S z) T o d) Q
      unfold co3 at hc
      by_cases h0 : e = 3
      · rw [if_pos h0] at hc
        cases hc
        rw [h0]
        refine AX.catch (E := "java/lang/ArithmeticException") [] _ [] rfl (fun _ h => nomatch h) (by decide) (by decide) q1270 (List.mem_of_getElem? (i := 14) rfl) fun q9 => ?_
        refine AW.astore_n (L' := [some (.ref B), some (.ref (B + 139)), some (.ref q9)]) (z := 2) (am_r 7 rfl) rfl (Nat.le_of_ble_eq_true rfl) rfl ?_
        refine AW.iconst (am_r 8 rfl) rfl ci_1 ?_
        exact AW.iret (am_r 9 rfl) rfl hq
      rw [if_neg h0] at hc
      cases hc
set_option maxRecDepth 100000 in
theorem hL_billAhead {g : AG} {h0 : AH} {B : Nat} {S : XT} {T : Mem} {o : Int64} {d : UInt64} {Q : AO → AH → Prop} {p1 : Int32} (hB : gB g ≤ B) (hst : Sta g h0) {r : Except Nat Int64 × XT} (hs : uP (sX9_billAhead S B p1) S = some r) (hl : lrw B r.2.2.2.1) (hok : ∀ v, r.1 = .ok v → Q (.ok (some (.int 0))) (LH h0 B r.2 T v d)) (hex : ∀ e, r.1 = .error e → ∃ c, co13 e = some c ∧ ∀ z, r.2.1.1 ≤ z → z ≤ r.2.1.1 + 1 → Q (.ok (some (.int c))) (LH h0 B (bump r.2 z) T o d)) : AW g ML_billAhead 0 [some (.ref B), some (.int p1), some (.ref (B + 139)), none] [] (LH h0 B S T o d) Q := by
  refine AW.aload_n (z := 2) (am_r 0 rfl) rfl rfl ?_
  refine AW.iconst (am_r 1 rfl) rfl ci_0 ?_
  refine AW.aload_n (z := 0) (am_r 2 rfl) rfl rfl ?_
  refine AW.iload_n (z := 1) (am_r 3 rfl) rfl rfl ?_
  refine AW.callV (N := MX9_billAhead) (As := [.int p1]) (S := [.int (0 : Int32), .ref (B + 139)]) (b := B) (am_r 4 rfl) rfl ovX9_billAhead q1305 rfl rfl LH_x rfl rfl rfl rfl ?_
  unfold uP at hs
  cases e1 : sX9_billAhead S B p1 with
  | none => rw [e1] at hs; cases hs
  | some r1 =>
    rw [e1] at hs
    refine dX9_billAhead hB (sta_lb hst hB) e1 ⟨fun v h1 => ?_, fun e h1 z z1 z2 => ?_⟩
    · subst h1
      cases hs
      have hq := hok _ rfl
      have hl2 := hl
      refine cQ_r ?_
      show AW g ML_billAhead 7 _ _ (LH h0 B S T o d) Q
      refine AW.i2l (am_r 5 rfl) rfl ?_
      refine AW.last (am_r 6 rfl) rfl (LH_o hl2) (Nat.le_trans hB (by omega)) (vp_of_inb rfl) ?_
      refine AW.heq (LH_po hl2) ?_
      refine AW.goto (tg := 18) (am_r 7 rfl) rfl ?_
      refine AW.iconst (am_r 14 rfl) rfl ci_0 ?_
      exact AW.iret (am_r 15 rfl) rfl hq
    · subst h1
      cases hs
      obtain ⟨c, hc, hq⟩ := hex _ rfl
      have hq := hq z z1 z2
      refine cQ_x ?_
      show AX g ML_billAhead 4 _ _ e (LH h0 B (bump S z) T o d) Q
      unfold co13 at hc
      by_cases h0 : e = 1
      · rw [if_pos h0] at hc
        cases hc
        rw [h0]
        refine AX.catch (E := "java/lang/IndexOutOfBoundsException") [] _ [_] rfl (fun _ h => nomatch h) (by decide) (by decide) q1043 (List.mem_of_getElem? (i := 12) rfl) fun q9 => ?_
        refine AW.astore_n (L' := [some (.ref B), some (.int p1), some (.ref (B + 139)), some (.ref q9)]) (z := 3) (am_r 8 rfl) rfl (Nat.le_of_ble_eq_true rfl) rfl ?_
        refine AW.iconst (am_r 9 rfl) rfl ci_1 ?_
        exact AW.iret (am_r 10 rfl) rfl hq
      by_cases h1 : e = 3
      · rw [if_neg h0, if_pos h1] at hc
        cases hc
        rw [h1]
        refine AX.catch2 (E := "java/lang/ArithmeticException") (nm := "java/lang/IndexOutOfBoundsException") _ _ rfl (by decide) q1043 (fun _ h => SF.nc3 h) (by decide) (by decide) q1270 (List.mem_of_getElem? (i := 14) rfl) fun q9 => ?_
        refine AW.astore_n (L' := [some (.ref B), some (.int p1), some (.ref (B + 139)), some (.ref q9)]) (z := 3) (am_r 11 rfl) rfl (Nat.le_of_ble_eq_true rfl) rfl ?_
        refine AW.iconst (am_r 12 rfl) rfl ci_2 ?_
        exact AW.iret (am_r 13 rfl) rfl hq
      rw [if_neg h0, if_neg h1] at hc
      cases hc
set_option maxRecDepth 100000 in
theorem hL_record {g : AG} {h0 : AH} {B : Nat} {S : XT} {T : Mem} {o : Int64} {d : UInt64} {Q : AO → AH → Prop} {p1 p2 : Int32} (hB : gB g ≤ B) (hst : Sta g h0) {r : Except Nat Int64 × XT} (hs : uP (sX9_record S B p1 p2) S = some r) (hl : lrw B r.2.2.2.1) (hok : ∀ v, r.1 = .ok v → Q (.ok (some (.int 0))) (LH h0 B r.2 T v d)) (hex : ∀ e, r.1 = .error e → ∃ c, co1 e = some c ∧ ∀ z, r.2.1.1 ≤ z → z ≤ r.2.1.1 + 1 → Q (.ok (some (.int c))) (LH h0 B (bump r.2 z) T o d)) : AW g ML_record 0 [some (.ref B), some (.int p1), some (.int p2), some (.ref (B + 139)), none] [] (LH h0 B S T o d) Q := by
  refine AW.aload_n (z := 3) (am_r 0 rfl) rfl rfl ?_
  refine AW.iconst (am_r 1 rfl) rfl ci_0 ?_
  refine AW.aload_n (z := 0) (am_r 2 rfl) rfl rfl ?_
  refine AW.iload_n (z := 1) (am_r 3 rfl) rfl rfl ?_
  refine AW.iload_n (z := 2) (am_r 4 rfl) rfl rfl ?_
  refine AW.callV (N := MX9_record) (As := [.int p1, .int p2]) (S := [.int (0 : Int32), .ref (B + 139)]) (b := B) (am_r 5 rfl) rfl ovX9_record q1313 rfl rfl LH_x rfl rfl rfl rfl ?_
  unfold uP at hs
  cases e1 : sX9_record S B p1 p2 with
  | none => rw [e1] at hs; cases hs
  | some r1 =>
    rw [e1] at hs
    refine dX9_record hB (sta_lb hst hB) e1 ⟨fun v h1 => ?_, fun e h1 z z1 z2 => ?_⟩
    · subst h1
      cases hs
      have hq := hok _ rfl
      have hl2 := hl
      refine cQ_r ?_
      show AW g ML_record 8 _ _ (LH h0 B S T o d) Q
      refine AW.i2l (am_r 6 rfl) rfl ?_
      refine AW.last (am_r 7 rfl) rfl (LH_o hl2) (Nat.le_trans hB (by omega)) (vp_of_inb rfl) ?_
      refine AW.heq (LH_po hl2) ?_
      refine AW.goto (tg := 17) (am_r 8 rfl) rfl ?_
      refine AW.iconst (am_r 12 rfl) rfl ci_0 ?_
      exact AW.iret (am_r 13 rfl) rfl hq
    · subst h1
      cases hs
      obtain ⟨c, hc, hq⟩ := hex _ rfl
      have hq := hq z z1 z2
      refine cQ_x ?_
      show AX g ML_record 5 _ _ e (LH h0 B (bump S z) T o d) Q
      unfold co1 at hc
      by_cases h0 : e = 1
      · rw [if_pos h0] at hc
        cases hc
        rw [h0]
        refine AX.catch (E := "java/lang/IndexOutOfBoundsException") [] _ [] rfl (fun _ h => nomatch h) (by decide) (by decide) q1043 (List.mem_of_getElem? (i := 12) rfl) fun q9 => ?_
        refine AW.astore (L' := [some (.ref B), some (.int p1), some (.int p2), some (.ref (B + 139)), some (.ref q9)]) (am_r 9 rfl) rfl (Nat.le_of_ble_eq_true rfl) rfl ?_
        refine AW.iconst (am_r 10 rfl) rfl ci_1 ?_
        exact AW.iret (am_r 11 rfl) rfl hq
      rw [if_neg h0] at hc
      cases hc
set_option maxRecDepth 100000 in
theorem hL_recordsOf {g : AG} {h0 : AH} {B : Nat} {S : XT} {T : Mem} {o : Int64} {d : UInt64} {Q : AO → AH → Prop} {p1 p2 : Int32} (hB : gB g ≤ B) (hst : Sta g h0) {r : Except Nat Int64 × XT} (hs : uP (sX9_recordsOf S B p1 p2) S = some r) (hl : lrw B r.2.2.2.1) (hok : ∀ v, r.1 = .ok v → Q (.ok (some (.int 0))) (LH h0 B r.2 T v d)) (hex : ∀ e, r.1 = .error e → ∃ c, co12 e = some c ∧ ∀ z, r.2.1.1 ≤ z → z ≤ r.2.1.1 + 1 → Q (.ok (some (.int c))) (LH h0 B (bump r.2 z) T o d)) : AW g ML_recordsOf 0 [some (.ref B), some (.int p1), some (.int p2), some (.ref (B + 139)), none] [] (LH h0 B S T o d) Q := by
  refine AW.aload_n (z := 3) (am_r 0 rfl) rfl rfl ?_
  refine AW.iconst (am_r 1 rfl) rfl ci_0 ?_
  refine AW.aload_n (z := 0) (am_r 2 rfl) rfl rfl ?_
  refine AW.iload_n (z := 1) (am_r 3 rfl) rfl rfl ?_
  refine AW.iload_n (z := 2) (am_r 4 rfl) rfl rfl ?_
  refine AW.callV (N := MX9_recordsOf) (As := [.int p1, .int p2]) (S := [.int (0 : Int32), .ref (B + 139)]) (b := B) (am_r 5 rfl) rfl ovX9_recordsOf q1324 rfl rfl LH_x rfl rfl rfl rfl ?_
  unfold uP at hs
  cases e1 : sX9_recordsOf S B p1 p2 with
  | none => rw [e1] at hs; cases hs
  | some r1 =>
    rw [e1] at hs
    refine dX9_recordsOf hB (sta_lb hst hB) e1 ⟨fun v h1 => ?_, fun e h1 z z1 z2 => ?_⟩
    · subst h1
      cases hs
      have hq := hok _ rfl
      have hl2 := hl
      refine cQ_r ?_
      show AW g ML_recordsOf 8 _ _ (LH h0 B S T o d) Q
      refine AW.i2l (am_r 6 rfl) rfl ?_
      refine AW.last (am_r 7 rfl) rfl (LH_o hl2) (Nat.le_trans hB (by omega)) (vp_of_inb rfl) ?_
      refine AW.heq (LH_po hl2) ?_
      refine AW.goto (tg := 21) (am_r 8 rfl) rfl ?_
      refine AW.iconst (am_r 15 rfl) rfl ci_0 ?_
      exact AW.iret (am_r 16 rfl) rfl hq
    · subst h1
      cases hs
      obtain ⟨c, hc, hq⟩ := hex _ rfl
      have hq := hq z z1 z2
      refine cQ_x ?_
      show AX g ML_recordsOf 5 _ _ e (LH h0 B (bump S z) T o d) Q
      unfold co12 at hc
      by_cases h0 : e = 1
      · rw [if_pos h0] at hc
        cases hc
        rw [h0]
        refine AX.catch (E := "java/lang/IndexOutOfBoundsException") [] _ [_] rfl (fun _ h => nomatch h) (by decide) (by decide) q1043 (List.mem_of_getElem? (i := 12) rfl) fun q9 => ?_
        refine AW.astore (L' := [some (.ref B), some (.int p1), some (.int p2), some (.ref (B + 139)), some (.ref q9)]) (am_r 9 rfl) rfl (Nat.le_of_ble_eq_true rfl) rfl ?_
        refine AW.iconst (am_r 10 rfl) rfl ci_1 ?_
        exact AW.iret (am_r 11 rfl) rfl hq
      by_cases h1 : e = 2
      · rw [if_neg h0, if_pos h1] at hc
        cases hc
        rw [h1]
        refine AX.catch2 (E := "java/lang/IllegalArgumentException") (nm := "java/lang/IndexOutOfBoundsException") _ _ rfl (by decide) q1043 (fun _ h => SF.nc2 h) (by decide) (by decide) q1136 (List.mem_of_getElem? (i := 13) rfl) fun q9 => ?_
        refine AW.astore (L' := [some (.ref B), some (.int p1), some (.int p2), some (.ref (B + 139)), some (.ref q9)]) (am_r 12 rfl) rfl (Nat.le_of_ble_eq_true rfl) rfl ?_
        refine AW.iconst (am_r 13 rfl) rfl ci_2 ?_
        exact AW.iret (am_r 14 rfl) rfl hq
      rw [if_neg h0, if_neg h1] at hc
      cases hc
set_option maxRecDepth 100000 in
theorem hL_latestRecord {g : AG} {h0 : AH} {B : Nat} {S : XT} {T : Mem} {o : Int64} {d : UInt64} {Q : AO → AH → Prop} {p1 : Int32} (hB : gB g ≤ B) (hst : Sta g h0) {r : Except Nat Int64 × XT} (hs : uP (sX9_latestRecord S B p1) S = some r) (hl : lrw B r.2.2.2.1) (hok : ∀ v, r.1 = .ok v → Q (.ok (some (.int 0))) (LH h0 B r.2 T v d)) (hex : ∀ e, r.1 = .error e → ∃ c, co1 e = some c ∧ ∀ z, r.2.1.1 ≤ z → z ≤ r.2.1.1 + 1 → Q (.ok (some (.int c))) (LH h0 B (bump r.2 z) T o d)) : AW g ML_latestRecord 0 [some (.ref B), some (.int p1), some (.ref (B + 139)), none] [] (LH h0 B S T o d) Q := by
  refine AW.aload_n (z := 2) (am_r 0 rfl) rfl rfl ?_
  refine AW.iconst (am_r 1 rfl) rfl ci_0 ?_
  refine AW.aload_n (z := 0) (am_r 2 rfl) rfl rfl ?_
  refine AW.iload_n (z := 1) (am_r 3 rfl) rfl rfl ?_
  refine AW.callV (N := MX9_latestRecord) (As := [.int p1]) (S := [.int (0 : Int32), .ref (B + 139)]) (b := B) (am_r 4 rfl) rfl ovX9_latestRecord q1340 rfl rfl LH_x rfl rfl rfl rfl ?_
  unfold uP at hs
  cases e1 : sX9_latestRecord S B p1 with
  | none => rw [e1] at hs; cases hs
  | some r1 =>
    rw [e1] at hs
    refine dX9_latestRecord hB (sta_lb hst hB) e1 ⟨fun v h1 => ?_, fun e h1 z z1 z2 => ?_⟩
    · subst h1
      cases hs
      have hq := hok _ rfl
      have hl2 := hl
      refine cQ_r ?_
      show AW g ML_latestRecord 7 _ _ (LH h0 B S T o d) Q
      refine AW.i2l (am_r 5 rfl) rfl ?_
      refine AW.last (am_r 6 rfl) rfl (LH_o hl2) (Nat.le_trans hB (by omega)) (vp_of_inb rfl) ?_
      refine AW.heq (LH_po hl2) ?_
      refine AW.goto (tg := 15) (am_r 7 rfl) rfl ?_
      refine AW.iconst (am_r 11 rfl) rfl ci_0 ?_
      exact AW.iret (am_r 12 rfl) rfl hq
    · subst h1
      cases hs
      obtain ⟨c, hc, hq⟩ := hex _ rfl
      have hq := hq z z1 z2
      refine cQ_x ?_
      show AX g ML_latestRecord 4 _ _ e (LH h0 B (bump S z) T o d) Q
      unfold co1 at hc
      by_cases h0 : e = 1
      · rw [if_pos h0] at hc
        cases hc
        rw [h0]
        refine AX.catch (E := "java/lang/IndexOutOfBoundsException") [] _ [] rfl (fun _ h => nomatch h) (by decide) (by decide) q1043 (List.mem_of_getElem? (i := 12) rfl) fun q9 => ?_
        refine AW.astore_n (L' := [some (.ref B), some (.int p1), some (.ref (B + 139)), some (.ref q9)]) (z := 3) (am_r 8 rfl) rfl (Nat.le_of_ble_eq_true rfl) rfl ?_
        refine AW.iconst (am_r 9 rfl) rfl ci_1 ?_
        exact AW.iret (am_r 10 rfl) rfl hq
      rw [if_neg h0] at hc
      cases hc
set_option maxRecDepth 100000 in
theorem hL_lost {g : AG} {h0 : AH} {B : Nat} {S : XT} {T : Mem} {o : Int64} {d : UInt64} {Q : AO → AH → Prop} {p1 : Int32} (hB : gB g ≤ B) (hst : Sta g h0) {r : Except Nat Int64 × XT} (hs : uP (sX9_lost S B p1) S = some r) (hl : lrw B r.2.2.2.1) (hok : ∀ v, r.1 = .ok v → Q (.ok (some (.int 0))) (LH h0 B r.2 T v d)) (hex : ∀ e, r.1 = .error e → ∃ c, co1 e = some c ∧ ∀ z, r.2.1.1 ≤ z → z ≤ r.2.1.1 + 1 → Q (.ok (some (.int c))) (LH h0 B (bump r.2 z) T o d)) : AW g ML_lost 0 [some (.ref B), some (.int p1), some (.ref (B + 139)), none] [] (LH h0 B S T o d) Q := by
  refine AW.aload_n (z := 2) (am_r 0 rfl) rfl rfl ?_
  refine AW.iconst (am_r 1 rfl) rfl ci_0 ?_
  refine AW.aload_n (z := 0) (am_r 2 rfl) rfl rfl ?_
  refine AW.iload_n (z := 1) (am_r 3 rfl) rfl rfl ?_
  refine AW.callV (N := MX9_lost) (As := [.int p1]) (S := [.int (0 : Int32), .ref (B + 139)]) (b := B) (am_r 4 rfl) rfl ovX9_lost q1347 rfl rfl LH_x rfl rfl rfl rfl ?_
  unfold uP at hs
  cases e1 : sX9_lost S B p1 with
  | none => rw [e1] at hs; cases hs
  | some r1 =>
    rw [e1] at hs
    refine dX9_lost hB (sta_lb hst hB) e1 ⟨fun v h1 => ?_, fun e h1 z z1 z2 => ?_⟩
    · subst h1
      cases hs
      have hq := hok _ rfl
      have hl2 := hl
      refine cQ_r ?_
      show AW g ML_lost 7 _ _ (LH h0 B S T o d) Q
      refine AW.i2l (am_r 5 rfl) rfl ?_
      refine AW.last (am_r 6 rfl) rfl (LH_o hl2) (Nat.le_trans hB (by omega)) (vp_of_inb rfl) ?_
      refine AW.heq (LH_po hl2) ?_
      refine AW.goto (tg := 15) (am_r 7 rfl) rfl ?_
      refine AW.iconst (am_r 11 rfl) rfl ci_0 ?_
      exact AW.iret (am_r 12 rfl) rfl hq
    · subst h1
      cases hs
      obtain ⟨c, hc, hq⟩ := hex _ rfl
      have hq := hq z z1 z2
      refine cQ_x ?_
      show AX g ML_lost 4 _ _ e (LH h0 B (bump S z) T o d) Q
      unfold co1 at hc
      by_cases h0 : e = 1
      · rw [if_pos h0] at hc
        cases hc
        rw [h0]
        refine AX.catch (E := "java/lang/IndexOutOfBoundsException") [] _ [] rfl (fun _ h => nomatch h) (by decide) (by decide) q1043 (List.mem_of_getElem? (i := 12) rfl) fun q9 => ?_
        refine AW.astore_n (L' := [some (.ref B), some (.int p1), some (.ref (B + 139)), some (.ref q9)]) (z := 3) (am_r 8 rfl) rfl (Nat.le_of_ble_eq_true rfl) rfl ?_
        refine AW.iconst (am_r 9 rfl) rfl ci_1 ?_
        exact AW.iret (am_r 10 rfl) rfl hq
      rw [if_neg h0] at hc
      cases hc
set_option maxRecDepth 100000 in
theorem hL_recorded {g : AG} {h0 : AH} {B : Nat} {S : XT} {T : Mem} {o : Int64} {d : UInt64} {Q : AO → AH → Prop} {p1 : Int32} (hB : gB g ≤ B) (hst : Sta g h0) {r : Except Nat Int64 × XT} (hs : uP (sX9_recorded S B p1) S = some r) (hl : lrw B r.2.2.2.1) (hok : ∀ v, r.1 = .ok v → Q (.ok (some (.int 0))) (LH h0 B r.2 T v d)) (hex : ∀ e, r.1 = .error e → ∃ c, co1 e = some c ∧ ∀ z, r.2.1.1 ≤ z → z ≤ r.2.1.1 + 1 → Q (.ok (some (.int c))) (LH h0 B (bump r.2 z) T o d)) : AW g ML_recorded 0 [some (.ref B), some (.int p1), some (.ref (B + 139)), none] [] (LH h0 B S T o d) Q := by
  refine AW.aload_n (z := 2) (am_r 0 rfl) rfl rfl ?_
  refine AW.iconst (am_r 1 rfl) rfl ci_0 ?_
  refine AW.aload_n (z := 0) (am_r 2 rfl) rfl rfl ?_
  refine AW.iload_n (z := 1) (am_r 3 rfl) rfl rfl ?_
  refine AW.callV (N := MX9_recorded) (As := [.int p1]) (S := [.int (0 : Int32), .ref (B + 139)]) (b := B) (am_r 4 rfl) rfl ovX9_recorded q1358 rfl rfl LH_x rfl rfl rfl rfl ?_
  unfold uP at hs
  cases e1 : sX9_recorded S B p1 with
  | none => rw [e1] at hs; cases hs
  | some r1 =>
    rw [e1] at hs
    refine dX9_recorded hB (sta_lb hst hB) e1 ⟨fun v h1 => ?_, fun e h1 z z1 z2 => ?_⟩
    · subst h1
      cases hs
      have hq := hok _ rfl
      have hl2 := hl
      refine cQ_r ?_
      show AW g ML_recorded 7 _ _ (LH h0 B S T o d) Q
      refine AW.i2l (am_r 5 rfl) rfl ?_
      refine AW.last (am_r 6 rfl) rfl (LH_o hl2) (Nat.le_trans hB (by omega)) (vp_of_inb rfl) ?_
      refine AW.heq (LH_po hl2) ?_
      refine AW.goto (tg := 15) (am_r 7 rfl) rfl ?_
      refine AW.iconst (am_r 11 rfl) rfl ci_0 ?_
      exact AW.iret (am_r 12 rfl) rfl hq
    · subst h1
      cases hs
      obtain ⟨c, hc, hq⟩ := hex _ rfl
      have hq := hq z z1 z2
      refine cQ_x ?_
      show AX g ML_recorded 4 _ _ e (LH h0 B (bump S z) T o d) Q
      unfold co1 at hc
      by_cases h0 : e = 1
      · rw [if_pos h0] at hc
        cases hc
        rw [h0]
        refine AX.catch (E := "java/lang/IndexOutOfBoundsException") [] _ [] rfl (fun _ h => nomatch h) (by decide) (by decide) q1043 (List.mem_of_getElem? (i := 12) rfl) fun q9 => ?_
        refine AW.astore_n (L' := [some (.ref B), some (.int p1), some (.ref (B + 139)), some (.ref q9)]) (z := 3) (am_r 8 rfl) rfl (Nat.le_of_ble_eq_true rfl) rfl ?_
        refine AW.iconst (am_r 9 rfl) rfl ci_1 ?_
        exact AW.iret (am_r 10 rfl) rfl hq
      rw [if_neg h0] at hc
      cases hc
set_option maxRecDepth 100000 in
theorem hL_readyAt {g : AG} {h0 : AH} {B : Nat} {S : XT} {T : Mem} {o : Int64} {d : UInt64} {Q : AO → AH → Prop} {p1 p2 : Int32} (hB : gB g ≤ B) (hst : Sta g h0) {r : Except Nat Int64 × XT} (hs : uW (sX9_readyAt S B p1 p2) = some r) (hl : lrw B r.2.2.2.1) (hok : ∀ v, r.1 = .ok v → Q (.ok (some (.int 0))) (LH h0 B r.2 T v d)) (hex : ∀ e, r.1 = .error e → ∃ c, co12 e = some c ∧ ∀ z, r.2.1.1 ≤ z → z ≤ r.2.1.1 + 1 → Q (.ok (some (.int c))) (LH h0 B (bump r.2 z) T o d)) : AW g ML_readyAt 0 [some (.ref B), some (.int p1), some (.int p2), some (.ref (B + 139)), none] [] (LH h0 B S T o d) Q := by
  refine AW.aload_n (z := 3) (am_r 0 rfl) rfl rfl ?_
  refine AW.iconst (am_r 1 rfl) rfl ci_0 ?_
  refine AW.aload_n (z := 0) (am_r 2 rfl) rfl rfl ?_
  refine AW.iload_n (z := 1) (am_r 3 rfl) rfl rfl ?_
  refine AW.iload_n (z := 2) (am_r 4 rfl) rfl rfl ?_
  refine AW.callV (N := MX9_readyAt) (As := [.int p1, .int p2]) (S := [.int (0 : Int32), .ref (B + 139)]) (b := B) (am_r 5 rfl) rfl ovX9_readyAt q1365 rfl rfl LH_x rfl rfl rfl rfl ?_
  unfold uW at hs
  cases e1 : sX9_readyAt S B p1 p2 with
  | none => rw [e1] at hs; cases hs
  | some r1 =>
    rw [e1] at hs
    refine dX9_readyAt hB (sta_lb hst hB) e1 ⟨fun v h1 => ?_, fun e h1 z z1 z2 => ?_⟩
    · subst h1
      cases hs
      have hq := hok _ rfl
      have hl2 := hl
      refine cQ_r ?_
      show AW g ML_readyAt 8 _ _ (LH h0 B v.2 T o d) Q
      refine AW.i2l (am_r 6 rfl) rfl ?_
      refine AW.last (am_r 7 rfl) rfl (LH_o hl2) (Nat.le_trans hB (by omega)) (vp_of_inb rfl) ?_
      refine AW.heq (LH_po hl2) ?_
      refine AW.goto (tg := 21) (am_r 8 rfl) rfl ?_
      refine AW.iconst (am_r 15 rfl) rfl ci_0 ?_
      exact AW.iret (am_r 16 rfl) rfl hq
    · subst h1
      cases hs
      obtain ⟨c, hc, hq⟩ := hex _ rfl
      have hq := hq z z1 z2
      refine cQ_x ?_
      show AX g ML_readyAt 5 _ _ e.1 (LH h0 B (bump e.2 z) T o d) Q
      unfold co12 at hc
      by_cases h0 : e.1 = 1
      · rw [if_pos h0] at hc
        cases hc
        rw [h0]
        refine AX.catch (E := "java/lang/IndexOutOfBoundsException") [] _ [_] rfl (fun _ h => nomatch h) (by decide) (by decide) q1043 (List.mem_of_getElem? (i := 12) rfl) fun q9 => ?_
        refine AW.astore (L' := [some (.ref B), some (.int p1), some (.int p2), some (.ref (B + 139)), some (.ref q9)]) (am_r 9 rfl) rfl (Nat.le_of_ble_eq_true rfl) rfl ?_
        refine AW.iconst (am_r 10 rfl) rfl ci_1 ?_
        exact AW.iret (am_r 11 rfl) rfl hq
      by_cases h1 : e.1 = 2
      · rw [if_neg h0, if_pos h1] at hc
        cases hc
        rw [h1]
        refine AX.catch2 (E := "java/lang/IllegalArgumentException") (nm := "java/lang/IndexOutOfBoundsException") _ _ rfl (by decide) q1043 (fun _ h => SF.nc2 h) (by decide) (by decide) q1136 (List.mem_of_getElem? (i := 13) rfl) fun q9 => ?_
        refine AW.astore (L' := [some (.ref B), some (.int p1), some (.int p2), some (.ref (B + 139)), some (.ref q9)]) (am_r 12 rfl) rfl (Nat.le_of_ble_eq_true rfl) rfl ?_
        refine AW.iconst (am_r 13 rfl) rfl ci_2 ?_
        exact AW.iret (am_r 14 rfl) rfl hq
      rw [if_neg h0, if_neg h1] at hc
      cases hc
set_option maxRecDepth 100000 in
theorem hL_scoreIn {g : AG} {h0 : AH} {B : Nat} {S : XT} {T : Mem} {o : Int64} {d : UInt64} {Q : AO → AH → Prop} {p1 p2 : Int32} (hB : gB g ≤ B) (hst : Sta g h0) {r : Except Nat Int64 × XT} (hs : uW (sX9_scoreIn S B p1 p2) = some r) (hl : lrw B r.2.2.2.1) (hok : ∀ v, r.1 = .ok v → Q (.ok (some (.int 0))) (LH h0 B r.2 T v d)) (hex : ∀ e, r.1 = .error e → ∃ c, co12 e = some c ∧ ∀ z, r.2.1.1 ≤ z → z ≤ r.2.1.1 + 1 → Q (.ok (some (.int c))) (LH h0 B (bump r.2 z) T o d)) : AW g ML_scoreIn 0 [some (.ref B), some (.int p1), some (.int p2), some (.ref (B + 139)), none] [] (LH h0 B S T o d) Q := by
  refine AW.aload_n (z := 3) (am_r 0 rfl) rfl rfl ?_
  refine AW.iconst (am_r 1 rfl) rfl ci_0 ?_
  refine AW.aload_n (z := 0) (am_r 2 rfl) rfl rfl ?_
  refine AW.iload_n (z := 1) (am_r 3 rfl) rfl rfl ?_
  refine AW.iload_n (z := 2) (am_r 4 rfl) rfl rfl ?_
  refine AW.callV (N := MX9_scoreIn) (As := [.int p1, .int p2]) (S := [.int (0 : Int32), .ref (B + 139)]) (b := B) (am_r 5 rfl) rfl ovX9_scoreIn q1376 rfl rfl LH_x rfl rfl rfl rfl ?_
  unfold uW at hs
  cases e1 : sX9_scoreIn S B p1 p2 with
  | none => rw [e1] at hs; cases hs
  | some r1 =>
    rw [e1] at hs
    refine dX9_scoreIn hB (sta_lb hst hB) e1 ⟨fun v h1 => ?_, fun e h1 z z1 z2 => ?_⟩
    · subst h1
      cases hs
      have hq := hok _ rfl
      have hl2 := hl
      refine cQ_r ?_
      show AW g ML_scoreIn 8 _ _ (LH h0 B v.2 T o d) Q
      refine AW.i2l (am_r 6 rfl) rfl ?_
      refine AW.last (am_r 7 rfl) rfl (LH_o hl2) (Nat.le_trans hB (by omega)) (vp_of_inb rfl) ?_
      refine AW.heq (LH_po hl2) ?_
      refine AW.goto (tg := 21) (am_r 8 rfl) rfl ?_
      refine AW.iconst (am_r 15 rfl) rfl ci_0 ?_
      exact AW.iret (am_r 16 rfl) rfl hq
    · subst h1
      cases hs
      obtain ⟨c, hc, hq⟩ := hex _ rfl
      have hq := hq z z1 z2
      refine cQ_x ?_
      show AX g ML_scoreIn 5 _ _ e.1 (LH h0 B (bump e.2 z) T o d) Q
      unfold co12 at hc
      by_cases h0 : e.1 = 1
      · rw [if_pos h0] at hc
        cases hc
        rw [h0]
        refine AX.catch (E := "java/lang/IndexOutOfBoundsException") [] _ [_] rfl (fun _ h => nomatch h) (by decide) (by decide) q1043 (List.mem_of_getElem? (i := 12) rfl) fun q9 => ?_
        refine AW.astore (L' := [some (.ref B), some (.int p1), some (.int p2), some (.ref (B + 139)), some (.ref q9)]) (am_r 9 rfl) rfl (Nat.le_of_ble_eq_true rfl) rfl ?_
        refine AW.iconst (am_r 10 rfl) rfl ci_1 ?_
        exact AW.iret (am_r 11 rfl) rfl hq
      by_cases h1 : e.1 = 2
      · rw [if_neg h0, if_pos h1] at hc
        cases hc
        rw [h1]
        refine AX.catch2 (E := "java/lang/IllegalArgumentException") (nm := "java/lang/IndexOutOfBoundsException") _ _ rfl (by decide) q1043 (fun _ h => SF.nc2 h) (by decide) (by decide) q1136 (List.mem_of_getElem? (i := 13) rfl) fun q9 => ?_
        refine AW.astore (L' := [some (.ref B), some (.int p1), some (.int p2), some (.ref (B + 139)), some (.ref q9)]) (am_r 12 rfl) rfl (Nat.le_of_ble_eq_true rfl) rfl ?_
        refine AW.iconst (am_r 13 rfl) rfl ci_2 ?_
        exact AW.iret (am_r 14 rfl) rfl hq
      rw [if_neg h0, if_neg h1] at hc
      cases hc
set_option maxRecDepth 100000 in
theorem hL_lentIn {g : AG} {h0 : AH} {B : Nat} {S : XT} {T : Mem} {o : Int64} {d : UInt64} {Q : AO → AH → Prop} {p1 : Int32} (hB : gB g ≤ B) (hst : Sta g h0) {r : Except Nat Int64 × XT} (hs : uW (sX9_lentIn S B p1) = some r) (hl : lrw B r.2.2.2.1) (hok : ∀ v, r.1 = .ok v → Q (.ok (some (.int 0))) (LH h0 B r.2 T v d)) (hex : ∀ e, r.1 = .error e → ∃ c, co2 e = some c ∧ ∀ z, r.2.1.1 ≤ z → z ≤ r.2.1.1 + 1 → Q (.ok (some (.int c))) (LH h0 B (bump r.2 z) T o d)) : AW g ML_lentIn 0 [some (.ref B), some (.int p1), some (.ref (B + 139)), none] [] (LH h0 B S T o d) Q := by
  refine AW.aload_n (z := 2) (am_r 0 rfl) rfl rfl ?_
  refine AW.iconst (am_r 1 rfl) rfl ci_0 ?_
  refine AW.aload_n (z := 0) (am_r 2 rfl) rfl rfl ?_
  refine AW.iload_n (z := 1) (am_r 3 rfl) rfl rfl ?_
  refine AW.callV (N := MX9_lentIn) (As := [.int p1]) (S := [.int (0 : Int32), .ref (B + 139)]) (b := B) (am_r 4 rfl) rfl ovX9_lentIn q1383 rfl rfl LH_x rfl rfl rfl rfl ?_
  unfold uW at hs
  cases e1 : sX9_lentIn S B p1 with
  | none => rw [e1] at hs; cases hs
  | some r1 =>
    rw [e1] at hs
    refine dX9_lentIn hB (sta_lb hst hB) e1 ⟨fun v h1 => ?_, fun e h1 z z1 z2 => ?_⟩
    · subst h1
      cases hs
      have hq := hok _ rfl
      have hl2 := hl
      refine cQ_r ?_
      show AW g ML_lentIn 7 _ _ (LH h0 B v.2 T o d) Q
      refine AW.i2l (am_r 5 rfl) rfl ?_
      refine AW.last (am_r 6 rfl) rfl (LH_o hl2) (Nat.le_trans hB (by omega)) (vp_of_inb rfl) ?_
      refine AW.heq (LH_po hl2) ?_
      refine AW.goto (tg := 15) (am_r 7 rfl) rfl ?_
      refine AW.iconst (am_r 11 rfl) rfl ci_0 ?_
      exact AW.iret (am_r 12 rfl) rfl hq
    · subst h1
      cases hs
      obtain ⟨c, hc, hq⟩ := hex _ rfl
      have hq := hq z z1 z2
      refine cQ_x ?_
      show AX g ML_lentIn 4 _ _ e.1 (LH h0 B (bump e.2 z) T o d) Q
      unfold co2 at hc
      by_cases h0 : e.1 = 2
      · rw [if_pos h0] at hc
        cases hc
        rw [h0]
        refine AX.catch (E := "java/lang/IllegalArgumentException") [] _ [] rfl (fun _ h => nomatch h) (by decide) (by decide) q1136 (List.mem_of_getElem? (i := 13) rfl) fun q9 => ?_
        refine AW.astore_n (L' := [some (.ref B), some (.int p1), some (.ref (B + 139)), some (.ref q9)]) (z := 3) (am_r 8 rfl) rfl (Nat.le_of_ble_eq_true rfl) rfl ?_
        refine AW.iconst (am_r 9 rfl) rfl ci_1 ?_
        exact AW.iret (am_r 10 rfl) rfl hq
      rw [if_neg h0] at hc
      cases hc
set_option maxRecDepth 100000 in
theorem hL_bestBenches {g : AG} {h0 : AH} {B : Nat} {S : XT} {T : Mem} {o : Int64} {d : UInt64} {Q : AO → AH → Prop} {p1 : Int32} (hB : gB g ≤ B) (hst : Sta g h0) {r : Except Nat Int64 × XT} (hs : uW (sX9_bestBenches S B p1) = some r) (hl : lrw B r.2.2.2.1) (hok : ∀ v, r.1 = .ok v → Q (.ok (some (.int 0))) (LH h0 B r.2 T v d)) (hex : ∀ e, r.1 = .error e → ∃ c, co2 e = some c ∧ ∀ z, r.2.1.1 ≤ z → z ≤ r.2.1.1 + 1 → Q (.ok (some (.int c))) (LH h0 B (bump r.2 z) T o d)) : AW g ML_bestBenches 0 [some (.ref B), some (.int p1), some (.ref (B + 139)), none] [] (LH h0 B S T o d) Q := by
  refine AW.aload_n (z := 2) (am_r 0 rfl) rfl rfl ?_
  refine AW.iconst (am_r 1 rfl) rfl ci_0 ?_
  refine AW.aload_n (z := 0) (am_r 2 rfl) rfl rfl ?_
  refine AW.iload_n (z := 1) (am_r 3 rfl) rfl rfl ?_
  refine AW.callV (N := MX9_bestBenches) (As := [.int p1]) (S := [.int (0 : Int32), .ref (B + 139)]) (b := B) (am_r 4 rfl) rfl ovX9_bestBenches q1394 rfl rfl LH_x rfl rfl rfl rfl ?_
  unfold uW at hs
  cases e1 : sX9_bestBenches S B p1 with
  | none => rw [e1] at hs; cases hs
  | some r1 =>
    rw [e1] at hs
    refine dX9_bestBenches hB (sta_lb hst hB) e1 ⟨fun v h1 => ?_, fun e h1 z z1 z2 => ?_⟩
    · subst h1
      cases hs
      have hq := hok _ rfl
      have hl2 := hl
      refine cQ_r ?_
      show AW g ML_bestBenches 7 _ _ (LH h0 B v.2 T o d) Q
      refine AW.i2l (am_r 5 rfl) rfl ?_
      refine AW.last (am_r 6 rfl) rfl (LH_o hl2) (Nat.le_trans hB (by omega)) (vp_of_inb rfl) ?_
      refine AW.heq (LH_po hl2) ?_
      refine AW.goto (tg := 15) (am_r 7 rfl) rfl ?_
      refine AW.iconst (am_r 11 rfl) rfl ci_0 ?_
      exact AW.iret (am_r 12 rfl) rfl hq
    · subst h1
      cases hs
      obtain ⟨c, hc, hq⟩ := hex _ rfl
      have hq := hq z z1 z2
      refine cQ_x ?_
      show AX g ML_bestBenches 4 _ _ e.1 (LH h0 B (bump e.2 z) T o d) Q
      unfold co2 at hc
      by_cases h0 : e.1 = 2
      · rw [if_pos h0] at hc
        cases hc
        rw [h0]
        refine AX.catch (E := "java/lang/IllegalArgumentException") [] _ [] rfl (fun _ h => nomatch h) (by decide) (by decide) q1136 (List.mem_of_getElem? (i := 13) rfl) fun q9 => ?_
        refine AW.astore_n (L' := [some (.ref B), some (.int p1), some (.ref (B + 139)), some (.ref q9)]) (z := 3) (am_r 8 rfl) rfl (Nat.le_of_ble_eq_true rfl) rfl ?_
        refine AW.iconst (am_r 9 rfl) rfl ci_1 ?_
        exact AW.iret (am_r 10 rfl) rfl hq
      rw [if_neg h0] at hc
      cases hc
set_option maxRecDepth 100000 in
theorem hL_quietAt {g : AG} {h0 : AH} {B : Nat} {S : XT} {T : Mem} {o : Int64} {d : UInt64} {Q : AO → AH → Prop} {p1 : Int32} (hB : gB g ≤ B) (hst : Sta g h0) {r : Except Nat Int64 × XT} (hs : uW (sX9_quietAt S B p1) = some r) (hl : lrw B r.2.2.2.1) (hok : ∀ v, r.1 = .ok v → Q (.ok (some (.int 0))) (LH h0 B r.2 T v d)) (hex : ∀ e, r.1 = .error e → ∃ c, co2 e = some c ∧ ∀ z, r.2.1.1 ≤ z → z ≤ r.2.1.1 + 1 → Q (.ok (some (.int c))) (LH h0 B (bump r.2 z) T o d)) : AW g ML_quietAt 0 [some (.ref B), some (.int p1), some (.ref (B + 139)), none] [] (LH h0 B S T o d) Q := by
  refine AW.aload_n (z := 2) (am_r 0 rfl) rfl rfl ?_
  refine AW.iconst (am_r 1 rfl) rfl ci_0 ?_
  refine AW.aload_n (z := 0) (am_r 2 rfl) rfl rfl ?_
  refine AW.iload_n (z := 1) (am_r 3 rfl) rfl rfl ?_
  refine AW.callV (N := MX9_quietAt) (As := [.int p1]) (S := [.int (0 : Int32), .ref (B + 139)]) (b := B) (am_r 4 rfl) rfl ovX9_quietAt q1401 rfl rfl LH_x rfl rfl rfl rfl ?_
  unfold uW at hs
  cases e1 : sX9_quietAt S B p1 with
  | none => rw [e1] at hs; cases hs
  | some r1 =>
    rw [e1] at hs
    refine dX9_quietAt hB (sta_lb hst hB) e1 ⟨fun v h1 => ?_, fun e h1 z z1 z2 => ?_⟩
    · subst h1
      cases hs
      have hq := hok _ rfl
      have hl2 := hl
      refine cQ_r ?_
      show AW g ML_quietAt 7 _ _ (LH h0 B v.2 T o d) Q
      refine AW.i2l (am_r 5 rfl) rfl ?_
      refine AW.last (am_r 6 rfl) rfl (LH_o hl2) (Nat.le_trans hB (by omega)) (vp_of_inb rfl) ?_
      refine AW.heq (LH_po hl2) ?_
      refine AW.goto (tg := 15) (am_r 7 rfl) rfl ?_
      refine AW.iconst (am_r 11 rfl) rfl ci_0 ?_
      exact AW.iret (am_r 12 rfl) rfl hq
    · subst h1
      cases hs
      obtain ⟨c, hc, hq⟩ := hex _ rfl
      have hq := hq z z1 z2
      refine cQ_x ?_
      show AX g ML_quietAt 4 _ _ e.1 (LH h0 B (bump e.2 z) T o d) Q
      unfold co2 at hc
      by_cases h0 : e.1 = 2
      · rw [if_pos h0] at hc
        cases hc
        rw [h0]
        refine AX.catch (E := "java/lang/IllegalArgumentException") [] _ [] rfl (fun _ h => nomatch h) (by decide) (by decide) q1136 (List.mem_of_getElem? (i := 13) rfl) fun q9 => ?_
        refine AW.astore_n (L' := [some (.ref B), some (.int p1), some (.ref (B + 139)), some (.ref q9)]) (z := 3) (am_r 8 rfl) rfl (Nat.le_of_ble_eq_true rfl) rfl ?_
        refine AW.iconst (am_r 9 rfl) rfl ci_1 ?_
        exact AW.iret (am_r 10 rfl) rfl hq
      rw [if_neg h0] at hc
      cases hc
set_option maxRecDepth 100000 in
theorem hL_lateness {g : AG} {h0 : AH} {B : Nat} {S : XT} {T : Mem} {o : Int64} {d : UInt64} {Q : AO → AH → Prop} {p1 : Int32} (hB : gB g ≤ B) (hst : Sta g h0) {r : Except Nat Int64 × XT} (hs : uP (sX9_lateness S B p1) S = some r) (hl : lrw B r.2.2.2.1) (hok : ∀ v, r.1 = .ok v → Q (.ok (some (.int 0))) (LH h0 B r.2 T v d)) (hex : ∀ e, r.1 = .error e → ∃ c, co1 e = some c ∧ ∀ z, r.2.1.1 ≤ z → z ≤ r.2.1.1 + 1 → Q (.ok (some (.int c))) (LH h0 B (bump r.2 z) T o d)) : AW g ML_lateness 0 [some (.ref B), some (.int p1), some (.ref (B + 139)), none] [] (LH h0 B S T o d) Q := by
  refine AW.aload_n (z := 2) (am_r 0 rfl) rfl rfl ?_
  refine AW.iconst (am_r 1 rfl) rfl ci_0 ?_
  refine AW.aload_n (z := 0) (am_r 2 rfl) rfl rfl ?_
  refine AW.iload_n (z := 1) (am_r 3 rfl) rfl rfl ?_
  refine AW.callV (N := MX9_lateness) (As := [.int p1]) (S := [.int (0 : Int32), .ref (B + 139)]) (b := B) (am_r 4 rfl) rfl ovX9_lateness q1413 rfl rfl LH_x rfl rfl rfl rfl ?_
  unfold uP at hs
  cases e1 : sX9_lateness S B p1 with
  | none => rw [e1] at hs; cases hs
  | some r1 =>
    rw [e1] at hs
    refine dX9_lateness hB (sta_lb hst hB) e1 ⟨fun v h1 => ?_, fun e h1 z z1 z2 => ?_⟩
    · subst h1
      cases hs
      have hq := hok _ rfl
      have hl2 := hl
      refine cQ_r ?_
      show AW g ML_lateness 7 _ _ (LH h0 B S T o d) Q
      refine AW.i2l (am_r 5 rfl) rfl ?_
      refine AW.last (am_r 6 rfl) rfl (LH_o hl2) (Nat.le_trans hB (by omega)) (vp_of_inb rfl) ?_
      refine AW.heq (LH_po hl2) ?_
      refine AW.goto (tg := 15) (am_r 7 rfl) rfl ?_
      refine AW.iconst (am_r 11 rfl) rfl ci_0 ?_
      exact AW.iret (am_r 12 rfl) rfl hq
    · subst h1
      cases hs
      obtain ⟨c, hc, hq⟩ := hex _ rfl
      have hq := hq z z1 z2
      refine cQ_x ?_
      show AX g ML_lateness 4 _ _ e (LH h0 B (bump S z) T o d) Q
      unfold co1 at hc
      by_cases h0 : e = 1
      · rw [if_pos h0] at hc
        cases hc
        rw [h0]
        refine AX.catch (E := "java/lang/IndexOutOfBoundsException") [] _ [] rfl (fun _ h => nomatch h) (by decide) (by decide) q1043 (List.mem_of_getElem? (i := 12) rfl) fun q9 => ?_
        refine AW.astore_n (L' := [some (.ref B), some (.int p1), some (.ref (B + 139)), some (.ref q9)]) (z := 3) (am_r 8 rfl) rfl (Nat.le_of_ble_eq_true rfl) rfl ?_
        refine AW.iconst (am_r 9 rfl) rfl ci_1 ?_
        exact AW.iret (am_r 10 rfl) rfl hq
      rw [if_neg h0] at hc
      cases hc
set_option maxRecDepth 100000 in
theorem hL_uses {g : AG} {h0 : AH} {B : Nat} {S : XT} {T : Mem} {o : Int64} {d : UInt64} {Q : AO → AH → Prop} {p1 : Int32} (hB : gB g ≤ B) (hst : Sta g h0) {r : Except Nat Int64 × XT} (hs : uP (sX9_uses S B p1) S = some r) (hl : lrw B r.2.2.2.1) (hok : ∀ v, r.1 = .ok v → Q (.ok (some (.int 0))) (LH h0 B r.2 T v d)) (hex : ∀ e, r.1 = .error e → ∃ c, co1 e = some c ∧ ∀ z, r.2.1.1 ≤ z → z ≤ r.2.1.1 + 1 → Q (.ok (some (.int c))) (LH h0 B (bump r.2 z) T o d)) : AW g ML_uses 0 [some (.ref B), some (.int p1), some (.ref (B + 139)), none] [] (LH h0 B S T o d) Q := by
  refine AW.aload_n (z := 2) (am_r 0 rfl) rfl rfl ?_
  refine AW.iconst (am_r 1 rfl) rfl ci_0 ?_
  refine AW.aload_n (z := 0) (am_r 2 rfl) rfl rfl ?_
  refine AW.iload_n (z := 1) (am_r 3 rfl) rfl rfl ?_
  refine AW.callV (N := MX9_uses) (As := [.int p1]) (S := [.int (0 : Int32), .ref (B + 139)]) (b := B) (am_r 4 rfl) rfl ovX9_uses q1421 rfl rfl LH_x rfl rfl rfl rfl ?_
  unfold uP at hs
  cases e1 : sX9_uses S B p1 with
  | none => rw [e1] at hs; cases hs
  | some r1 =>
    rw [e1] at hs
    refine dX9_uses hB (sta_lb hst hB) e1 ⟨fun v h1 => ?_, fun e h1 z z1 z2 => ?_⟩
    · subst h1
      cases hs
      have hq := hok _ rfl
      have hl2 := hl
      refine cQ_r ?_
      show AW g ML_uses 7 _ _ (LH h0 B S T o d) Q
      refine AW.i2l (am_r 5 rfl) rfl ?_
      refine AW.last (am_r 6 rfl) rfl (LH_o hl2) (Nat.le_trans hB (by omega)) (vp_of_inb rfl) ?_
      refine AW.heq (LH_po hl2) ?_
      refine AW.goto (tg := 15) (am_r 7 rfl) rfl ?_
      refine AW.iconst (am_r 11 rfl) rfl ci_0 ?_
      exact AW.iret (am_r 12 rfl) rfl hq
    · subst h1
      cases hs
      obtain ⟨c, hc, hq⟩ := hex _ rfl
      have hq := hq z z1 z2
      refine cQ_x ?_
      show AX g ML_uses 4 _ _ e (LH h0 B (bump S z) T o d) Q
      unfold co1 at hc
      by_cases h0 : e = 1
      · rw [if_pos h0] at hc
        cases hc
        rw [h0]
        refine AX.catch (E := "java/lang/IndexOutOfBoundsException") [] _ [] rfl (fun _ h => nomatch h) (by decide) (by decide) q1043 (List.mem_of_getElem? (i := 12) rfl) fun q9 => ?_
        refine AW.astore_n (L' := [some (.ref B), some (.int p1), some (.ref (B + 139)), some (.ref q9)]) (z := 3) (am_r 8 rfl) rfl (Nat.le_of_ble_eq_true rfl) rfl ?_
        refine AW.iconst (am_r 9 rfl) rfl ci_1 ?_
        exact AW.iret (am_r 10 rfl) rfl hq
      rw [if_neg h0] at hc
      cases hc
set_option maxRecDepth 100000 in
theorem hL_pressUse {g : AG} {h0 : AH} {B : Nat} {S : XT} {T : Mem} {o : Int64} {d : UInt64} {Q : AO → AH → Prop} {p1 : Int32} (hB : gB g ≤ B) (hst : Sta g h0) {r : Except Nat Int64 × XT} (hs : uP (sX9_pressUse S B p1) S = some r) (hl : lrw B r.2.2.2.1) (hok : ∀ v, r.1 = .ok v → Q (.ok (some (.int 0))) (LH h0 B r.2 T v d)) (hex : ∀ e, r.1 = .error e → ∃ c, co1 e = some c ∧ ∀ z, r.2.1.1 ≤ z → z ≤ r.2.1.1 + 1 → Q (.ok (some (.int c))) (LH h0 B (bump r.2 z) T o d)) : AW g ML_pressUse 0 [some (.ref B), some (.int p1), some (.ref (B + 139)), none] [] (LH h0 B S T o d) Q := by
  refine AW.aload_n (z := 2) (am_r 0 rfl) rfl rfl ?_
  refine AW.iconst (am_r 1 rfl) rfl ci_0 ?_
  refine AW.aload_n (z := 0) (am_r 2 rfl) rfl rfl ?_
  refine AW.iload_n (z := 1) (am_r 3 rfl) rfl rfl ?_
  refine AW.callV (N := MX9_pressUse) (As := [.int p1]) (S := [.int (0 : Int32), .ref (B + 139)]) (b := B) (am_r 4 rfl) rfl ovX9_pressUse q1428 rfl rfl LH_x rfl rfl rfl rfl ?_
  unfold uP at hs
  cases e1 : sX9_pressUse S B p1 with
  | none => rw [e1] at hs; cases hs
  | some r1 =>
    rw [e1] at hs
    refine dX9_pressUse hB (sta_lb hst hB) e1 ⟨fun v h1 => ?_, fun e h1 z z1 z2 => ?_⟩
    · subst h1
      cases hs
      have hq := hok _ rfl
      have hl2 := hl
      refine cQ_r ?_
      show AW g ML_pressUse 7 _ _ (LH h0 B S T o d) Q
      refine AW.i2l (am_r 5 rfl) rfl ?_
      refine AW.last (am_r 6 rfl) rfl (LH_o hl2) (Nat.le_trans hB (by omega)) (vp_of_inb rfl) ?_
      refine AW.heq (LH_po hl2) ?_
      refine AW.goto (tg := 15) (am_r 7 rfl) rfl ?_
      refine AW.iconst (am_r 11 rfl) rfl ci_0 ?_
      exact AW.iret (am_r 12 rfl) rfl hq
    · subst h1
      cases hs
      obtain ⟨c, hc, hq⟩ := hex _ rfl
      have hq := hq z z1 z2
      refine cQ_x ?_
      show AX g ML_pressUse 4 _ _ e (LH h0 B (bump S z) T o d) Q
      unfold co1 at hc
      by_cases h0 : e = 1
      · rw [if_pos h0] at hc
        cases hc
        rw [h0]
        refine AX.catch (E := "java/lang/IndexOutOfBoundsException") [] _ [] rfl (fun _ h => nomatch h) (by decide) (by decide) q1043 (List.mem_of_getElem? (i := 12) rfl) fun q9 => ?_
        refine AW.astore_n (L' := [some (.ref B), some (.int p1), some (.ref (B + 139)), some (.ref q9)]) (z := 3) (am_r 8 rfl) rfl (Nat.le_of_ble_eq_true rfl) rfl ?_
        refine AW.iconst (am_r 9 rfl) rfl ci_1 ?_
        exact AW.iret (am_r 10 rfl) rfl hq
      rw [if_neg h0] at hc
      cases hc
set_option maxRecDepth 100000 in
theorem hL_inQueues {g : AG} {h0 : AH} {B : Nat} {S : XT} {T : Mem} {o : Int64} {d : UInt64} {Q : AO → AH → Prop} {p1 : Int32} (hB : gB g ≤ B) (hst : Sta g h0) {r : Except Nat Int64 × XT} (hs : uP (sX9_inQueues S B p1) S = some r) (hl : lrw B r.2.2.2.1) (hok : ∀ v, r.1 = .ok v → Q (.ok (some (.int 0))) (LH h0 B r.2 T v d)) (hex : ∀ e, r.1 = .error e → ∃ c, co1 e = some c ∧ ∀ z, r.2.1.1 ≤ z → z ≤ r.2.1.1 + 1 → Q (.ok (some (.int c))) (LH h0 B (bump r.2 z) T o d)) : AW g ML_inQueues 0 [some (.ref B), some (.int p1), some (.ref (B + 139)), none] [] (LH h0 B S T o d) Q := by
  refine AW.aload_n (z := 2) (am_r 0 rfl) rfl rfl ?_
  refine AW.iconst (am_r 1 rfl) rfl ci_0 ?_
  refine AW.aload_n (z := 0) (am_r 2 rfl) rfl rfl ?_
  refine AW.iload_n (z := 1) (am_r 3 rfl) rfl rfl ?_
  refine AW.callV (N := MX9_inQueues) (As := [.int p1]) (S := [.int (0 : Int32), .ref (B + 139)]) (b := B) (am_r 4 rfl) rfl ovX9_inQueues q1435 rfl rfl LH_x rfl rfl rfl rfl ?_
  unfold uP at hs
  cases e1 : sX9_inQueues S B p1 with
  | none => rw [e1] at hs; cases hs
  | some r1 =>
    rw [e1] at hs
    refine dX9_inQueues hB (sta_lb hst hB) e1 ⟨fun v h1 => ?_, fun e h1 z z1 z2 => ?_⟩
    · subst h1
      cases hs
      have hq := hok _ rfl
      have hl2 := hl
      refine cQ_r ?_
      show AW g ML_inQueues 7 _ _ (LH h0 B S T o d) Q
      refine AW.i2l (am_r 5 rfl) rfl ?_
      refine AW.last (am_r 6 rfl) rfl (LH_o hl2) (Nat.le_trans hB (by omega)) (vp_of_inb rfl) ?_
      refine AW.heq (LH_po hl2) ?_
      refine AW.goto (tg := 15) (am_r 7 rfl) rfl ?_
      refine AW.iconst (am_r 11 rfl) rfl ci_0 ?_
      exact AW.iret (am_r 12 rfl) rfl hq
    · subst h1
      cases hs
      obtain ⟨c, hc, hq⟩ := hex _ rfl
      have hq := hq z z1 z2
      refine cQ_x ?_
      show AX g ML_inQueues 4 _ _ e (LH h0 B (bump S z) T o d) Q
      unfold co1 at hc
      by_cases h0 : e = 1
      · rw [if_pos h0] at hc
        cases hc
        rw [h0]
        refine AX.catch (E := "java/lang/IndexOutOfBoundsException") [] _ [] rfl (fun _ h => nomatch h) (by decide) (by decide) q1043 (List.mem_of_getElem? (i := 12) rfl) fun q9 => ?_
        refine AW.astore_n (L' := [some (.ref B), some (.int p1), some (.ref (B + 139)), some (.ref q9)]) (z := 3) (am_r 8 rfl) rfl (Nat.le_of_ble_eq_true rfl) rfl ?_
        refine AW.iconst (am_r 9 rfl) rfl ci_1 ?_
        exact AW.iret (am_r 10 rfl) rfl hq
      rw [if_neg h0] at hc
      cases hc
set_option maxRecDepth 100000 in
theorem hL_dryIn {g : AG} {h0 : AH} {B : Nat} {S : XT} {T : Mem} {o : Int64} {d : UInt64} {Q : AO → AH → Prop} {p1 : Int32} (hB : gB g ≤ B) (hst : Sta g h0) {r : Except Nat Int64 × XT} (hs : uP (sX9_dryIn S B p1) S = some r) (hl : lrw B r.2.2.2.1) (hok : ∀ v, r.1 = .ok v → Q (.ok (some (.int 0))) (LH h0 B r.2 T v d)) (hex : ∀ e, r.1 = .error e → ∃ c, co1 e = some c ∧ ∀ z, r.2.1.1 ≤ z → z ≤ r.2.1.1 + 1 → Q (.ok (some (.int c))) (LH h0 B (bump r.2 z) T o d)) : AW g ML_dryIn 0 [some (.ref B), some (.int p1), some (.ref (B + 139)), none] [] (LH h0 B S T o d) Q := by
  refine AW.aload_n (z := 2) (am_r 0 rfl) rfl rfl ?_
  refine AW.iconst (am_r 1 rfl) rfl ci_0 ?_
  refine AW.aload_n (z := 0) (am_r 2 rfl) rfl rfl ?_
  refine AW.iload_n (z := 1) (am_r 3 rfl) rfl rfl ?_
  refine AW.callV (N := MX9_dryIn) (As := [.int p1]) (S := [.int (0 : Int32), .ref (B + 139)]) (b := B) (am_r 4 rfl) rfl ovX9_dryIn q1446 rfl rfl LH_x rfl rfl rfl rfl ?_
  unfold uP at hs
  cases e1 : sX9_dryIn S B p1 with
  | none => rw [e1] at hs; cases hs
  | some r1 =>
    rw [e1] at hs
    refine dX9_dryIn hB (sta_lb hst hB) e1 ⟨fun v h1 => ?_, fun e h1 z z1 z2 => ?_⟩
    · subst h1
      cases hs
      have hq := hok _ rfl
      have hl2 := hl
      refine cQ_r ?_
      show AW g ML_dryIn 7 _ _ (LH h0 B S T o d) Q
      refine AW.i2l (am_r 5 rfl) rfl ?_
      refine AW.last (am_r 6 rfl) rfl (LH_o hl2) (Nat.le_trans hB (by omega)) (vp_of_inb rfl) ?_
      refine AW.heq (LH_po hl2) ?_
      refine AW.goto (tg := 15) (am_r 7 rfl) rfl ?_
      refine AW.iconst (am_r 11 rfl) rfl ci_0 ?_
      exact AW.iret (am_r 12 rfl) rfl hq
    · subst h1
      cases hs
      obtain ⟨c, hc, hq⟩ := hex _ rfl
      have hq := hq z z1 z2
      refine cQ_x ?_
      show AX g ML_dryIn 4 _ _ e (LH h0 B (bump S z) T o d) Q
      unfold co1 at hc
      by_cases h0 : e = 1
      · rw [if_pos h0] at hc
        cases hc
        rw [h0]
        refine AX.catch (E := "java/lang/IndexOutOfBoundsException") [] _ [] rfl (fun _ h => nomatch h) (by decide) (by decide) q1043 (List.mem_of_getElem? (i := 12) rfl) fun q9 => ?_
        refine AW.astore_n (L' := [some (.ref B), some (.int p1), some (.ref (B + 139)), some (.ref q9)]) (z := 3) (am_r 8 rfl) rfl (Nat.le_of_ble_eq_true rfl) rfl ?_
        refine AW.iconst (am_r 9 rfl) rfl ci_1 ?_
        exact AW.iret (am_r 10 rfl) rfl hq
      rw [if_neg h0] at hc
      cases hc
set_option maxRecDepth 100000 in
theorem hL_rank {g : AG} {h0 : AH} {B : Nat} {S : XT} {T : Mem} {o : Int64} {d : UInt64} {Q : AO → AH → Prop} {p1 : Int32} (hB : gB g ≤ B) (hst : Sta g h0) {r : Except Nat Int64 × XT} (hs : uP (sX9_rank S B p1) S = some r) (hl : lrw B r.2.2.2.1) (hok : ∀ v, r.1 = .ok v → Q (.ok (some (.int 0))) (LH h0 B r.2 T v d)) (hex : ∀ e, r.1 = .error e → ∃ c, co1 e = some c ∧ ∀ z, r.2.1.1 ≤ z → z ≤ r.2.1.1 + 1 → Q (.ok (some (.int c))) (LH h0 B (bump r.2 z) T o d)) : AW g ML_rank 0 [some (.ref B), some (.int p1), some (.ref (B + 139)), none] [] (LH h0 B S T o d) Q := by
  refine AW.aload_n (z := 2) (am_r 0 rfl) rfl rfl ?_
  refine AW.iconst (am_r 1 rfl) rfl ci_0 ?_
  refine AW.aload_n (z := 0) (am_r 2 rfl) rfl rfl ?_
  refine AW.iload_n (z := 1) (am_r 3 rfl) rfl rfl ?_
  refine AW.callV (N := MX9_rank) (As := [.int p1]) (S := [.int (0 : Int32), .ref (B + 139)]) (b := B) (am_r 4 rfl) rfl ovX9_rank q1453 rfl rfl LH_x rfl rfl rfl rfl ?_
  unfold uP at hs
  cases e1 : sX9_rank S B p1 with
  | none => rw [e1] at hs; cases hs
  | some r1 =>
    rw [e1] at hs
    refine dX9_rank hB (sta_lb hst hB) e1 ⟨fun v h1 => ?_, fun e h1 z z1 z2 => ?_⟩
    · subst h1
      cases hs
      have hq := hok _ rfl
      have hl2 := hl
      refine cQ_r ?_
      show AW g ML_rank 7 _ _ (LH h0 B S T o d) Q
      refine AW.i2l (am_r 5 rfl) rfl ?_
      refine AW.last (am_r 6 rfl) rfl (LH_o hl2) (Nat.le_trans hB (by omega)) (vp_of_inb rfl) ?_
      refine AW.heq (LH_po hl2) ?_
      refine AW.goto (tg := 15) (am_r 7 rfl) rfl ?_
      refine AW.iconst (am_r 11 rfl) rfl ci_0 ?_
      exact AW.iret (am_r 12 rfl) rfl hq
    · subst h1
      cases hs
      obtain ⟨c, hc, hq⟩ := hex _ rfl
      have hq := hq z z1 z2
      refine cQ_x ?_
      show AX g ML_rank 4 _ _ e (LH h0 B (bump S z) T o d) Q
      unfold co1 at hc
      by_cases h0 : e = 1
      · rw [if_pos h0] at hc
        cases hc
        rw [h0]
        refine AX.catch (E := "java/lang/IndexOutOfBoundsException") [] _ [] rfl (fun _ h => nomatch h) (by decide) (by decide) q1043 (List.mem_of_getElem? (i := 12) rfl) fun q9 => ?_
        refine AW.astore_n (L' := [some (.ref B), some (.int p1), some (.ref (B + 139)), some (.ref q9)]) (z := 3) (am_r 8 rfl) rfl (Nat.le_of_ble_eq_true rfl) rfl ?_
        refine AW.iconst (am_r 9 rfl) rfl ci_1 ?_
        exact AW.iret (am_r 10 rfl) rfl hq
      rw [if_neg h0] at hc
      cases hc
set_option maxRecDepth 100000 in
theorem hL_objectsIn {g : AG} {h0 : AH} {B : Nat} {S : XT} {T : Mem} {o : Int64} {d : UInt64} {Q : AO → AH → Prop} {p1 : Int32} (hB : gB g ≤ B) (hst : Sta g h0) {r : Except Nat Int64 × XT} (hs : uP (sX9_objectsIn S B p1) S = some r) (hl : lrw B r.2.2.2.1) (hok : ∀ v, r.1 = .ok v → Q (.ok (some (.int 0))) (LH h0 B r.2 T v d)) (hex : ∀ e, r.1 = .error e → ∃ c, co2 e = some c ∧ ∀ z, r.2.1.1 ≤ z → z ≤ r.2.1.1 + 1 → Q (.ok (some (.int c))) (LH h0 B (bump r.2 z) T o d)) : AW g ML_objectsIn 0 [some (.ref B), some (.int p1), some (.ref (B + 139)), none] [] (LH h0 B S T o d) Q := by
  refine AW.aload_n (z := 2) (am_r 0 rfl) rfl rfl ?_
  refine AW.iconst (am_r 1 rfl) rfl ci_0 ?_
  refine AW.aload_n (z := 0) (am_r 2 rfl) rfl rfl ?_
  refine AW.iload_n (z := 1) (am_r 3 rfl) rfl rfl ?_
  refine AW.callV (N := MX9_objectsIn) (As := [.int p1]) (S := [.int (0 : Int32), .ref (B + 139)]) (b := B) (am_r 4 rfl) rfl ovX9_objectsIn q1466 rfl rfl LH_x rfl rfl rfl rfl ?_
  unfold uP at hs
  cases e1 : sX9_objectsIn S B p1 with
  | none => rw [e1] at hs; cases hs
  | some r1 =>
    rw [e1] at hs
    refine dX9_objectsIn hB (sta_lb hst hB) e1 ⟨fun v h1 => ?_, fun e h1 z z1 z2 => ?_⟩
    · subst h1
      cases hs
      have hq := hok _ rfl
      have hl2 := hl
      refine cQ_r ?_
      show AW g ML_objectsIn 7 _ _ (LH h0 B S T o d) Q
      refine AW.i2l (am_r 5 rfl) rfl ?_
      refine AW.last (am_r 6 rfl) rfl (LH_o hl2) (Nat.le_trans hB (by omega)) (vp_of_inb rfl) ?_
      refine AW.heq (LH_po hl2) ?_
      refine AW.goto (tg := 15) (am_r 7 rfl) rfl ?_
      refine AW.iconst (am_r 11 rfl) rfl ci_0 ?_
      exact AW.iret (am_r 12 rfl) rfl hq
    · subst h1
      cases hs
      obtain ⟨c, hc, hq⟩ := hex _ rfl
      have hq := hq z z1 z2
      refine cQ_x ?_
      show AX g ML_objectsIn 4 _ _ e (LH h0 B (bump S z) T o d) Q
      unfold co2 at hc
      by_cases h0 : e = 2
      · rw [if_pos h0] at hc
        cases hc
        rw [h0]
        refine AX.catch (E := "java/lang/IllegalArgumentException") [] _ [] rfl (fun _ h => nomatch h) (by decide) (by decide) q1136 (List.mem_of_getElem? (i := 13) rfl) fun q9 => ?_
        refine AW.astore_n (L' := [some (.ref B), some (.int p1), some (.ref (B + 139)), some (.ref q9)]) (z := 3) (am_r 8 rfl) rfl (Nat.le_of_ble_eq_true rfl) rfl ?_
        refine AW.iconst (am_r 9 rfl) rfl ci_1 ?_
        exact AW.iret (am_r 10 rfl) rfl hq
      rw [if_neg h0] at hc
      cases hc
set_option maxRecDepth 100000 in
theorem hL_meanScore {g : AG} {h0 : AH} {B : Nat} {S : XT} {T : Mem} {o : Int64} {d : UInt64} {Q : AO → AH → Prop} (hB : gB g ≤ B) (hst : Sta g h0) {r : Except Nat UInt64 × XT} (hs : uM (sX9_meanScore S B ) S = some r) (hl : lrw B r.2.2.2.1) (hok : ∀ v, r.1 = .ok v → Q (.ok (some (.int 0))) (LH h0 B r.2 T o v)) (hex : ∀ e, r.1 = .error e → ∃ c, co3 e = some c ∧ ∀ z, r.2.1.1 ≤ z → z ≤ r.2.1.1 + 1 → Q (.ok (some (.int c))) (LH h0 B (bump r.2 z) T o d)) : AW g ML_meanScore 0 [some (.ref B), some (.ref (B + 140)), none] [] (LH h0 B S T o d) Q := by
  refine AW.aload_n (z := 1) (am_r 0 rfl) rfl rfl ?_
  refine AW.iconst (am_r 1 rfl) rfl ci_0 ?_
  refine AW.aload_n (z := 0) (am_r 2 rfl) rfl rfl ?_
  refine AW.callV (N := MX9_meanScore) (As := []) (S := [.int (0 : Int32), .ref (B + 140)]) (b := B) (am_r 3 rfl) rfl ovX9_meanScore q1473 rfl rfl LH_x rfl rfl rfl rfl ?_
  unfold uM at hs
  cases e1 : sX9_meanScore S B  with
  | none => rw [e1] at hs; cases hs
  | some r1 =>
    rw [e1] at hs
    refine dX9_meanScore hB (sta_lb hst hB) e1 ⟨fun v h1 => ?_, fun e h1 z z1 z2 => ?_⟩
    · subst h1
      cases hs
      have hq := hok _ rfl
      have hl2 := hl
      refine cQ_r ?_
      show AW g ML_meanScore 6 _ _ (LH h0 B S T o d) Q
      refine AW.dast (am_r 4 rfl) rfl (LH_d hl2) (Nat.le_trans hB (by omega)) (vp_of_inb rfl) ?_
      refine AW.heq (LH_pd hl2) ?_
      refine AW.goto (tg := 13) (am_r 5 rfl) rfl ?_
      refine AW.iconst (am_r 9 rfl) rfl ci_0 ?_
      exact AW.iret (am_r 10 rfl) rfl hq
    · subst h1
      cases hs
      obtain ⟨c, hc, hq⟩ := hex _ rfl
      have hq := hq z z1 z2
      refine cQ_x ?_
      show AX g ML_meanScore 3 _ _ e (LH h0 B (bump S z) T o d) Q
      unfold co3 at hc
      by_cases h0 : e = 3
      · rw [if_pos h0] at hc
        cases hc
        rw [h0]
        refine AX.catch (E := "java/lang/ArithmeticException") [] _ [] rfl (fun _ h => nomatch h) (by decide) (by decide) q1270 (List.mem_of_getElem? (i := 14) rfl) fun q9 => ?_
        refine AW.astore_n (L' := [some (.ref B), some (.ref (B + 140)), some (.ref q9)]) (z := 2) (am_r 6 rfl) rfl (Nat.le_of_ble_eq_true rfl) rfl ?_
        refine AW.iconst (am_r 7 rfl) rfl ci_1 ?_
        exact AW.iret (am_r 8 rfl) rfl hq
      rw [if_neg h0] at hc
      cases hc
set_option maxRecDepth 100000 in
theorem hL_write {g : AG} {h0 : AH} {B : Nat} {S : XT} {T : Mem} {o : Int64} {d : UInt64} {Q : AO → AH → Prop} {p1 : Int32} (hB : gB g ≤ B) (hst : Sta g h0) {r : Except Nat Int64 × XT} (hs : uW (sX9_write S B p1) = some r) (hl : lrw B r.2.2.2.1) (hok : ∀ v, r.1 = .ok v → Q (.ok (some (.int 0))) (LH h0 B r.2 T v d)) (hex : ∀ e, r.1 = .error e → ∃ c, co1 e = some c ∧ ∀ z, r.2.1.1 ≤ z → z ≤ r.2.1.1 + 1 → Q (.ok (some (.int c))) (LH h0 B (bump r.2 z) T o d)) : AW g ML_write 0 [some (.ref B), some (.int p1), some (.ref (B + 139)), none] [] (LH h0 B S T o d) Q := by
  refine AW.aload_n (z := 2) (am_r 0 rfl) rfl rfl ?_
  refine AW.iconst (am_r 1 rfl) rfl ci_0 ?_
  refine AW.aload_n (z := 0) (am_r 2 rfl) rfl rfl ?_
  refine AW.iload_n (z := 1) (am_r 3 rfl) rfl rfl ?_
  refine AW.callV (N := MX9_write) (As := [.int p1]) (S := [.int (0 : Int32), .ref (B + 139)]) (b := B) (am_r 4 rfl) rfl ovX9_write q1485 rfl rfl LH_x rfl rfl rfl rfl ?_
  unfold uW at hs
  cases e1 : sX9_write S B p1 with
  | none => rw [e1] at hs; cases hs
  | some r1 =>
    rw [e1] at hs
    refine dX9_write hB (sta_lb hst hB) e1 ⟨fun v h1 => ?_, fun e h1 z z1 z2 => ?_⟩
    · subst h1
      cases hs
      have hq := hok _ rfl
      have hl2 := hl
      refine cQ_r ?_
      show AW g ML_write 7 _ _ (LH h0 B v.2 T o d) Q
      refine AW.i2l (am_r 5 rfl) rfl ?_
      refine AW.last (am_r 6 rfl) rfl (LH_o hl2) (Nat.le_trans hB (by omega)) (vp_of_inb rfl) ?_
      refine AW.heq (LH_po hl2) ?_
      refine AW.goto (tg := 15) (am_r 7 rfl) rfl ?_
      refine AW.iconst (am_r 11 rfl) rfl ci_0 ?_
      exact AW.iret (am_r 12 rfl) rfl hq
    · subst h1
      cases hs
      obtain ⟨c, hc, hq⟩ := hex _ rfl
      have hq := hq z z1 z2
      refine cQ_x ?_
      show AX g ML_write 4 _ _ e.1 (LH h0 B (bump e.2 z) T o d) Q
      unfold co1 at hc
      by_cases h0 : e.1 = 1
      · rw [if_pos h0] at hc
        cases hc
        rw [h0]
        refine AX.catch (E := "java/lang/IndexOutOfBoundsException") [] _ [] rfl (fun _ h => nomatch h) (by decide) (by decide) q1043 (List.mem_of_getElem? (i := 12) rfl) fun q9 => ?_
        refine AW.astore_n (L' := [some (.ref B), some (.int p1), some (.ref (B + 139)), some (.ref q9)]) (z := 3) (am_r 8 rfl) rfl (Nat.le_of_ble_eq_true rfl) rfl ?_
        refine AW.iconst (am_r 9 rfl) rfl ci_1 ?_
        exact AW.iret (am_r 10 rfl) rfl hq
      rw [if_neg h0] at hc
      cases hc
