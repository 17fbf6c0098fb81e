/-! ===== AT MOST SIXTEEN STEPS AN HOUR ARE DONE ===== -/
def PO {α : Type} (p : α → Prop) (x : Option α) : Prop := ∀ y, x = some y → p y
theorem PO_s {α : Type} {p : α → Prop} {y : α} (h : p y) : PO p (some y) := fun z hz => by cases hz; exact h
theorem PO_n {α : Type} {p : α → Prop} : PO p none := fun z hz => by cases hz
theorem PO_mono {α : Type} {p q : α → Prop} {x : Option α} (h : PO p x) (k : ∀ y, p y → q y) : PO q x := fun y hy => k y (h y hy)
theorem PO_bind {α β : Type} {q : α → Prop} {p : β → Prop} {x : Option α} {f : α → Option β} (h : PO q x) (k : ∀ y, q y → PO p (f y)) : PO p (obind x f) := fun z hz => by
  cases x with
  | none => cases hz
  | some y => exact k y (h y rfl) z hz
theorem PO_bindT {α β : Type} {p : β → Prop} {x : Option α} {f : α → Option β} (k : ∀ y, PO p (f y)) : PO p (obind x f) := PO_bind (q := fun _ => True) (fun _ _ => trivial) (fun y _ => k y)
theorem PO_oif {α : Type} {p : α → Prop} {c : Bool} {x : Option α} (h : PO p x) : PO p (oif c x) := by
  cases c with
  | false => exact PO_n
  | true => exact h
theorem PO_oifp {α : Type} {p : α → Prop} {c : Prop} {x : Option α} (h : PO p x) : PO p (oifp c x) := by
  by_cases e : c
  · rw [oifp_t e]; exact h
  · rw [show oifp c x = none from if_neg e]; exact PO_n
theorem PO_ite {α : Type} {p : α → Prop} {c : Prop} [Decidable c] {x y : Option α} (h : PO p x) (k : PO p y) : PO p (if c then x else y) := by
  by_cases e : c
  · rw [if_pos e]; exact h
  · rw [if_neg e]; exact k
theorem PO_oopt {α : Type} {p : α → Prop} {t : Option Nat} {x : Option α} {f : Nat → Option α} (h : PO p x) (k : ∀ i, PO p (f i)) : PO p (oopt t x f) := by
  cases t with
  | none => exact h
  | some i => exact k i
def PS {α β : Type} (I : α → Prop) (p : β → Prop) : α ⊕ β → Prop
  | .inl a => I a
  | .inr b => p b
theorem PO_oinr {α β : Type} {I : α → Prop} {p : β → Prop} {x : Option β} (h : PO p x) : PO (PS I p) (oinr x) := by
  cases x with
  | none => exact PO_n
  | some y => exact PO_s (h y rfl)
theorem PO_inl {α β : Type} {I : α → Prop} {p : β → Prop} {a : α} (h : I a) : PO (PS I p) (some (Sum.inl a)) := PO_s h
theorem PO_itw {α β : Type} {p : β → Prop} {f : α → Option (α ⊕ β)} (I : α → Prop) (step : ∀ a, I a → PO (PS I p) (f a)) {a : α} (h : I a) : PO p (itw f a) := by
  intro b hb
  obtain ⟨n, hn⟩ := itw_n hb
  clear hb
  induction n generalizing a with
  | zero => cases hn
  | succ n ih =>
    unfold itn at hn
    cases hf : f a with
    | none => rw [hf] at hn; cases hn
    | some x =>
      rw [hf] at hn
      have h2 := step a h x hf
      cases x with
      | inl a' => exact ih h2 hn
      | inr z => cases hn; exact h2
theorem PO_oexc {ε ε' α β : Type} {x : Option (Except ε α)} {m : ε → ε'} {f : α → Option (Except ε' β)} {p : Except ε' β → Prop} (he : ∀ e, p (.error (m e))) (h : ∀ w, PO p (f w)) : PO p (oexc x m f) := by
  match x with
  | none => exact PO_n
  | some (.error e) => exact PO_s (he e)
  | some (.ok v) => exact h v
def TS (L : Mem) : Int32 × Int32 × Int32 := (gi L 0 9 0, gi L 0 12 0, gi L 0 13 0)
theorem ts_si {L : Mem} {c j i : Nat} {v : Int32} (h : c ≠ 0 ∨ (j ≠ 9 ∧ j ≠ 12 ∧ j ≠ 13)) : TS (si L c j i v) = TS L := by
  unfold TS
  rw [gi_ne (by omega), gi_ne (by omega), gi_ne (by omega)]
theorem ts_sr {L : Mem} {c i : Nat} {f : Nat → Int32} (h : c ≠ 0) : TS (sr L c i f) = TS L := by
  unfold TS
  rw [gi_sr, if_neg (fun z => h z.1.symm), gi_sr, if_neg (fun z => h z.1.symm), gi_sr, if_neg (fun z => h z.1.symm)]
theorem ts_sq {L : Mem} {c i : Nat} {v : Int64} : TS (sq L c i v) = TS L := rfl
theorem ts_shelf {L : Mem} {i : Nat} : TS (sX2_layOnShelf L i) = TS L := by
  unfold sX2_layOnShelf
  simp only [olet_eq]
  repeat (first | rw [ts_si (Or.inl (by decide))] | rw [ts_si (Or.inr ⟨by decide, by decide, by decide⟩)] | rw [ts_sr (by decide)] | rw [ts_sq])
theorem ts_wait {L : Mem} {i : Nat} {v : Int32} : TS (sX2_waitForPress L i v) = TS L := by
  unfold sX2_waitForPress
  simp only [olet_eq]
  repeat (first | rw [ts_si (Or.inl (by decide))] | rw [ts_si (Or.inr ⟨by decide, by decide, by decide⟩)] | rw [ts_sr (by decide)] | rw [ts_sq])
theorem ts_cure {L : Mem} {i : Nat} {v : Int32} : TS (sX2_startCuring L i v) = TS L := by
  unfold sX2_startCuring
  simp only [olet_eq]
  repeat (first | rw [ts_si (Or.inl (by decide))] | rw [ts_si (Or.inr ⟨by decide, by decide, by decide⟩)] | rw [ts_sr (by decide)] | rw [ts_sq])
theorem ts_add {L : Mem} {a b c d e f : Int32} : PO (fun r => TS r = TS L) (sX0_add L a b c d e f) := by
  have key : ∀ {S : Mem} {y : Int32}, TS S = TS L → PO (fun r => TS r = TS L) (sX0_add_j52 S a b c d e f y) := fun {S y} h => by
    unfold sX0_add_j52
    simp only [olet_eq]
    refine PO_ite (PO_s h) (PO_ite (PO_s h) (PO_oif (PO_oif (PO_oif (PO_oif (PO_oif (PO_oif (PO_s ?_))))))))
    repeat (first | rw [ts_si (Or.inl (by decide))] | rw [ts_si (Or.inr ⟨by decide, by decide, by decide⟩)] | rw [ts_sr (by decide)] | rw [ts_sq])
    exact h
  unfold sX0_add
  simp only [olet_eq]
  refine PO_ite (key ?_) (key ?_)
  · repeat (first | rw [ts_si (Or.inl (by decide))] | rw [ts_si (Or.inr ⟨by decide, by decide, by decide⟩)] | rw [ts_sr (by decide)] | rw [ts_sq])
  · repeat (first | rw [ts_si (Or.inl (by decide))] | rw [ts_si (Or.inr ⟨by decide, by decide, by decide⟩)] | rw [ts_sr (by decide)] | rw [ts_sq])
/-- one hour of one object: at most one step more -/
theorem ts_finish {L : Mem} {i : Nat} : PO (fun r => TS r = ((TS L).1, (TS L).2.1, (TS L).2.2 + 1)) (sX7_finishStep L i) := by
  unfold sX7_finishStep
  rw [olet_eq]
  refine PO_bind ts_add (fun r hr => ?_)
  have h1 : TS r = TS L := hr.trans (ts_si (Or.inl (by decide)))
  have h2 : ∀ {a : Int64} {b c : Int32} {j : Nat}, TS (si (si (si (sq r 3 i a) 3 13 i b) 2 7 j c) 0 13 0 (gi (si (si (sq r 3 i a) 3 13 i b) 2 7 j c) 0 13 0 + 1)) = ((TS L).1, (TS L).2.1, (TS L).2.2 + 1) := fun {a b c j} => by
    rw [← h1]
    unfold TS
    dsimp only
    repeat (first | rw [gi_ne (by omega)] | rw [gi_eq2 ⟨rfl, rfl, rfl⟩])
    rfl
  simp only [olet_eq]
  refine PO_ite (PO_s ?_) (PO_ite (PO_s ?_) (PO_s ?_))
  · rw [ts_shelf]; exact h2
  · rw [ts_wait]; exact h2
  · rw [ts_cure]; exact h2
theorem ts_goOn {L : Mem} {i : Nat} : PO (fun r => TS r = TS L ∨ TS r = ((TS L).1, (TS L).2.1, (TS L).2.2 + 1)) (sX7_goOn L i) := by
  unfold sX7_goOn
  simp only [olet_eq]
  refine PO_ite (PO_ite (PO_bind ts_finish fun r hr => PO_s (Or.inr ?_)) (PO_s (Or.inl ?_))) (PO_ite (PO_s (Or.inl ?_)) (PO_ite (PO_ite (PO_s (Or.inl ?_)) (PO_s (Or.inl ?_))) (PO_ite (PO_ite (PO_bind (q := fun r => TS r = TS L) ?_ fun r hr => PO_s (Or.inl hr)) (PO_s (Or.inl ?_))) (PO_s (Or.inl rfl)))))
  · rw [hr, ts_si (Or.inl (by decide))]
  · repeat (first | rw [ts_si (Or.inl (by decide))] | rw [ts_si (Or.inr ⟨by decide, by decide, by decide⟩)] | rw [ts_sr (by decide)] | rw [ts_sq])
  · repeat (first | rw [ts_si (Or.inl (by decide))] | rw [ts_si (Or.inr ⟨by decide, by decide, by decide⟩)] | rw [ts_sr (by decide)] | rw [ts_sq])
  · unfold sX7_finishCuring
    simp only [olet_eq]
    by_cases e : gi (si L 3 6 i (gi L 3 6 i - 1)) 3 10 i = -1
    · rw [if_pos e, ts_shelf]; repeat (first | rw [ts_si (Or.inl (by decide))] | rw [ts_si (Or.inr ⟨by decide, by decide, by decide⟩)] | rw [ts_sr (by decide)] | rw [ts_sq])
    · rw [if_neg e, ts_shelf]; repeat (first | rw [ts_si (Or.inl (by decide))] | rw [ts_si (Or.inr ⟨by decide, by decide, by decide⟩)] | rw [ts_sr (by decide)] | rw [ts_sq])
  · repeat (first | rw [ts_si (Or.inl (by decide))] | rw [ts_si (Or.inr ⟨by decide, by decide, by decide⟩)] | rw [ts_sr (by decide)] | rw [ts_sq])
  · unfold sX7_finishLoan
    simp only [olet_eq]
    refine PO_bind ts_add fun r hr => PO_s ?_
    rw [ts_shelf, hr]
    repeat (first | rw [ts_si (Or.inl (by decide))] | rw [ts_si (Or.inr ⟨by decide, by decide, by decide⟩)] | rw [ts_sr (by decide)] | rw [ts_sq])
  · repeat (first | rw [ts_si (Or.inl (by decide))] | rw [ts_si (Or.inr ⟨by decide, by decide, by decide⟩)] | rw [ts_sr (by decide)] | rw [ts_sq])
theorem ts_enter {L : Mem} {i : Nat} {p : Int32} : PO (fun r => TS r = TS L) (sX7_enterPress L i p) := by
  unfold sX7_enterPress
  simp only [olet_eq]
  refine PO_bind ts_add fun r hr => PO_s ?_
  rw [hr, ts_cure]
  repeat (first | rw [ts_si (Or.inl (by decide))] | rw [ts_si (Or.inr ⟨by decide, by decide, by decide⟩)] | rw [ts_sr (by decide)] | rw [ts_sq])
/-- what a loop over memories leaves -/
theorem ts_fill {L : Mem} : PO (fun r => TS r = TS L) (sX7_fillPresses L) := by
  unfold sX7_fillPresses sX7_fillPresses_l4
  refine PO_itw (I := fun a => TS a.2.2 = TS L) (fun a ha => ?_) rfl
  unfold sX7_fillPresses_l4_step
  simp only [olet_eq]
  refine PO_ite (PO_oinr (PO_s ha)) (PO_bindT fun r => PO_oopt (PO_oinr (PO_s ha)) fun i => PO_bindT fun p => PO_ite (PO_inl ha) (PO_bind ts_enter fun r hr => PO_inl (hr.trans ha)))
theorem ts_loans {L : Mem} : PO (fun r => TS r = TS L) (sX7_startLoans L) := by
  unfold sX7_startLoans sX7_startLoans_l2
  refine PO_itw (I := fun a => TS a.2 = TS L) (fun a ha => ?_) rfl
  unfold sX7_startLoans_l2_step
  simp only [olet_eq]
  refine PO_ite (PO_oinr (PO_s ha)) (PO_ite (PO_inl ha) (PO_inl ?_))
  refine Eq.trans ?_ ha
  dsimp only
  repeat (first | rw [ts_si (Or.inl (by decide))] | rw [ts_si (Or.inr ⟨by decide, by decide, by decide⟩)] | rw [ts_sr (by decide)] | rw [ts_sq])
theorem ts_drop {L : Mem} {i : Nat} : PO (fun r => TS r.2 = TS L) (sX2_dropFirst L i) := by
  have key : ∀ {S : Mem} {y : Int32}, TS S = TS L → PO (fun r : Int32 × Mem => TS r.2 = TS L) (sX2_dropFirst_j48 S i y) := fun {S y} h => by
    unfold sX2_dropFirst_j48
    simp only [olet_eq]
    refine PO_ite (PO_s ?_) (PO_s ?_)
    · dsimp only; repeat (first | rw [ts_si (Or.inl (by decide))] | rw [ts_si (Or.inr ⟨by decide, by decide, by decide⟩)] | rw [ts_sr (by decide)] | rw [ts_sq]); exact h
    · dsimp only; repeat (first | rw [ts_si (Or.inl (by decide))] | rw [ts_si (Or.inr ⟨by decide, by decide, by decide⟩)] | rw [ts_sr (by decide)] | rw [ts_sq]); exact h
  unfold sX2_dropFirst sX2_dropFirst_l7
  rw [olet_eq]
  refine PO_itw (I := fun a => TS a.2.2 = TS L) (fun a ha => ?_) rfl
  unfold sX2_dropFirst_l7_step
  simp only [olet_eq]
  refine PO_ite (PO_oinr (key ha)) (PO_ite (PO_oinr (key ha)) (PO_oif (PO_oif (PO_inl ?_))))
  dsimp only
  repeat (first | rw [ts_si (Or.inl (by decide))] | rw [ts_si (Or.inr ⟨by decide, by decide, by decide⟩)] | rw [ts_sr (by decide)] | rw [ts_sq])
  exact ha
theorem ts_starts {L : Mem} : PO (fun r => TS r = TS L) (sX7_startSteps L) := by
  unfold sX7_startSteps sX7_startSteps_l7
  refine PO_bindT fun b => PO_itw (I := fun a => TS a.2.2 = TS L) (fun a ha => ?_) rfl
  unfold sX7_startSteps_l7_step
  refine PO_ite (PO_oinr (PO_s ha)) (PO_bindT fun r => PO_ite (PO_oinr (PO_s ha)) (PO_bind (q := fun r' => TS r' = TS L) ?_ fun r' hr => PO_inl hr))
  unfold sX7_startStep
  simp only [olet_eq]
  refine PO_bind ts_drop fun r' hr => PO_s ?_
  repeat (first | rw [ts_si (Or.inl (by decide))] | rw [ts_si (Or.inr ⟨by decide, by decide, by decide⟩)] | rw [ts_sr (by decide)] | rw [ts_sq])
  exact hr.trans ha
def StB (L : Mem) : Prop := ∃ t k, t ≤ 20000 ∧ k ≤ 16 * t ∧ (TS L).2 = (nI t, nI k)
theorem StB.of {L L' : Mem} (h : StB L) (e : TS L' = TS L) : StB L' := by
  obtain ⟨t, k, h1, h2, h3⟩ := h
  exact ⟨t, k, h1, h2, by rw [e]; exact h3⟩
theorem StB.of2 {L L' : Mem} (h : StB L) (e1 : gi L' 0 12 0 = gi L 0 12 0) (e2 : gi L' 0 13 0 = gi L 0 13 0) : StB L' := by
  obtain ⟨t, k, h1, h2, h3⟩ := h
  refine ⟨t, k, h1, h2, ?_⟩
  unfold TS at h3 ⊢
  dsimp only at h3 ⊢
  rw [e1, e2]; exact h3
/-- hours -/
theorem st_hours {L : Mem} {ni : Nat} {p : Int32} (h : StB L) (h9 : gi L 0 9 0 = nI ni) (hni : ni ≤ 16) : PO (fun r => StB r ∧ gi r 0 9 0 = nI ni) (sX7_passHours L p) := by
  unfold sX7_passHours sX7_passHours_l2
  refine PO_itw (I := fun a => StB a.2 ∧ gi a.2 0 9 0 = nI ni) (fun a ha => ?_) ⟨h, h9⟩
  unfold sX7_passHours_l2_step
  refine PO_ite (PO_oinr (PO_s ha)) ?_
  by_cases e : (20000 : Int32) ≤ gi a.2 0 12 0
  · rw [if_pos e]; exact PO_oinr (PO_s ha)
  rw [if_neg e]
  obtain ⟨⟨t, k, h1, h2, h3⟩, h4⟩ := ha
  have h12 : gi a.2 0 12 0 = nI t := congrArg Prod.fst h3
  have h13 : gi a.2 0 13 0 = nI k := congrArg Prod.snd h3
  have ht : t < 20000 := by
    rw [h12, n_lit 20000, n_le (by omega) (by omega)] at e; omega
  unfold sX7_passHours_l19
  refine PO_itw (I := fun b => ∃ k u, u ≤ ni ∧ k ≤ 16 * t + u ∧ TS b.2.2 = (nI ni, nI t, nI k) ∧ b.2.1 = nI u) (fun b hb => ?_) ⟨k, 0, by omega, by omega, by unfold TS; rw [h4, h12, h13], rfl⟩
  obtain ⟨k, u, g1, g2, g3, g4⟩ := hb
  unfold sX7_passHours_l19_step
  have g9 : gi b.2.2 0 9 0 = nI ni := congrArg Prod.fst g3
  rw [g9, g4]
  by_cases e2 : ni ≤ u
  · have hle : nI ni ≤ nI u := by rw [n_le (by omega) (by omega)]; exact e2
    rw [if_pos hle]
    refine PO_oinr (PO_bind ts_fill fun r1 q1 => PO_bind ts_loans fun r2 q2 => PO_bind ts_starts fun r3 q3 => ?_)
    rw [olet_eq]
    have q : TS r3 = (nI ni, nI t, nI k) := q3.trans (q2.trans (q1.trans g3))
    have q9 : gi r3 0 9 0 = nI ni := congrArg Prod.fst q
    have q12 : gi r3 0 12 0 = nI t := congrArg (fun z => z.2.1) q
    have q13 : gi r3 0 13 0 = nI k := congrArg (fun z => z.2.2) q
    refine PO_s ⟨⟨t + 1, k, by omega, by omega, ?_⟩, ?_⟩
    · unfold TS
      dsimp only
      rw [gi_eq2 ⟨rfl, rfl, rfl⟩, gi_ne (by omega), q12, q13, n_suc]
    · dsimp only
      rw [gi_ne (by omega), q9]
  · have hle : ¬ nI ni ≤ nI u := by rw [n_le (by omega) (by omega)]; exact e2
    rw [if_neg hle]
    refine PO_bind ts_goOn fun r hr => PO_inl ?_
    rw [g3] at hr
    dsimp only at hr ⊢
    rcases hr with hr | hr
    · exact ⟨k, u + 1, by omega, by omega, hr, n_suc u⟩
    · refine ⟨k + 1, u + 1, by omega, by omega, ?_, n_suc u⟩
      rw [hr, n_suc]
theorem ts_copy {A O : Mem} : PO (fun r => TS r = TS O) (sX7_copyFrom A O) := by
  unfold sX7_copyFrom
  simp only [olet_eq]
  have h0 : ∀ {S : Mem}, TS (sX0_copyFrom S O) = TS S := fun {S} => by
    unfold sX0_copyFrom
    simp only [olet_eq]
    repeat (first | rw [ts_si (Or.inl (by decide))] | rw [ts_si (Or.inr ⟨by decide, by decide, by decide⟩)] | rw [ts_sr (by decide)] | rw [ts_sq])
  unfold sX7_copyFrom_l85
  refine PO_itw (I := fun a => TS a.2 = TS O) (fun a ha => ?_) ?_
  · unfold sX7_copyFrom_l85_step
    rw [olet_eq]
    refine PO_ite (PO_oinr ?_) (PO_inl ?_)
    · unfold sX7_copyFrom_l114
      refine PO_itw (I := fun a => TS a.2 = TS O) (fun a ha => ?_) ha
      unfold sX7_copyFrom_l114_step
      rw [olet_eq]
      refine PO_ite (PO_oinr ?_) (PO_inl ?_)
      · unfold sX7_copyFrom_l143
        refine PO_itw (I := fun a => TS a.2 = TS O) (fun a ha => ?_) ha
        unfold sX7_copyFrom_l143_step
        rw [olet_eq]
        refine PO_ite (PO_oinr (PO_s ha)) (PO_inl ?_)
        unfold sX2_copyFrom
        simp only [olet_eq]
        repeat (first | rw [ts_si (Or.inl (by decide))] | rw [ts_si (Or.inr ⟨by decide, by decide, by decide⟩)] | rw [ts_sr (by decide)] | rw [ts_sq])
        exact ha
      · unfold sX5_copyFrom
        simp only [olet_eq]
        repeat (first | rw [ts_si (Or.inl (by decide))] | rw [ts_si (Or.inr ⟨by decide, by decide, by decide⟩)] | rw [ts_sr (by decide)] | rw [ts_sq])
        exact ha
    · unfold sX3_copyFrom
      simp only [olet_eq]
      repeat (first | rw [ts_si (Or.inl (by decide))] | rw [ts_si (Or.inr ⟨by decide, by decide, by decide⟩)] | rw [ts_sr (by decide)] | rw [ts_sq])
      exact ha
  · dsimp only
    rw [h0]
    unfold TS
    repeat (first | rw [gi_ne (by omega)] | rw [gi_eq2 ⟨rfl, rfl, rfl⟩])
/-! the calls -/
def StI (S : XT) : Prop := StB S.2.2.2.2.2.1 ∧ ∀ k, StB (S.2.2.2.2.2.2 k)
theorem st_X {S : XT} {X' : Mem} (h : StI S) : StI (S.1, X', S.2.2.1, S.2.2.2.1, S.2.2.2.2.1, S.2.2.2.2.2.1, S.2.2.2.2.2.2) := h
theorem st_R {S : XT} {R' : Mem} (h : StI S) : StI (S.1, S.2.1, S.2.2.1, R', S.2.2.2.2.1, S.2.2.2.2.2.1, S.2.2.2.2.2.2) := h
theorem st_C {S : XT} {C' : Mem} (h : StI S) : StI (S.1, S.2.1, S.2.2.1, S.2.2.2.1, C', S.2.2.2.2.2.1, S.2.2.2.2.2.2) := h
theorem st_S0 : StB S0 := ⟨0, 0, by omega, by omega, rfl⟩
theorem st_row {S : XT} {B k : Nat} (h : StI S) : PO (fun r => StI r.2 ∧ TS r.2.2.2.2.2.2.1 = TS S.2.2.2.2.2.1) (sRow S B k) := by
  unfold sRow
  refine PO_oifp ?_
  split
  · exact PO_s ⟨h, rfl⟩
  · refine PO_oifp (PO_s ⟨⟨h.1, fun j => ?_⟩, rfl⟩)
    dsimp only
    unfold upW
    by_cases e : j = k
    · rw [if_pos e]; exact st_S0
    · rw [if_neg e]; exact h.2 j
theorem st_upW {W : Nat → Mem} {k : Nat} {m : Mem} (h : ∀ k, StB (W k)) (hm : StB m) : ∀ j, StB (upW W k m j) := fun j => by
  unfold upW
  by_cases e : j = k
  · rw [if_pos e]; exact hm
  · rw [if_neg e]; exact h j
theorem st_remember {S : XT} {B : Nat} (h : StI S) : PO (fun r => StI r ∧ TS r.2.2.2.2.2.1 = TS S.2.2.2.2.2.1) (sX1_remember S B) := by
  unfold sX1_remember
  refine PO_oif (PO_bind (st_row h) fun r hr => PO_bind ts_copy fun m hm => PO_s ⟨⟨hr.1.1, st_upW hr.1.2 (hr.1.1.of hm)⟩, hr.2⟩)
theorem st_stepBack {S : XT} {B : Nat} (h : StI S) : PO (fun r => StI r.2) (sX1_stepBack S B) := by
  unfold sX1_stepBack
  rw [olet_eq]
  exact PO_ite (PO_s h) (PO_oif (PO_bind (st_row h) fun r hr => PO_bind ts_copy fun m hm => PO_s ⟨(hr.1.2 _).of hm, hr.1.2⟩))
theorem st_undo {S : XT} {B : Nat} (h : StI S) : PO (fun r => StI r.2) (sX9_undo S B) := by
  unfold sX9_undo
  exact PO_bind (st_stepBack h) fun r hr => PO_ite (PO_s hr) (PO_s hr)
theorem st_save {S : XT} {B : Nat} {p : Int32} (h : StI S) : PO (fun r => StI r.2) (sX9_saveSnapshot S B p) := by
  unfold sX9_saveSnapshot
  exact PO_ite (PO_s h) (PO_ite (PO_s h) (PO_bind (st_row h) fun r hr => PO_bind ts_copy fun m hm => PO_s ⟨hr.1.1, st_upW hr.1.2 (hr.1.1.of hm)⟩))
theorem st_restore {S : XT} {B : Nat} {p : Int32} (h : StI S) : PO (fun r => StI r.2) (sX9_restoreSnapshot S B p) := by
  unfold sX9_restoreSnapshot
  exact PO_ite (PO_s h) (PO_ite (PO_s h) (PO_ite (PO_s h) (PO_bind (st_row h) fun r hr => PO_bind ts_copy fun m hm => PO_s ⟨(hr.1.2 _).of hm, hr.1.2⟩)))
/-- a call that may throw: the studio that it leaves -/
def XW : Except (Nat × XT) (Int32 × XT) → Prop
  | .ok v => StI v.2
  | .error e => StI e.2
theorem st_plan {S : XT} {B : Nat} {p1 p2 : Int32} (h : StI S) : PO XW (sX9_plan S B p1 p2) := by
  unfold sX9_plan
  refine PO_oexc (fun _ => h) fun i => PO_oexc (fun _ => h) fun _ => PO_ite (PO_bind (st_remember h) fun r hr => ?_) (PO_s h)
  rw [olet_eq]
  refine PO_s ⟨hr.1.1.of ?_, hr.1.2⟩
  dsimp only
  unfold sX2_enqueue
  by_cases e1 : gi r.2.2.2.2.2.1 3 7 i < 0
  · rw [if_pos e1]
  · rw [if_neg e1]
    by_cases e2 : (8 : Int32) ≤ gi r.2.2.2.2.2.1 3 7 i
    · rw [if_pos e2]
    · rw [if_neg e2]
      simp only [olet_eq]
      repeat (first | rw [ts_si (Or.inl (by decide))] | rw [ts_si (Or.inr ⟨by decide, by decide, by decide⟩)] | rw [ts_sr (by decide)] | rw [ts_sq])
theorem st_cancel {S : XT} {B : Nat} {p1 : Int32} (h : StI S) : PO XW (sX9_cancel S B p1) := by
  unfold sX9_cancel
  refine PO_oexc (fun _ => h) fun i => PO_ite (PO_s h) (PO_bind (st_remember h) fun r hr => PO_bind (q := fun z => TS z.2 = TS r.2.2.2.2.2.1) ?_ fun z hz => PO_s ⟨hr.1.1.of hz, hr.1.2⟩)
  have key : ∀ {S : Mem} {y : Int32}, TS S = TS r.2.2.2.2.2.1 → PO (fun z : Int32 × Mem => TS z.2 = TS r.2.2.2.2.2.1) (sX2_dropLast_j28 S i y) := fun {S y} h => by
    unfold sX2_dropLast_j28
    simp only [olet_eq]
    refine PO_ite (PO_s ?_) (PO_s h)
    dsimp only
    repeat (first | rw [ts_si (Or.inl (by decide))] | rw [ts_si (Or.inr ⟨by decide, by decide, by decide⟩)] | rw [ts_sr (by decide)] | rw [ts_sq])
    exact h
  unfold sX2_dropLast
  simp only [olet_eq]
  refine PO_bindT fun q => PO_ite (key rfl) (key ?_)
  repeat (first | rw [ts_si (Or.inl (by decide))] | rw [ts_si (Or.inr ⟨by decide, by decide, by decide⟩)] | rw [ts_sr (by decide)] | rw [ts_sq])
theorem st_clear {S : XT} {B : Nat} {p1 : Int32} (h : StI S) : PO XW (sX9_clearQueue S B p1) := by
  unfold sX9_clearQueue
  simp only [olet_eq]
  refine PO_oexc (fun _ => h) fun i => PO_ite (PO_s h) (PO_bind (st_remember h) fun r hr => PO_s ⟨hr.1.1.of ?_, hr.1.2⟩)
  dsimp only
  repeat (first | rw [ts_si (Or.inl (by decide))] | rw [ts_si (Or.inr ⟨by decide, by decide, by decide⟩)] | rw [ts_sr (by decide)] | rw [ts_sq])
theorem st_exchange {S : XT} {B : Nat} {p1 p2 p3 : Int32} (h : StI S) : PO XW (sX9_exchange S B p1 p2 p3) := by
  unfold sX9_exchange
  refine PO_oexc (fun _ => h) fun i => PO_ite (PO_s h) (PO_ite (PO_s h) (PO_ite (PO_s h) (PO_bind (st_remember h) fun r hr => PO_bind (q := fun z => TS z = TS r.2.2.2.2.2.1) ?_ fun z hz => PO_bindT fun _ => PO_s ⟨hr.1.1.of hz, hr.1.2⟩)))
  unfold sX2_swap
  simp only [olet_eq]
  refine PO_ite (PO_s rfl) (PO_ite (PO_s rfl) (PO_oif (PO_oif (PO_oif (PO_oif (PO_ite (PO_s ?_) (PO_ite (PO_s ?_) (PO_s ?_))))))))
  · repeat (first | rw [ts_si (Or.inl (by decide))] | rw [ts_si (Or.inr ⟨by decide, by decide, by decide⟩)] | rw [ts_sr (by decide)] | rw [ts_sq])
  · repeat (first | rw [ts_si (Or.inl (by decide))] | rw [ts_si (Or.inr ⟨by decide, by decide, by decide⟩)] | rw [ts_sr (by decide)] | rw [ts_sq])
  · repeat (first | rw [ts_si (Or.inl (by decide))] | rw [ts_si (Or.inr ⟨by decide, by decide, by decide⟩)] | rw [ts_sr (by decide)] | rw [ts_sq])
theorem st_approve {S : XT} {B : Nat} {p1 : Int32} (h : StI S) : PO XW (sX9_approve S B p1) := by
  unfold sX9_approve
  simp only [olet_eq]
  refine PO_oexc (fun _ => h) fun i => PO_ite (PO_s h) (PO_ite (PO_s h) (PO_bind (st_remember h) fun r hr => PO_s ⟨hr.1.1.of ?_, hr.1.2⟩))
  dsimp only
  repeat (first | rw [ts_si (Or.inl (by decide))] | rw [ts_si (Or.inr ⟨by decide, by decide, by decide⟩)] | rw [ts_sr (by decide)] | rw [ts_sq])
theorem st_lend {S : XT} {B : Nat} {p1 p2 p3 p4 : Int32} (h : StI S) : PO XW (sX9_lend S B p1 p2 p3 p4) := by
  unfold sX9_lend
  simp only [olet_eq]
  refine PO_oexc (fun _ => h) fun i => PO_oexc (fun _ => h) fun _ => PO_oexc (fun _ => h) fun _ => PO_oexc (fun _ => h) fun _ => PO_ite (PO_bind (st_remember h) fun r hr => PO_s ⟨hr.1.1.of ?_, hr.1.2⟩) (PO_s h)
  dsimp only
  unfold sX2_awaitLoan
  simp only [olet_eq]
  repeat (first | rw [ts_si (Or.inl (by decide))] | rw [ts_si (Or.inr ⟨by decide, by decide, by decide⟩)] | rw [ts_sr (by decide)] | rw [ts_sq])
theorem st_recall {S : XT} {B : Nat} {p1 : Int32} (h : StI S) : PO XW (sX9_recall S B p1) := by
  unfold sX9_recall
  simp only [olet_eq]
  refine PO_oexc (fun _ => h) fun i => PO_ite (PO_s h) (PO_bind (st_remember h) fun r hr => PO_s ⟨hr.1.1.of ?_, hr.1.2⟩)
  dsimp only
  repeat (first | rw [ts_si (Or.inl (by decide))] | rw [ts_si (Or.inr ⟨by decide, by decide, by decide⟩)] | rw [ts_sr (by decide)] | rw [ts_sq])
theorem st_tick {S : XT} {B ni : Nat} {p1 : Int32} (h : StI S) (h9 : gi S.2.2.2.2.2.1 0 9 0 = nI ni) (hni : ni ≤ 16) : PO XW (sX9_tick S B p1) := by
  unfold sX9_tick
  refine PO_oexc (fun _ => h) fun i => PO_ite (PO_bind (st_remember h) fun r hr => ?_) (PO_s h)
  have h9' : gi r.2.2.2.2.2.1 0 9 0 = nI ni := (congrArg Prod.fst hr.2).trans h9
  exact PO_bind (st_hours hr.1.1 h9' hni) fun z hz => PO_s ⟨hz.1, hr.1.2⟩
theorem st_fore {S : XT} {B : Nat} (h : StI S) : PO (fun r => StI r.2) (sX9_startForecast S B) := by
  unfold sX9_startForecast
  exact PO_bindT fun m => PO_s h
theorem st_scoreIn {S : XT} {B : Nat} {p1 p2 : Int32} (h : StI S) : PO XW (sX9_scoreIn S B p1 p2) := by
  unfold sX9_scoreIn
  refine PO_oexc (fun _ => h) fun _ => PO_oexc (fun _ => h) fun _ => PO_bind (st_fore h) fun r hr => PO_bindT fun m => PO_s (st_C hr)
theorem st_lentIn {S : XT} {B : Nat} {p1 : Int32} (h : StI S) : PO XW (sX9_lentIn S B p1) := by
  unfold sX9_lentIn
  refine PO_oexc (fun _ => h) fun _ => PO_bind (st_fore h) fun r hr => PO_bindT fun m => PO_bindT fun _ => PO_s (st_C hr)
theorem st_bestBenches {S : XT} {B : Nat} {p1 : Int32} (h : StI S) : PO XW (sX9_bestBenches S B p1) := by
  unfold sX9_bestBenches sX9_bestBenches_l15
  refine PO_oexc (fun _ => h) fun _ => PO_itw (I := fun a => StI a.2.2.2) (fun a ha => ?_) h
  unfold sX9_bestBenches_l15_step
  simp only [olet_eq]
  exact PO_ite (PO_oinr (PO_s ha)) (PO_bind (st_fore ha) fun r hr => PO_bindT fun m => PO_ite (PO_inl (st_C hr)) (PO_inl (st_C hr)))
theorem st_readyAt {S : XT} {B : Nat} {p1 p2 : Int32} (h : StI S) : PO XW (sX9_readyAt S B p1 p2) := by
  unfold sX9_readyAt
  refine PO_oexc (fun _ => h) fun _ => PO_oexc (fun _ => h) fun _ => PO_bind (st_fore h) fun r hr => ?_
  unfold sX9_readyAt_l28
  refine PO_itw (I := fun a => StI a.2.2) (fun a ha => ?_) hr
  have key : PO (PS (fun a : Nat × Int32 × XT => StI a.2.2) XW) (sX9_readyAt_j55 a.2.2 B p1 p2 a.1 a.2.1) := by
    unfold sX9_readyAt_j55
    simp only [olet_eq]
    exact PO_ite (PO_bindT fun m => PO_inl (st_C ha)) (PO_oinr (PO_s ha))
  unfold sX9_readyAt_l28_step
  exact PO_ite (PO_oinr (PO_s ha)) (PO_ite (PO_ite (PO_oinr (PO_s ha)) key) key)
theorem st_quietAt {S : XT} {B : Nat} {p1 : Int32} (h : StI S) : PO XW (sX9_quietAt S B p1) := by
  unfold sX9_quietAt
  refine PO_oexc (fun _ => h) fun _ => PO_bind (st_fore h) fun r hr => ?_
  unfold sX9_quietAt_l15
  refine PO_itw (I := fun a => StI a.2) (fun a ha => ?_) hr
  unfold sX9_quietAt_l15_step
  simp only [olet_eq]
  exact PO_ite (PO_oinr (PO_s ha)) (PO_bindT fun q => PO_ite (PO_ite (PO_bindT fun m => PO_inl (st_C ha)) (PO_oinr (PO_s ha))) (PO_oinr (PO_s ha)))
theorem st_put {S : XT} {B : Nat} {p1 : Int32} (h : StI S) : PO StI (sX9_put S B p1) := by
  unfold sX9_put
  simp only [olet_eq]
  exact PO_ite (PO_s h) (PO_ite (PO_s h) (PO_s (st_X h)))
theorem st_write {S : XT} {B : Nat} {p1 : Int32} (h : StI S) : PO XW (sX9_write S B p1) := by
  unfold sX9_write
  simp only [olet_eq]
  refine PO_oexc (fun _ => h) fun i => ?_
  have key : ∀ {S : XT} {k : Nat} {y z : Int32}, StI S → PO (PS (fun a : Nat × Int32 × XT => StI a.2.2) XW) (sX9_write_j38 S B p1 k y z) := fun {S k y z} h => by
    unfold sX9_write_j38
    simp only [olet_eq]
    exact PO_bind (st_put h) fun r hr => PO_ite (PO_inl hr) (PO_bind (st_put hr) fun r' hr' => PO_inl hr')
  unfold sX9_write_l13
  refine PO_itw (I := fun a => StI a.2.2) (fun a ha => ?_) h
  unfold sX9_write_l13_step
  exact PO_ite (PO_oinr (PO_s ha)) (PO_bindT fun q => PO_ite (key ha) (PO_bind (st_put ha) fun r hr => key hr))
theorem st_append {S : XT} {B : Nat} {p1 p2 p3 p4 p5 : Int32} (h : StI S) : PO (fun r => StI r.2) (sX9_appendInput S B p1 p2 p3 p4 p5) := by
  unfold sX9_appendInput
  simp only [olet_eq]
  exact PO_ite (PO_s h) (PO_s (st_R h))
theorem st_truncate {S : XT} {B : Nat} {p1 : Int32} (h : StI S) : PO (fun r => StI r.2) (sX9_truncateInput S B p1) := by
  unfold sX9_truncateInput
  simp only [olet_eq]
  exact PO_ite (PO_s h) (PO_ite (PO_s (st_R h)) (PO_s h))
