/-! ===== ALL CALLS ===== -/
section ALL
variable {B m : Nat} {S : XT} {T : Mem}
/-- what stands between two calls, with the number of steps done -/
def IW (B m : Nat) (S : XT) (T : Mem) : Prop := IV B m S T ∧ StI S
theorem iv_dn (h : IV B (m + 1) S T) : IV B m S T := by
  obtain ⟨np, nr, ni, hV⟩ := h
  exact ⟨np, nr, ni, hV.mono (Nat.le_succ _)⟩
theorem pfa_st {x : Option (Int32 × XT)} {mo : Option (Int32 × Mem)} (h : PFA x mo (IV B m)) (hs : PO (fun r : Int32 × XT => StI r.2) x) : PFA x mo (IW B m) := by
  obtain ⟨v, S', T', h1, h2, h3⟩ := h
  exact ⟨v, S', T', h1, h2, h3, hs _ h1⟩
theorem pfx_st {α : Type} {x : Option (Except Nat α × XT)} {mo : Option (α × Mem)} {co : Nat → Option Int32} (h : PFX x mo co (IV B m)) (hs : PO (fun r : Except Nat α × XT => StI r.2) x) : PFX x mo co (IW B m) := by
  obtain ⟨r, b, T', h1, h2, h3, h4⟩ := h
  refine ⟨r, b, T', h1, h2, fun v hv => ?_, fun e he => ?_⟩
  · obtain ⟨a, b, c⟩ := h3 v hv
    exact ⟨a, b, c, hs _ h1⟩
  · obtain ⟨a, b, c⟩ := h4 e he
    exact ⟨a, b, fun z z1 z2 => ⟨c z z1 z2, hs _ h1⟩⟩
theorem po_uA {x : Option Int32} (h : StI S) : PO (fun r : Int32 × XT => StI r.2) (uA x S) := by
  cases x with
  | none => exact PO_n
  | some v => exact PO_s h
theorem po_uP {x : Option (Except Nat Int32)} (h : StI S) : PO (fun r : Except Nat Int64 × XT => StI r.2) (uP x S) := by
  match x with
  | none => exact PO_n
  | some (.ok v) => exact PO_s h
  | some (.error e) => exact PO_s h
theorem po_uB {x : Option (Except Nat Int32)} (h : StI S) : PO (fun r : Except Nat Int64 × XT => StI r.2) (uB x S) := by
  match x with
  | none => exact PO_n
  | some (.ok v) => exact PO_s h
  | some (.error e) => exact PO_s h
theorem po_uM {x : Option (Except Nat UInt64)} (h : StI S) : PO (fun r : Except Nat UInt64 × XT => StI r.2) (uM x S) := by
  match x with
  | none => exact PO_n
  | some (.ok v) => exact PO_s h
  | some (.error e) => exact PO_s h
theorem po_uW {x : Option (Except (Nat × XT) (Int32 × XT))} (h : PO XW x) : PO (fun r : Except Nat Int64 × XT => StI r.2) (uW x) := by
  match x, h with
  | none, _ => exact PO_n
  | some (.ok v), h => exact PO_s (h _ rfl)
  | some (.error e), h => exact PO_s (h _ rfl)
theorem po_uV {x : Option (Except (Nat × XT) (Int64 × XT))} (h : PO XV x) : PO (fun r : Except Nat Int64 × XT => StI r.2) (uV x) := by
  match x, h with
  | none, _ => exact PO_n
  | some (.ok v), h => exact PO_s (h _ rfl)
  | some (.error e), h => exact PO_s (h _ rfl)
theorem po_tick {p1 : Int32} (h : IW B (m + 1) S T) : PO XW (sX9_tick S B p1) := by
  obtain ⟨⟨np, nr, ni, hV⟩, hst⟩ := h
  exact st_tick hst hV.1.1.2.1.2.2 hV.1.1.1.2.2
theorem pf_all (hm : ∀ m S T, IV B (m + 1) S T → PFX (uM (sX9_meanScore S B) S) (sX10_meanScore T) co3 (IV B m)) (a : Nat → Int32) (h : IW B (m + 1) S T) : ∀ c, c < 64 → PF B S T a (IW B m) c :=
  le64 (P := fun c => PF B S T a (IW B m) c)
    (pfa_st (call_appendInput h.1 (a 1) (a 2) (a 3) (a 4) (a 5)) (st_append h.2))
    (pfa_st (call_truncateInput h.1 (a 1)) (st_truncate h.2))
    (call_load h.1 h.2)
    (pfa_st (call_errorCode h.1) (po_uA h.2))
    (pfa_st (call_errorPosition h.1) (po_uA h.2))
    (pfa_st (call_count h.1 (a 1)) (po_uA h.2))
    (pfx_st (call_press h.1 (a 1) (a 2)) (po_uP h.2))
    (pfx_st (call_recipe h.1 (a 1) (a 2)) (po_uP h.2))
    (pfx_st (call_object h.1 (a 1) (a 2)) (po_uP h.2))
    (pfx_st (call_queued h.1 (a 1) (a 2)) (po_uP h.2))
    (pfx_st (call_loan h.1 (a 1) (a 2)) (po_uP h.2))
    (pfx_st (call_plan h.1 (a 1) (a 2)) (po_uW (st_plan h.2)))
    (pfx_st (call_cancel h.1 (a 1)) (po_uW (st_cancel h.2)))
    (pfx_st (call_clearQueue h.1 (a 1)) (po_uW (st_clear h.2)))
    (pfx_st (call_exchange h.1 (a 1) (a 2) (a 3)) (po_uW (st_exchange h.2)))
    (pfx_st (call_approve h.1 (a 1)) (po_uW (st_approve h.2)))
    (pfx_st (call_lend h.1 (a 1) (a 2) (a 3) (a 4)) (po_uW (st_lend h.2)))
    (pfx_st (call_recall h.1 (a 1)) (po_uW (st_recall h.2)))
    (pfx_st (call_tick h.1 (a 1)) (po_uW (po_tick h)))
    (pfx_st (call_reason h.1 (a 1)) (po_uP h.2))
    (pfx_st (call_cause h.1 (a 1)) (po_uP h.2))
    (pfx_st (call_objectsWith h.1 (a 1)) (po_uP h.2))
    (pfa_st (call_next h.1) (po_uA h.2))
    (pfx_st (call_needsApproval h.1 (a 1) (a 2)) (po_uB h.2))
    (pfx_st (call_approvalsAhead h.1 (a 1)) (po_uP h.2))
    (pfx_st (call_pressFor h.1 (a 1)) (po_uP h.2))
    (pfx_st (call_scoreAfter h.1 (a 1) (a 2)) (po_uP h.2))
    (pfx_st (call_scoreAhead h.1 (a 1)) (po_uP h.2))
    (pfx_st (call_bestRecipe h.1 (a 1)) (po_uP h.2))
    (pfx_st (call_stepsTo h.1 (a 1) (a 2) (a 3)) (po_uP h.2))
    (pfx_st (call_quickestTo h.1 (a 1) (a 2)) (po_uW (st_quickest h.2)))
    (pfx_st (call_cheapestTo h.1 (a 1) (a 2)) (po_uV (st_cheapest h.2)))
    (pfx_st (call_hoursAhead h.1 (a 1)) (po_uP h.2))
    (pfx_st (call_bill h.1 (a 1)) (po_uP h.2))
    (pfx_st (call_allBills h.1) (po_uP h.2))
    (pfx_st (call_billAhead h.1 (a 1)) (po_uP h.2))
    (pfx_st (call_record h.1 (a 1) (a 2)) (po_uP h.2))
    (pfx_st (call_recordsOf h.1 (a 1) (a 2)) (po_uP h.2))
    (pfx_st (call_latestRecord h.1 (a 1)) (po_uP h.2))
    (pfx_st (call_lost h.1 (a 1)) (po_uP h.2))
    (pfx_st (call_recorded h.1 (a 1)) (po_uP h.2))
    (pfx_st (call_readyAt h.1 (a 1) (a 2)) (po_uW (st_readyAt h.2)))
    (pfx_st (call_scoreIn h.1 (a 1) (a 2)) (po_uW (st_scoreIn h.2)))
    (pfx_st (call_lentIn h.1 (a 1)) (po_uW (st_lentIn h.2)))
    (pfx_st (call_bestBenches h.1 h.2 (a 1)) (po_uW (st_bestBenches h.2)))
    (pfx_st (call_quietAt h.1 (a 1)) (po_uW (st_quietAt h.2)))
    (pfx_st (call_lateness h.1 (a 1)) (po_uP h.2))
    (pfa_st (call_mostUrgent h.1) (po_uA h.2))
    (pfa_st (call_waitingLoan h.1 (a 1)) (po_uA h.2))
    (pfx_st (call_uses h.1 (a 1)) (po_uP h.2))
    (pfx_st (call_pressUse h.1 (a 1)) (po_uP h.2))
    (pfx_st (call_inQueues h.1 (a 1)) (po_uP h.2))
    (pfx_st (call_dryIn h.1 (a 1)) (po_uP h.2))
    (pfx_st (call_rank h.1 (a 1)) (po_uP h.2))
    (pfa_st (call_below h.1 (a 1)) (po_uA h.2))
    (pfx_st (call_objectsIn h.1 (a 1)) (po_uP h.2))
    (pfx_st (hm _ _ _ h.1) (po_uM h.2))
    (pfx_st (call_write h.1 (a 1)) (po_uW (st_write h.2)))
    (pfa_st (call_outputByte h.1 (a 1)) (po_uA h.2))
    (call_play h.1 h.2)
    (pfa_st (call_undo (iv_dn h.1)) (st_undo h.2))
    (pfa_st (call_digest h.1) (po_uA h.2))
    (pfa_st (call_save (iv_dn h.1) (a 1)) (st_save h.2))
    (pfa_st (call_restore (iv_dn h.1) (a 1)) (st_restore h.2))
theorem iw_lrw (h : IW B m S T) : lrw B S.2.2.1 := by
  obtain ⟨⟨np, nr, ni, hV⟩, -⟩ := h
  exact fun k hk a ha => (hV.2.2.2.1.1 k hk a ha).1.1
end ALL
