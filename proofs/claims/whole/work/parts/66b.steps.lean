/-! ===== THE LEAST WAYS KEEP IT TOO ===== -/
theorem st_lstep {B : Nat} {p2 p3 p4 : Int32} {a : Int64 × Int32 × XT} (ha : StI a.2.2) : PO (PS (fun a : Int64 × Int32 × XT => StI a.2.2) (fun r : Int64 × XT => StI r.2)) (sX6_leastBetween_l8_step B p2 p3 p4 a) := by
  obtain ⟨y, c, z, X, P, R, C, L, W⟩ := a
  unfold sX6_leastBetween_l8_step
  refine PO_ite (PO_oinr (PO_s ha)) (PO_bindT fun q => PO_ite ?_ (PO_ite ?_ ?_))
  · rw [olet_eq]; exact PO_inl ha
  · rw [olet_eq]; exact PO_inl ha
  · generalize (sq X 5 _ q) = X'
    rw [olet_eq, olet_eq]
    exact PO_inl ha
theorem st_least {S : XT} {B : Nat} {p2 p3 p4 : Int32} (h : StI S) : PO (fun r => StI r.2) (sX6_leastBetween S B p2 p3 p4) := by
  unfold sX6_leastBetween sX6_leastBetween_l8
  rw [olet_eq]
  exact PO_itw (I := fun a => StI a.2.2) (fun a ha => st_lstep ha) h
theorem st_quickest {S : XT} {B : Nat} {p1 p2 : Int32} (h : StI S) : PO XW (sX9_quickestTo S B p1 p2) := by
  unfold sX9_quickestTo
  exact PO_oexc (fun _ => h) fun _ => PO_oexc (fun _ => h) fun _ => PO_bind (st_least h) fun r hr => PO_s hr
def XV : Except (Nat × XT) (Int64 × XT) → Prop
  | .ok v => StI v.2
  | .error e => StI e.2
theorem st_cheapest {S : XT} {B : Nat} {p1 p2 : Int32} (h : StI S) : PO XV (sX9_cheapestTo S B p1 p2) := by
  unfold sX9_cheapestTo
  exact PO_oexc (fun _ => h) fun _ => PO_oexc (fun _ => h) fun _ => PO_bind (st_least h) fun r hr => PO_s hr
