/-! ===== THE ACTING CALLS ===== -/
section ACT
theorem rel_swap {S T : Mem} {np nr ni i a b k : Nat} (h : Rel S T np nr ni) (hi : i < ni) (h7 : gi S 3 7 i = nI k) (hk : k ≤ 8) (ha : a < k) (hb : b < k) (hab : a ≠ b) : Rel (si (si S 4 a i (gi S 4 b i)) 4 b i (gi S 4 a i)) (si (si T 0 (6 + 21 * i + (13 + b)) 0 (gi T 0 (6 + 21 * i + (13 + a)) 0)) 0 (6 + 21 * i + (13 + a)) 0 (gi T 0 (6 + 21 * i + (13 + b)) 0)) np nr ni := by
  have hni : ni ≤ 16 := h.1.1.2.2
  obtain ⟨q1, q2, ⟨k', k1, k2, k3⟩, q4, q5⟩ := h.2.2.2.2.2 i hi
  have ek : k' = k := by
    have := k2.symm.trans h7
    rw [n_eq (by omega) (by omega)] at this; exact this
  subst ek
  refine h.itm hi (fun c j x h1 h2 => by repeat (first | rw [gi_ne (by omega)] | rw [gi_eq2 (by omega)])) (fun _ _ => rfl) (fun j hj => by repeat (first | rw [gi_ne (by omega)] | rw [gi_eq2 (by omega)])) (fun j => by repeat (first | rw [gi_ne (by omega)] | rw [gi_eq2 (by omega)])) (fun _ _ => rfl) ⟨?_, ?_, ⟨k', k1, ?_, fun j hj => ?_⟩, ?_, ?_⟩
  · unfold ItE at q1 ⊢
    repeat (first | rw [gi_ne (by omega)] | rw [gi_eq2 (by omega)])
    exact ⟨q1.1, q1.2.1, q1.2.2.1, q1.2.2.2.1, q1.2.2.2.2.1, q1.2.2.2.2.2.1, q1.2.2.2.2.2.2.1, q1.2.2.2.2.2.2.2⟩
  · unfold ItC at q2 ⊢
    repeat (first | rw [gi_ne (by omega)] | rw [gi_eq2 (by omega)])
    exact q2
  · repeat (first | rw [gi_ne (by omega)] | rw [gi_eq2 (by omega)])
    exact k2
  · by_cases ea : j = a
    · subst ea
      repeat (first | rw [gi_ne (by omega)] | rw [gi_eq2 (by omega)])
      exact k3 b hb
    · by_cases eb : j = b
      · subst eb
        repeat (first | rw [gi_ne (by omega)] | rw [gi_eq2 (by omega)])
        exact k3 a ha
      · repeat (first | rw [gi_ne (by omega)] | rw [gi_eq2 (by omega)])
        exact k3 j hj
  · unfold ItL at q4 ⊢
    repeat (first | rw [gi_ne (by omega)] | rw [gi_eq2 (by omega)])
    exact q4
  · unfold ItS at q5 ⊢
    repeat (first | rw [gi_ne (by omega)] | rw [gi_eq2 (by omega)])
    exact q5
theorem e_swap {S : Mem} {i a b k : Nat} (h7 : gi S 3 7 i = nI k) (hk : k ≤ 8) (ha : a < k) (hb : b < k) (hab : a ≠ b) : sX2_swap S i (nI a) (nI b) = some (if a = 0 ∨ b = 0 then si (si (si S 4 a i (gi S 4 b i)) 4 b i (gi S 4 a i)) 3 8 i (-1) else si (si S 4 a i (gi S 4 b i)) 4 b i (gi S 4 a i)) := by
  have hp : ∀ j, j < k → sX2_hasPlace S i (nI j) = 1 := fun j hj => by
    unfold sX2_hasPlace
    rw [if_neg (n_nn (by omega)), h7, if_neg (by rw [n_le (by omega) (by omega)]; omega), if_neg (by rw [n_lit 8, n_le (by omega) (by omega)]; omega)]
  unfold sX2_swap
  rw [hp a ha, hp b hb, if_neg (show ¬ (1 : Int32) = 0 by decide), if_neg (show ¬ (1 : Int32) = 0 by decide), n_inb (by omega) (by omega), oif_t rfl, olet_eq, n_inb (by omega) (by omega), oif_t rfl, oif_t rfl, olet_eq, oif_t rfl, olet_eq, n_cl (by omega), n_cl (by omega)]
  by_cases a0 : a = 0
  · subst a0
    rw [if_pos (show nI 0 = 0 from rfl), if_pos (Or.inl rfl)]
    rfl
  · rw [if_neg (show ¬ nI a = 0 by rw [n_lit 0, n_eq (by omega) (by omega)]; exact a0)]
    by_cases b0 : b = 0
    · subst b0
      rw [if_pos (show nI 0 = 0 from rfl), if_pos (Or.inr rfl)]
      rfl
    · rw [if_neg (show ¬ nI b = 0 by rw [n_lit 0, n_eq (by omega) (by omega)]; exact b0), if_neg (by omega)]
/-! what the law asks -/
variable {B m np nr ni : Nat} {S : XT} {T : Mem} {co : Nat → Option Int32}
theorem e_thr0 {T : Mem} {w : Int32} : sX10_throwsIf T 0 w = (0, T) := by
  unfold sX10_throwsIf
  rw [if_pos rfl]
theorem e_thr1 {T : Mem} {w : Int32} : sX10_throwsIf T 1 w = (1, si T 100 6 0 w) := by
  unfold sX10_throwsIf
  rw [if_neg (by decide)]
  rfl
theorem one_ne : ¬ (1 : Int32) = 0 := by decide
theorem pfx_do {x : Option (Except (Nat × XT) (Int32 × XT))} {mo : Option (Int32 × Mem)} (h : ∃ v S' T', x = some (.ok (v, S')) ∧ mo = some (v, T') ∧ IVn B (m + 1) S' T' np nr ni ∧ gi T' 100 6 0 = 0) : PFX (uW x) (mI mo) co (IV B m) := by
  obtain ⟨v, S', T', rfl, rfl, h1, h2⟩ := h
  refine ⟨_, _, _, rfl, rfl, fun v hv => ?_, fun e he => by cases he⟩
  cases hv
  exact ⟨h2, rfl, np, nr, ni, h1.mono (Nat.le_succ _)⟩
theorem pfx_bad {e : Nat} {b w : Int32} {x : Option (Except (Nat × XT) (Int32 × XT))} {mo : Option (Int32 × Mem)} (hV : IVn B (m + 1) S T np nr ni) (hx : x = some (.error (e, S))) (hm : mo = some (b, si (si T 100 6 0 0) 100 6 0 w)) (hco : co e = some w) (hw : w ≠ 0) : PFX (uW x) (mI mo) co (IV B m) := by
  subst hx; subst hm
  refine ⟨_, _, _, rfl, rfl, fun v hv => (by cases hv), fun e' he => ?_⟩
  cases he
  rw [gi_eq2 ⟨rfl, rfl, rfl⟩]
  exact ⟨hco, hw, fun z hz _ => ⟨np, nr, ni, (hV.th.th).bump hz⟩⟩
theorem pfp_ok {v : Int32} {x : Option (Except Nat Int32)} {mo : Option (Int32 × Mem)} (hV : IVn B (m + 1) S T np nr ni) (hx : x = some (.ok v)) (hm : mo = some (v, si T 100 6 0 0)) : PFX (uP x S) (mI mo) co (IV B m) := by
  subst hx; subst hm
  refine ⟨_, _, _, rfl, rfl, fun v hv => ?_, fun e he => by cases he⟩
  cases hv
  exact ⟨gi_eq2 ⟨rfl, rfl, rfl⟩, rfl, np, nr, ni, hV.th.mono (Nat.le_succ _)⟩
theorem pfp_bad {e : Nat} {b w : Int32} {x : Option (Except Nat Int32)} {mo : Option (Int32 × Mem)} (hV : IVn B (m + 1) S T np nr ni) (hx : x = some (.error e)) (hm : mo = some (b, si (si T 100 6 0 0) 100 6 0 w)) (hco : co e = some w) (hw : w ≠ 0) : PFX (uP x S) (mI mo) co (IV B m) := by
  subst hx; subst hm
  refine ⟨_, _, _, rfl, rfl, fun v hv => (by cases hv), fun e' he => ?_⟩
  cases he
  rw [gi_eq2 ⟨rfl, rfl, rfl⟩]
  exact ⟨hco, hw, fun z hz _ => ⟨np, nr, ni, (hV.th.th).bump hz⟩⟩
theorem pfa_ok {v : Int32} {x : Option Int32} {mo : Option (Int32 × Mem)} (hV : IVn B (m + 1) S T np nr ni) (hx : x = some v) (hm : mo = some (v, si T 100 6 0 0)) : PFA (uA x S) mo (IV B m) := by
  subst hx; subst hm
  exact ⟨_, _, _, rfl, rfl, np, nr, ni, hV.th.mono (Nat.le_succ _)⟩
theorem e_rqi {n : Nat} (hx : xrm S.1 = true) (hn : n < 1000000) (p : Int32) : (∃ i, i < n ∧ p = nI i ∧ sX9_requireIndex S B p (nI n) = some (.ok ()) ∧ ∀ T, sX10_inRange T p.toInt64 (0 : Int64) ((nI n - (1 : Int32)).toInt64) = 1) ∨ (sX9_requireIndex S B p (nI n) = some (.error 1) ∧ ∀ T, sX10_inRange T p.toInt64 (0 : Int64) ((nI n - (1 : Int32)).toInt64) = 0) := by
  unfold sX9_requireIndex
  rcases n_cases p (n := n) (by omega) with ⟨j, hj, rfl, c1, c2, c3, c4⟩ | ⟨c1, c2⟩
  · refine Or.inl ⟨j, hj, rfl, ?_, fun T => ?_⟩
    · rw [if_neg c1, if_pos c2]
    · rw [e_inR, i64_0, n_sub1 (by omega), c4, if_pos (by omega)]
  · refine Or.inr ⟨?_, fun T => ?_⟩
    · rcases c1 with c1 | ⟨c1, c3, c4⟩
      · rw [if_pos c1, oif_t hx]
      · rw [if_neg c1, if_neg c3, oif_t hx]
    · rw [e_inR, i64_0, n_sub1 (by omega), if_neg (by omega)]
theorem e_item (hV : IVn B (m + 1) S T np nr ni) (p : Int32) : (∃ i, i < ni ∧ p = nI i ∧ sX9_itemOf S B p = some (.ok i) ∧ sX9_requireObject S B p = some (.ok ()) ∧ ∀ T', gi T' 5 4 0 = gi T 5 4 0 → sX10_isObject T' p = 1) ∨ (sX9_itemOf S B p = some (.error 1) ∧ sX9_requireObject S B p = some (.error 1) ∧ ∀ T', gi T' 5 4 0 = gi T 5 4 0 → sX10_isObject T' p = 0) := by
  have hni : ni ≤ 16 := hV.1.1.1.2.2
  have e9 : gi S.2.2.2.2.2.1 0 9 0 = nI ni := hV.1.1.2.1.2.2
  have t4 : gi T 5 4 0 = nI ni := hV.1.1.2.2.1.2.2
  unfold sX9_itemOf sX9_requireObject sX10_isObject
  rw [e9, show (4 : Int32).toNatClampNeg = 4 from rfl]
  rcases e_rqi (B := B) (n := ni) hV.2.2.2.1.xr (by omega) p with ⟨i, h1, h2, h3, h4⟩ | ⟨h3, h4⟩
  · subst h2
    refine Or.inl ⟨i, h1, rfl, ?_, ?_, fun T' ht => ?_⟩
    · rw [h3]
      show some (Except.ok (sX7_itemAt _ (nI i))) = _
      rw [e_itemAt (by omega)]
    · rw [h3]; rfl
    · rw [ht, t4]; exact h4 _
  · refine Or.inr ⟨?_, ?_, fun T' ht => ?_⟩
    · rw [h3]; rfl
    · rw [h3]; rfl
    · rw [ht, t4]; exact h4 _
theorem e_reqR (hV : IVn B (m + 1) S T np nr ni) (p : Int32) : (∃ i, i < nr ∧ p = nI i ∧ sX9_requireRecipe S B p = some (.ok ()) ∧ ∀ T', gi T' 5 3 0 = gi T 5 3 0 → sX10_isRecipe T' p = 1) ∨ (sX9_requireRecipe S B p = some (.error 1) ∧ ∀ T', gi T' 5 3 0 = gi T 5 3 0 → sX10_isRecipe T' p = 0) := by
  have hnr : nr ≤ 10 := hV.1.1.1.2.1
  have e8 : gi S.2.2.2.2.2.1 0 8 0 = nI nr := hV.1.1.2.1.2.1
  have t3 : gi T 5 3 0 = nI nr := hV.1.1.2.2.1.2.1
  unfold sX9_requireRecipe sX10_isRecipe
  rw [e8, show (3 : Int32).toNatClampNeg = 3 from rfl]
  rcases e_rqi (B := B) (n := nr) hV.2.2.2.1.xr (by omega) p with ⟨i, h1, h2, h3, h4⟩ | ⟨h3, h4⟩
  · subst h2
    exact Or.inl ⟨i, h1, rfl, by rw [h3]; rfl, fun T' ht => by rw [ht, t3]; exact h4 _⟩
  · exact Or.inr ⟨by rw [h3]; rfl, fun T' ht => by rw [ht, t3]; exact h4 _⟩
theorem e_reqP (hV : IVn B (m + 1) S T np nr ni) (p : Int32) : (∃ i, i < np ∧ p = nI i ∧ sX9_requirePress S B p = some (.ok ()) ∧ ∀ T', gi T' 5 2 0 = gi T 5 2 0 → sX10_isPress T' p = 1) ∨ (sX9_requirePress S B p = some (.error 1) ∧ ∀ T', gi T' 5 2 0 = gi T 5 2 0 → sX10_isPress T' p = 0) := by
  have hnp : np ≤ 6 := hV.1.1.1.1
  have e7 : gi S.2.2.2.2.2.1 0 7 0 = nI np := hV.1.1.2.1.1
  have t2 : gi T 5 2 0 = nI np := hV.1.1.2.2.1.1
  unfold sX9_requirePress sX10_isPress
  rw [e7, show (2 : Int32).toNatClampNeg = 2 from rfl]
  rcases e_rqi (B := B) (n := np) hV.2.2.2.1.xr (by omega) p with ⟨i, h1, h2, h3, h4⟩ | ⟨h3, h4⟩
  · subst h2
    exact Or.inl ⟨i, h1, rfl, by rw [h3]; rfl, fun T' ht => by rw [ht, t2]; exact h4 _⟩
  · exact Or.inr ⟨by rw [h3]; rfl, fun T' ht => by rw [ht, t2]; exact h4 _⟩
theorem e_btw {lo hi : Nat} (hx : xrm S.1 = true) (hl : lo ≤ hi) (hh : hi < 1000000) (p : Int32) : (∃ k, lo ≤ k ∧ k ≤ hi ∧ p = nI k ∧ sX9_requireBetween S B p (nI lo) (nI hi) = some (.ok ()) ∧ ∀ T (a b : Int64), a.toInt = lo → b.toInt = hi → sX10_inRange T p.toInt64 a b = 1) ∨ (sX9_requireBetween S B p (nI lo) (nI hi) = some (.error 2) ∧ ∀ T (a b : Int64), a.toInt = lo → b.toInt = hi → sX10_inRange T p.toInt64 a b = 0) := by
  unfold sX9_requireBetween
  rcases n_ex p with ⟨k, hk, rfl⟩ | hn
  · by_cases h1 : lo ≤ k
    · have e1 : ¬ nI k < nI lo := by rw [n_lt (by omega) (by omega)]; omega
      by_cases h2 : k ≤ hi
      · refine Or.inl ⟨k, h1, h2, rfl, ?_, fun T a b ha hb => ?_⟩
        · rw [if_neg e1, if_pos (by rw [n_le (by omega) (by omega)]; exact h2)]
        · rw [e_inR, ha, hb, n_i64 hk, if_pos (by omega)]
      · refine Or.inr ⟨?_, fun T a b ha hb => ?_⟩
        · rw [if_neg e1, if_neg (by rw [n_le (by omega) (by omega)]; exact h2), oif_t hx]
        · rw [e_inR, ha, hb, n_i64 hk, if_neg (by omega)]
    · refine Or.inr ⟨?_, fun T a b ha hb => ?_⟩
      · rw [if_pos (by rw [n_lt (by omega) (by omega)]; omega), oif_t hx]
      · rw [e_inR, ha, hb, n_i64 hk, if_neg (by omega)]
  · refine Or.inr ⟨?_, fun T a b ha hb => ?_⟩
    · rw [if_pos (by rw [Int32.lt_iff_toInt_lt, n_int (by omega)]; omega), oif_t hx]
    · rw [e_inR, ha, hb, Int32.toInt_toInt64, if_neg (by omega)]
theorem IVn.q {i : Nat} (hV : IVn B m S T np nr ni) (hi : i < ni) : ∃ k, k ≤ 8 ∧ gi S.2.2.2.2.2.1 3 7 i = nI k ∧ gi T 0 (6 + 21 * i + 3) 0 = nI k := by
  obtain ⟨q1, q2, ⟨k, k1, k2, k3⟩, -⟩ := hV.1.2.2.2.2.2 i hi
  exact ⟨k, k1, k2, q1.2.2.2.1.symm.trans k2⟩
theorem e_itemI {i : Nat} (hV : IVn B (m + 1) S T np nr ni) (hi : i < ni) : sX9_itemOf S B (nI i) = some (.ok i) := by
  have hni : ni ≤ 16 := hV.1.1.1.2.2
  rcases e_item hV (nI i) with ⟨i', h1, h2, h3, _⟩ | ⟨_, _, h3⟩
  · rw [n_eq (by omega) (by omega)] at h2
    subst h2; exact h3
  · have h4 := h3 T rfl
    unfold sX10_isObject at h4
    rw [e_inR, show (4 : Int32).toNatClampNeg = 4 from rfl, hV.1.1.2.2.1.2.2, n_sub1 (by omega), n_i64 (by omega), i64_0, if_pos (by omega)] at h4
    exact absurd h4 (by decide)
theorem e_reqRI {i : Nat} (hV : IVn B (m + 1) S T np nr ni) (hi : i < nr) : sX9_requireRecipe S B (nI i) = some (.ok ()) := by
  have hnr : nr ≤ 10 := hV.1.1.1.2.1
  rcases e_reqR hV (nI i) with ⟨i', h1, h2, h3, _⟩ | ⟨_, h3⟩
  · exact h3
  · have h4 := h3 T rfl
    unfold sX10_isRecipe at h4
    rw [e_inR, show (3 : Int32).toNatClampNeg = 3 from rfl, hV.1.1.2.2.1.2.1, n_sub1 (by omega), n_i64 (by omega), i64_0, if_pos (by omega)] at h4
    exact absurd h4 (by decide)
/-- a plan -/
theorem do_plan {i r : Nat} (hV : IVn B (m + 1) S T np nr ni) (hi : i < ni) (hr : r < nr) : ∃ v S' T', sX9_plan S B (nI i) (nI r) = some (.ok (v, S')) ∧ sX10_planNow T (nI i) (nI r) = some (v, T') ∧ IVn B (m + 1) S' T' np nr ni ∧ gi T' 100 6 0 = gi T 100 6 0 := by
  have hni : ni ≤ 16 := hV.1.1.1.2.2
  have hl : i < 16 := by omega
  obtain ⟨k, k1, k2, k3⟩ := hV.q hi
  unfold sX9_plan sX10_planNow
  rw [e_itemI hV hi, e_reqRI hV hr, e_of_3 hl, obind_some, k3]
  dsimp only [oexc]
  rw [k2]
  by_cases e : k = 8
  · subst e
    rw [if_neg (show ¬ nI 8 < (8 : Int32) by decide), if_pos (show nI 8 = (8 : Int32) from rfl)]
    exact ⟨_, _, _, rfl, rfl, hV, rfl⟩
  · rw [if_pos (by rw [n_lit 8, n_lt (by omega) (by omega)]; omega), if_neg (by rw [n_lit 8, n_eq (by omega) (by omega)]; exact e)]
    obtain ⟨z', X', P', W', T1, r1, r2, r3, r4, r5, r6⟩ := sim_keep hV
    obtain ⟨L', T', p1, p2, p3, p4, p5⟩ := rel_plan (r := r) (k := k) r3.1 hi hr (by omega) k2
    dsimp only at p1 p2 p3 p5
    rw [r1, r2, obind_some, obind_some, p2]
    dsimp only
    rw [p1]
    refine ⟨_, _, _, rfl, rfl, r3.live p3 (numR_of r3.2.2.2.2.2.2.2 p5) p4.P, ?_⟩
    rw [p4.2.2.1 100 6 0 (by decide) (by decide)]; exact r4
theorem call_plan (h : IV B (m + 1) S T) (p1 p2 : Int32) : PFX (uW (sX9_plan S B p1 p2)) (mI (sX10_plan T p1 p2)) co1 (IV B m) := by
  obtain ⟨np, nr, ni, hV⟩ := h
  have bad : ∀ {x : Option (Except (Nat × XT) (Int32 × XT))} {mo : Option (Int32 × Mem)}, x = some (.error (1, S)) → mo = some ((0 : Int32), si (si T 100 6 0 0) 100 6 0 1) → PFX (uW x) (mI mo) co1 (IV B m) := fun hx hm => pfx_bad hV hx hm rfl (by decide)
  rcases e_item hV p1 with ⟨i, hi, rfl, h1, -, h2⟩ | ⟨h1, -, h2⟩
  · rcases e_reqR hV p2 with ⟨r, hr, rfl, g1, g2⟩ | ⟨g1, g2⟩
    · obtain ⟨v, S', T', q1, q2, q3, q4⟩ := do_plan hV.th (T := si T 100 6 0 0) hi hr
      refine pfx_do ⟨v, S', T', q1, ?_, q3, q4.trans (gi_eq2 ⟨rfl, rfl, rfl⟩)⟩
      unfold sX10_plan
      rw [olet_eq, h2 _ (gi_ne (by omega)), if_neg one_ne, g2 _ (gi_ne (by omega)), if_neg one_ne]
      unfold sX10_plan_j27
      rw [e_thr0, olet_eq, if_pos rfl, q2]
      rfl
    · refine bad ?_ ?_
      · unfold sX9_plan
        rw [h1, g1]
        rfl
      · unfold sX10_plan
        rw [olet_eq, h2 _ (gi_ne (by omega)), if_neg one_ne, g2 _ (gi_ne (by omega)), if_pos rfl]
        unfold sX10_plan_j22 sX10_plan_j27
        rw [e_thr1, olet_eq, if_neg one_ne]
  · refine bad ?_ ?_
    · unfold sX9_plan
      rw [h1]
      rfl
    · unfold sX10_plan
      rw [olet_eq, h2 _ (gi_ne (by omega)), if_pos rfl]
      unfold sX10_plan_j22 sX10_plan_j27
      rw [e_thr1, olet_eq, if_neg one_ne]
end ACT
