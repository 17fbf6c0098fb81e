/-! ===== THE LAW AS THE MACHINE TAKES IT ===== -/
def RLS : List (List ARow) := [RLc_h, RLc_0, RLc_1, RLc_2, RLc_3, RLc_4, RLc_5, RLc_6, RLc_7, RLc_8, RLc_9, RLc_10, RLc_11, RLc_12, RLc_13, RLc_14, RLc_15, RLc_16, RLc_17, RLc_18, RLc_19, RLc_20, RLc_21, RLc_22, RLc_23, RLc_24, RLc_25, RLc_26, RLc_27, RLc_28, RLc_29, RLc_30, RLc_31, RLc_32, RLc_33, RLc_34, RLc_35, RLc_36, RLc_37, RLc_38, RLc_39, RLc_40, RLc_41, RLc_42, RLc_43, RLc_44, RLc_45, RLc_46, RLc_47, RLc_48, RLc_49, RLc_50, RLc_51, RLc_52, RLc_53, RLc_54, RLc_55, RLc_56, RLc_57, RLc_58, RLc_59, RLc_60, RLc_61, RLc_62, RLc_63, RLc_t]
def ML_law : AM := (yL_law, code, 9, some .boolean, [], 22, 10918, 1, RLS.flatten)
theorem okDL : okD ML_law := fun r hr => by
  obtain ⟨l, hl, h⟩ := List.mem_flatten.mp hr
  have key : ∀ l ∈ RLS, ∀ r ∈ l, decode code r.1 = .ok r.2 := List.forall_mem_cons.mpr ⟨dcl_h, List.forall_mem_cons.mpr ⟨dcl_0, List.forall_mem_cons.mpr ⟨dcl_1, List.forall_mem_cons.mpr ⟨dcl_2, List.forall_mem_cons.mpr ⟨dcl_3, List.forall_mem_cons.mpr ⟨dcl_4, List.forall_mem_cons.mpr ⟨dcl_5, List.forall_mem_cons.mpr ⟨dcl_6, List.forall_mem_cons.mpr ⟨dcl_7, List.forall_mem_cons.mpr ⟨dcl_8, List.forall_mem_cons.mpr ⟨dcl_9, List.forall_mem_cons.mpr ⟨dcl_10, List.forall_mem_cons.mpr ⟨dcl_11, List.forall_mem_cons.mpr ⟨dcl_12, List.forall_mem_cons.mpr ⟨dcl_13, List.forall_mem_cons.mpr ⟨dcl_14, List.forall_mem_cons.mpr ⟨dcl_15, List.forall_mem_cons.mpr ⟨dcl_16, List.forall_mem_cons.mpr ⟨dcl_17, List.forall_mem_cons.mpr ⟨dcl_18, List.forall_mem_cons.mpr ⟨dcl_19, List.forall_mem_cons.mpr ⟨dcl_20, List.forall_mem_cons.mpr ⟨dcl_21, List.forall_mem_cons.mpr ⟨dcl_22, List.forall_mem_cons.mpr ⟨dcl_23, List.forall_mem_cons.mpr ⟨dcl_24, List.forall_mem_cons.mpr ⟨dcl_25, List.forall_mem_cons.mpr ⟨dcl_26, List.forall_mem_cons.mpr ⟨dcl_27, List.forall_mem_cons.mpr ⟨dcl_28, List.forall_mem_cons.mpr ⟨dcl_29, List.forall_mem_cons.mpr ⟨dcl_30, List.forall_mem_cons.mpr ⟨dcl_31, List.forall_mem_cons.mpr ⟨dcl_32, List.forall_mem_cons.mpr ⟨dcl_33, List.forall_mem_cons.mpr ⟨dcl_34, List.forall_mem_cons.mpr ⟨dcl_35, List.forall_mem_cons.mpr ⟨dcl_36, List.forall_mem_cons.mpr ⟨dcl_37, List.forall_mem_cons.mpr ⟨dcl_38, List.forall_mem_cons.mpr ⟨dcl_39, List.forall_mem_cons.mpr ⟨dcl_40, List.forall_mem_cons.mpr ⟨dcl_41, List.forall_mem_cons.mpr ⟨dcl_42, List.forall_mem_cons.mpr ⟨dcl_43, List.forall_mem_cons.mpr ⟨dcl_44, List.forall_mem_cons.mpr ⟨dcl_45, List.forall_mem_cons.mpr ⟨dcl_46, List.forall_mem_cons.mpr ⟨dcl_47, List.forall_mem_cons.mpr ⟨dcl_48, List.forall_mem_cons.mpr ⟨dcl_49, List.forall_mem_cons.mpr ⟨dcl_50, List.forall_mem_cons.mpr ⟨dcl_51, List.forall_mem_cons.mpr ⟨dcl_52, List.forall_mem_cons.mpr ⟨dcl_53, List.forall_mem_cons.mpr ⟨dcl_54, List.forall_mem_cons.mpr ⟨dcl_55, List.forall_mem_cons.mpr ⟨dcl_56, List.forall_mem_cons.mpr ⟨dcl_57, List.forall_mem_cons.mpr ⟨dcl_58, List.forall_mem_cons.mpr ⟨dcl_59, List.forall_mem_cons.mpr ⟨dcl_60, List.forall_mem_cons.mpr ⟨dcl_61, List.forall_mem_cons.mpr ⟨dcl_62, List.forall_mem_cons.mpr ⟨dcl_63, List.forall_mem_cons.mpr ⟨dcl_t, fun _ h => nomatch h⟩⟩⟩⟩⟩⟩⟩⟩⟩⟩⟩⟩⟩⟩⟩⟩⟩⟩⟩⟩⟩⟩⟩⟩⟩⟩⟩⟩⟩⟩⟩⟩⟩⟩⟩⟩⟩⟩⟩⟩⟩⟩⟩⟩⟩⟩⟩⟩⟩⟩⟩⟩⟩⟩⟩⟩⟩⟩⟩⟩⟩⟩⟩⟩⟩⟩
  exact key l hl r h
theorem lr_h (j : Nat) {r : ARow} (h : RLc_h[j]? = some r) : r ∈ mR ML_law := List.mem_flatten.mpr ⟨RLc_h, List.mem_of_getElem? (i := 0) rfl, List.mem_of_getElem? h⟩
theorem lr_0 (j : Nat) {r : ARow} (h : RLc_0[j]? = some r) : r ∈ mR ML_law := List.mem_flatten.mpr ⟨RLc_0, List.mem_of_getElem? (i := 1) rfl, List.mem_of_getElem? h⟩
theorem lr_1 (j : Nat) {r : ARow} (h : RLc_1[j]? = some r) : r ∈ mR ML_law := List.mem_flatten.mpr ⟨RLc_1, List.mem_of_getElem? (i := 2) rfl, List.mem_of_getElem? h⟩
theorem lr_2 (j : Nat) {r : ARow} (h : RLc_2[j]? = some r) : r ∈ mR ML_law := List.mem_flatten.mpr ⟨RLc_2, List.mem_of_getElem? (i := 3) rfl, List.mem_of_getElem? h⟩
theorem lr_3 (j : Nat) {r : ARow} (h : RLc_3[j]? = some r) : r ∈ mR ML_law := List.mem_flatten.mpr ⟨RLc_3, List.mem_of_getElem? (i := 4) rfl, List.mem_of_getElem? h⟩
theorem lr_4 (j : Nat) {r : ARow} (h : RLc_4[j]? = some r) : r ∈ mR ML_law := List.mem_flatten.mpr ⟨RLc_4, List.mem_of_getElem? (i := 5) rfl, List.mem_of_getElem? h⟩
theorem lr_5 (j : Nat) {r : ARow} (h : RLc_5[j]? = some r) : r ∈ mR ML_law := List.mem_flatten.mpr ⟨RLc_5, List.mem_of_getElem? (i := 6) rfl, List.mem_of_getElem? h⟩
theorem lr_6 (j : Nat) {r : ARow} (h : RLc_6[j]? = some r) : r ∈ mR ML_law := List.mem_flatten.mpr ⟨RLc_6, List.mem_of_getElem? (i := 7) rfl, List.mem_of_getElem? h⟩
theorem lr_7 (j : Nat) {r : ARow} (h : RLc_7[j]? = some r) : r ∈ mR ML_law := List.mem_flatten.mpr ⟨RLc_7, List.mem_of_getElem? (i := 8) rfl, List.mem_of_getElem? h⟩
theorem lr_8 (j : Nat) {r : ARow} (h : RLc_8[j]? = some r) : r ∈ mR ML_law := List.mem_flatten.mpr ⟨RLc_8, List.mem_of_getElem? (i := 9) rfl, List.mem_of_getElem? h⟩
theorem lr_9 (j : Nat) {r : ARow} (h : RLc_9[j]? = some r) : r ∈ mR ML_law := List.mem_flatten.mpr ⟨RLc_9, List.mem_of_getElem? (i := 10) rfl, List.mem_of_getElem? h⟩
theorem lr_10 (j : Nat) {r : ARow} (h : RLc_10[j]? = some r) : r ∈ mR ML_law := List.mem_flatten.mpr ⟨RLc_10, List.mem_of_getElem? (i := 11) rfl, List.mem_of_getElem? h⟩
theorem lr_11 (j : Nat) {r : ARow} (h : RLc_11[j]? = some r) : r ∈ mR ML_law := List.mem_flatten.mpr ⟨RLc_11, List.mem_of_getElem? (i := 12) rfl, List.mem_of_getElem? h⟩
theorem lr_12 (j : Nat) {r : ARow} (h : RLc_12[j]? = some r) : r ∈ mR ML_law := List.mem_flatten.mpr ⟨RLc_12, List.mem_of_getElem? (i := 13) rfl, List.mem_of_getElem? h⟩
theorem lr_13 (j : Nat) {r : ARow} (h : RLc_13[j]? = some r) : r ∈ mR ML_law := List.mem_flatten.mpr ⟨RLc_13, List.mem_of_getElem? (i := 14) rfl, List.mem_of_getElem? h⟩
theorem lr_14 (j : Nat) {r : ARow} (h : RLc_14[j]? = some r) : r ∈ mR ML_law := List.mem_flatten.mpr ⟨RLc_14, List.mem_of_getElem? (i := 15) rfl, List.mem_of_getElem? h⟩
theorem lr_15 (j : Nat) {r : ARow} (h : RLc_15[j]? = some r) : r ∈ mR ML_law := List.mem_flatten.mpr ⟨RLc_15, List.mem_of_getElem? (i := 16) rfl, List.mem_of_getElem? h⟩
theorem lr_16 (j : Nat) {r : ARow} (h : RLc_16[j]? = some r) : r ∈ mR ML_law := List.mem_flatten.mpr ⟨RLc_16, List.mem_of_getElem? (i := 17) rfl, List.mem_of_getElem? h⟩
theorem lr_17 (j : Nat) {r : ARow} (h : RLc_17[j]? = some r) : r ∈ mR ML_law := List.mem_flatten.mpr ⟨RLc_17, List.mem_of_getElem? (i := 18) rfl, List.mem_of_getElem? h⟩
theorem lr_18 (j : Nat) {r : ARow} (h : RLc_18[j]? = some r) : r ∈ mR ML_law := List.mem_flatten.mpr ⟨RLc_18, List.mem_of_getElem? (i := 19) rfl, List.mem_of_getElem? h⟩
theorem lr_19 (j : Nat) {r : ARow} (h : RLc_19[j]? = some r) : r ∈ mR ML_law := List.mem_flatten.mpr ⟨RLc_19, List.mem_of_getElem? (i := 20) rfl, List.mem_of_getElem? h⟩
theorem lr_20 (j : Nat) {r : ARow} (h : RLc_20[j]? = some r) : r ∈ mR ML_law := List.mem_flatten.mpr ⟨RLc_20, List.mem_of_getElem? (i := 21) rfl, List.mem_of_getElem? h⟩
theorem lr_21 (j : Nat) {r : ARow} (h : RLc_21[j]? = some r) : r ∈ mR ML_law := List.mem_flatten.mpr ⟨RLc_21, List.mem_of_getElem? (i := 22) rfl, List.mem_of_getElem? h⟩
theorem lr_22 (j : Nat) {r : ARow} (h : RLc_22[j]? = some r) : r ∈ mR ML_law := List.mem_flatten.mpr ⟨RLc_22, List.mem_of_getElem? (i := 23) rfl, List.mem_of_getElem? h⟩
theorem lr_23 (j : Nat) {r : ARow} (h : RLc_23[j]? = some r) : r ∈ mR ML_law := List.mem_flatten.mpr ⟨RLc_23, List.mem_of_getElem? (i := 24) rfl, List.mem_of_getElem? h⟩
theorem lr_24 (j : Nat) {r : ARow} (h : RLc_24[j]? = some r) : r ∈ mR ML_law := List.mem_flatten.mpr ⟨RLc_24, List.mem_of_getElem? (i := 25) rfl, List.mem_of_getElem? h⟩
theorem lr_25 (j : Nat) {r : ARow} (h : RLc_25[j]? = some r) : r ∈ mR ML_law := List.mem_flatten.mpr ⟨RLc_25, List.mem_of_getElem? (i := 26) rfl, List.mem_of_getElem? h⟩
theorem lr_26 (j : Nat) {r : ARow} (h : RLc_26[j]? = some r) : r ∈ mR ML_law := List.mem_flatten.mpr ⟨RLc_26, List.mem_of_getElem? (i := 27) rfl, List.mem_of_getElem? h⟩
theorem lr_27 (j : Nat) {r : ARow} (h : RLc_27[j]? = some r) : r ∈ mR ML_law := List.mem_flatten.mpr ⟨RLc_27, List.mem_of_getElem? (i := 28) rfl, List.mem_of_getElem? h⟩
theorem lr_28 (j : Nat) {r : ARow} (h : RLc_28[j]? = some r) : r ∈ mR ML_law := List.mem_flatten.mpr ⟨RLc_28, List.mem_of_getElem? (i := 29) rfl, List.mem_of_getElem? h⟩
theorem lr_29 (j : Nat) {r : ARow} (h : RLc_29[j]? = some r) : r ∈ mR ML_law := List.mem_flatten.mpr ⟨RLc_29, List.mem_of_getElem? (i := 30) rfl, List.mem_of_getElem? h⟩
theorem lr_30 (j : Nat) {r : ARow} (h : RLc_30[j]? = some r) : r ∈ mR ML_law := List.mem_flatten.mpr ⟨RLc_30, List.mem_of_getElem? (i := 31) rfl, List.mem_of_getElem? h⟩
theorem lr_31 (j : Nat) {r : ARow} (h : RLc_31[j]? = some r) : r ∈ mR ML_law := List.mem_flatten.mpr ⟨RLc_31, List.mem_of_getElem? (i := 32) rfl, List.mem_of_getElem? h⟩
theorem lr_32 (j : Nat) {r : ARow} (h : RLc_32[j]? = some r) : r ∈ mR ML_law := List.mem_flatten.mpr ⟨RLc_32, List.mem_of_getElem? (i := 33) rfl, List.mem_of_getElem? h⟩
theorem lr_33 (j : Nat) {r : ARow} (h : RLc_33[j]? = some r) : r ∈ mR ML_law := List.mem_flatten.mpr ⟨RLc_33, List.mem_of_getElem? (i := 34) rfl, List.mem_of_getElem? h⟩
theorem lr_34 (j : Nat) {r : ARow} (h : RLc_34[j]? = some r) : r ∈ mR ML_law := List.mem_flatten.mpr ⟨RLc_34, List.mem_of_getElem? (i := 35) rfl, List.mem_of_getElem? h⟩
theorem lr_35 (j : Nat) {r : ARow} (h : RLc_35[j]? = some r) : r ∈ mR ML_law := List.mem_flatten.mpr ⟨RLc_35, List.mem_of_getElem? (i := 36) rfl, List.mem_of_getElem? h⟩
theorem lr_36 (j : Nat) {r : ARow} (h : RLc_36[j]? = some r) : r ∈ mR ML_law := List.mem_flatten.mpr ⟨RLc_36, List.mem_of_getElem? (i := 37) rfl, List.mem_of_getElem? h⟩
theorem lr_37 (j : Nat) {r : ARow} (h : RLc_37[j]? = some r) : r ∈ mR ML_law := List.mem_flatten.mpr ⟨RLc_37, List.mem_of_getElem? (i := 38) rfl, List.mem_of_getElem? h⟩
theorem lr_38 (j : Nat) {r : ARow} (h : RLc_38[j]? = some r) : r ∈ mR ML_law := List.mem_flatten.mpr ⟨RLc_38, List.mem_of_getElem? (i := 39) rfl, List.mem_of_getElem? h⟩
theorem lr_39 (j : Nat) {r : ARow} (h : RLc_39[j]? = some r) : r ∈ mR ML_law := List.mem_flatten.mpr ⟨RLc_39, List.mem_of_getElem? (i := 40) rfl, List.mem_of_getElem? h⟩
theorem lr_40 (j : Nat) {r : ARow} (h : RLc_40[j]? = some r) : r ∈ mR ML_law := List.mem_flatten.mpr ⟨RLc_40, List.mem_of_getElem? (i := 41) rfl, List.mem_of_getElem? h⟩
theorem lr_41 (j : Nat) {r : ARow} (h : RLc_41[j]? = some r) : r ∈ mR ML_law := List.mem_flatten.mpr ⟨RLc_41, List.mem_of_getElem? (i := 42) rfl, List.mem_of_getElem? h⟩
theorem lr_42 (j : Nat) {r : ARow} (h : RLc_42[j]? = some r) : r ∈ mR ML_law := List.mem_flatten.mpr ⟨RLc_42, List.mem_of_getElem? (i := 43) rfl, List.mem_of_getElem? h⟩
theorem lr_43 (j : Nat) {r : ARow} (h : RLc_43[j]? = some r) : r ∈ mR ML_law := List.mem_flatten.mpr ⟨RLc_43, List.mem_of_getElem? (i := 44) rfl, List.mem_of_getElem? h⟩
theorem lr_44 (j : Nat) {r : ARow} (h : RLc_44[j]? = some r) : r ∈ mR ML_law := List.mem_flatten.mpr ⟨RLc_44, List.mem_of_getElem? (i := 45) rfl, List.mem_of_getElem? h⟩
theorem lr_45 (j : Nat) {r : ARow} (h : RLc_45[j]? = some r) : r ∈ mR ML_law := List.mem_flatten.mpr ⟨RLc_45, List.mem_of_getElem? (i := 46) rfl, List.mem_of_getElem? h⟩
theorem lr_46 (j : Nat) {r : ARow} (h : RLc_46[j]? = some r) : r ∈ mR ML_law := List.mem_flatten.mpr ⟨RLc_46, List.mem_of_getElem? (i := 47) rfl, List.mem_of_getElem? h⟩
theorem lr_47 (j : Nat) {r : ARow} (h : RLc_47[j]? = some r) : r ∈ mR ML_law := List.mem_flatten.mpr ⟨RLc_47, List.mem_of_getElem? (i := 48) rfl, List.mem_of_getElem? h⟩
theorem lr_48 (j : Nat) {r : ARow} (h : RLc_48[j]? = some r) : r ∈ mR ML_law := List.mem_flatten.mpr ⟨RLc_48, List.mem_of_getElem? (i := 49) rfl, List.mem_of_getElem? h⟩
theorem lr_49 (j : Nat) {r : ARow} (h : RLc_49[j]? = some r) : r ∈ mR ML_law := List.mem_flatten.mpr ⟨RLc_49, List.mem_of_getElem? (i := 50) rfl, List.mem_of_getElem? h⟩
theorem lr_50 (j : Nat) {r : ARow} (h : RLc_50[j]? = some r) : r ∈ mR ML_law := List.mem_flatten.mpr ⟨RLc_50, List.mem_of_getElem? (i := 51) rfl, List.mem_of_getElem? h⟩
theorem lr_51 (j : Nat) {r : ARow} (h : RLc_51[j]? = some r) : r ∈ mR ML_law := List.mem_flatten.mpr ⟨RLc_51, List.mem_of_getElem? (i := 52) rfl, List.mem_of_getElem? h⟩
theorem lr_52 (j : Nat) {r : ARow} (h : RLc_52[j]? = some r) : r ∈ mR ML_law := List.mem_flatten.mpr ⟨RLc_52, List.mem_of_getElem? (i := 53) rfl, List.mem_of_getElem? h⟩
theorem lr_53 (j : Nat) {r : ARow} (h : RLc_53[j]? = some r) : r ∈ mR ML_law := List.mem_flatten.mpr ⟨RLc_53, List.mem_of_getElem? (i := 54) rfl, List.mem_of_getElem? h⟩
theorem lr_54 (j : Nat) {r : ARow} (h : RLc_54[j]? = some r) : r ∈ mR ML_law := List.mem_flatten.mpr ⟨RLc_54, List.mem_of_getElem? (i := 55) rfl, List.mem_of_getElem? h⟩
theorem lr_55 (j : Nat) {r : ARow} (h : RLc_55[j]? = some r) : r ∈ mR ML_law := List.mem_flatten.mpr ⟨RLc_55, List.mem_of_getElem? (i := 56) rfl, List.mem_of_getElem? h⟩
theorem lr_56 (j : Nat) {r : ARow} (h : RLc_56[j]? = some r) : r ∈ mR ML_law := List.mem_flatten.mpr ⟨RLc_56, List.mem_of_getElem? (i := 57) rfl, List.mem_of_getElem? h⟩
theorem lr_57 (j : Nat) {r : ARow} (h : RLc_57[j]? = some r) : r ∈ mR ML_law := List.mem_flatten.mpr ⟨RLc_57, List.mem_of_getElem? (i := 58) rfl, List.mem_of_getElem? h⟩
theorem lr_58 (j : Nat) {r : ARow} (h : RLc_58[j]? = some r) : r ∈ mR ML_law := List.mem_flatten.mpr ⟨RLc_58, List.mem_of_getElem? (i := 59) rfl, List.mem_of_getElem? h⟩
theorem lr_59 (j : Nat) {r : ARow} (h : RLc_59[j]? = some r) : r ∈ mR ML_law := List.mem_flatten.mpr ⟨RLc_59, List.mem_of_getElem? (i := 60) rfl, List.mem_of_getElem? h⟩
theorem lr_60 (j : Nat) {r : ARow} (h : RLc_60[j]? = some r) : r ∈ mR ML_law := List.mem_flatten.mpr ⟨RLc_60, List.mem_of_getElem? (i := 61) rfl, List.mem_of_getElem? h⟩
theorem lr_61 (j : Nat) {r : ARow} (h : RLc_61[j]? = some r) : r ∈ mR ML_law := List.mem_flatten.mpr ⟨RLc_61, List.mem_of_getElem? (i := 62) rfl, List.mem_of_getElem? h⟩
theorem lr_62 (j : Nat) {r : ARow} (h : RLc_62[j]? = some r) : r ∈ mR ML_law := List.mem_flatten.mpr ⟨RLc_62, List.mem_of_getElem? (i := 63) rfl, List.mem_of_getElem? h⟩
theorem lr_63 (j : Nat) {r : ARow} (h : RLc_63[j]? = some r) : r ∈ mR ML_law := List.mem_flatten.mpr ⟨RLc_63, List.mem_of_getElem? (i := 64) rfl, List.mem_of_getElem? h⟩
theorem lr_t (j : Nat) {r : ARow} (h : RLc_t[j]? = some r) : r ∈ mR ML_law := List.mem_flatten.mpr ⟨RLc_t, List.mem_of_getElem? (i := 65) rfl, List.mem_of_getElem? h⟩
/-! ===== tools of the law's cases ===== -/
theorem lg_cmp_s (x : Int64) : lg_cmp x x = 0 := by
  unfold lg_cmp
  rw [if_neg Int64.lt_irrefl, if_pos rfl]
theorem ix_add {i k : Nat} {v : Int32} (hv : v = Int32.ofNat k) : Int32.ofNat i + v = Int32.ofNat (i + k) := by
  subst hv
  exact Int32.ofNat_add i k |>.symm
theorem AW.sarg {g : AG} {M : AM} {pc nx : Nat} {L : List (Option Value)} {S : List Value} {h : AH} {Q : AO → AH → Prop} {bs n i k : Nat} {xs : Nat → Int32} {z : Int} (r0 : (pc, Instr.aload_n 0, 1) ∈ mR M) (r1 : (pc + 1, Instr.iload 5, 2) ∈ mR M) (r2 : (pc + 3, Instr.iconst z, 1) ∈ mR M) (r3 : (pc + 4, Instr.iadd, 1) ∈ mR M) (r4 : (pc + 5, Instr.iaload, 1) ∈ mR M) (hx : pc + 6 = nx)
    (h0 : L[0]? = some (some (.ref bs))) (h5 : L[5]? = some (some (.int (Int32.ofNat i)))) (hz : Int32.ofInt z = Int32.ofNat k) (hs : h.1 bs = some (.inl (0, n, .inl xs))) (hi : i + k < n) (hn : n ≤ 3072) (kk : AW g M nx L (.int (xs (i + k)) :: S) h Q) : AW g M pc L S h Q := by
  subst hx
  refine AW.aload_n r0 rfl h0 ?_
  refine AW.iload r1 rfl h5 ?_
  refine AW.iconst r2 rfl hz ?_
  refine AW.iadd r3 rfl ?_
  rw [ix_add rfl]
  exact AW.iald r4 rfl hs (ofN_in hi (by omega)) (by rw [ofN_nat (by omega)]) kk
/-- what the law asks of a call: the answers are one, and what follows is as it should be -/
def PFA (x : Option (Int32 × XT)) (m : Option (Int32 × Mem)) (I : XT → Mem → Prop) : Prop := ∃ v S' T', x = some (v, S') ∧ m = some (v, T') ∧ I S' T'
def PFX {α : Type} (x : Option (Except Nat α × XT)) (m : Option (α × Mem)) (co : Nat → Option Int32) (I : XT → Mem → Prop) : Prop := ∃ r b T', x = some r ∧ m = some (b, T') ∧ (∀ v, r.1 = .ok v → gi T' 100 6 0 = 0 ∧ v = b ∧ I r.2 T') ∧ (∀ e, r.1 = .error e → co e = some (gi T' 100 6 0) ∧ gi T' 100 6 0 ≠ 0 ∧ ∀ z, r.2.1.1 ≤ z → z ≤ r.2.1.1 + 1 → I (bump r.2 z) T')
def uA (x : Option Int32) (S : XT) : Option (Int32 × XT) := match x with
  | none => none
  | some v => some (v, S)
def uE (x : Option (Except (Nat × XT) (Int32 × XT))) : Option (Int32 × XT) := match x with
  | none => none
  | some (.ok r) => some r
  | some (.error _) => none
def mI (x : Option (Int32 × Mem)) : Option (Int64 × Mem) := match x with
  | none => none
  | some r => some (r.1.toInt64, r.2)
def mZ (x : Option (Int32 × Mem)) : Option (Int64 × Mem) := match x with
  | none => none
  | some r => some (if r.1 = 0 then 0 else 1, r.2)
def LL (bs B i : Nat) : List (Option Value) := [some (.ref bs), some (.ref B), some (.ref (B + 129)), some (.ref (B + 139)), some (.ref (B + 140)), some (.int (Int32.ofNat i)), none, none, none]
theorem LH_m {h0 : AH} {B : Nat} {S : XT} {T : Mem} {o : Int64} {d : UInt64} (hl : lrw B S.2.2.1) : (LH h0 B S T o d).1 (B + 129) = some (ob 10 24 (moF (B + 129) T)) := LH_at (j := 0) hl (by omega)
theorem PFX.lr {α : Type} {B : Nat} {r : Except Nat α × XT} {T' : Mem} {I : XT → Mem → Prop} (hI : ∀ S T, I S T → lrw B S.2.2.1) (h1 : ∀ v, r.1 = .ok v → I r.2 T') (h2 : ∀ e, r.1 = .error e → ∀ z, r.2.1.1 ≤ z → z ≤ r.2.1.1 + 1 → I (bump r.2 z) T') : lrw B r.2.2.2.1 := by
  cases e : r.1 with
  | ok v => exact hI _ _ (h1 v e)
  | error x =>
    have h3 := hI _ _ (h2 x e r.2.1.1 (Nat.le_refl _) (Nat.le_succ _))
    exact h3
