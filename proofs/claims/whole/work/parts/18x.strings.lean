/-! ===== TEXTS: length() AND charAt() OF A STRING OF BYTES ===== -/
section STR
variable {g : AG} {h : AH} {Q : AO → AH → Prop} {q a : Nat} {F : Nat → Value}
theorem dJ0_coder (hv : gV g 9 = .int 1) (hc : h.1 q = some (ob 11 2 F)) (hF : F 1 = .int 0) (hQ : Q (.ok (some (.int 0))) h) : AW g MJ0_coder_7d493 0 [some (.ref q)] [] h Q := by
  refine AW.getst (k := 9) (am_r 0 rfl) rfl rfl q510 ?_
  rw [hv]
  refine AW.if_eq (tg := 13) (am_r 1 rfl) rfl rfl (fun hc1 => absurd hc1 (by decide)) (fun _ => ?_)
  refine AW.aload_n (z := 0) (am_r 2 rfl) rfl rfl ?_
  refine AW.getO (am_r 3 rfl) rfl klJ0 (k := 1) (by omega) q2167 hc hF ?_
  refine AW.goto (tg := 14) (am_r 4 rfl) rfl ?_
  exact AW.nret (am_r 6 rfl) rfl (by decide) hQ
theorem dJ0_isLatin1 (hv : gV g 9 = .int 1) (hc : h.1 q = some (ob 11 2 F)) (hF : F 1 = .int 0) (hQ : Q (.ok (some (.int 1))) h) : AW g MJ0_isLatin1_aae02 0 [some (.ref q)] [] h Q := by
  refine AW.getst (k := 9) (am_r 0 rfl) rfl rfl q510 ?_
  rw [hv]
  refine AW.if_eq (tg := 17) (am_r 1 rfl) rfl rfl (fun hc1 => absurd hc1 (by decide)) (fun _ => ?_)
  refine AW.aload_n (z := 0) (am_r 2 rfl) rfl rfl ?_
  refine AW.getO (am_r 3 rfl) rfl klJ0 (k := 1) (by omega) q2167 hc hF ?_
  refine AW.if_ne (tg := 17) (am_r 4 rfl) rfl rfl (fun hc1 => absurd rfl hc1) (fun _ => ?_)
  refine AW.iconst (am_r 5 rfl) rfl ci_1 ?_
  refine AW.goto (tg := 18) (am_r 6 rfl) rfl ?_
  exact AW.zret (am_r 8 rfl) rfl (Or.inr rfl) hQ
theorem jshr0 (x : Int32) : x >>> ((0 : Int32) &&& 31) = x := by
  rw [show ((0 : Int32) &&& 31) = 0 by decide]
  simp
theorem dJ0_length {n : Nat} {f : Nat → Int32} (hv : gV g 9 = .int 1) (hc : h.1 q = some (ob 11 2 F)) (hF0 : F 0 = .ref a) (hF1 : F 1 = .int 0) (ha : h.1 a = some (.inl (3, n, .inl f))) (hQ : Q (.ok (some (.int (Int32.ofNat n)))) h) : AW g MJ0_length_8abf5 0 [some (.ref q)] [] h Q := by
  refine AW.aload_n (z := 0) (am_r 0 rfl) rfl rfl ?_
  refine AW.getO (am_r 1 rfl) rfl klJ0 (k := 0) (by omega) q2166 hc hF0 ?_
  refine AW.alen (am_r 2 rfl) rfl rfl ha rfl ?_
  refine AW.aload_n (z := 0) (am_r 3 rfl) rfl rfl ?_
  refine AW.callV (N := MJ0_coder_7d493) (As := []) (S := [.int (Int32.ofNat n)]) (L0 := [some (.ref q)]) (b := q) (am_r 4 rfl) rfl ovJ0_coder_7d493 q506 rfl rfl hc rfl rfl rfl rfl (dJ0_coder hv hc hF1 (cQ_r ?_))
  refine AW.ishr (am_r 5 rfl) rfl ?_
  rw [jshr0]
  exact AW.iret (am_r 6 rfl) rfl hQ
theorem dJ3_checkIndex {i n : Int32} {v : Value} (h0 : ¬ i < 0) (hn : i < n) (hQ : Q (.ok (some (.int i))) h) : AW g MJ3_checkIndex_8e157 0 [some (.int i), some (.int n), some v] [] h Q := by
  refine AW.iload_n (z := 0) (am_r 0 rfl) rfl rfl ?_
  refine AW.if_lt (tg := 9) (am_r 1 rfl) rfl rfl (fun z => absurd z h0) (fun _ => ?_)
  refine AW.iload_n (z := 0) (am_r 2 rfl) rfl rfl ?_
  refine AW.iload_n (z := 1) (am_r 3 rfl) rfl rfl ?_
  refine AW.icmp_lt (tg := 16) (am_r 4 rfl) rfl rfl (fun _ => ?_) (fun z => absurd hn z)
  refine AW.iload_n (z := 0) (am_r 10 rfl) rfl rfl ?_
  exact AW.iret (am_r 11 rfl) rfl hQ
theorem dJ0_checkIndex {i n : Int32} (hv : gV g 10 = .null ∨ ∃ a, gV g 10 = .ref a) (h0 : ¬ i < 0) (hn : i < n) (hQ : Q (.ok none) h) : AW g MJ0_checkIndex_df160 0 [some (.int i), some (.int n)] [] h Q := by
  refine AW.iload_n (z := 0) (am_r 0 rfl) rfl rfl ?_
  refine AW.iload_n (z := 1) (am_r 1 rfl) rfl rfl ?_
  refine AW.getst (k := 10) (am_r 2 rfl) rfl rfl q526 ?_
  rcases hv with hv | ⟨b, hv⟩
  · rw [hv]
    refine AW.callS (N := MJ3_checkIndex_8e157) (As := [.int i, .int n, .null]) (S := []) (L0 := [some (.int i), some (.int n), some .null]) (am_r 3 rfl) rfl osJ3_checkIndex_8e157 q528 rfl rfl rfl rfl rfl (dJ3_checkIndex h0 hn (cQ_r ?_))
    refine AW.pop (am_r 4 rfl) rfl rfl ?_
    exact AW.vret (am_r 5 rfl) rfl hQ
  · rw [hv]
    refine AW.callS (N := MJ3_checkIndex_8e157) (As := [.int i, .int n, .ref b]) (S := []) (L0 := [some (.int i), some (.int n), some (.ref b)]) (am_r 3 rfl) rfl osJ3_checkIndex_8e157 q528 rfl rfl rfl rfl rfl (dJ3_checkIndex h0 hn (cQ_r ?_))
    refine AW.pop (am_r 4 rfl) rfl rfl ?_
    exact AW.vret (am_r 5 rfl) rfl hQ
/-- a byte as a char -/
def jch (b : Int32) : Int32 := ((b &&& 255).toUInt32 % 65536).toInt32
theorem jch_nar (b : Int32) : narrow .char (.int (jch b)) = .int (jch b) := pk_nc _
theorem dJ1_charAt {i : Int32} {n : Nat} {f : Nat → Int32} (hv : gV g 10 = .null ∨ ∃ a, gV g 10 = .ref a) (ha : h.1 a = some (.inl (3, n, .inl f))) (h0 : ¬ i < 0) (hn : i < Int32.ofNat n) (hi : vp_in i n) (hQ : Q (.ok (some (.int (jch (f i.toNatClampNeg))))) h) : AW g MJ1_charAt_3b067 0 [some (.ref a), some (.int i)] [] h Q := by
  refine AW.iload_n (z := 1) (am_r 0 rfl) rfl rfl ?_
  refine AW.aload_n (z := 0) (am_r 1 rfl) rfl rfl ?_
  refine AW.alen (am_r 2 rfl) rfl rfl ha rfl ?_
  refine AW.callS (N := MJ0_checkIndex_df160) (As := [.int i, .int (Int32.ofNat n)]) (S := []) (L0 := [some (.int i), some (.int (Int32.ofNat n))]) (am_r 3 rfl) rfl osJ0_checkIndex_df160 q523 rfl rfl rfl rfl rfl (dJ0_checkIndex hv h0 hn (cQ_v ?_))
  refine AW.aload_n (z := 0) (am_r 4 rfl) rfl rfl ?_
  refine AW.iload_n (z := 1) (am_r 5 rfl) rfl rfl ?_
  refine AW.bald (am_r 6 rfl) rfl ha hi rfl ?_
  refine AW.sipush (v := 255) (am_r 7 rfl) rfl (by decide) ?_
  refine AW.iand (am_r 8 rfl) rfl ?_
  refine AW.i2c (am_r 9 rfl) rfl ?_
  exact AW.nret (am_r 10 rfl) rfl (jch_nar _) hQ
theorem dJ0_charAt {i : Int32} {n : Nat} {f : Nat → Int32} (hv : gV g 9 = .int 1) (hv2 : gV g 10 = .null ∨ ∃ a, gV g 10 = .ref a) (hc : h.1 q = some (ob 11 2 F)) (hF0 : F 0 = .ref a) (hF1 : F 1 = .int 0) (ha : h.1 a = some (.inl (3, n, .inl f))) (h0 : ¬ i < 0) (hn : i < Int32.ofNat n) (hi : vp_in i n)
    (hQ : Q (.ok (some (.int (jch (f i.toNatClampNeg))))) h) : AW g MJ0_charAt_5068e 0 [some (.ref q), some (.int i)] [] h Q := by
  refine AW.aload_n (z := 0) (am_r 0 rfl) rfl rfl ?_
  refine AW.callV (N := MJ0_isLatin1_aae02) (As := []) (S := []) (L0 := [some (.ref q)]) (b := q) (am_r 1 rfl) rfl ovJ0_isLatin1_aae02 q516 rfl rfl hc rfl rfl rfl rfl (dJ0_isLatin1 hv hc hF1 (cQ_r ?_))
  refine AW.if_eq (tg := 16) (am_r 2 rfl) rfl rfl (fun hc1 => absurd hc1 (by decide)) (fun _ => ?_)
  refine AW.aload_n (z := 0) (am_r 3 rfl) rfl rfl ?_
  refine AW.getO (am_r 4 rfl) rfl klJ0 (k := 0) (by omega) q2166 hc hF0 ?_
  refine AW.iload_n (z := 1) (am_r 5 rfl) rfl rfl ?_
  refine AW.callS (N := MJ1_charAt_3b067) (As := [.ref a, .int i]) (S := []) (L0 := [some (.ref a), some (.int i)]) (am_r 6 rfl) rfl osJ1_charAt_3b067 q520 rfl rfl rfl rfl rfl (dJ1_charAt hv2 ha h0 hn hi (cQ_r ?_))
  exact AW.nret (am_r 7 rfl) rfl (jch_nar _) hQ
end STR
