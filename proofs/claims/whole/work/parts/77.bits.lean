set_option maxHeartbeats 4000000 in
set_option maxRecDepth 100000 in
theorem k_J13_numberOfTrailingZeros_95d88 (l : Launch) (dC : Nat → ClassId) (dI : Nat → Nat → Nat) (cI cJ cZ cII cJJ : ClassId) (R : Nat → Nat) (I : Nat → Int32) (A : Nat → Nat → Int32) (B : Nat → Nat → Int64) (C : Nat → Nat → Int32) (T : Nat → Nat → Int64) (z : Nat) (h0 : z ≠ 0) (hz : z < 2 ^ 64) : ctI l (dC, dI) (tyL cI cJ cZ cII cJJ) (HW cI cJ cII cJJ R) yJ13_numberOfTrailingZeros_95d88 wsJ13_numberOfTrailingZeros_95d88 (1, 30) [.long (lN z)] (I, A, B, C, T) (fun r u => r = nI (low z) ∧ u = (I, A, B, C, T)) := by
  refine ctI_intro (cc := cJ13_numberOfTrailingZeros_95d88) (maxL := 3) (by decide) rfl (Nat.le_of_ble_eq_true rfl) ?_
  intro p e s m below meth c ls Aa Q F hK hN hP hD hS hA hl hret
  have hx := F.1
  have hb := F.2.1
  have hown : s.vm.findClass RJ13 = some m.cls := F.2.2.2.1
  have hts := F.2.2.2.2
  have hl : lv_has ls 3 [(0, .long (lN z))] := hl
  obtain ⟨lo1, lo2, lo3⟩ := low_ok h0 hz
  refine lv_lload_n hx hb dJ13_numberOfTrailingZeros_95d88_0 rfl (lv_at hl 0 rfl) ?_
  refine lv_l2i hx hb dJ13_numberOfTrailingZeros_95d88_1 rfl ?_
  refine lv_topi (fun x1 ex1 => ?_)
  have ex1 : x1 = nI z := by rw [ex1]; exact lN_i z
  subst ex1
  refine lv_istore_n (lv' := [(2, .int (nI z)), (0, .long (lN z))]) hx hb dJ13_numberOfTrailingZeros_95d88_2 rfl hl (by decide) rfl (fun ls hl => ?_)
  refine lv_iload_n hx hb dJ13_numberOfTrailingZeros_95d88_3 rfl (lv_at hl 0 rfl) ?_
  refine lv_if_ne (tgt := 21) hx hb dJ13_numberOfTrailingZeros_95d88_4 (by decide) (fun c4 => ?_) (fun c4 => ?_)
  · -- 4 taken
    have hlo := low_lo hz c4
    refine lv_iload_n hx hb dJ13_numberOfTrailingZeros_95d88_21 rfl (lv_at hl 0 rfl) ?_
    refine ct_calli hD hS hA (va_runS (As := [.int (nI z)]) (rest := []) F ((k_J6_numberOfTrailingZeros_0f7a4 l dC dI cI cJ cZ cII cJJ R I A B C T z (low z) hlo lo1 lo3) _) (va_cwS 1 hts gJ13_numberOfTrailingZeros_95d88_J6_numberOfTrailingZeros_0f7a4 rfl rfl rfl (by decide +kernel) ⟨(Nat.le_of_ble_eq_true rfl), (Nat.le_of_ble_eq_true rfl)⟩) (ct_preS hK hN hP hD) rfl rfl hl.1 rfl (lv_room (Nat.le_of_ble_eq_true rfl)) dJ13_numberOfTrailingZeros_95d88_22 ⟨(Nat.le_of_ble_eq_true rfl), (Nat.le_of_ble_eq_true rfl)⟩) (fun r22 u22 H locs w22 hP hD hS => ?_)
    obtain ⟨w22, rfl⟩ := w22
    refine hret 25 ls _ _ r22 (I, A, B, C, T) dJ13_numberOfTrailingZeros_95d88_25 rfl ?_ hP hD hS
    try dsimp only
    exact ⟨w22, rfl⟩
  · -- 4 not
    have hhi := low_hi h0 hz c4
    refine lv_bipush (v := 32) hx hb dJ13_numberOfTrailingZeros_95d88_7 (by decide) ?_
    refine lv_lload_n hx hb dJ13_numberOfTrailingZeros_95d88_9 rfl (lv_at hl 1 rfl) ?_
    refine lv_bipush (v := 32) hx hb dJ13_numberOfTrailingZeros_95d88_10 (by decide) ?_
    refine lv_lushr hx hb dJ13_numberOfTrailingZeros_95d88_12 rfl ?_
    refine lv_topl (fun x12 ex12 => ?_)
    have ex12 : x12 = lN (z / 2 ^ 32) := by rw [ex12]; exact wb_shr (k := 32) hz (by decide)
    subst ex12
    refine lv_l2i hx hb dJ13_numberOfTrailingZeros_95d88_13 rfl ?_
    refine lv_topi (fun x13 ex13 => ?_)
    have ex13 : x13 = nI (z / 2 ^ 32) := by rw [ex13]; exact lN_i _
    subst ex13
    refine ct_calli hD hS hA (va_runS (As := [.int (nI (z / 2 ^ 32))]) (rest := [.int 32]) F ((k_J6_numberOfTrailingZeros_0f7a4 l dC dI cI cJ cZ cII cJJ R I A B C T (z / 2 ^ 32) (low z - 32) (by omega) (by rw [Nat.testBit_div_two_pow, show low z - 32 + 32 = low z by omega]; exact lo1) (fun j hj => by rw [Nat.testBit_div_two_pow]; exact lo3 _ (by omega))) _) (va_cwS 1 hts gJ13_numberOfTrailingZeros_95d88_J6_numberOfTrailingZeros_0f7a4 rfl rfl rfl (by decide +kernel) ⟨(Nat.le_of_ble_eq_true rfl), (Nat.le_of_ble_eq_true rfl)⟩) (ct_preS hK hN hP hD) rfl rfl hl.1 rfl (lv_room (Nat.le_of_ble_eq_true rfl)) dJ13_numberOfTrailingZeros_95d88_14 ⟨(Nat.le_of_ble_eq_true rfl), (Nat.le_of_ble_eq_true rfl)⟩) (fun r14 u14 H locs w14 hP hD hS => ?_)
    obtain ⟨w14, rfl⟩ := w14
    refine lv_iadd hx hb dJ13_numberOfTrailingZeros_95d88_17 ?_
    refine lv_topi (fun x17 ex17 => ?_)
    refine lv_goto (tgt := 25) hx hb dJ13_numberOfTrailingZeros_95d88_18 (by decide) ?_
    refine hret 25 ls _ _ x17 (I, A, B, C, T) dJ13_numberOfTrailingZeros_95d88_25 rfl ?_ hP hD hS
    try dsimp only
    exact ⟨by rw [ex17, w14]; exact (nI_add 32 _).trans (congrArg nI (by omega)), rfl⟩
set_option maxHeartbeats 4000000 in
set_option maxRecDepth 100000 in
theorem k_J13_bitCount_95d88 (l : Launch) (dC : Nat → ClassId) (dI : Nat → Nat → Nat) (cI cJ cZ cII cJJ : ClassId) (R : Nat → Nat) (I : Nat → Int32) (A : Nat → Nat → Int32) (B : Nat → Nat → Int64) (C : Nat → Nat → Int32) (T : Nat → Nat → Int64) (z : Nat) (hz : z < 2 ^ 64) : ctI l (dC, dI) (tyL cI cJ cZ cII cJJ) (HW cI cJ cII cJJ R) yJ13_bitCount_95d88 wsJ13_bitCount_95d88 (0, 0) [.long (lN z)] (I, A, B, C, T) (fun r u => r = nI (sz z 64) ∧ u = (I, A, B, C, T)) := by
  refine ctI_intro (cc := cJ13_bitCount_95d88) (maxL := 2) (by decide) rfl (Nat.le_of_ble_eq_true rfl) ?_
  intro p e s m below meth c ls Aa Q F hK hN hP hD hS hA hl hret
  have hx := F.1
  have hb := F.2.1
  have hown : s.vm.findClass RJ13 = some m.cls := F.2.2.2.1
  have hts := F.2.2.2.2
  have hl : lv_has ls 2 [(0, .long (lN z))] := hl
  refine lv_lload_n hx hb dJ13_bitCount_95d88_0 rfl (lv_at hl 0 rfl) ?_
  refine lv_lload_n hx hb dJ13_bitCount_95d88_1 rfl (lv_at hl 0 rfl) ?_
  refine lv_iconst (v := 1) hx hb dJ13_bitCount_95d88_2 (by decide) ?_
  refine lv_lushr hx hb dJ13_bitCount_95d88_3 rfl ?_
  refine lv_topl (fun x3 ex3 => ?_)
  have ex3 : x3 = lN (z / 2 ^ 1) := by rw [ex3]; exact wb_shr (k := 1) hz (by decide)
  subst ex3
  refine lv_ldc2 (v := 6148914691236517205) hx hb hown (hts (.constantLong RJ13 314 6148914691236517205) (by decide +kernel)) dJ13_bitCount_95d88_4 ?_
  refine lv_land hx hb dJ13_bitCount_95d88_7 ?_
  refine lv_topl (fun x7 ex7 => ?_)
  have ex7 : x7 = lN (z / 2 ^ 1 &&& 6148914691236517205) := by rw [ex7]; exact wb_and (b := 6148914691236517205) (Nat.lt_of_le_of_lt (Nat.div_le_self _ _) hz) (by decide)
  subst ex7
  refine lv_lsub hx hb dJ13_bitCount_95d88_8 ?_
  refine lv_topl (fun x8 ex8 => ?_)
  have ex8 : x8 = lN (bq1 z) := by rw [ex8]; exact lN_sub (Nat.le_trans Nat.and_le_left (Nat.div_le_self _ _))
  subst ex8
  refine lv_lstore_n (lv' := [(0, .long (lN (bq1 z)))]) hx hb dJ13_bitCount_95d88_9 rfl hl (by decide) rfl (fun ls hl => ?_)
  refine lv_lload_n hx hb dJ13_bitCount_95d88_10 rfl (lv_at hl 0 rfl) ?_
  refine lv_ldc2 (v := 3689348814741910323) hx hb hown (hts (.constantLong RJ13 316 3689348814741910323) (by decide +kernel)) dJ13_bitCount_95d88_11 ?_
  refine lv_land hx hb dJ13_bitCount_95d88_14 ?_
  refine lv_topl (fun x14 ex14 => ?_)
  have ex14 : x14 = lN (bq1 z &&& 3689348814741910323) := by rw [ex14]; exact wb_and (b := 3689348814741910323) (Nat.lt_of_le_of_lt (bq1_le z) hz) (by decide)
  subst ex14
  refine lv_lload_n hx hb dJ13_bitCount_95d88_15 rfl (lv_at hl 0 rfl) ?_
  refine lv_iconst (v := 2) hx hb dJ13_bitCount_95d88_16 (by decide) ?_
  refine lv_lushr hx hb dJ13_bitCount_95d88_17 rfl ?_
  refine lv_topl (fun x17 ex17 => ?_)
  have ex17 : x17 = lN (bq1 z / 2 ^ 2) := by rw [ex17]; exact wb_shr (k := 2) (Nat.lt_of_le_of_lt (bq1_le z) hz) (by decide)
  subst ex17
  refine lv_ldc2 (v := 3689348814741910323) hx hb hown (hts (.constantLong RJ13 316 3689348814741910323) (by decide +kernel)) dJ13_bitCount_95d88_18 ?_
  refine lv_land hx hb dJ13_bitCount_95d88_21 ?_
  refine lv_topl (fun x21 ex21 => ?_)
  have ex21 : x21 = lN (bq1 z / 2 ^ 2 &&& 3689348814741910323) := by rw [ex21]; exact wb_and (b := 3689348814741910323) (Nat.lt_of_le_of_lt (Nat.div_le_self _ _) (Nat.lt_of_le_of_lt (bq1_le z) hz)) (by decide)
  subst ex21
  refine lv_ladd hx hb dJ13_bitCount_95d88_22 ?_
  refine lv_topl (fun x22 ex22 => ?_)
  have ex22 : x22 = lN (bq2 z) := by rw [ex22]; exact lN_add _ _
  subst ex22
  refine lv_lstore_n (lv' := [(0, .long (lN (bq2 z)))]) hx hb dJ13_bitCount_95d88_23 rfl hl (by decide) rfl (fun ls hl => ?_)
  refine lv_lload_n hx hb dJ13_bitCount_95d88_24 rfl (lv_at hl 0 rfl) ?_
  refine lv_lload_n hx hb dJ13_bitCount_95d88_25 rfl (lv_at hl 0 rfl) ?_
  refine lv_iconst (v := 4) hx hb dJ13_bitCount_95d88_26 (by decide) ?_
  refine lv_lushr hx hb dJ13_bitCount_95d88_27 rfl ?_
  refine lv_topl (fun x27 ex27 => ?_)
  have ex27 : x27 = lN (bq2 z / 2 ^ 4) := by rw [ex27]; exact wb_shr (k := 4) (Nat.lt_trans (bq2_lt z) (by decide)) (by decide)
  subst ex27
  refine lv_ladd hx hb dJ13_bitCount_95d88_28 ?_
  refine lv_topl (fun x28 ex28 => ?_)
  have ex28 : x28 = lN (bq2 z + bq2 z / 2 ^ 4) := by rw [ex28]; exact lN_add _ _
  subst ex28
  refine lv_ldc2 (v := 1085102592571150095) hx hb hown (hts (.constantLong RJ13 318 1085102592571150095) (by decide +kernel)) dJ13_bitCount_95d88_29 ?_
  refine lv_land hx hb dJ13_bitCount_95d88_32 ?_
  refine lv_topl (fun x32 ex32 => ?_)
  have ex32 : x32 = lN (bq3 z) := by rw [ex32]; exact wb_and (b := 1085102592571150095) (by have := bq2_lt z; omega) (by decide)
  subst ex32
  refine lv_lstore_n (lv' := [(0, .long (lN (bq3 z)))]) hx hb dJ13_bitCount_95d88_33 rfl hl (by decide) rfl (fun ls hl => ?_)
  refine lv_lload_n hx hb dJ13_bitCount_95d88_34 rfl (lv_at hl 0 rfl) ?_
  refine lv_lload_n hx hb dJ13_bitCount_95d88_35 rfl (lv_at hl 0 rfl) ?_
  refine lv_bipush (v := 8) hx hb dJ13_bitCount_95d88_36 (by decide) ?_
  refine lv_lushr hx hb dJ13_bitCount_95d88_38 rfl ?_
  refine lv_topl (fun x38 ex38 => ?_)
  have ex38 : x38 = lN (bq3 z / 2 ^ 8) := by rw [ex38]; exact wb_shr (k := 8) (Nat.lt_trans (bq3_lt z) (by decide)) (by decide)
  subst ex38
  refine lv_ladd hx hb dJ13_bitCount_95d88_39 ?_
  refine lv_topl (fun x39 ex39 => ?_)
  have ex39 : x39 = lN (bq4 z) := by rw [ex39]; exact lN_add _ _
  subst ex39
  refine lv_lstore_n (lv' := [(0, .long (lN (bq4 z)))]) hx hb dJ13_bitCount_95d88_40 rfl hl (by decide) rfl (fun ls hl => ?_)
  refine lv_lload_n hx hb dJ13_bitCount_95d88_41 rfl (lv_at hl 0 rfl) ?_
  refine lv_lload_n hx hb dJ13_bitCount_95d88_42 rfl (lv_at hl 0 rfl) ?_
  refine lv_bipush (v := 16) hx hb dJ13_bitCount_95d88_43 (by decide) ?_
  refine lv_lushr hx hb dJ13_bitCount_95d88_45 rfl ?_
  refine lv_topl (fun x45 ex45 => ?_)
  have ex45 : x45 = lN (bq4 z / 2 ^ 16) := by rw [ex45]; exact wb_shr (k := 16) (Nat.lt_trans (bq4_lt z) (by decide)) (by decide)
  subst ex45
  refine lv_ladd hx hb dJ13_bitCount_95d88_46 ?_
  refine lv_topl (fun x46 ex46 => ?_)
  have ex46 : x46 = lN (bq5 z) := by rw [ex46]; exact lN_add _ _
  subst ex46
  refine lv_lstore_n (lv' := [(0, .long (lN (bq5 z)))]) hx hb dJ13_bitCount_95d88_47 rfl hl (by decide) rfl (fun ls hl => ?_)
  refine lv_lload_n hx hb dJ13_bitCount_95d88_48 rfl (lv_at hl 0 rfl) ?_
  refine lv_lload_n hx hb dJ13_bitCount_95d88_49 rfl (lv_at hl 0 rfl) ?_
  refine lv_bipush (v := 32) hx hb dJ13_bitCount_95d88_50 (by decide) ?_
  refine lv_lushr hx hb dJ13_bitCount_95d88_52 rfl ?_
  refine lv_topl (fun x52 ex52 => ?_)
  have ex52 : x52 = lN (bq5 z / 2 ^ 32) := by rw [ex52]; exact wb_shr (k := 32) (Nat.lt_trans (bq5_lt z) (by decide)) (by decide)
  subst ex52
  refine lv_ladd hx hb dJ13_bitCount_95d88_53 ?_
  refine lv_topl (fun x53 ex53 => ?_)
  have ex53 : x53 = lN (bq6 z) := by rw [ex53]; exact lN_add _ _
  subst ex53
  refine lv_lstore_n (lv' := [(0, .long (lN (bq6 z)))]) hx hb dJ13_bitCount_95d88_54 rfl hl (by decide) rfl (fun ls hl => ?_)
  refine lv_lload_n hx hb dJ13_bitCount_95d88_55 rfl (lv_at hl 0 rfl) ?_
  refine lv_l2i hx hb dJ13_bitCount_95d88_56 rfl ?_
  refine lv_topi (fun x56 ex56 => ?_)
  have ex56 : x56 = nI (bq6 z) := by rw [ex56]; exact lN_i _
  subst ex56
  refine lv_bipush (v := 127) hx hb dJ13_bitCount_95d88_57 (by decide) ?_
  refine lv_iand hx hb dJ13_bitCount_95d88_59 ?_
  refine lv_topi (fun x59 ex59 => ?_)
  refine hret 60 ls _ _ x59 (I, A, B, C, T) dJ13_bitCount_95d88_60 rfl ?_ hP hD hS
  try dsimp only
  exact ⟨by rw [ex59, and127, bq6_sz hz], rfl⟩
set_option maxHeartbeats 4000000 in
set_option maxRecDepth 100000 in
theorem k_fillR (l : Launch) (dC : Nat → ClassId) (dI : Nat → Nat → Nat) (cI cJ cZ cII cJJ : ClassId) (R : Nat → Nat) (I : Nat → Int32) (A : Nat → Nat → Int32) (B : Nat → Nat → Int64) (C : Nat → Nat → Int32) (T : Nat → Nat → Int64)   : ctV l (dC, dI) (tyL cI cJ cZ cII cJJ) (HW cI cJ cII cJJ R) yJ7_fill_d0a16 wsJ7_fill_d0a16 (0, 0) [.ref (R 6), .long 0] (I, A, B, C, T) (fun u => u.1 = I ∧ u.2.1 = A ∧ u.2.2.2.1 = C ∧ u.2.2.2.2 = T ∧ (∀ k, k ≠ 6 → u.2.2.1 k = B k) ∧ ∀ j, j < 40 → u.2.2.1 6 j = 0) := by
  refine ctV_intro (cc := cJ7_fill_d0a16) (maxL := 5) (by decide) rfl (Nat.le_of_ble_eq_true rfl) ?_
  intro p e s m below meth c ls Aa Q F hK hN hP hD hS hA hl hret
  have hx := F.1
  have hb := F.2.1
  have hown : s.vm.findClass RJ7 = some m.cls := F.2.2.2.1
  have hts := F.2.2.2.2
  have hl : lv_has ls 5 [(0, .ref (R 6)), (1, .long 0)] := hl
  refine lv_iconst (v := 0) hx hb dJ7_fill_d0a16_0 (by decide) ?_
  refine lv_istore_n (lv' := [(3, .int 0), (0, .ref (R 6)), (1, .long 0)]) hx hb dJ7_fill_d0a16_1 rfl hl (by decide) rfl (fun ls hl => ?_)
  refine lv_aload_n hx hb dJ7_fill_d0a16_2 rfl (lv_at hl 1 rfl) ?_
  refine va_alen (v := 40) hx hb hK hP 6 1 rfl rfl rfl dJ7_fill_d0a16_3 ?_
  refine lv_istore (lv' := [(4, .int 40), (3, .int 0), (0, .ref (R 6)), (1, .long 0)]) hx hb dJ7_fill_d0a16_4 hl (by decide) rfl (fun ls hl => ?_)
  have K6 : ∀ (kn : Nat) (i : Nat) (B_6 : Nat → Nat → Int64) (ls : Array Slot) (H : Heap) (locs : List Loc), 40 - i < kn → (i ≤ 40 ∧ (∀ k, k ≠ 6 → B_6 k = B k) ∧ ∀ j, j < i → B_6 6 j = 0) → va_P (dC, dI) vwCl (HW cI cJ cII cJJ R (I, A, B_6, C, T)) H → va_D Aa (HW cI cJ cII cJJ R (I, A, B_6, C, T)) → va_S Aa s.heap H locs → lv_has ls 5 [(0, .ref (R 6)), (1, .long 0), (3, .int (nI i)), (4, .int 40)] → W p l e (ctR (0, 0)) s m #[.ref (R 6), .long 0] below meth c H locs 0 0 Q (F0 m 6 ls []) := by
    intro kn
    induction kn with
    | zero => intro i B_6 ls H locs hmu; exact absurd hmu (Nat.not_lt_zero _)
    | succ kn ih6 =>
      intro i B_6 ls H locs mu6 inv6 hP hD hS hl
      obtain ⟨hi, fo, fi⟩ := inv6
      refine lv_iload_n hx hb dJ7_fill_d0a16_6 rfl (lv_at hl 2 rfl) ?_
      refine lv_iload hx hb dJ7_fill_d0a16_7 (lv_at hl 3 rfl) ?_
      refine lv_icmp_ge (tgt := 22) hx hb dJ7_fill_d0a16_9 (by decide) (fun c9 => ?_) (fun c9 => ?_)
      · -- 9 taken
        have hge : i = 40 := by have := (nI_leI (a := 40) (by omega) (by omega)).mp c9; omega
        rw [hge] at fi
        refine hret 22 ls _ _ (I, A, B_6, C, T) dJ7_fill_d0a16_22 ?_ hP hD hS
        try dsimp only
        exact ⟨rfl, rfl, rfl, rfl, fo, fi⟩
      · -- 9 not
        have hlt : i < 40 := Nat.lt_of_not_le (fun h => c9 (nI_le (a := 40) h (by omega)))
        have icl : (nI i).toNatClampNeg = i := nI_clamp (by omega)
        refine lv_aload_n hx hb dJ7_fill_d0a16_12 rfl (lv_at hl 0 rfl) ?_
        refine lv_iload_n hx hb dJ7_fill_d0a16_13 rfl (lv_at hl 2 rfl) ?_
        refine lv_lload_n hx hb dJ7_fill_d0a16_14 rfl (lv_at hl 1 rfl) ?_
        have h15 : vp_in (nI i) 40 := vp_in_nI hlt (by decide)
        refine va_last hx hb hK hP hD hS 6 1 rfl rfl h15 dJ7_fill_d0a16_15 (fun H locs hP hD hS => ?_)
        obtain ⟨B15, eB15⟩ : ∃ zz : Nat → Nat → Int64, zz = va_up B_6 6 (vp_updL (B_6 6) (nI i).toNatClampNeg 0) := ⟨_, rfl⟩
        have hP : va_P (dC, dI) vwCl (HW cI cJ cII cJJ R (I, A, B15, C, T)) H := by rw [eB15]; exact hP
        have hD : va_D Aa (HW cI cJ cII cJJ R (I, A, B15, C, T)) := by rw [eB15]; exact hD
        obtain ⟨x16, ex16⟩ : ∃ zz : Int32, zz = nI i + (1) := ⟨_, rfl⟩
        refine lv_iinc (v := x16) (lv' := [(3, .int x16), (0, .ref (R 6)), (1, .long 0), (4, .int 40)]) hx hb dJ7_fill_d0a16_16 hl (k := 2) rfl (by rw [ex16]; rfl) (by decide) rfl (fun ls hl => ?_)
        have ex16 : x16 = nI (i + 1) := by rw [ex16]; exact nI_1 i
        subst ex16
        refine lv_goto (tgt := 6) hx hb dJ7_fill_d0a16_19 (by decide) ?_
        exact ih6 (i + 1) B15 ls _ _ (by omega) ⟨by omega, fun k hk => by rw [eB15, up_ne hk]; exact fo k hk, fun j hj => by
        rw [eB15, up_self, icl]
        by_cases e1 : j = i
        · rw [e1, pk_uLs]
        · rw [pk_uLn e1]; exact fi j (by omega)⟩ hP hD hS (lv_sub hl [1, 2, 0, 3] rfl)
  exact K6 _ 0 B ls _ _ (Nat.lt_succ_self _) ⟨Nat.zero_le _, fun _ _ => rfl, fun j h => absurd h (Nat.not_lt_zero _)⟩ hP hD hS (lv_sub hl [2, 3, 1, 0] rfl)
set_option maxHeartbeats 4000000 in
set_option maxRecDepth 100000 in
theorem k_fillT (l : Launch) (dC : Nat → ClassId) (dI : Nat → Nat → Nat) (cI cJ cZ cII cJJ : ClassId) (R : Nat → Nat) (I : Nat → Int32) (A : Nat → Nat → Int32) (B : Nat → Nat → Int64) (C : Nat → Nat → Int32) (T : Nat → Nat → Int64) (v : Nat) (hv : v < 16) : ctV l (dC, dI) (tyL cI cJ cZ cII cJJ) (HW cI cJ cII cJJ R) yJ7_fill_d0a16 wsJ7_fill_d0a16 (0, 0) [.ref (R (100 + v)), .long 0] (I, A, B, C, T) (fun u => u.1 = I ∧ u.2.1 = A ∧ u.2.2.1 = B ∧ u.2.2.2.1 = C ∧ (∀ k, k ≠ v → u.2.2.2.2 k = T k) ∧ ∀ j, j < 16 → u.2.2.2.2 v j = 0) := by
  refine ctV_intro (cc := cJ7_fill_d0a16) (maxL := 5) (by decide) rfl (Nat.le_of_ble_eq_true rfl) ?_
  intro p e s m below meth c ls Aa Q F hK hN hP hD hS hA hl hret
  have hx := F.1
  have hb := F.2.1
  have hown : s.vm.findClass RJ7 = some m.cls := F.2.2.2.1
  have hts := F.2.2.2.2
  have hl : lv_has ls 5 [(0, .ref (R (100 + v))), (1, .long 0)] := hl
  refine lv_iconst (v := 0) hx hb dJ7_fill_d0a16_0 (by decide) ?_
  refine lv_istore_n (lv' := [(3, .int 0), (0, .ref (R (100 + v))), (1, .long 0)]) hx hb dJ7_fill_d0a16_1 rfl hl (by decide) rfl (fun ls hl => ?_)
  refine lv_aload_n hx hb dJ7_fill_d0a16_2 rfl (lv_at hl 1 rfl) ?_
  refine va_alen (v := 16) hx hb hK hP (23 + v) 1 (hw_T hv) rfl rfl dJ7_fill_d0a16_3 ?_
  refine lv_istore (lv' := [(4, .int 16), (3, .int 0), (0, .ref (R (100 + v))), (1, .long 0)]) hx hb dJ7_fill_d0a16_4 hl (by decide) rfl (fun ls hl => ?_)
  have K6 : ∀ (kn : Nat) (i : Nat) (T_6 : Nat → Nat → Int64) (ls : Array Slot) (H : Heap) (locs : List Loc), 16 - i < kn → (i ≤ 16 ∧ (∀ k, k ≠ v → T_6 k = T k) ∧ ∀ j, j < i → T_6 v j = 0) → va_P (dC, dI) vwCl (HW cI cJ cII cJJ R (I, A, B, C, T_6)) H → va_D Aa (HW cI cJ cII cJJ R (I, A, B, C, T_6)) → va_S Aa s.heap H locs → lv_has ls 5 [(0, .ref (R (100 + v))), (1, .long 0), (3, .int (nI i)), (4, .int 16)] → W p l e (ctR (0, 0)) s m #[.ref (R (100 + v)), .long 0] below meth c H locs 0 0 Q (F0 m 6 ls []) := by
    intro kn
    induction kn with
    | zero => intro i T_6 ls H locs hmu; exact absurd hmu (Nat.not_lt_zero _)
    | succ kn ih6 =>
      intro i T_6 ls H locs mu6 inv6 hP hD hS hl
      obtain ⟨hi, fo, fi⟩ := inv6
      refine lv_iload_n hx hb dJ7_fill_d0a16_6 rfl (lv_at hl 2 rfl) ?_
      refine lv_iload hx hb dJ7_fill_d0a16_7 (lv_at hl 3 rfl) ?_
      refine lv_icmp_ge (tgt := 22) hx hb dJ7_fill_d0a16_9 (by decide) (fun c9 => ?_) (fun c9 => ?_)
      · -- 9 taken
        have hge : i = 16 := by have := (nI_leI (a := 16) (by omega) (by omega)).mp c9; omega
        rw [hge] at fi
        refine hret 22 ls _ _ (I, A, B, C, T_6) dJ7_fill_d0a16_22 ?_ hP hD hS
        try dsimp only
        exact ⟨rfl, rfl, rfl, rfl, fo, fi⟩
      · -- 9 not
        have hlt : i < 16 := Nat.lt_of_not_le (fun h => c9 (nI_le (a := 16) h (by omega)))
        have icl : (nI i).toNatClampNeg = i := nI_clamp (by omega)
        refine lv_aload_n hx hb dJ7_fill_d0a16_12 rfl (lv_at hl 0 rfl) ?_
        refine lv_iload_n hx hb dJ7_fill_d0a16_13 rfl (lv_at hl 2 rfl) ?_
        refine lv_lload_n hx hb dJ7_fill_d0a16_14 rfl (lv_at hl 1 rfl) ?_
        have h15 : vp_in (nI i) 16 := vp_in_nI hlt (by decide)
        refine va_last hx hb hK hP hD hS (23 + v) 1 (hw_T hv) rfl h15 dJ7_fill_d0a16_15 (fun H locs hP hD hS => ?_)
        obtain ⟨T15, eT15⟩ : ∃ zz : Nat → Nat → Int64, zz = va_up T_6 v (vp_updL (T_6 v) (nI i).toNatClampNeg 0) := ⟨_, rfl⟩
        have hP : va_P (dC, dI) vwCl (HW cI cJ cII cJJ R (I, A, B, C, T15)) H := by rw [eT15]; exact Eq.mp (congrArg (fun w => va_P (dC, dI) vwCl w H) (hw_Tset hv)) hP
        have hD : va_D Aa (HW cI cJ cII cJJ R (I, A, B, C, T15)) := by rw [eT15]; exact Eq.mp (congrArg (fun w => va_D Aa w) (hw_Tset hv)) hD
        obtain ⟨x16, ex16⟩ : ∃ zz : Int32, zz = nI i + (1) := ⟨_, rfl⟩
        refine lv_iinc (v := x16) (lv' := [(3, .int x16), (0, .ref (R (100 + v))), (1, .long 0), (4, .int 16)]) hx hb dJ7_fill_d0a16_16 hl (k := 2) rfl (by rw [ex16]; rfl) (by decide) rfl (fun ls hl => ?_)
        have ex16 : x16 = nI (i + 1) := by rw [ex16]; exact nI_1 i
        subst ex16
        refine lv_goto (tgt := 6) hx hb dJ7_fill_d0a16_19 (by decide) ?_
        exact ih6 (i + 1) T15 ls _ _ (by omega) ⟨by omega, fun k hk => by rw [eT15, up_ne hk]; exact fo k hk, fun j hj => by
        rw [eT15, up_self, icl]
        by_cases e1 : j = i
        · rw [e1, pk_uLs]
        · rw [pk_uLn e1]; exact fi j (by omega)⟩ hP hD hS (lv_sub hl [1, 2, 0, 3] rfl)
  exact K6 _ 0 T ls _ _ (Nat.lt_succ_self _) ⟨Nat.zero_le _, fun _ _ => rfl, fun j h => absurd h (Nat.not_lt_zero _)⟩ hP hD hS (lv_sub hl [2, 3, 1, 0] rfl)
set_option maxHeartbeats 4000000 in
set_option maxRecDepth 100000 in
theorem k_fillC (l : Launch) (dC : Nat → ClassId) (dI : Nat → Nat → Nat) (cI cJ cZ cII cJJ : ClassId) (R : Nat → Nat) (I : Nat → Int32) (A : Nat → Nat → Int32) (B : Nat → Nat → Int64) (C : Nat → Nat → Int32) (T : Nat → Nat → Int64) (v : Nat) (hv : v < 16) : ctV l (dC, dI) (tyL cI cJ cZ cII cJJ) (HW cI cJ cII cJJ R) yJ7_fill_53178 wsJ7_fill_53178 (0, 0) [.ref (R (200 + v)), .int 0] (I, A, B, C, T) (fun u => u.1 = I ∧ u.2.1 = A ∧ u.2.2.1 = B ∧ u.2.2.2.2 = T ∧ (∀ k, k ≠ v → u.2.2.2.1 k = C k) ∧ ∀ j, j < 16 → u.2.2.2.1 v j = 0) := by
  refine ctV_intro (cc := cJ7_fill_53178) (maxL := 4) (by decide) rfl (Nat.le_of_ble_eq_true rfl) ?_
  intro p e s m below meth c ls Aa Q F hK hN hP hD hS hA hl hret
  have hx := F.1
  have hb := F.2.1
  have hown : s.vm.findClass RJ7 = some m.cls := F.2.2.2.1
  have hts := F.2.2.2.2
  have hl : lv_has ls 4 [(0, .ref (R (200 + v))), (1, .int 0)] := hl
  refine lv_iconst (v := 0) hx hb dJ7_fill_53178_0 (by decide) ?_
  refine lv_istore_n (lv' := [(2, .int 0), (0, .ref (R (200 + v))), (1, .int 0)]) hx hb dJ7_fill_53178_1 rfl hl (by decide) rfl (fun ls hl => ?_)
  refine lv_aload_n hx hb dJ7_fill_53178_2 rfl (lv_at hl 1 rfl) ?_
  refine va_alen (v := 16) hx hb hK hP (39 + v) 0 (hw_C hv) rfl rfl dJ7_fill_53178_3 ?_
  refine lv_istore_n (lv' := [(3, .int 16), (2, .int 0), (0, .ref (R (200 + v))), (1, .int 0)]) hx hb dJ7_fill_53178_4 rfl hl (by decide) rfl (fun ls hl => ?_)
  have K5 : ∀ (kn : Nat) (i : Nat) (C_5 : Nat → Nat → Int32) (ls : Array Slot) (H : Heap) (locs : List Loc), 16 - i < kn → (i ≤ 16 ∧ (∀ k, k ≠ v → C_5 k = C k) ∧ ∀ j, j < i → C_5 v j = 0) → va_P (dC, dI) vwCl (HW cI cJ cII cJJ R (I, A, B, C_5, T)) H → va_D Aa (HW cI cJ cII cJJ R (I, A, B, C_5, T)) → va_S Aa s.heap H locs → lv_has ls 4 [(0, .ref (R (200 + v))), (1, .int 0), (2, .int (nI i)), (3, .int 16)] → W p l e (ctR (0, 0)) s m #[.ref (R (200 + v)), .int 0] below meth c H locs 0 0 Q (F0 m 5 ls []) := by
    intro kn
    induction kn with
    | zero => intro i C_5 ls H locs hmu; exact absurd hmu (Nat.not_lt_zero _)
    | succ kn ih5 =>
      intro i C_5 ls H locs mu5 inv5 hP hD hS hl
      obtain ⟨hi, fo, fi⟩ := inv5
      refine lv_iload_n hx hb dJ7_fill_53178_5 rfl (lv_at hl 2 rfl) ?_
      refine lv_iload_n hx hb dJ7_fill_53178_6 rfl (lv_at hl 3 rfl) ?_
      refine lv_icmp_ge (tgt := 20) hx hb dJ7_fill_53178_7 (by decide) (fun c7 => ?_) (fun c7 => ?_)
      · -- 7 taken
        have hge : i = 16 := by have := (nI_leI (a := 16) (by omega) (by omega)).mp c7; omega
        rw [hge] at fi
        refine hret 20 ls _ _ (I, A, B, C_5, T) dJ7_fill_53178_20 ?_ hP hD hS
        try dsimp only
        exact ⟨rfl, rfl, rfl, rfl, fo, fi⟩
      · -- 7 not
        have hlt : i < 16 := Nat.lt_of_not_le (fun h => c7 (nI_le (a := 16) h (by omega)))
        have icl : (nI i).toNatClampNeg = i := nI_clamp (by omega)
        refine lv_aload_n hx hb dJ7_fill_53178_10 rfl (lv_at hl 0 rfl) ?_
        refine lv_iload_n hx hb dJ7_fill_53178_11 rfl (lv_at hl 2 rfl) ?_
        refine lv_iload_n hx hb dJ7_fill_53178_12 rfl (lv_at hl 1 rfl) ?_
        have h13 : vp_in (nI i) 16 := vp_in_nI hlt (by decide)
        refine va_iast hx hb hK hP hD hS (39 + v) 0 (hw_C hv) rfl h13 dJ7_fill_53178_13 (fun H locs hP hD hS => ?_)
        obtain ⟨C13, eC13⟩ : ∃ zz : Nat → Nat → Int32, zz = va_up C_5 v (upd (C_5 v) (nI i).toNatClampNeg 0) := ⟨_, rfl⟩
        have hP : va_P (dC, dI) vwCl (HW cI cJ cII cJJ R (I, A, B, C13, T)) H := by rw [eC13]; exact Eq.mp (congrArg (fun w => va_P (dC, dI) vwCl w H) (hw_Cset hv)) hP
        have hD : va_D Aa (HW cI cJ cII cJJ R (I, A, B, C13, T)) := by rw [eC13]; exact Eq.mp (congrArg (fun w => va_D Aa w) (hw_Cset hv)) hD
        obtain ⟨x14, ex14⟩ : ∃ zz : Int32, zz = nI i + (1) := ⟨_, rfl⟩
        refine lv_iinc (v := x14) (lv' := [(2, .int x14), (0, .ref (R (200 + v))), (1, .int 0), (3, .int 16)]) hx hb dJ7_fill_53178_14 hl (k := 2) rfl (by rw [ex14]; rfl) (by decide) rfl (fun ls hl => ?_)
        have ex14 : x14 = nI (i + 1) := by rw [ex14]; exact nI_1 i
        subst ex14
        refine lv_goto (tgt := 5) hx hb dJ7_fill_53178_17 (by decide) ?_
        exact ih5 (i + 1) C13 ls _ _ (by omega) ⟨by omega, fun k hk => by rw [eC13, up_ne hk]; exact fo k hk, fun j hj => by
        rw [eC13, up_self, icl]
        by_cases e1 : j = i
        · rw [e1, pk_us]
        · rw [pk_un e1]; exact fi j (by omega)⟩ hP hD hS (lv_sub hl [1, 2, 0, 3] rfl)
  exact K5 _ 0 C ls _ _ (Nat.lt_succ_self _) ⟨Nat.zero_le _, fun _ _ => rfl, fun j h => absurd h (Nat.not_lt_zero _)⟩ hP hD hS (lv_sub hl [2, 3, 1, 0] rfl)
