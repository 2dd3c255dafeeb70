set_option maxHeartbeats 4000000 in
set_option maxRecDepth 100000 in
theorem k_X1_eliminate (l : Launch) (dC : Nat → ClassId) (dI : Nat → Nat → Nat) (cI cJ cZ cII cJJ : ClassId) (R : Nat → Nat) (I : Nat → Int32) (A : Nat → Nat → Int32) (B : Nat → Nat → Int64) (C : Nat → Nat → Int32) (T : Nat → Nat → Int64) (n2 k : Nat) (b : Int) (M : Nat → Nat → Int) (hn : n2 ≤ 16) (hk : k < n2) (hT : rT n2 T M) (hb1 : b ≠ 0 ∧ -2147483648 < b ∧ b < 2147483648) (hc2 : ∀ i j, i < n2 → j < n2 → -2147483648 < M i j ∧ M i j < 2147483648) : ctV l (dC, dI) (tyL cI cJ cZ cII cJJ) (HW cI cJ cII cJJ R) yX1_eliminate wsX1_eliminate (0, 0) [.ref (R 18), .int (nI k), .int (nI n2), .long (iL b)] (I, A, B, C, T) (fun u => rT n2 u.2.2.2.2 (stM n2 M b k n2 (k + 1)) ∧ u.1 = I ∧ u.2.1 = A ∧ u.2.2.1 = B ∧ u.2.2.2.1 = C) := by
  refine ctV_intro (cc := cX1_eliminate) (maxL := 7) (by decide) rfl (Nat.le_of_ble_eq_true rfl) ?_
  intro p e s m below meth c ls Aa Q F hK hN hP hD hS hA hl hret
  have hx := F.1
  have hb := F.2.1
  have hown : s.vm.findClass RX1 = some m.cls := F.2.2.2.1
  have hts := F.2.2.2.2
  have hinX1 : ∀ w ∈ wsX10, w ∈ wsX1_eliminate := by decide +kernel
  have hf11 := hts (.fieldLink RX1 11 "CycleHouse$ForestCount" "table" "[[J") (by decide +kernel)
  have hl : lv_has ls 7 [(0, .ref (R 18)), (1, .int (nI k)), (2, .int (nI n2)), (3, .long (iL b))] := hl
  refine lv_lload_n hx hb dX1_eliminate_0 rfl (lv_at hl 3 rfl) ?_
  refine lv_lconst (v := 0) hx hb dX1_eliminate_1 (by decide) ?_
  refine W.lcmp hx hb dX1_eliminate_2 ?_
  refine lv_if_ne (tgt := 7) hx hb dX1_eliminate_3 (by decide) (fun c3 => ?_) (fun c3 => ?_)
  · -- 3 taken
    rw [lg_cmp_eq] at c3
    refine lv_iload_n hx hb dX1_eliminate_7 rfl (lv_at hl 1 rfl) ?_
    refine lv_iconst (v := 1) hx hb dX1_eliminate_8 (by decide) ?_
    refine lv_iadd hx hb dX1_eliminate_9 ?_
    refine lv_topi (fun x9 ex9 => ?_)
    have ex9 : x9 = nI (k + 1) := by rw [ex9]; exact nI_1 k
    subst ex9
    refine lv_istore (lv' := [(5, .int (nI (k + 1))), (0, .ref (R 18)), (1, .int (nI k)), (2, .int (nI n2)), (3, .long (iL b))]) hx hb dX1_eliminate_10 hl (by decide) rfl (fun ls hl => ?_)
    have K12 : ∀ (kn : Nat) (i : Nat) (T_12 : Nat → Nat → Int64) (ls : Array Slot) (H : Heap) (locs : List Loc), n2 - i < kn → (k < i ∧ i ≤ n2 ∧ rT n2 T_12 (stM n2 M b k i (k + 1))) → va_P (dC, dI) vwCl (HW cI cJ cII cJJ R (I, A, B, C, T_12)) H → va_D Aa (HW cI cJ cII cJJ R (I, A, B, C, T_12)) → va_S Aa s.heap H locs → lv_has ls 7 [(0, .ref (R 18)), (1, .int (nI k)), (2, .int (nI n2)), (3, .long (iL b)), (5, .int (nI i))] → W p l e (ctR (0, 0)) s m #[.ref (R 18), .int (nI k), .int (nI n2), .long (iL b)] below meth c H locs 0 0 Q (F0 m 12 ls []) := by
      intro kn
      induction kn with
      | zero => intro i T_12 ls H locs hmu; exact absurd hmu (Nat.not_lt_zero _)
      | succ kn ih12 =>
        intro i T_12 ls H locs mu12 inv12 hP hD hS hl
        obtain ⟨hki, hi, hT2⟩ := inv12
        refine lv_iload hx hb dX1_eliminate_12 (lv_at hl 4 rfl) ?_
        refine lv_iload_n hx hb dX1_eliminate_14 rfl (lv_at hl 2 rfl) ?_
        refine lv_icmp_ge (tgt := 92) hx hb dX1_eliminate_15 (by decide) (fun c15 => ?_) (fun c15 => ?_)
        · -- 15 taken
          rw [nI_leI (by omega) (by omega)] at c15
          have hge : i = n2 := by omega
          rw [hge] at hT2
          refine hret 92 ls _ _ (I, A, B, C, T_12) dX1_eliminate_92 ?_ hP hD hS
          try dsimp only
          exact ⟨hT2, rfl, rfl, rfl, rfl⟩
        · -- 15 not
          rw [nI_leI (by omega) (by omega)] at c15
          refine lv_iload_n hx hb dX1_eliminate_18 rfl (lv_at hl 1 rfl) ?_
          refine lv_iconst (v := 1) hx hb dX1_eliminate_19 (by decide) ?_
          refine lv_iadd hx hb dX1_eliminate_20 ?_
          refine lv_topi (fun x20 ex20 => ?_)
          have ex20 : x20 = nI (k + 1) := by rw [ex20]; exact nI_1 k
          subst ex20
          refine lv_istore (lv' := [(6, .int (nI (k + 1))), (0, .ref (R 18)), (1, .int (nI k)), (2, .int (nI n2)), (3, .long (iL b)), (5, .int (nI i))]) hx hb dX1_eliminate_21 hl (by decide) rfl (fun ls hl => ?_)
          have K23 : ∀ (kn : Nat) (j : Nat) (T_23 : Nat → Nat → Int64) (ls : Array Slot) (H : Heap) (locs : List Loc), n2 - j < kn → (k < j ∧ j ≤ n2 ∧ rT n2 T_23 (stM n2 M b k i j)) → va_P (dC, dI) vwCl (HW cI cJ cII cJJ R (I, A, B, C, T_23)) H → va_D Aa (HW cI cJ cII cJJ R (I, A, B, C, T_23)) → va_S Aa s.heap H locs → lv_has ls 7 [(0, .ref (R 18)), (1, .int (nI k)), (2, .int (nI n2)), (3, .long (iL b)), (5, .int (nI i)), (6, .int (nI j))] → W p l e (ctR (0, 0)) s m #[.ref (R 18), .int (nI k), .int (nI n2), .long (iL b)] below meth c H locs 0 0 Q (F0 m 23 ls []) := by
            intro kn
            induction kn with
            | zero => intro j T_23 ls H locs hmu; exact absurd hmu (Nat.not_lt_zero _)
            | succ kn ih23 =>
              intro j T_23 ls H locs mu23 inv23 hP hD hS hl
              obtain ⟨hkj, hj, hT3⟩ := inv23
              refine lv_iload hx hb dX1_eliminate_23 (lv_at hl 5 rfl) ?_
              refine lv_iload_n hx hb dX1_eliminate_25 rfl (lv_at hl 2 rfl) ?_
              refine lv_icmp_ge (tgt := 86) hx hb dX1_eliminate_26 (by decide) (fun c26 => ?_) (fun c26 => ?_)
              · -- 26 taken
                rw [nI_leI (by omega) (by omega)] at c26
                have hge2 : j = n2 := by omega
                rw [hge2] at hT3
                obtain ⟨x86, ex86⟩ : ∃ zz : Int32, zz = nI i + (1) := ⟨_, rfl⟩
                refine lv_iinc (v := x86) (lv' := [(5, .int x86), (0, .ref (R 18)), (1, .int (nI k)), (2, .int (nI n2)), (3, .long (iL b)), (6, .int (nI j))]) hx hb dX1_eliminate_86 hl (k := 4) rfl (by rw [ex86]; rfl) (by decide) rfl (fun ls hl => ?_)
                have ex86 : x86 = nI (i + 1) := by rw [ex86]; exact nI_1 i
                subst ex86
                refine lv_goto (tgt := 12) hx hb dX1_eliminate_89 (by decide) ?_
                exact ih12 (i + 1) T_23 ls _ _ (by omega) ⟨by omega, by omega, by rw [← stM_row]; exact hT3⟩ hP hD hS (lv_sub hl [1, 2, 3, 4, 0] rfl)
              · -- 26 not
                rw [nI_leI (by omega) (by omega)] at c26
                have m1 := mul_b (hc2 i j (by omega) (by omega)).1 (hc2 i j (by omega) (by omega)).2 (hc2 k k (by omega) (by omega)).1 (hc2 k k (by omega) (by omega)).2
                have m2 := mul_b (hc2 i k (by omega) (by omega)).1 (hc2 i k (by omega) (by omega)).2 (hc2 k j (by omega) (by omega)).1 (hc2 k j (by omega) (by omega)).2
                refine lv_aload_n hx hb dX1_eliminate_29 rfl (lv_at hl 0 rfl) ?_
                refine va_get (D := (dC, dI)) (ci := 1) (v := .ref (R 21)) (C := RX1) (T := TX1) (N := 1) hx hb hts hinX1 hown hK hP 18 rfl rfl 0 (by decide) hf11 (fun _ h9 => h9) rfl dX1_eliminate_30 ?_
                refine lv_iload hx hb dX1_eliminate_33 (lv_at hl 4 rfl) ?_
                refine va_aldr hx hb hK hP 21 4 rfl rfl (vp_in_nI (by omega) (by decide)) dX1_eliminate_35 ?_
                rw [go_ref (R := R) (b := 100) (by omega)]
                refine lv_iload hx hb dX1_eliminate_36 (lv_at hl 5 rfl) ?_
                refine lv_aload_n hx hb dX1_eliminate_38 rfl (lv_at hl 0 rfl) ?_
                refine va_get (D := (dC, dI)) (ci := 1) (v := .ref (R 21)) (C := RX1) (T := TX1) (N := 1) hx hb hts hinX1 hown hK hP 18 rfl rfl 0 (by decide) hf11 (fun _ h9 => h9) rfl dX1_eliminate_39 ?_
                refine lv_iload hx hb dX1_eliminate_42 (lv_at hl 4 rfl) ?_
                refine va_aldr hx hb hK hP 21 4 rfl rfl (vp_in_nI (by omega) (by decide)) dX1_eliminate_44 ?_
                rw [go_ref (R := R) (b := 100) (by omega)]
                refine lv_iload hx hb dX1_eliminate_45 (lv_at hl 5 rfl) ?_
                have h47 : vp_in (nI j) 16 := vp_in_nI (by omega) (by omega)
                refine va_lald hx hb hK hP (23 + i) 1 (hw_T (by omega)) rfl h47 dX1_eliminate_47 ?_
                refine lv_topl (fun x47 ex47 => ?_)
                have ex47 : x47 = T_23 i (nI j).toNatClampNeg := ex47
                have ex47 : x47 = iL (M i j) := by rw [ex47, nI_clamp (by omega), hT3 i j (by omega) (by omega), stM_ij]
                subst ex47
                refine lv_aload_n hx hb dX1_eliminate_48 rfl (lv_at hl 0 rfl) ?_
                refine va_get (D := (dC, dI)) (ci := 1) (v := .ref (R 21)) (C := RX1) (T := TX1) (N := 1) hx hb hts hinX1 hown hK hP 18 rfl rfl 0 (by decide) hf11 (fun _ h9 => h9) rfl dX1_eliminate_49 ?_
                refine lv_iload_n hx hb dX1_eliminate_52 rfl (lv_at hl 1 rfl) ?_
                refine va_aldr hx hb hK hP 21 4 rfl rfl (vp_in_nI (by omega) (by decide)) dX1_eliminate_53 ?_
                rw [go_ref (R := R) (b := 100) (by omega)]
                refine lv_iload_n hx hb dX1_eliminate_54 rfl (lv_at hl 1 rfl) ?_
                have h55 : vp_in (nI k) 16 := vp_in_nI (by omega) (by omega)
                refine va_lald hx hb hK hP (23 + k) 1 (hw_T (by omega)) rfl h55 dX1_eliminate_55 ?_
                refine lv_topl (fun x55 ex55 => ?_)
                have ex55 : x55 = T_23 k (nI k).toNatClampNeg := ex55
                have ex55 : x55 = iL (M k k) := by rw [ex55, nI_clamp (by omega), hT3 k k (by omega) (by omega), stM_k1]
                subst ex55
                refine lv_lmul hx hb dX1_eliminate_56 ?_
                refine lv_topl (fun x56 ex56 => ?_)
                have ex56 : x56 = iL (M i j * M k k) := by rw [ex56, iL_mul]
                subst ex56
                refine lv_aload_n hx hb dX1_eliminate_57 rfl (lv_at hl 0 rfl) ?_
                refine va_get (D := (dC, dI)) (ci := 1) (v := .ref (R 21)) (C := RX1) (T := TX1) (N := 1) hx hb hts hinX1 hown hK hP 18 rfl rfl 0 (by decide) hf11 (fun _ h9 => h9) rfl dX1_eliminate_58 ?_
                refine lv_iload hx hb dX1_eliminate_61 (lv_at hl 4 rfl) ?_
                refine va_aldr hx hb hK hP 21 4 rfl rfl (vp_in_nI (by omega) (by decide)) dX1_eliminate_63 ?_
                rw [go_ref (R := R) (b := 100) (by omega)]
                refine lv_iload_n hx hb dX1_eliminate_64 rfl (lv_at hl 1 rfl) ?_
                have h65 : vp_in (nI k) 16 := vp_in_nI (by omega) (by omega)
                refine va_lald hx hb hK hP (23 + i) 1 (hw_T (by omega)) rfl h65 dX1_eliminate_65 ?_
                refine lv_topl (fun x65 ex65 => ?_)
                have ex65 : x65 = T_23 i (nI k).toNatClampNeg := ex65
                have ex65 : x65 = iL (M i k) := by rw [ex65, nI_clamp (by omega), hT3 i k (by omega) (by omega), stM_k1]
                subst ex65
                refine lv_aload_n hx hb dX1_eliminate_66 rfl (lv_at hl 0 rfl) ?_
                refine va_get (D := (dC, dI)) (ci := 1) (v := .ref (R 21)) (C := RX1) (T := TX1) (N := 1) hx hb hts hinX1 hown hK hP 18 rfl rfl 0 (by decide) hf11 (fun _ h9 => h9) rfl dX1_eliminate_67 ?_
                refine lv_iload_n hx hb dX1_eliminate_70 rfl (lv_at hl 1 rfl) ?_
                refine va_aldr hx hb hK hP 21 4 rfl rfl (vp_in_nI (by omega) (by decide)) dX1_eliminate_71 ?_
                rw [go_ref (R := R) (b := 100) (by omega)]
                refine lv_iload hx hb dX1_eliminate_72 (lv_at hl 5 rfl) ?_
                have h74 : vp_in (nI j) 16 := vp_in_nI (by omega) (by omega)
                refine va_lald hx hb hK hP (23 + k) 1 (hw_T (by omega)) rfl h74 dX1_eliminate_74 ?_
                refine lv_topl (fun x74 ex74 => ?_)
                have ex74 : x74 = T_23 k (nI j).toNatClampNeg := ex74
                have ex74 : x74 = iL (M k j) := by rw [ex74, nI_clamp (by omega), hT3 k j (by omega) (by omega), stM_k2]
                subst ex74
                refine lv_lmul hx hb dX1_eliminate_75 ?_
                refine lv_topl (fun x75 ex75 => ?_)
                have ex75 : x75 = iL (M i k * M k j) := by rw [ex75, iL_mul]
                subst ex75
                refine lv_lsub hx hb dX1_eliminate_76 ?_
                refine lv_topl (fun x76 ex76 => ?_)
                have ex76 : x76 = iL (M i j * M k k - M i k * M k j) := by rw [ex76, iL_sub]
                subst ex76
                refine lv_lload_n hx hb dX1_eliminate_77 rfl (lv_at hl 3 rfl) ?_
                refine lv_ldiv hx hb dX1_eliminate_78 (iL_ne hb1.1 hb1.2.1 hb1.2.2) ?_
                refine lv_topl (fun x78 ex78 => ?_)
                have ex78 : x78 = iL ((M i j * M k k - M i k * M k j).tdiv b) := by rw [ex78]; exact iL_div (by omega) (by omega) hb1.1 hb1.2.1 hb1.2.2
                subst ex78
                have h79 : vp_in (nI j) 16 := vp_in_nI (by omega) (by omega)
                refine va_last hx hb hK hP hD hS (23 + i) 1 (hw_T (by omega)) rfl h79 dX1_eliminate_79 (fun H locs hP hD hS => ?_)
                obtain ⟨T79, eT79⟩ : ∃ zz : Nat → Nat → Int64, zz = va_up T_23 i (vp_updL (T_23 i) (nI j).toNatClampNeg (iL ((M i j * M k k - M i k * M k j).tdiv b))) := ⟨_, rfl⟩
                have hP : va_P (dC, dI) vwCl (HW cI cJ cII cJJ R (I, A, B, C, T79)) H := by rw [eT79]; exact Eq.mp (congrArg (fun w => va_P (dC, dI) vwCl w H) (hw_Tset (by omega))) hP
                have hD : va_D Aa (HW cI cJ cII cJJ R (I, A, B, C, T79)) := by rw [eT79]; exact Eq.mp (congrArg (fun w => va_D Aa w) (hw_Tset (by omega))) hD
                obtain ⟨x80, ex80⟩ : ∃ zz : Int32, zz = nI j + (1) := ⟨_, rfl⟩
                refine lv_iinc (v := x80) (lv' := [(6, .int x80), (0, .ref (R 18)), (1, .int (nI k)), (2, .int (nI n2)), (3, .long (iL b)), (5, .int (nI i))]) hx hb dX1_eliminate_80 hl (k := 5) rfl (by rw [ex80]; rfl) (by decide) rfl (fun ls hl => ?_)
                have ex80 : x80 = nI (j + 1) := by rw [ex80]; exact nI_1 j
                subst ex80
                refine lv_goto (tgt := 23) hx hb dX1_eliminate_83 (by decide) ?_
                exact ih23 (j + 1) T79 ls _ _ (by omega) ⟨by omega, by omega, by rw [← stM_up (by omega) (by omega) (by omega) (by omega), eT79, nI_clamp (show j < 2 ^ 31 by omega)]; exact rT_up hT3 _ _ _⟩ hP hD hS (lv_sub hl [1, 2, 3, 4, 5, 0] rfl)
          exact K23 _ (k + 1) T_12 ls _ _ (Nat.lt_succ_self _) ⟨by omega, by omega, hT2⟩ hP hD hS (lv_sub hl [1, 2, 3, 4, 5, 0] rfl)
    exact K12 _ (k + 1) T ls _ _ (Nat.lt_succ_self _) ⟨by omega, by omega, by rw [stM_0]; exact hT⟩ hP hD hS (lv_sub hl [1, 2, 3, 4, 0] rfl)
  · exact absurd c3 (by rw [lg_cmp_eq]; exact iL_ne hb1.1 hb1.2.1 hb1.2.2)
set_option maxHeartbeats 4000000 in
set_option maxRecDepth 100000 in
theorem k_X1_determinant (l : Launch) (dC : Nat → ClassId) (dI : Nat → Nat → Nat) (cI cJ cZ cII cJJ : ClassId) (R : Nat → Nat) (I : Nat → Int32) (A : Nat → Nat → Int32) (B : Nat → Nat → Int64) (C : Nat → Nat → Int32) (T : Nat → Nat → Int64) (n2 : Nat) (M : Nat → Nat → Int) (hn : n2 ≤ 16) (hM : rT n2 T M) (hB : ∀ k, k ≤ n2 → (0 < (bsz n2 M k).2 ∧ (bsz n2 M k).2 < 2147483648) ∧ ∀ i j, i < n2 → j < n2 → -2147483648 < (bsz n2 M k).1 i j ∧ (bsz n2 M k).1 i j < 2147483648) : ctL l (dC, dI) (tyL cI cJ cZ cII cJJ) (HW cI cJ cII cJJ R) yX1_determinant wsX1_determinant (1, 30) [.ref (R 18), .int (nI n2)] (I, A, B, C, T) (fun r u => r = iL (bsz n2 M n2).2 ∧ u.1 = I ∧ u.2.1 = A ∧ u.2.2.1 = B ∧ u.2.2.2.1 = C) := by
  refine ctL_intro (cc := cX1_determinant) (maxL := 7) (by decide) rfl (Nat.le_of_ble_eq_true rfl) ?_
  intro p e s m below meth c ls Aa Q F hK hN hP hD hS hA hl hret
  have hx := F.1
  have hb := F.2.1
  have hown : s.vm.findClass RX1 = some m.cls := F.2.2.2.1
  have hts := F.2.2.2.2
  have hinX1 : ∀ w ∈ wsX10, w ∈ wsX1_determinant := by decide +kernel
  have hf11 := hts (.fieldLink RX1 11 "CycleHouse$ForestCount" "table" "[[J") (by decide +kernel)
  have hl : lv_has ls 7 [(0, .ref (R 18)), (1, .int (nI n2))] := hl
  refine lv_lconst (v := 1) hx hb dX1_determinant_0 (by decide) ?_
  refine lv_lstore_n (lv' := [(2, .long 1), (0, .ref (R 18)), (1, .int (nI n2))]) hx hb dX1_determinant_1 rfl hl (by decide) rfl (fun ls hl => ?_)
  refine lv_iconst (v := 0) hx hb dX1_determinant_2 (by decide) ?_
  refine lv_istore (lv' := [(4, .int 0), (2, .long 1), (0, .ref (R 18)), (1, .int (nI n2))]) hx hb dX1_determinant_3 hl (by decide) rfl (fun ls hl => ?_)
  have K5 : ∀ (kn : Nat) (k : Nat) (y2 : Int64) (T_5 : Nat → Nat → Int64) (ls : Array Slot) (H : Heap) (locs : List Loc), n2 - k < kn → (k ≤ n2 ∧ rT n2 T_5 (bsz n2 M k).1 ∧ y2 = iL (bsz n2 M k).2) → va_P (dC, dI) vwCl (HW cI cJ cII cJJ R (I, A, B, C, T_5)) H → va_D Aa (HW cI cJ cII cJJ R (I, A, B, C, T_5)) → va_S Aa s.heap H locs → lv_has ls 7 [(0, .ref (R 18)), (1, .int (nI n2)), (2, .long y2), (4, .int (nI k))] → W p l e (ctR (1, 30)) s m #[.ref (R 18), .int (nI n2)] below meth c H locs 0 0 Q (F0 m 5 ls []) := by
    intro kn
    induction kn with
    | zero => intro k y2 T_5 ls H locs hmu; exact absurd hmu (Nat.not_lt_zero _)
    | succ kn ih5 =>
      intro k y2 T_5 ls H locs mu5 inv5 hP hD hS hl
      obtain ⟨hk, hT, hy2⟩ := inv5
      refine lv_iload hx hb dX1_determinant_5 (lv_at hl 3 rfl) ?_
      refine lv_iload_n hx hb dX1_determinant_7 rfl (lv_at hl 1 rfl) ?_
      refine lv_icmp_ge (tgt := 47) hx hb dX1_determinant_8 (by decide) (fun c8 => ?_) (fun c8 => ?_)
      · -- 8 taken
        rw [nI_leI (by omega) (by omega)] at c8
        have hge : k = n2 := by omega
        refine lv_lload_n hx hb dX1_determinant_47 rfl (lv_at hl 2 rfl) ?_
        refine hret 48 ls _ _ y2 (I, A, B, C, T_5) dX1_determinant_48 ?_ hP hD hS
        try dsimp only
        exact ⟨by rw [hy2, hge], rfl, rfl, rfl, rfl⟩
      · -- 8 not
        rw [nI_leI (by omega) (by omega)] at c8
        obtain ⟨hc1, hc2⟩ := hB k (by omega)
        have hkk := hc2 k k (by omega) (by omega)
        refine lv_aload_n hx hb dX1_determinant_11 rfl (lv_at hl 0 rfl) ?_
        refine va_get (D := (dC, dI)) (ci := 1) (v := .ref (R 21)) (C := RX1) (T := TX1) (N := 1) hx hb hts hinX1 hown hK hP 18 rfl rfl 0 (by decide) hf11 (fun _ h9 => h9) rfl dX1_determinant_12 ?_
        refine lv_iload hx hb dX1_determinant_15 (lv_at hl 3 rfl) ?_
        refine va_aldr hx hb hK hP 21 4 rfl rfl (vp_in_nI (by omega) (by decide)) dX1_determinant_17 ?_
        rw [go_ref (R := R) (b := 100) (by omega)]
        refine lv_iload hx hb dX1_determinant_18 (lv_at hl 3 rfl) ?_
        have h20 : vp_in (nI k) 16 := vp_in_nI (by omega) (by omega)
        refine va_lald hx hb hK hP (23 + k) 1 (hw_T (by omega)) rfl h20 dX1_determinant_20 ?_
        refine lv_topl (fun x20 ex20 => ?_)
        have ex20 : x20 = T_5 k (nI k).toNatClampNeg := ex20
        have ex20 : x20 = iL ((bsz n2 M k).1 k k) := by rw [ex20, nI_clamp (by omega)]; exact hT k k (by omega) (by omega)
        subst ex20
        refine lv_lstore (lv' := [(5, .long (iL ((bsz n2 M k).1 k k))), (0, .ref (R 18)), (1, .int (nI n2)), (2, .long y2), (4, .int (nI k))]) hx hb dX1_determinant_21 hl (by decide) rfl (fun ls hl => ?_)
        refine lv_lload hx hb dX1_determinant_23 (lv_at hl 0 rfl) ?_
        refine lv_lconst (v := 0) hx hb dX1_determinant_25 (by decide) ?_
        refine W.lcmp hx hb dX1_determinant_26 ?_
        refine lv_if_eq (tgt := 41) hx hb dX1_determinant_27 (by decide) (fun c27 => ?_) (fun c27 => ?_)
        · -- 27 taken
          rw [lg_cmp_eq] at c27
          have c27 : (bsz n2 M k).1 k k = 0 := Classical.byContradiction (fun h => iL_ne h hkk.1 hkk.2 c27)
          obtain ⟨x41, ex41⟩ : ∃ zz : Int32, zz = nI k + (1) := ⟨_, rfl⟩
          refine lv_iinc (v := x41) (lv' := [(4, .int x41), (5, .long (iL ((bsz n2 M k).1 k k))), (0, .ref (R 18)), (1, .int (nI n2)), (2, .long y2)]) hx hb dX1_determinant_41 hl (k := 4) rfl (by rw [ex41]; rfl) (by decide) rfl (fun ls hl => ?_)
          have ex41 : x41 = nI (k + 1) := by rw [ex41]; exact nI_1 k
          subst ex41
          refine lv_goto (tgt := 5) hx hb dX1_determinant_44 (by decide) ?_
          exact ih5 (k + 1) y2 T_5 ls _ _ (by omega) ⟨by omega, by rw [bsz_z c27]; exact hT, by rw [bsz_z c27]; exact hy2⟩ hP hD hS (lv_sub hl [2, 3, 4, 0] rfl)
        · -- 27 not
          rw [lg_cmp_eq] at c27
          have c27 : ¬ (bsz n2 M k).1 k k = 0 := fun h => c27 (by rw [h]; rfl)
          refine lv_aload_n hx hb dX1_determinant_30 rfl (lv_at hl 1 rfl) ?_
          refine lv_iload hx hb dX1_determinant_31 (lv_at hl 4 rfl) ?_
          refine lv_iload_n hx hb dX1_determinant_33 rfl (lv_at hl 2 rfl) ?_
          refine lv_lload_n hx hb dX1_determinant_34 rfl (lv_at hl 3 rfl) ?_
          have ey2 : y2 = iL (bsz n2 M k).2 := hy2
          subst ey2
          refine ct_callv hD hS hA (va_runV (As := [.int (nI k), .int (nI n2), .long (iL (bsz n2 M k).2)]) (rest := []) F ((k_X1_eliminate l dC dI cI cJ cZ cII cJJ R I A B C T_5 n2 k (bsz n2 M k).2 (bsz n2 M k).1 hn (by omega) hT ⟨by omega, by omega, hc1.2⟩ hc2) _) (cwV 3 hts gX1_determinant_X1_eliminate rfl rfl rfl (by decide +kernel) ⟨(Nat.le_of_ble_eq_true rfl), (Nat.le_of_ble_eq_true rfl)⟩) (ct_preV 18 1 hK hN hP hD rfl rfl) rfl rfl hl.1 rfl (lv_room (Nat.le_of_ble_eq_true rfl)) dX1_determinant_35 ⟨(Nat.le_of_ble_eq_true rfl), (Nat.le_of_ble_eq_true rfl)⟩) (fun u35 H locs w35 hP hD hS => ?_)
          obtain ⟨I35, A35, B35, C35, T35⟩ := u35
          have eI35 : I = I35 := (w35.2.1).symm
          subst eI35
          have eA35 : A = A35 := (w35.2.2.1).symm
          subst eA35
          have eB35 : B = B35 := (w35.2.2.2.1).symm
          subst eB35
          have eC35 : C = C35 := (w35.2.2.2.2).symm
          subst eC35
          refine lv_lload hx hb dX1_determinant_38 (lv_at hl 0 rfl) ?_
          refine lv_lstore_n (lv' := [(2, .long (iL ((bsz n2 M k).1 k k))), (5, .long (iL ((bsz n2 M k).1 k k))), (0, .ref (R 18)), (1, .int (nI n2)), (4, .int (nI k))]) hx hb dX1_determinant_40 rfl hl (by decide) rfl (fun ls hl => ?_)
          obtain ⟨x41, ex41⟩ : ∃ zz : Int32, zz = nI k + (1) := ⟨_, rfl⟩
          refine lv_iinc (v := x41) (lv' := [(4, .int x41), (2, .long (iL ((bsz n2 M k).1 k k))), (5, .long (iL ((bsz n2 M k).1 k k))), (0, .ref (R 18)), (1, .int (nI n2))]) hx hb dX1_determinant_41 hl (k := 4) rfl (by rw [ex41]; rfl) (by decide) rfl (fun ls hl => ?_)
          have ex41 : x41 = nI (k + 1) := by rw [ex41]; exact nI_1 k
          subst ex41
          refine lv_goto (tgt := 5) hx hb dX1_determinant_44 (by decide) ?_
          exact ih5 (k + 1) (iL ((bsz n2 M k).1 k k)) T35 ls _ _ (by omega) ⟨by omega, by rw [← stM_end2 c27]; exact w35.1, by rw [bsz_s c27]⟩ hP hD hS (lv_sub hl [3, 4, 1, 0] rfl)
  exact K5 _ 0 1 T ls _ _ (Nat.lt_succ_self _) ⟨Nat.zero_le _, hM, rfl⟩ hP hD hS (lv_sub hl [2, 3, 1, 0] rfl)
set_option maxHeartbeats 4000000 in
set_option maxRecDepth 100000 in
theorem k_X1_count (l : Launch) (dC : Nat → ClassId) (dI : Nat → Nat → Nat) (cI cJ cZ cII cJJ : ClassId) (R : Nat → Nat) (I : Nat → Int32) (A : Nat → Nat → Int32) (B : Nat → Nat → Int64) (C : Nat → Nat → Int32) (T : Nat → Nat → Int64) (nv ne : Nat) (fr to wt : Nat → Nat) (q : JS) (g : gH nv ne fr to wt I A) (hq : rG nv q.1 (A 8)) (hB : ∀ k, k ≤ nv → (0 < (bsz nv (lgI fr to q ne) k).2 ∧ (bsz nv (lgI fr to q ne) k).2 < 2147483648) ∧ ∀ i j, i < nv → j < nv → -2147483648 < (bsz nv (lgI fr to q ne) k).1 i j ∧ (bsz nv (lgI fr to q ne) k).1 i j < 2147483648) : ctL l (dC, dI) (tyL cI cJ cZ cII cJJ) (HW cI cJ cII cJJ R) yX1_count wsX1_count (2, 60) [.ref (R 18), .ref (R 1), .ref (R 7)] (I, A, B, C, T) (fun r u => r = iL (bsz nv (lgI fr to q ne) nv).2 ∧ u.1 = I ∧ u.2.1 = A ∧ u.2.2.1 = B ∧ u.2.2.2.1 = C) := by
  refine ctL_intro (cc := cX1_count) (maxL := 6) (by decide) rfl (Nat.le_of_ble_eq_true rfl) ?_
  intro p e s m below meth c ls Aa Q F hK hN hP hD hS hA hl hret
  have hx := F.1
  have hb := F.2.1
  have hown : s.vm.findClass RX1 = some m.cls := F.2.2.2.1
  have hts := F.2.2.2.2
  have hinX1 : ∀ w ∈ wsX10, w ∈ wsX1_count := by decide +kernel
  have hinX2 : ∀ w ∈ wsX20, w ∈ wsX1_count := by decide +kernel
  have hinX3 : ∀ w ∈ wsX30, w ∈ wsX1_count := by decide +kernel
  have hf11 := hts (.fieldLink RX1 11 "CycleHouse$ForestCount" "table" "[[J") (by decide +kernel)
  have hl : lv_has ls 6 [(0, .ref (R 18)), (1, .ref (R 1)), (2, .ref (R 7))] := hl
  obtain ⟨g1, g2, g3, g4, g5, g6⟩ := id g
  refine lv_iconst (v := 0) hx hb dX1_count_0 (by decide) ?_
  refine lv_istore_n (lv' := [(3, .int 0), (0, .ref (R 18)), (1, .ref (R 1)), (2, .ref (R 7))]) hx hb dX1_count_1 rfl hl (by decide) rfl (fun ls hl => ?_)
  have K2 : ∀ (kn : Nat) (v : Nat) (T_2 : Nat → Nat → Int64) (ls : Array Slot) (H : Heap) (locs : List Loc), nv - v < kn → (v ≤ nv ∧ ∀ i j, i < v → j < 16 → T_2 i j = 0) → va_P (dC, dI) vwCl (HW cI cJ cII cJJ R (I, A, B, C, T_2)) H → va_D Aa (HW cI cJ cII cJJ R (I, A, B, C, T_2)) → va_S Aa s.heap H locs → lv_has ls 6 [(0, .ref (R 18)), (1, .ref (R 1)), (2, .ref (R 7)), (3, .int (nI v))] → W p l e (ctR (2, 60)) s m #[.ref (R 18), .ref (R 1), .ref (R 7)] below meth c H locs 0 0 Q (F0 m 2 ls []) := by
    intro kn
    induction kn with
    | zero => intro v T_2 ls H locs hmu; exact absurd hmu (Nat.not_lt_zero _)
    | succ kn ih2 =>
      intro v T_2 ls H locs mu2 inv2 hP hD hS hl
      obtain ⟨hv, hz⟩ := inv2
      refine lv_iload_n hx hb dX1_count_2 rfl (lv_at hl 3 rfl) ?_
      refine lv_aload_n hx hb dX1_count_3 rfl (lv_at hl 1 rfl) ?_
      refine va_getN (D := (dC, dI)) (ci := 2) (v := .int (I 0)) (C := RX2) (T := TX2) (N := 5) hx hb hts hinX2 hown hK hP 1 rfl rfl 0 (by decide) (nwOK.f hN RX1 16 "CycleHouse$Graph" "vertices" "I" "CycleHouse" (by decide +kernel)) (fun _ h9 => h9) rfl dX1_count_4 ?_
      refine lv_icmp_ge (tgt := 26) hx hb dX1_count_7 (by decide) (fun c7 => ?_) (fun c7 => ?_)
      · -- 7 taken
        rw [g4, nI_leI (by omega) (by omega)] at c7
        have hgev : v = nv := by omega
        rw [hgev] at hz
        refine lv_iconst (v := 0) hx hb dX1_count_26 (by decide) ?_
        refine lv_istore_n (lv' := [(3, .int 0), (0, .ref (R 18)), (1, .ref (R 1)), (2, .ref (R 7))]) hx hb dX1_count_27 rfl hl (by decide) rfl (fun ls hl => ?_)
        have K28 : ∀ (kn : Nat) (i : Nat) (T_28 : Nat → Nat → Int64) (ls : Array Slot) (H : Heap) (locs : List Loc), ne - i < kn → (i ≤ ne ∧ rT nv T_28 (lgI fr to q i)) → va_P (dC, dI) vwCl (HW cI cJ cII cJJ R (I, A, B, C, T_28)) H → va_D Aa (HW cI cJ cII cJJ R (I, A, B, C, T_28)) → va_S Aa s.heap H locs → lv_has ls 6 [(0, .ref (R 18)), (1, .ref (R 1)), (2, .ref (R 7)), (3, .int (nI i))] → W p l e (ctR (2, 60)) s m #[.ref (R 18), .ref (R 1), .ref (R 7)] below meth c H locs 0 0 Q (F0 m 28 ls []) := by
          intro kn
          induction kn with
          | zero => intro i T_28 ls H locs hmu; exact absurd hmu (Nat.not_lt_zero _)
          | succ kn ih28 =>
            intro i T_28 ls H locs mu28 inv28 hP hD hS hl
            obtain ⟨hi, hT⟩ := inv28
            refine lv_iload_n hx hb dX1_count_28 rfl (lv_at hl 3 rfl) ?_
            refine lv_aload_n hx hb dX1_count_29 rfl (lv_at hl 1 rfl) ?_
            refine va_getN (D := (dC, dI)) (ci := 2) (v := .int (I 1)) (C := RX2) (T := TX2) (N := 5) hx hb hts hinX2 hown hK hP 1 rfl rfl 1 (by decide) (nwOK.f hN RX1 28 "CycleHouse$Graph" "edges" "I" "CycleHouse" (by decide +kernel)) (fun _ h9 => h9) rfl dX1_count_30 ?_
            refine lv_icmp_ge (tgt := 131) hx hb dX1_count_33 (by decide) (fun c33 => ?_) (fun c33 => ?_)
            · -- 33 taken
              rw [g5, nI_leI (by omega) (by omega)] at c33
              have hge : i = ne := by omega
              rw [hge] at hT
              refine lv_aload_n hx hb dX1_count_131 rfl (lv_at hl 0 rfl) ?_
              refine lv_aload_n hx hb dX1_count_132 rfl (lv_at hl 1 rfl) ?_
              refine va_getN (D := (dC, dI)) (ci := 2) (v := .int (I 0)) (C := RX2) (T := TX2) (N := 5) hx hb hts hinX2 hown hK hP 1 rfl rfl 0 (by decide) (nwOK.f hN RX1 16 "CycleHouse$Graph" "vertices" "I" "CycleHouse" (by decide +kernel)) (fun _ h9 => h9) rfl dX1_count_133 ?_
              rw [show (I 0 : Int32) = nI nv from g4]
              refine ct_calll hD hS hA (va_runV (As := [.int (nI nv)]) (rest := []) F ((k_X1_determinant l dC dI cI cJ cZ cII cJJ R I A B C T_28 nv (lgI fr to q ne) g2 hT hB) _) (cwV 1 hts gX1_count_X1_determinant rfl rfl rfl (by decide +kernel) ⟨(Nat.le_of_ble_eq_true rfl), (Nat.le_of_ble_eq_true rfl)⟩) (ct_preV 18 1 hK hN hP hD rfl rfl) rfl rfl hl.1 rfl (lv_room (Nat.le_of_ble_eq_true rfl)) dX1_count_136 ⟨(Nat.le_of_ble_eq_true rfl), (Nat.le_of_ble_eq_true rfl)⟩) (fun r136 u136 H locs w136 hP hD hS => ?_)
              obtain ⟨I136, A136, B136, C136, T136⟩ := u136
              refine hret 139 ls _ _ r136 (I136, A136, B136, C136, T136) dX1_count_139 ?_ hP hD hS
              try dsimp only
              exact w136
            · -- 33 not
              rw [g5, nI_leI (by omega) (by omega)] at c33
              obtain ⟨⟨ga, ha⟩, ⟨gb, hb2⟩, -⟩ := g6 i (by omega)
              have icl : (nI i).toNatClampNeg = i := nI_clamp (by omega)
              have qa := (hq _ ha).2
              have qb := (hq _ hb2).2
              refine lv_aload_n hx hb dX1_count_36 rfl (lv_at hl 2 rfl) ?_
              refine va_getN (D := (dC, dI)) (ci := 3) (v := .ref (R 8)) (C := RX3) (T := TX3) (N := 4) hx hb hts hinX3 hown hK hP 7 rfl rfl 2 (by decide) (nwOK.f hN RX1 31 "CycleHouse$Groups" "name" "[I" "CycleHouse" (by decide +kernel)) (fun _ h9 => h9) rfl dX1_count_37 ?_
              refine lv_aload_n hx hb dX1_count_40 rfl (lv_at hl 1 rfl) ?_
              refine va_getN (D := (dC, dI)) (ci := 2) (v := .ref (R 2)) (C := RX2) (T := TX2) (N := 5) hx hb hts hinX2 hown hK hP 1 rfl rfl 2 (by decide) (nwOK.f hN RX1 37 "CycleHouse$Graph" "from" "[I" "CycleHouse" (by decide +kernel)) (fun _ h9 => h9) rfl dX1_count_41 ?_
              refine lv_iload_n hx hb dX1_count_44 rfl (lv_at hl 3 rfl) ?_
              have h45 : vp_in (nI i) 40 := vp_in_nI (by omega) (by omega)
              refine va_iald hx hb hK hP 2 0 rfl rfl h45 dX1_count_45 ?_
              refine lv_topi (fun x45 ex45 => ?_)
              have ex45 : x45 = A 2 (nI i).toNatClampNeg := ex45
              have ex45 : x45 = nI (fr i) := by rw [ex45, icl]; exact ga
              subst ex45
              have h46 : vp_in (nI (fr i)) 16 := vp_in_nI (by omega) (by omega)
              refine va_iald hx hb hK hP 8 0 rfl rfl h46 dX1_count_46 ?_
              refine lv_topi (fun x46 ex46 => ?_)
              have ex46 : x46 = A 8 (nI (fr i)).toNatClampNeg := ex46
              have ex46 : x46 = nI (q.1 (fr i)) := by rw [ex46, nI_clamp (by omega)]; exact (hq _ ha).1
              subst ex46
              refine lv_istore (lv' := [(4, .int (nI (q.1 (fr i)))), (0, .ref (R 18)), (1, .ref (R 1)), (2, .ref (R 7)), (3, .int (nI i))]) hx hb dX1_count_47 hl (by decide) rfl (fun ls hl => ?_)
              refine lv_aload_n hx hb dX1_count_49 rfl (lv_at hl 3 rfl) ?_
              refine va_getN (D := (dC, dI)) (ci := 3) (v := .ref (R 8)) (C := RX3) (T := TX3) (N := 4) hx hb hts hinX3 hown hK hP 7 rfl rfl 2 (by decide) (nwOK.f hN RX1 31 "CycleHouse$Groups" "name" "[I" "CycleHouse" (by decide +kernel)) (fun _ h9 => h9) rfl dX1_count_50 ?_
              refine lv_aload_n hx hb dX1_count_53 rfl (lv_at hl 2 rfl) ?_
              refine va_getN (D := (dC, dI)) (ci := 2) (v := .ref (R 3)) (C := RX2) (T := TX2) (N := 5) hx hb hts hinX2 hown hK hP 1 rfl rfl 3 (by decide) (nwOK.f hN RX1 40 "CycleHouse$Graph" "to" "[I" "CycleHouse" (by decide +kernel)) (fun _ h9 => h9) rfl dX1_count_54 ?_
              refine lv_iload_n hx hb dX1_count_57 rfl (lv_at hl 4 rfl) ?_
              have h58 : vp_in (nI i) 40 := vp_in_nI (by omega) (by omega)
              refine va_iald hx hb hK hP 3 0 rfl rfl h58 dX1_count_58 ?_
              refine lv_topi (fun x58 ex58 => ?_)
              have ex58 : x58 = A 3 (nI i).toNatClampNeg := ex58
              have ex58 : x58 = nI (to i) := by rw [ex58, icl]; exact gb
              subst ex58
              have h59 : vp_in (nI (to i)) 16 := vp_in_nI (by omega) (by omega)
              refine va_iald hx hb hK hP 8 0 rfl rfl h59 dX1_count_59 ?_
              refine lv_topi (fun x59 ex59 => ?_)
              have ex59 : x59 = A 8 (nI (to i)).toNatClampNeg := ex59
              have ex59 : x59 = nI (q.1 (to i)) := by rw [ex59, nI_clamp (by omega)]; exact (hq _ hb2).1
              subst ex59
              refine lv_istore (lv' := [(5, .int (nI (q.1 (to i)))), (4, .int (nI (q.1 (fr i)))), (0, .ref (R 18)), (1, .ref (R 1)), (2, .ref (R 7)), (3, .int (nI i))]) hx hb dX1_count_60 hl (by decide) rfl (fun ls hl => ?_)
              refine lv_iload hx hb dX1_count_62 (lv_at hl 1 rfl) ?_
              refine lv_iload hx hb dX1_count_64 (lv_at hl 0 rfl) ?_
              refine lv_icmp_eq (tgt := 125) hx hb dX1_count_66 (by decide) (fun c66 => ?_) (fun c66 => ?_)
              · -- 66 taken
                have c66 : q.1 (fr i) = q.1 (to i) := (nI_eq (by omega) (by omega)).mp c66
                obtain ⟨x125, ex125⟩ : ∃ zz : Int32, zz = nI i + (1) := ⟨_, rfl⟩
                refine lv_iinc (v := x125) (lv' := [(3, .int x125), (5, .int (nI (q.1 (to i)))), (4, .int (nI (q.1 (fr i)))), (0, .ref (R 18)), (1, .ref (R 1)), (2, .ref (R 7))]) hx hb dX1_count_125 hl (k := 5) rfl (by rw [ex125]; rfl) (by decide) rfl (fun ls hl => ?_)
                have ex125 : x125 = nI (i + 1) := by rw [ex125]; exact nI_1 i
                subst ex125
                refine lv_goto (tgt := 28) hx hb dX1_count_128 (by decide) ?_
                exact ih28 (i + 1) T_28 ls _ _ (by omega) ⟨by omega, by rw [lgI_s c66]; exact hT⟩ hP hD hS (lv_sub hl [3, 4, 5, 0] rfl)
              · -- 66 not
                have c66 : ¬ q.1 (fr i) = q.1 (to i) := fun h => c66 (by rw [h])
                refine lv_aload_n hx hb dX1_count_69 rfl (lv_at hl 2 rfl) ?_
                refine va_get (D := (dC, dI)) (ci := 1) (v := .ref (R 21)) (C := RX1) (T := TX1) (N := 1) hx hb hts hinX1 hown hK hP 18 rfl rfl 0 (by decide) hf11 (fun _ h9 => h9) rfl dX1_count_70 ?_
                refine lv_iload hx hb dX1_count_73 (lv_at hl 1 rfl) ?_
                refine va_aldr hx hb hK hP 21 4 rfl rfl (vp_in_nI (by omega) (by decide)) dX1_count_75 ?_
                rw [go_ref (R := R) (b := 100) (by omega)]
                refine lv_iload hx hb dX1_count_76 (lv_at hl 1 rfl) ?_
                refine lv_dup2_11 hx hb dX1_count_78 rfl rfl ?_
                have h79 : vp_in (nI (q.1 (fr i))) 16 := vp_in_nI (by omega) (by omega)
                refine va_lald hx hb hK hP (23 + (q.1 (fr i))) 1 (hw_T (by omega)) rfl h79 dX1_count_79 ?_
                refine lv_topl (fun x79 ex79 => ?_)
                have ex79 : x79 = T_28 ((q.1 (fr i))) (nI (q.1 (fr i))).toNatClampNeg := ex79
                refine lv_lconst (v := 1) hx hb dX1_count_80 (by decide) ?_
                refine lv_ladd hx hb dX1_count_81 ?_
                refine lv_topl (fun x81 ex81 => ?_)
                have ex81 : x81 = iL (lgI fr to q i (q.1 (fr i)) (q.1 (fr i)) + 1) := by rw [ex81, ex79, nI_clamp (by omega), hT _ _ qa qa]; exact iL_1 _
                subst ex81
                have h82 : vp_in (nI (q.1 (fr i))) 16 := vp_in_nI (by omega) (by omega)
                refine va_last hx hb hK hP hD hS (23 + (q.1 (fr i))) 1 (hw_T (by omega)) rfl h82 dX1_count_82 (fun H locs hP hD hS => ?_)
                obtain ⟨T82, eT82⟩ : ∃ zz : Nat → Nat → Int64, zz = va_up T_28 ((q.1 (fr i))) (vp_updL (T_28 ((q.1 (fr i)))) (nI (q.1 (fr i))).toNatClampNeg (iL (lgI fr to q i (q.1 (fr i)) (q.1 (fr i)) + 1))) := ⟨_, rfl⟩
                have hP : va_P (dC, dI) vwCl (HW cI cJ cII cJJ R (I, A, B, C, T82)) H := by rw [eT82]; exact Eq.mp (congrArg (fun w => va_P (dC, dI) vwCl w H) (hw_Tset (by omega))) hP
                have hD : va_D Aa (HW cI cJ cII cJJ R (I, A, B, C, T82)) := by rw [eT82]; exact Eq.mp (congrArg (fun w => va_D Aa w) (hw_Tset (by omega))) hD
                have hT1 : rT nv T82 (mup (lgI fr to q i) (q.1 (fr i)) (q.1 (fr i)) ((lgI fr to q i) (q.1 (fr i)) (q.1 (fr i)) + 1)) := by rw [eT82, nI_clamp (show q.1 (fr i) < 2 ^ 31 by omega)]; exact rT_up hT _ _ _
                refine lv_aload_n hx hb dX1_count_83 rfl (lv_at hl 2 rfl) ?_
                refine va_get (D := (dC, dI)) (ci := 1) (v := .ref (R 21)) (C := RX1) (T := TX1) (N := 1) hx hb hts hinX1 hown hK hP 18 rfl rfl 0 (by decide) hf11 (fun _ h9 => h9) rfl dX1_count_84 ?_
                refine lv_iload hx hb dX1_count_87 (lv_at hl 0 rfl) ?_
                refine va_aldr hx hb hK hP 21 4 rfl rfl (vp_in_nI (by omega) (by decide)) dX1_count_89 ?_
                rw [go_ref (R := R) (b := 100) (by omega)]
                refine lv_iload hx hb dX1_count_90 (lv_at hl 0 rfl) ?_
                refine lv_dup2_11 hx hb dX1_count_92 rfl rfl ?_
                have h93 : vp_in (nI (q.1 (to i))) 16 := vp_in_nI (by omega) (by omega)
                refine va_lald hx hb hK hP (23 + (q.1 (to i))) 1 (hw_T (by omega)) rfl h93 dX1_count_93 ?_
                refine lv_topl (fun x93 ex93 => ?_)
                have ex93 : x93 = T82 ((q.1 (to i))) (nI (q.1 (to i))).toNatClampNeg := ex93
                refine lv_lconst (v := 1) hx hb dX1_count_94 (by decide) ?_
                refine lv_ladd hx hb dX1_count_95 ?_
                refine lv_topl (fun x95 ex95 => ?_)
                have ex95 : x95 = iL ((mup (lgI fr to q i) (q.1 (fr i)) (q.1 (fr i)) ((lgI fr to q i) (q.1 (fr i)) (q.1 (fr i)) + 1)) (q.1 (to i)) (q.1 (to i)) + 1) := by rw [ex95, ex93, nI_clamp (by omega), hT1 _ _ qb qb]; exact iL_1 _
                subst ex95
                have h96 : vp_in (nI (q.1 (to i))) 16 := vp_in_nI (by omega) (by omega)
                refine va_last hx hb hK hP hD hS (23 + (q.1 (to i))) 1 (hw_T (by omega)) rfl h96 dX1_count_96 (fun H locs hP hD hS => ?_)
                obtain ⟨T96, eT96⟩ : ∃ zz : Nat → Nat → Int64, zz = va_up T82 ((q.1 (to i))) (vp_updL (T82 ((q.1 (to i)))) (nI (q.1 (to i))).toNatClampNeg (iL ((mup (lgI fr to q i) (q.1 (fr i)) (q.1 (fr i)) ((lgI fr to q i) (q.1 (fr i)) (q.1 (fr i)) + 1)) (q.1 (to i)) (q.1 (to i)) + 1))) := ⟨_, rfl⟩
                have hP : va_P (dC, dI) vwCl (HW cI cJ cII cJJ R (I, A, B, C, T96)) H := by rw [eT96]; exact Eq.mp (congrArg (fun w => va_P (dC, dI) vwCl w H) (hw_Tset (by omega))) hP
                have hD : va_D Aa (HW cI cJ cII cJJ R (I, A, B, C, T96)) := by rw [eT96]; exact Eq.mp (congrArg (fun w => va_D Aa w) (hw_Tset (by omega))) hD
                have hT2 : rT nv T96 (mup (mup (lgI fr to q i) (q.1 (fr i)) (q.1 (fr i)) ((lgI fr to q i) (q.1 (fr i)) (q.1 (fr i)) + 1)) (q.1 (to i)) (q.1 (to i)) ((mup (lgI fr to q i) (q.1 (fr i)) (q.1 (fr i)) ((lgI fr to q i) (q.1 (fr i)) (q.1 (fr i)) + 1)) (q.1 (to i)) (q.1 (to i)) + 1)) := by rw [eT96, nI_clamp (show q.1 (to i) < 2 ^ 31 by omega)]; exact rT_up hT1 _ _ _
                refine lv_aload_n hx hb dX1_count_97 rfl (lv_at hl 2 rfl) ?_
                refine va_get (D := (dC, dI)) (ci := 1) (v := .ref (R 21)) (C := RX1) (T := TX1) (N := 1) hx hb hts hinX1 hown hK hP 18 rfl rfl 0 (by decide) hf11 (fun _ h9 => h9) rfl dX1_count_98 ?_
                refine lv_iload hx hb dX1_count_101 (lv_at hl 1 rfl) ?_
                refine va_aldr hx hb hK hP 21 4 rfl rfl (vp_in_nI (by omega) (by decide)) dX1_count_103 ?_
                rw [go_ref (R := R) (b := 100) (by omega)]
                refine lv_iload hx hb dX1_count_104 (lv_at hl 0 rfl) ?_
                refine lv_dup2_11 hx hb dX1_count_106 rfl rfl ?_
                have h107 : vp_in (nI (q.1 (to i))) 16 := vp_in_nI (by omega) (by omega)
                refine va_lald hx hb hK hP (23 + (q.1 (fr i))) 1 (hw_T (by omega)) rfl h107 dX1_count_107 ?_
                refine lv_topl (fun x107 ex107 => ?_)
                have ex107 : x107 = T96 ((q.1 (fr i))) (nI (q.1 (to i))).toNatClampNeg := ex107
                refine lv_lconst (v := 1) hx hb dX1_count_108 (by decide) ?_
                refine lv_lsub hx hb dX1_count_109 ?_
                refine lv_topl (fun x109 ex109 => ?_)
                have ex109 : x109 = iL ((mup (mup (lgI fr to q i) (q.1 (fr i)) (q.1 (fr i)) ((lgI fr to q i) (q.1 (fr i)) (q.1 (fr i)) + 1)) (q.1 (to i)) (q.1 (to i)) ((mup (lgI fr to q i) (q.1 (fr i)) (q.1 (fr i)) ((lgI fr to q i) (q.1 (fr i)) (q.1 (fr i)) + 1)) (q.1 (to i)) (q.1 (to i)) + 1)) (q.1 (fr i)) (q.1 (to i)) - 1) := by rw [ex109, ex107, nI_clamp (by omega), hT2 _ _ qa qb]; exact iL_m1 _
                subst ex109
                have h110 : vp_in (nI (q.1 (to i))) 16 := vp_in_nI (by omega) (by omega)
                refine va_last hx hb hK hP hD hS (23 + (q.1 (fr i))) 1 (hw_T (by omega)) rfl h110 dX1_count_110 (fun H locs hP hD hS => ?_)
                obtain ⟨T110, eT110⟩ : ∃ zz : Nat → Nat → Int64, zz = va_up T96 ((q.1 (fr i))) (vp_updL (T96 ((q.1 (fr i)))) (nI (q.1 (to i))).toNatClampNeg (iL ((mup (mup (lgI fr to q i) (q.1 (fr i)) (q.1 (fr i)) ((lgI fr to q i) (q.1 (fr i)) (q.1 (fr i)) + 1)) (q.1 (to i)) (q.1 (to i)) ((mup (lgI fr to q i) (q.1 (fr i)) (q.1 (fr i)) ((lgI fr to q i) (q.1 (fr i)) (q.1 (fr i)) + 1)) (q.1 (to i)) (q.1 (to i)) + 1)) (q.1 (fr i)) (q.1 (to i)) - 1))) := ⟨_, rfl⟩
                have hP : va_P (dC, dI) vwCl (HW cI cJ cII cJJ R (I, A, B, C, T110)) H := by rw [eT110]; exact Eq.mp (congrArg (fun w => va_P (dC, dI) vwCl w H) (hw_Tset (by omega))) hP
                have hD : va_D Aa (HW cI cJ cII cJJ R (I, A, B, C, T110)) := by rw [eT110]; exact Eq.mp (congrArg (fun w => va_D Aa w) (hw_Tset (by omega))) hD
                have hT3 : rT nv T110 (mup (mup (mup (lgI fr to q i) (q.1 (fr i)) (q.1 (fr i)) ((lgI fr to q i) (q.1 (fr i)) (q.1 (fr i)) + 1)) (q.1 (to i)) (q.1 (to i)) ((mup (lgI fr to q i) (q.1 (fr i)) (q.1 (fr i)) ((lgI fr to q i) (q.1 (fr i)) (q.1 (fr i)) + 1)) (q.1 (to i)) (q.1 (to i)) + 1)) (q.1 (fr i)) (q.1 (to i)) ((mup (mup (lgI fr to q i) (q.1 (fr i)) (q.1 (fr i)) ((lgI fr to q i) (q.1 (fr i)) (q.1 (fr i)) + 1)) (q.1 (to i)) (q.1 (to i)) ((mup (lgI fr to q i) (q.1 (fr i)) (q.1 (fr i)) ((lgI fr to q i) (q.1 (fr i)) (q.1 (fr i)) + 1)) (q.1 (to i)) (q.1 (to i)) + 1)) (q.1 (fr i)) (q.1 (to i)) - 1)) := by rw [eT110, nI_clamp (show q.1 (to i) < 2 ^ 31 by omega)]; exact rT_up hT2 _ _ _
                refine lv_aload_n hx hb dX1_count_111 rfl (lv_at hl 2 rfl) ?_
                refine va_get (D := (dC, dI)) (ci := 1) (v := .ref (R 21)) (C := RX1) (T := TX1) (N := 1) hx hb hts hinX1 hown hK hP 18 rfl rfl 0 (by decide) hf11 (fun _ h9 => h9) rfl dX1_count_112 ?_
                refine lv_iload hx hb dX1_count_115 (lv_at hl 0 rfl) ?_
                refine va_aldr hx hb hK hP 21 4 rfl rfl (vp_in_nI (by omega) (by decide)) dX1_count_117 ?_
                rw [go_ref (R := R) (b := 100) (by omega)]
                refine lv_iload hx hb dX1_count_118 (lv_at hl 1 rfl) ?_
                refine lv_dup2_11 hx hb dX1_count_120 rfl rfl ?_
                have h121 : vp_in (nI (q.1 (fr i))) 16 := vp_in_nI (by omega) (by omega)
                refine va_lald hx hb hK hP (23 + (q.1 (to i))) 1 (hw_T (by omega)) rfl h121 dX1_count_121 ?_
                refine lv_topl (fun x121 ex121 => ?_)
                have ex121 : x121 = T110 ((q.1 (to i))) (nI (q.1 (fr i))).toNatClampNeg := ex121
                refine lv_lconst (v := 1) hx hb dX1_count_122 (by decide) ?_
                refine lv_lsub hx hb dX1_count_123 ?_
                refine lv_topl (fun x123 ex123 => ?_)
                have ex123 : x123 = iL ((mup (mup (mup (lgI fr to q i) (q.1 (fr i)) (q.1 (fr i)) ((lgI fr to q i) (q.1 (fr i)) (q.1 (fr i)) + 1)) (q.1 (to i)) (q.1 (to i)) ((mup (lgI fr to q i) (q.1 (fr i)) (q.1 (fr i)) ((lgI fr to q i) (q.1 (fr i)) (q.1 (fr i)) + 1)) (q.1 (to i)) (q.1 (to i)) + 1)) (q.1 (fr i)) (q.1 (to i)) ((mup (mup (lgI fr to q i) (q.1 (fr i)) (q.1 (fr i)) ((lgI fr to q i) (q.1 (fr i)) (q.1 (fr i)) + 1)) (q.1 (to i)) (q.1 (to i)) ((mup (lgI fr to q i) (q.1 (fr i)) (q.1 (fr i)) ((lgI fr to q i) (q.1 (fr i)) (q.1 (fr i)) + 1)) (q.1 (to i)) (q.1 (to i)) + 1)) (q.1 (fr i)) (q.1 (to i)) - 1)) (q.1 (to i)) (q.1 (fr i)) - 1) := by rw [ex123, ex121, nI_clamp (by omega), hT3 _ _ qb qa]; exact iL_m1 _
                subst ex123
                have h124 : vp_in (nI (q.1 (fr i))) 16 := vp_in_nI (by omega) (by omega)
                refine va_last hx hb hK hP hD hS (23 + (q.1 (to i))) 1 (hw_T (by omega)) rfl h124 dX1_count_124 (fun H locs hP hD hS => ?_)
                obtain ⟨T124, eT124⟩ : ∃ zz : Nat → Nat → Int64, zz = va_up T110 ((q.1 (to i))) (vp_updL (T110 ((q.1 (to i)))) (nI (q.1 (fr i))).toNatClampNeg (iL ((mup (mup (mup (lgI fr to q i) (q.1 (fr i)) (q.1 (fr i)) ((lgI fr to q i) (q.1 (fr i)) (q.1 (fr i)) + 1)) (q.1 (to i)) (q.1 (to i)) ((mup (lgI fr to q i) (q.1 (fr i)) (q.1 (fr i)) ((lgI fr to q i) (q.1 (fr i)) (q.1 (fr i)) + 1)) (q.1 (to i)) (q.1 (to i)) + 1)) (q.1 (fr i)) (q.1 (to i)) ((mup (mup (lgI fr to q i) (q.1 (fr i)) (q.1 (fr i)) ((lgI fr to q i) (q.1 (fr i)) (q.1 (fr i)) + 1)) (q.1 (to i)) (q.1 (to i)) ((mup (lgI fr to q i) (q.1 (fr i)) (q.1 (fr i)) ((lgI fr to q i) (q.1 (fr i)) (q.1 (fr i)) + 1)) (q.1 (to i)) (q.1 (to i)) + 1)) (q.1 (fr i)) (q.1 (to i)) - 1)) (q.1 (to i)) (q.1 (fr i)) - 1))) := ⟨_, rfl⟩
                have hP : va_P (dC, dI) vwCl (HW cI cJ cII cJJ R (I, A, B, C, T124)) H := by rw [eT124]; exact Eq.mp (congrArg (fun w => va_P (dC, dI) vwCl w H) (hw_Tset (by omega))) hP
                have hD : va_D Aa (HW cI cJ cII cJJ R (I, A, B, C, T124)) := by rw [eT124]; exact Eq.mp (congrArg (fun w => va_D Aa w) (hw_Tset (by omega))) hD
                obtain ⟨x125, ex125⟩ : ∃ zz : Int32, zz = nI i + (1) := ⟨_, rfl⟩
                refine lv_iinc (v := x125) (lv' := [(3, .int x125), (5, .int (nI (q.1 (to i)))), (4, .int (nI (q.1 (fr i)))), (0, .ref (R 18)), (1, .ref (R 1)), (2, .ref (R 7))]) hx hb dX1_count_125 hl (k := 5) rfl (by rw [ex125]; rfl) (by decide) rfl (fun ls hl => ?_)
                have ex125 : x125 = nI (i + 1) := by rw [ex125]; exact nI_1 i
                subst ex125
                refine lv_goto (tgt := 28) hx hb dX1_count_128 (by decide) ?_
                exact ih28 (i + 1) T124 ls _ _ (by omega) ⟨by omega, rT_lg rfl rfl c66 (by rw [eT124, nI_clamp (by omega)]; exact rT_up hT3 _ _ _)⟩ hP hD hS (lv_sub hl [3, 4, 5, 0] rfl)
        exact K28 _ 0 T_2 ls _ _ (Nat.lt_succ_self _) ⟨Nat.zero_le _, fun i j hi hj => by rw [hz i j (by omega) (by omega)]; rfl⟩ hP hD hS (lv_sub hl [1, 2, 3, 0] rfl)
      · -- 7 not
        rw [g4, nI_leI (by omega) (by omega)] at c7
        refine lv_aload_n hx hb dX1_count_10 rfl (lv_at hl 0 rfl) ?_
        refine va_get (D := (dC, dI)) (ci := 1) (v := .ref (R 21)) (C := RX1) (T := TX1) (N := 1) hx hb hts hinX1 hown hK hP 18 rfl rfl 0 (by decide) hf11 (fun _ h9 => h9) rfl dX1_count_11 ?_
        refine lv_iload_n hx hb dX1_count_14 rfl (lv_at hl 3 rfl) ?_
        refine va_aldr hx hb hK hP 21 4 rfl rfl (vp_in_nI (by omega) (by decide)) dX1_count_15 ?_
        rw [go_ref (R := R) (b := 100) (by omega)]
        refine lv_lconst (v := 0) hx hb dX1_count_16 (by decide) ?_
        refine ct_callv hD hS hA (va_runS (As := [.ref (R (100 + v)), .long 0]) (rest := []) F ((k_fillT l dC dI cI cJ cZ cII cJJ R I A B C T_2 v (by omega)) _) (va_cwS 2 hts gX1_count_J7_fill_d0a16 rfl rfl rfl (by decide +kernel) ⟨(Nat.le_of_ble_eq_true rfl), (Nat.le_of_ble_eq_true rfl)⟩) (ct_preS hK hN hP hD) rfl rfl hl.1 rfl (lv_room (Nat.le_of_ble_eq_true rfl)) dX1_count_17 ⟨(Nat.le_of_ble_eq_true rfl), (Nat.le_of_ble_eq_true rfl)⟩) (fun u17 H locs w17 hP hD hS => ?_)
        obtain ⟨I17, A17, B17, C17, T17⟩ := u17
        have eI17 : I = I17 := (w17.1).symm
        subst eI17
        have eA17 : A = A17 := (w17.2.1).symm
        subst eA17
        have eB17 : B = B17 := (w17.2.2.1).symm
        subst eB17
        have eC17 : C = C17 := (w17.2.2.2.1).symm
        subst eC17
        obtain ⟨x20, ex20⟩ : ∃ zz : Int32, zz = nI v + (1) := ⟨_, rfl⟩
        refine lv_iinc (v := x20) (lv' := [(3, .int x20), (0, .ref (R 18)), (1, .ref (R 1)), (2, .ref (R 7))]) hx hb dX1_count_20 hl (k := 3) rfl (by rw [ex20]; rfl) (by decide) rfl (fun ls hl => ?_)
        have ex20 : x20 = nI (v + 1) := by rw [ex20]; exact nI_1 v
        subst ex20
        refine lv_goto (tgt := 2) hx hb dX1_count_23 (by decide) ?_
        exact ih2 (v + 1) T17 ls _ _ (by omega) ⟨by omega, fun i j hi hj => by
        by_cases e1 : i = v
        · rw [e1]; exact w17.2.2.2.2.2 j hj
        · rw [show T17 i = T_2 i from w17.2.2.2.2.1 i e1]; exact hz i j (by omega) hj⟩ hP hD hS (lv_sub hl [1, 2, 3, 0] rfl)
  exact K2 _ 0 T ls _ _ (Nat.lt_succ_self _) ⟨Nat.zero_le _, fun i j h => absurd h (Nat.not_lt_zero _)⟩ hP hD hS (lv_sub hl [1, 2, 3, 0] rfl)
