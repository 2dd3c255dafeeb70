set_option maxHeartbeats 4000000 in
set_option maxRecDepth 100000 in
theorem k_X3_part (l : Launch) (dC : Nat → ClassId) (dI : Nat → Nat → Nat) (cI cJ cZ cII cJJ : ClassId) (R : Nat → Nat) (I : Nat → Int32) (A : Nat → Nat → Int32) (B : Nat → Nat → Int64) (C : Nat → Nat → Int32) (T : Nat → Nat → Int64) (N : Nat) (hN : N ≤ 16) : ctV l (dC, dI) (tyL cI cJ cZ cII cJJ) (HW cI cJ cII cJJ R) yX3_part wsX3_part (0, 0) [.ref (R 7), .int (nI N)] (I, A, B, C, T) (fun u => rQ N j0 u.1 u.2.1 u.2.2.1 ∧ fG I A B C T u) := by
  refine ctV_intro (cc := cX3_part) (maxL := 3) (by decide) rfl (Nat.le_of_ble_eq_true rfl) ?_
  intro p e s m below meth c ls Aa Q F hK hN hP hD hS hA hl hret
  have hx := F.1
  have hb := F.2.1
  have hown : s.vm.findClass RX3 = some m.cls := F.2.2.2.1
  have hts := F.2.2.2.2
  have hinX3 : ∀ w ∈ wsX30, w ∈ wsX3_part := by decide +kernel
  have hf19 := hts (.fieldLink RX3 19 "CycleHouse$Groups" "vertices" "I") (by decide +kernel)
  have hf23 := hts (.fieldLink RX3 23 "CycleHouse$Groups" "count" "I") (by decide +kernel)
  have hf9 := hts (.fieldLink RX3 9 "CycleHouse$Groups" "name" "[I") (by decide +kernel)
  have hf15 := hts (.fieldLink RX3 15 "CycleHouse$Groups" "way" "[J") (by decide +kernel)
  have hl : lv_has ls 3 [(0, .ref (R 7)), (1, .int (nI N))] := hl
  refine lv_aload_n hx hb dX3_part_0 rfl (lv_at hl 0 rfl) ?_
  refine lv_iload_n hx hb dX3_part_1 rfl (lv_at hl 1 rfl) ?_
  refine va_put (D := (dC, dI)) (ci := 3) (v := .int (nI N)) (ty := .int) (C := RX3) (T := TX3) (N := 4) hx hb hts hinX3 tyX3 tyX3_ok nmX3 hown hK hP hD hS 7 rfl rfl 0 (by decide) hf19 (fun _ h9 => h9) rfl (by decide +kernel) rfl rfl (Nat.le_of_ble_eq_true rfl) dX3_part_2 (fun H locs hP hD hS => ?_)
  obtain ⟨I2, eI2⟩ : ∃ zz : Nat → Int32, zz = va_up I 4 (nI N) := ⟨_, rfl⟩
  have hP : va_P (dC, dI) vwCl (HW cI cJ cII cJJ R (I2, A, B, C, T)) H := by rw [eI2]; exact hP
  have hD : va_D Aa (HW cI cJ cII cJJ R (I2, A, B, C, T)) := by rw [eI2]; exact hD
  refine lv_aload_n hx hb dX3_part_5 rfl (lv_at hl 0 rfl) ?_
  refine lv_iload_n hx hb dX3_part_6 rfl (lv_at hl 1 rfl) ?_
  refine va_put (D := (dC, dI)) (ci := 3) (v := .int (nI N)) (ty := .int) (C := RX3) (T := TX3) (N := 4) hx hb hts hinX3 tyX3 tyX3_ok nmX3 hown hK hP hD hS 7 rfl rfl 1 (by decide) hf23 (fun _ h9 => h9) rfl (by decide +kernel) rfl rfl (Nat.le_of_ble_eq_true rfl) dX3_part_7 (fun H locs hP hD hS => ?_)
  obtain ⟨I7, eI7⟩ : ∃ zz : Nat → Int32, zz = va_up I2 5 (nI N) := ⟨_, rfl⟩
  have hP : va_P (dC, dI) vwCl (HW cI cJ cII cJJ R (I7, A, B, C, T)) H := by rw [eI7]; exact hP
  have hD : va_D Aa (HW cI cJ cII cJJ R (I7, A, B, C, T)) := by rw [eI7]; exact hD
  refine lv_iconst (v := 0) hx hb dX3_part_10 (by decide) ?_
  refine lv_istore_n (lv' := [(2, .int 0), (0, .ref (R 7)), (1, .int (nI N))]) hx hb dX3_part_11 rfl hl (by decide) rfl (fun ls hl => ?_)
  have K12 : ∀ (kn : Nat) (i : Nat) (A_12 : Nat → Nat → Int32) (B_12 : Nat → Nat → Int64) (ls : Array Slot) (H : Heap) (locs : List Loc), N - i < kn → (i ≤ N ∧ (∀ k, k ≠ 8 → A_12 k = A k) ∧ (∀ v, v < i → A_12 8 v = nI v) ∧ (∀ k, k ≠ 9 → B_12 k = B k) ∧ ∀ v, v < i → B_12 9 v = 0) → va_P (dC, dI) vwCl (HW cI cJ cII cJJ R (I7, A_12, B_12, C, T)) H → va_D Aa (HW cI cJ cII cJJ R (I7, A_12, B_12, C, T)) → va_S Aa s.heap H locs → lv_has ls 3 [(0, .ref (R 7)), (1, .int (nI N)), (2, .int (nI i))] → W p l e (ctR (0, 0)) s m #[.ref (R 7), .int (nI N)] below meth c H locs 0 0 Q (F0 m 12 ls []) := by
    intro kn
    induction kn with
    | zero => intro i A_12 B_12 ls H locs hmu; exact absurd hmu (Nat.not_lt_zero _)
    | succ kn ih12 =>
      intro i A_12 B_12 ls H locs mu12 inv12 hP hD hS hl
      obtain ⟨hi, a1, a2, b1, b2⟩ := inv12
      refine lv_iload_n hx hb dX3_part_12 rfl (lv_at hl 2 rfl) ?_
      refine lv_iload_n hx hb dX3_part_13 rfl (lv_at hl 1 rfl) ?_
      refine lv_icmp_ge (tgt := 37) hx hb dX3_part_14 (by decide) (fun c14 => ?_) (fun c14 => ?_)
      · -- 14 taken
        rw [nI_leI (by omega) (by omega)] at c14
        have hge : i = N := by omega
        rw [hge] at a2 b2
        refine hret 37 ls _ _ (I7, A_12, B_12, C, T) dX3_part_37 ?_ hP hD hS
        try dsimp only
        exact ⟨⟨fun v hv => ⟨a2 v hv, hv⟩, fun v hv => b2 v hv, by rw [eI7, up_ne (by decide), eI2, up_self], by rw [eI7, up_self]; congr 1; exact (ct0_true N (fun i _ => by show (i == i) = true; simp)).symm⟩, fG.of (fun k h4 h5 => by rw [eI7, up_ne h5, eI2, up_ne h4]) a1 b1 rfl rfl⟩
      · -- 14 not
        rw [nI_leI (by omega) (by omega)] at c14
        have icl : (nI i).toNatClampNeg = i := nI_clamp (by omega)
        have iin : vp_in (nI i) 16 := vp_in_nI (by omega) (by omega)
        refine lv_aload_n hx hb dX3_part_17 rfl (lv_at hl 0 rfl) ?_
        refine va_get (D := (dC, dI)) (ci := 3) (v := .ref (R 8)) (C := RX3) (T := TX3) (N := 4) hx hb hts hinX3 hown hK hP 7 rfl rfl 2 (by decide) hf9 (fun _ h9 => h9) rfl dX3_part_18 ?_
        refine lv_iload_n hx hb dX3_part_21 rfl (lv_at hl 2 rfl) ?_
        refine lv_iload_n hx hb dX3_part_22 rfl (lv_at hl 2 rfl) ?_
        have h23 : vp_in (nI i) 16 := iin
        refine va_iast hx hb hK hP hD hS 8 0 rfl rfl h23 dX3_part_23 (fun H locs hP hD hS => ?_)
        obtain ⟨A23, eA23⟩ : ∃ zz : Nat → Nat → Int32, zz = va_up A_12 8 (upd (A_12 8) (nI i).toNatClampNeg (nI i)) := ⟨_, rfl⟩
        have hP : va_P (dC, dI) vwCl (HW cI cJ cII cJJ R (I7, A23, B_12, C, T)) H := by rw [eA23]; exact hP
        have hD : va_D Aa (HW cI cJ cII cJJ R (I7, A23, B_12, C, T)) := by rw [eA23]; exact hD
        refine lv_aload_n hx hb dX3_part_24 rfl (lv_at hl 0 rfl) ?_
        refine va_get (D := (dC, dI)) (ci := 3) (v := .ref (R 9)) (C := RX3) (T := TX3) (N := 4) hx hb hts hinX3 hown hK hP 7 rfl rfl 3 (by decide) hf15 (fun _ h9 => h9) rfl dX3_part_25 ?_
        refine lv_iload_n hx hb dX3_part_28 rfl (lv_at hl 2 rfl) ?_
        refine lv_lconst (v := 0) hx hb dX3_part_29 (by decide) ?_
        have h30 : vp_in (nI i) 16 := iin
        refine va_last hx hb hK hP hD hS 9 1 rfl rfl h30 dX3_part_30 (fun H locs hP hD hS => ?_)
        obtain ⟨B30, eB30⟩ : ∃ zz : Nat → Nat → Int64, zz = va_up B_12 9 (vp_updL (B_12 9) (nI i).toNatClampNeg 0) := ⟨_, rfl⟩
        have hP : va_P (dC, dI) vwCl (HW cI cJ cII cJJ R (I7, A23, B30, C, T)) H := by rw [eB30]; exact hP
        have hD : va_D Aa (HW cI cJ cII cJJ R (I7, A23, B30, C, T)) := by rw [eB30]; exact hD
        obtain ⟨x31, ex31⟩ : ∃ zz : Int32, zz = nI i + (1) := ⟨_, rfl⟩
        refine lv_iinc (v := x31) (lv' := [(2, .int x31), (0, .ref (R 7)), (1, .int (nI N))]) hx hb dX3_part_31 hl (k := 2) rfl (by rw [ex31]; rfl) (by decide) rfl (fun ls hl => ?_)
        have ex31 : x31 = nI (i + 1) := by rw [ex31]; exact nI_1 i
        subst ex31
        refine lv_goto (tgt := 12) hx hb dX3_part_34 (by decide) ?_
        exact ih12 (i + 1) A23 B30 ls _ _ (by omega) ⟨by omega, fun k hk => by rw [eA23, up_ne hk]; exact a1 k hk, fun v hv => by
            rw [eA23, up_self, icl]
            by_cases hvi : v = i
            · rw [hvi, pk_us]
            · rw [pk_un hvi]; exact a2 v (by omega), fun k hk => by rw [eB30, up_ne hk]; exact b1 k hk, fun v hv => by
            rw [eB30, up_self, icl]
            by_cases hvi : v = i
            · rw [hvi, pk_uLs]
            · rw [pk_uLn hvi]; exact b2 v (by omega)⟩ hP hD hS (lv_sub hl [1, 2, 0] rfl)
  exact K12 _ 0 A B ls _ _ (Nat.lt_succ_self _) ⟨Nat.zero_le _, fun _ _ => rfl, fun v h => absurd h (by omega), fun _ _ => rfl, fun v h => absurd h (by omega)⟩ hP hD hS (lv_sub hl [1, 2, 0] rfl)
set_option maxHeartbeats 4000000 in
set_option maxRecDepth 100000 in
theorem k_X3_together (l : Launch) (dC : Nat → ClassId) (dI : Nat → Nat → Nat) (cI cJ cZ cII cJJ : ClassId) (R : Nat → Nat) (I : Nat → Int32) (A : Nat → Nat → Int32) (B : Nat → Nat → Int64) (C : Nat → Nat → Int32) (T : Nat → Nat → Int64) (N : Nat) (q : JS) (a b : Nat) (hN : N ≤ 16) (hq : rG N q.1 (A 8)) (ha : a < N) (hb2 : b < N) : ctI l (dC, dI) (tyL cI cJ cZ cII cJJ) (HW cI cJ cII cJJ R) yX3_together wsX3_together (0, 0) [.ref (R 7), .int (nI a), .int (nI b)] (I, A, B, C, T) (fun r u => r = (if q.1 a = q.1 b then 1 else 0) ∧ u = (I, A, B, C, T)) := by
  refine ctI_intro (cc := cX3_together) (maxL := 3) (by decide) rfl (Nat.le_of_ble_eq_true rfl) ?_
  intro p e s m below meth c ls Aa Q F hK hN hP hD hS hA hl hret
  have hx := F.1
  have hb := F.2.1
  have hown : s.vm.findClass RX3 = some m.cls := F.2.2.2.1
  have hts := F.2.2.2.2
  have hinX3 : ∀ w ∈ wsX30, w ∈ wsX3_together := by decide +kernel
  have hf9 := hts (.fieldLink RX3 9 "CycleHouse$Groups" "name" "[I") (by decide +kernel)
  have hl : lv_has ls 3 [(0, .ref (R 7)), (1, .int (nI a)), (2, .int (nI b))] := hl
  have l1 := (hq a ha).2
  have l2 := (hq b hb2).2
  refine lv_aload_n hx hb dX3_together_0 rfl (lv_at hl 0 rfl) ?_
  refine va_get (D := (dC, dI)) (ci := 3) (v := .ref (R 8)) (C := RX3) (T := TX3) (N := 4) hx hb hts hinX3 hown hK hP 7 rfl rfl 2 (by decide) hf9 (fun _ h9 => h9) rfl dX3_together_1 ?_
  refine lv_iload_n hx hb dX3_together_4 rfl (lv_at hl 1 rfl) ?_
  have h5 : vp_in (nI a) 16 := vp_in_nI (by omega) (by omega)
  refine va_iald hx hb hK hP 8 0 rfl rfl h5 dX3_together_5 ?_
  refine lv_topi (fun x5 ex5 => ?_)
  have ex5 : x5 = A 8 (nI a).toNatClampNeg := ex5
  have ex5 : x5 = nI (q.1 a) := by rw [ex5, nI_clamp (by omega)]; exact (hq a ha).1
  subst ex5
  refine lv_aload_n hx hb dX3_together_6 rfl (lv_at hl 0 rfl) ?_
  refine va_get (D := (dC, dI)) (ci := 3) (v := .ref (R 8)) (C := RX3) (T := TX3) (N := 4) hx hb hts hinX3 hown hK hP 7 rfl rfl 2 (by decide) hf9 (fun _ h9 => h9) rfl dX3_together_7 ?_
  refine lv_iload_n hx hb dX3_together_10 rfl (lv_at hl 2 rfl) ?_
  have h11 : vp_in (nI b) 16 := vp_in_nI (by omega) (by omega)
  refine va_iald hx hb hK hP 8 0 rfl rfl h11 dX3_together_11 ?_
  refine lv_topi (fun x11 ex11 => ?_)
  have ex11 : x11 = A 8 (nI b).toNatClampNeg := ex11
  have ex11 : x11 = nI (q.1 b) := by rw [ex11, nI_clamp (by omega)]; exact (hq b hb2).1
  subst ex11
  refine lv_icmp_ne (tgt := 19) hx hb dX3_together_12 (by decide) (fun c12 => ?_) (fun c12 => ?_)
  · -- 12 taken
    rw [nI_eq (by omega) (by omega)] at c12
    refine lv_iconst (v := 0) hx hb dX3_together_19 (by decide) ?_
    refine hret 20 ls _ _ 0 (I, A, B, C, T) dX3_together_20 rfl ?_ hP hD hS
    try dsimp only
    exact ⟨by rw [if_neg c12], rfl⟩
  · -- 12 not
    rw [nI_eq (by omega) (by omega)] at c12
    refine lv_iconst (v := 1) hx hb dX3_together_15 (by decide) ?_
    refine lv_goto (tgt := 20) hx hb dX3_together_16 (by decide) ?_
    refine hret 20 ls _ _ 1 (I, A, B, C, T) dX3_together_20 rfl ?_ hP hD hS
    try dsimp only
    exact ⟨by rw [if_pos c12], rfl⟩
set_option maxHeartbeats 4000000 in
set_option maxRecDepth 100000 in
theorem k_X3_merge (l : Launch) (dC : Nat → ClassId) (dI : Nat → Nat → Nat) (cI cJ cZ cII cJJ : ClassId) (R : Nat → Nat) (I : Nat → Int32) (A : Nat → Nat → Int32) (B : Nat → Nat → Int64) (C : Nat → Nat → Int32) (T : Nat → Nat → Int64) (N : Nat) (g w : Nat → Nat) (ka gb ch cnt : Nat) (hN : N ≤ 16) (hg : rG N g (A 8)) (hw : rW N w (B 9)) (hka : ka < N) (hgb : gb < N) (h4 : I 4 = nI N) (h5 : I 5 = nI (cnt + 1)) : ctV l (dC, dI) (tyL cI cJ cZ cII cJJ) (HW cI cJ cII cJJ R) yX3_merge wsX3_merge (0, 0) [.ref (R 7), .int (nI ka), .int (nI gb), .long (lN ch)] (I, A, B, C, T) (fun u => (∀ v, v < N → u.2.1 8 v = nI (if g v = gb then ka else g v)) ∧ (∀ v, v < N → u.2.2.1 9 v = lN (if g v = gb then w v ^^^ ch else w v)) ∧ u.1 4 = nI N ∧ u.1 5 = nI cnt ∧ fG I A B C T u) := by
  refine ctV_intro (cc := cX3_merge) (maxL := 6) (by decide) rfl (Nat.le_of_ble_eq_true rfl) ?_
  intro p e s m below meth c ls Aa Q F hK hN hP hD hS hA hl hret
  have hx := F.1
  have hb := F.2.1
  have hown : s.vm.findClass RX3 = some m.cls := F.2.2.2.1
  have hts := F.2.2.2.2
  have hinX3 : ∀ w ∈ wsX30, w ∈ wsX3_merge := by decide +kernel
  have hf19 := hts (.fieldLink RX3 19 "CycleHouse$Groups" "vertices" "I") (by decide +kernel)
  have hf9 := hts (.fieldLink RX3 9 "CycleHouse$Groups" "name" "[I") (by decide +kernel)
  have hf15 := hts (.fieldLink RX3 15 "CycleHouse$Groups" "way" "[J") (by decide +kernel)
  have hf23 := hts (.fieldLink RX3 23 "CycleHouse$Groups" "count" "I") (by decide +kernel)
  have hl : lv_has ls 6 [(0, .ref (R 7)), (1, .int (nI ka)), (2, .int (nI gb)), (3, .long (lN ch))] := hl
  refine lv_iconst (v := 0) hx hb dX3_merge_0 (by decide) ?_
  refine lv_istore (lv' := [(5, .int 0), (0, .ref (R 7)), (1, .int (nI ka)), (2, .int (nI gb)), (3, .long (lN ch))]) hx hb dX3_merge_1 hl (by decide) rfl (fun ls hl => ?_)
  have K3 : ∀ (kn : Nat) (i : Nat) (A_3 : Nat → Nat → Int32) (B_3 : Nat → Nat → Int64) (ls : Array Slot) (H : Heap) (locs : List Loc), N - i < kn → (i ≤ N ∧ (∀ k, k ≠ 8 → A_3 k = A k) ∧ (∀ v, v < N → A_3 8 v = nI (if v < i ∧ g v = gb then ka else g v)) ∧ (∀ k, k ≠ 9 → B_3 k = B k) ∧ ∀ v, v < N → B_3 9 v = lN (if v < i ∧ g v = gb then w v ^^^ ch else w v)) → va_P (dC, dI) vwCl (HW cI cJ cII cJJ R (I, A_3, B_3, C, T)) H → va_D Aa (HW cI cJ cII cJJ R (I, A_3, B_3, C, T)) → va_S Aa s.heap H locs → lv_has ls 6 [(0, .ref (R 7)), (1, .int (nI ka)), (2, .int (nI gb)), (3, .long (lN ch)), (5, .int (nI i))] → W p l e (ctR (0, 0)) s m #[.ref (R 7), .int (nI ka), .int (nI gb), .long (lN ch)] below meth c H locs 0 0 Q (F0 m 3 ls []) := by
    intro kn
    induction kn with
    | zero => intro i A_3 B_3 ls H locs hmu; exact absurd hmu (Nat.not_lt_zero _)
    | succ kn ih3 =>
      intro i A_3 B_3 ls H locs mu3 inv3 hP hD hS hl
      obtain ⟨hi, a1, a2, b1, b2⟩ := inv3
      refine lv_iload hx hb dX3_merge_3 (lv_at hl 4 rfl) ?_
      refine lv_aload_n hx hb dX3_merge_5 rfl (lv_at hl 0 rfl) ?_
      refine va_get (D := (dC, dI)) (ci := 3) (v := .int (I 4)) (C := RX3) (T := TX3) (N := 4) hx hb hts hinX3 hown hK hP 7 rfl rfl 0 (by decide) hf19 (fun _ h9 => h9) rfl dX3_merge_6 ?_
      refine lv_icmp_ge (tgt := 48) hx hb dX3_merge_9 (by decide) (fun c9 => ?_) (fun c9 => ?_)
      · -- 9 taken
        rw [h4, nI_leI (by omega) (by omega)] at c9
        have hge : i = N := by omega
        rw [hge] at a2 b2
        refine lv_aload_n hx hb dX3_merge_48 rfl (lv_at hl 0 rfl) ?_
        refine lv_dup hx hb dX3_merge_49 rfl ?_
        refine va_get (D := (dC, dI)) (ci := 3) (v := .int (I 5)) (C := RX3) (T := TX3) (N := 4) hx hb hts hinX3 hown hK hP 7 rfl rfl 1 (by decide) hf23 (fun _ h9 => h9) rfl dX3_merge_50 ?_
        refine lv_iconst (v := 1) hx hb dX3_merge_53 (by decide) ?_
        refine lv_isub hx hb dX3_merge_54 ?_
        refine lv_topi (fun x54 ex54 => ?_)
        refine va_put (D := (dC, dI)) (ci := 3) (v := .int x54) (ty := .int) (C := RX3) (T := TX3) (N := 4) hx hb hts hinX3 tyX3 tyX3_ok nmX3 hown hK hP hD hS 7 rfl rfl 1 (by decide) hf23 (fun _ h9 => h9) rfl (by decide +kernel) rfl rfl (Nat.le_of_ble_eq_true rfl) dX3_merge_55 (fun H locs hP hD hS => ?_)
        obtain ⟨I55, eI55⟩ : ∃ zz : Nat → Int32, zz = va_up I 5 x54 := ⟨_, rfl⟩
        have hP : va_P (dC, dI) vwCl (HW cI cJ cII cJJ R (I55, A_3, B_3, C, T)) H := by rw [eI55]; exact hP
        have hD : va_D Aa (HW cI cJ cII cJJ R (I55, A_3, B_3, C, T)) := by rw [eI55]; exact hD
        refine hret 58 ls _ _ (I55, A_3, B_3, C, T) dX3_merge_58 ?_ hP hD hS
        try dsimp only
        exact ⟨fun v hv => by rw [a2 v hv]; simp only [hv, true_and], fun v hv => by rw [b2 v hv]; simp only [hv, true_and], by rw [eI55, up_ne (by decide)]; exact h4, by rw [eI55, up_self, ex54, h5]; exact nI_pred _, fG.of (fun k _ k5 => by rw [eI55, up_ne k5]) a1 b1 rfl rfl⟩
      · -- 9 not
        rw [h4, nI_leI (by omega) (by omega)] at c9
        have icl : (nI i).toNatClampNeg = i := nI_clamp (by omega)
        have iin : vp_in (nI i) 16 := vp_in_nI (by omega) (by omega)
        have gi := (hg i (by omega)).2
        refine lv_aload_n hx hb dX3_merge_12 rfl (lv_at hl 0 rfl) ?_
        refine va_get (D := (dC, dI)) (ci := 3) (v := .ref (R 8)) (C := RX3) (T := TX3) (N := 4) hx hb hts hinX3 hown hK hP 7 rfl rfl 2 (by decide) hf9 (fun _ h9 => h9) rfl dX3_merge_13 ?_
        refine lv_iload hx hb dX3_merge_16 (lv_at hl 4 rfl) ?_
        have h18 : vp_in (nI i) 16 := iin
        refine va_iald hx hb hK hP 8 0 rfl rfl h18 dX3_merge_18 ?_
        refine lv_topi (fun x18 ex18 => ?_)
        have ex18 : x18 = A_3 8 (nI i).toNatClampNeg := ex18
        have ex18 : x18 = nI (g i) := by rw [ex18, icl, a2 i (by omega), if_neg (fun h => absurd h.1 (Nat.lt_irrefl _))]
        subst ex18
        refine lv_iload_n hx hb dX3_merge_19 rfl (lv_at hl 2 rfl) ?_
        refine lv_icmp_ne (tgt := 42) hx hb dX3_merge_20 (by decide) (fun c20 => ?_) (fun c20 => ?_)
        · -- 20 taken
          rw [nI_eq (by omega) (by omega)] at c20
          obtain ⟨x42, ex42⟩ : ∃ zz : Int32, zz = nI i + (1) := ⟨_, rfl⟩
          refine lv_iinc (v := x42) (lv' := [(5, .int x42), (0, .ref (R 7)), (1, .int (nI ka)), (2, .int (nI gb)), (3, .long (lN ch))]) hx hb dX3_merge_42 hl (k := 4) rfl (by rw [ex42]; rfl) (by decide) rfl (fun ls hl => ?_)
          have ex42 : x42 = nI (i + 1) := by rw [ex42]; exact nI_1 i
          subst ex42
          refine lv_goto (tgt := 3) hx hb dX3_merge_45 (by decide) ?_
          exact ih3 (i + 1) A_3 B_3 ls _ _ (by omega) ⟨by omega, a1, fun v hv => by
                rw [a2 v hv]; by_cases hvi : v = i
                · subst hvi; rw [if_neg (fun h => c20 h.2), if_neg (fun h => c20 h.2)]
                · simp only [show (v < i + 1) = (v < i) from propext ⟨fun h => by omega, fun h => by omega⟩], b1, fun v hv => by
                rw [b2 v hv]; by_cases hvi : v = i
                · subst hvi; rw [if_neg (fun h => c20 h.2), if_neg (fun h => c20 h.2)]
                · simp only [show (v < i + 1) = (v < i) from propext ⟨fun h => by omega, fun h => by omega⟩]⟩ hP hD hS (lv_sub hl [1, 2, 3, 4, 0] rfl)
        · -- 20 not
          rw [nI_eq (by omega) (by omega)] at c20
          refine lv_aload_n hx hb dX3_merge_23 rfl (lv_at hl 0 rfl) ?_
          refine va_get (D := (dC, dI)) (ci := 3) (v := .ref (R 8)) (C := RX3) (T := TX3) (N := 4) hx hb hts hinX3 hown hK hP 7 rfl rfl 2 (by decide) hf9 (fun _ h9 => h9) rfl dX3_merge_24 ?_
          refine lv_iload hx hb dX3_merge_27 (lv_at hl 4 rfl) ?_
          refine lv_iload_n hx hb dX3_merge_29 rfl (lv_at hl 1 rfl) ?_
          have h30 : vp_in (nI i) 16 := iin
          refine va_iast hx hb hK hP hD hS 8 0 rfl rfl h30 dX3_merge_30 (fun H locs hP hD hS => ?_)
          obtain ⟨A30, eA30⟩ : ∃ zz : Nat → Nat → Int32, zz = va_up A_3 8 (upd (A_3 8) (nI i).toNatClampNeg (nI ka)) := ⟨_, rfl⟩
          have hP : va_P (dC, dI) vwCl (HW cI cJ cII cJJ R (I, A30, B_3, C, T)) H := by rw [eA30]; exact hP
          have hD : va_D Aa (HW cI cJ cII cJJ R (I, A30, B_3, C, T)) := by rw [eA30]; exact hD
          refine lv_aload_n hx hb dX3_merge_31 rfl (lv_at hl 0 rfl) ?_
          refine va_get (D := (dC, dI)) (ci := 3) (v := .ref (R 9)) (C := RX3) (T := TX3) (N := 4) hx hb hts hinX3 hown hK hP 7 rfl rfl 3 (by decide) hf15 (fun _ h9 => h9) rfl dX3_merge_32 ?_
          refine lv_iload hx hb dX3_merge_35 (lv_at hl 4 rfl) ?_
          refine lv_dup2_11 hx hb dX3_merge_37 rfl rfl ?_
          have h38 : vp_in (nI i) 16 := iin
          refine va_lald hx hb hK hP 9 1 rfl rfl h38 dX3_merge_38 ?_
          refine lv_topl (fun x38 ex38 => ?_)
          have ex38 : x38 = B_3 9 (nI i).toNatClampNeg := ex38
          have ex38 : x38 = lN (w i) := by rw [ex38, icl, b2 i (by omega), if_neg (fun h => absurd h.1 (Nat.lt_irrefl _))]
          subst ex38
          refine lv_lload_n hx hb dX3_merge_39 rfl (lv_at hl 3 rfl) ?_
          refine lv_lxor hx hb dX3_merge_40 ?_
          refine lv_topl (fun x40 ex40 => ?_)
          have ex40 : x40 = lN (w i ^^^ ch) := by rw [ex40, lN_xor]
          subst ex40
          have h41 : vp_in (nI i) 16 := iin
          refine va_last hx hb hK hP hD hS 9 1 rfl rfl h41 dX3_merge_41 (fun H locs hP hD hS => ?_)
          obtain ⟨B41, eB41⟩ : ∃ zz : Nat → Nat → Int64, zz = va_up B_3 9 (vp_updL (B_3 9) (nI i).toNatClampNeg (lN (w i ^^^ ch))) := ⟨_, rfl⟩
          have hP : va_P (dC, dI) vwCl (HW cI cJ cII cJJ R (I, A30, B41, C, T)) H := by rw [eB41]; exact hP
          have hD : va_D Aa (HW cI cJ cII cJJ R (I, A30, B41, C, T)) := by rw [eB41]; exact hD
          obtain ⟨x42, ex42⟩ : ∃ zz : Int32, zz = nI i + (1) := ⟨_, rfl⟩
          refine lv_iinc (v := x42) (lv' := [(5, .int x42), (0, .ref (R 7)), (1, .int (nI ka)), (2, .int (nI gb)), (3, .long (lN ch))]) hx hb dX3_merge_42 hl (k := 4) rfl (by rw [ex42]; rfl) (by decide) rfl (fun ls hl => ?_)
          have ex42 : x42 = nI (i + 1) := by rw [ex42]; exact nI_1 i
          subst ex42
          refine lv_goto (tgt := 3) hx hb dX3_merge_45 (by decide) ?_
          exact ih3 (i + 1) A30 B41 ls _ _ (by omega) ⟨by omega, fun k hk => by rw [eA30, up_ne hk]; exact a1 k hk, fun v hv => by
                rw [eA30, up_self, icl]
                by_cases hvi : v = i
                · subst hvi; rw [pk_us, if_pos ⟨by omega, c20⟩]
                · rw [pk_un hvi, a2 v hv]; simp only [show (v < i + 1) = (v < i) from propext ⟨fun h => by omega, fun h => by omega⟩], fun k hk => by rw [eB41, up_ne hk]; exact b1 k hk, fun v hv => by
                rw [eB41, up_self, icl]
                by_cases hvi : v = i
                · subst hvi; rw [pk_uLs, if_pos ⟨by omega, c20⟩]
                · rw [pk_uLn hvi, b2 v hv]; simp only [show (v < i + 1) = (v < i) from propext ⟨fun h => by omega, fun h => by omega⟩]⟩ hP hD hS (lv_sub hl [1, 2, 3, 4, 0] rfl)
  exact K3 _ 0 A B ls _ _ (Nat.lt_succ_self _) ⟨Nat.zero_le _, fun _ _ => rfl, fun v hv => by rw [if_neg (fun h => absurd h.1 (Nat.not_lt_zero _))]; exact (hg v hv).1, fun _ _ => rfl, fun v hv => by rw [if_neg (fun h => absurd h.1 (Nat.not_lt_zero _))]; exact hw v hv⟩ hP hD hS (lv_sub hl [1, 2, 3, 4, 0] rfl)
