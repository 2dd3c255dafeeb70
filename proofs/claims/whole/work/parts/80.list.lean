set_option maxHeartbeats 4000000 in
set_option maxRecDepth 100000 in
theorem k_X5_append (l : Launch) (dC : Nat → ClassId) (dI : Nat → Nat → Nat) (cI cJ cZ cII cJJ : ClassId) (R : Nat → Nat) (I : Nat → Int32) (A : Nat → Nat → Int32) (B : Nat → Nat → Int64) (C : Nat → Nat → Int32) (T : Nat → Nat → Int64) (n2 rk2 : Nat) (row : Nat → Nat) (z : Nat) (hs : rS n2 rk2 row I B) (hz : z < 2 ^ 40) : ctI l (dC, dI) (tyL cI cJ cZ cII cJJ) (HW cI cJ cII cJJ R) yX5_append wsX5_append (2, 60) [.ref (R 5), .long (lN z)] (I, A, B, C, T) (fun r u => r = nI (n2 + 1) ∧ rS (n2 + 1) (apk row rk2 z) (apn row z) u.1 u.2.2.1 ∧ (∀ k, k ≠ 2 → k ≠ 3 → u.1 k = I k) ∧ u.2.1 = A ∧ (∀ k, k ≠ 6 → u.2.2.1 k = B k) ∧ u.2.2.2.1 = C ∧ u.2.2.2.2 = T) := by
  refine ctI_intro (cc := cX5_append) (maxL := 5) (by decide) rfl (Nat.le_of_ble_eq_true rfl) ?_
  intro p e s m below meth c ls Aa Q F hK hN hP hD hS hA hl hret
  have hx := F.1
  have hb := F.2.1
  have hown : s.vm.findClass RX5 = some m.cls := F.2.2.2.1
  have hts := F.2.2.2.2
  have hinX5 : ∀ w ∈ wsX50, w ∈ wsX5_append := by decide +kernel
  have hf9 := hts (.fieldLink RX5 9 "CycleHouse$SetList" "row" "[J") (by decide +kernel)
  have hf25 := hts (.fieldLink RX5 25 "CycleHouse$SetList" "rank" "I") (by decide +kernel)
  have hf29 := hts (.fieldLink RX5 29 "CycleHouse$SetList" "sets" "I") (by decide +kernel)
  have hl : lv_has ls 5 [(0, .ref (R 5)), (1, .long (lN z))] := hl
  have hrl := rst_lt hz (fun e he => (hs.2.2 e he).2) 40 (Nat.le_refl 40)
  refine lv_aload_n hx hb dX5_append_0 rfl (lv_at hl 0 rfl) ?_
  refine lv_lload_n hx hb dX5_append_1 rfl (lv_at hl 1 rfl) ?_
  refine ct_calll hD hS hA (va_runV (As := [.long (lN z)]) (rest := []) F ((k_X5_rest l dC dI cI cJ cZ cII cJJ R I A B C T n2 rk2 row z hs hz) _) (cwV 1 hts gX5_append_X5_rest rfl rfl rfl (by decide +kernel) ⟨(Nat.le_of_ble_eq_true rfl), (Nat.le_of_ble_eq_true rfl)⟩) (ct_preV 5 5 hK hN hP hD rfl rfl) rfl rfl hl.1 rfl (lv_room (Nat.le_of_ble_eq_true rfl)) dX5_append_2 ⟨(Nat.le_of_ble_eq_true rfl), (Nat.le_of_ble_eq_true rfl)⟩) (fun r2 u2 H locs w2 hP hD hS => ?_)
  obtain ⟨w2, rfl⟩ := w2
  have er2 : r2 = lN (rst row 40 z) := w2
  subst er2
  refine lv_lstore_n (lv' := [(3, .long (lN (rst row 40 z))), (0, .ref (R 5)), (1, .long (lN z))]) hx hb dX5_append_5 rfl hl (by decide) rfl (fun ls hl => ?_)
  refine lv_lload_n hx hb dX5_append_6 rfl (lv_at hl 0 rfl) ?_
  refine lv_lconst (v := 0) hx hb dX5_append_7 (by decide) ?_
  refine W.lcmp hx hb dX5_append_8 ?_
  refine lv_if_eq (tgt := 32) hx hb dX5_append_9 (by decide) (fun c9 => ?_) (fun c9 => ?_)
  · -- 9 taken
    rw [lg_cmp_eq] at c9
    have c9 : rst row 40 z = 0 := (pk_lEQ (b := 0) (Nat.lt_trans hrl (by decide)) (by decide)).mp c9
    refine lv_aload_n hx hb dX5_append_32 rfl (lv_at hl 1 rfl) ?_
    refine lv_dup hx hb dX5_append_33 rfl ?_
    refine va_get (D := (dC, dI)) (ci := 5) (v := .int (I 2)) (C := RX5) (T := TX5) (N := 3) hx hb hts hinX5 hown hK hP 5 rfl rfl 0 (by decide) hf29 (fun _ h9 => h9) rfl dX5_append_34 ?_
    refine lv_iconst (v := 1) hx hb dX5_append_37 (by decide) ?_
    refine lv_iadd hx hb dX5_append_38 ?_
    refine lv_topi (fun x38 ex38 => ?_)
    refine va_put (D := (dC, dI)) (ci := 5) (v := .int x38) (ty := .int) (C := RX5) (T := TX5) (N := 3) hx hb hts hinX5 tyX5 tyX5_ok nmX5 hown hK hP hD hS 5 rfl rfl 0 (by decide) hf29 (fun _ h9 => h9) rfl (by decide +kernel) rfl rfl (Nat.le_of_ble_eq_true rfl) dX5_append_39 (fun H locs hP hD hS => ?_)
    obtain ⟨I39, eI39⟩ : ∃ zz : Nat → Int32, zz = va_up I 2 x38 := ⟨_, rfl⟩
    have hP : va_P (dC, dI) vwCl (HW cI cJ cII cJJ R (I39, A, B, C, T)) H := by rw [eI39]; exact hP
    have hD : va_D Aa (HW cI cJ cII cJJ R (I39, A, B, C, T)) := by rw [eI39]; exact hD
    refine lv_aload_n hx hb dX5_append_42 rfl (lv_at hl 1 rfl) ?_
    refine va_get (D := (dC, dI)) (ci := 5) (v := .int (I39 2)) (C := RX5) (T := TX5) (N := 3) hx hb hts hinX5 hown hK hP 5 rfl rfl 0 (by decide) hf29 (fun _ h9 => h9) rfl dX5_append_43 ?_
    refine hret 46 ls _ _ (I39 2) (I39, A, B, C, T) dX5_append_46 rfl ?_ hP hD hS
    try dsimp only
    exact ⟨by rw [eI39, up_self, ex38, hs.1, nI_1], ⟨by rw [eI39, up_self, ex38, hs.1, nI_1], by rw [eI39, up_ne (by decide), hs.2.1]; unfold apk; rw [if_pos c9], by unfold apn; rw [if_pos c9]; exact hs.2.2⟩, fun k h2 h3 => by rw [eI39, up_ne h2], rfl, fun _ _ => rfl, rfl, rfl⟩
  · -- 9 not
    rw [lg_cmp_eq] at c9
    have c9 : rst row 40 z ≠ 0 := fun h => c9 (by rw [h]; rfl)
    have hll := low_lt c9 (by omega) hrl
    refine lv_aload_n hx hb dX5_append_12 rfl (lv_at hl 1 rfl) ?_
    refine va_get (D := (dC, dI)) (ci := 5) (v := .ref (R 6)) (C := RX5) (T := TX5) (N := 3) hx hb hts hinX5 hown hK hP 5 rfl rfl 2 (by decide) hf9 (fun _ h9 => h9) rfl dX5_append_13 ?_
    refine lv_lload_n hx hb dX5_append_16 rfl (lv_at hl 0 rfl) ?_
    refine ct_calli hD hS hA (va_runS (As := [.long (lN (rst row 40 z))]) (rest := [.ref (R 6)]) F ((k_J13_numberOfTrailingZeros_95d88 l dC dI cI cJ cZ cII cJJ R I A B C T (rst row 40 z) c9 (Nat.lt_trans hrl (by decide))) _) (va_cwS 1 hts gX5_append_J13_numberOfTrailingZeros_95d88 rfl rfl rfl (by decide +kernel) ⟨(Nat.le_of_ble_eq_true rfl), (Nat.le_of_ble_eq_true rfl)⟩) (ct_preS hK hN hP hD) rfl rfl hl.1 rfl (lv_room (Nat.le_of_ble_eq_true rfl)) dX5_append_17 ⟨(Nat.le_of_ble_eq_true rfl), (Nat.le_of_ble_eq_true rfl)⟩) (fun r17 u17 H locs w17 hP hD hS => ?_)
    obtain ⟨w17, rfl⟩ := w17
    have er17 : r17 = nI (low (rst row 40 z)) := w17
    subst er17
    refine lv_lload_n hx hb dX5_append_20 rfl (lv_at hl 0 rfl) ?_
    have h21 : vp_in (nI (low (rst row 40 z))) 40 := vp_in_nI hll (by decide)
    refine va_last hx hb hK hP hD hS 6 1 rfl rfl h21 dX5_append_21 (fun H locs hP hD hS => ?_)
    obtain ⟨B21, eB21⟩ : ∃ zz : Nat → Nat → Int64, zz = va_up B 6 (vp_updL (B 6) (nI (low (rst row 40 z))).toNatClampNeg (lN (rst row 40 z))) := ⟨_, rfl⟩
    have hP : va_P (dC, dI) vwCl (HW cI cJ cII cJJ R (I, A, B21, C, T)) H := by rw [eB21]; exact hP
    have hD : va_D Aa (HW cI cJ cII cJJ R (I, A, B21, C, T)) := by rw [eB21]; exact hD
    refine lv_aload_n hx hb dX5_append_22 rfl (lv_at hl 1 rfl) ?_
    refine lv_dup hx hb dX5_append_23 rfl ?_
    refine va_get (D := (dC, dI)) (ci := 5) (v := .int (I 3)) (C := RX5) (T := TX5) (N := 3) hx hb hts hinX5 hown hK hP 5 rfl rfl 1 (by decide) hf25 (fun _ h9 => h9) rfl dX5_append_24 ?_
    refine lv_iconst (v := 1) hx hb dX5_append_27 (by decide) ?_
    refine lv_iadd hx hb dX5_append_28 ?_
    refine lv_topi (fun x28 ex28 => ?_)
    refine va_put (D := (dC, dI)) (ci := 5) (v := .int x28) (ty := .int) (C := RX5) (T := TX5) (N := 3) hx hb hts hinX5 tyX5 tyX5_ok nmX5 hown hK hP hD hS 5 rfl rfl 1 (by decide) hf25 (fun _ h9 => h9) rfl (by decide +kernel) rfl rfl (Nat.le_of_ble_eq_true rfl) dX5_append_29 (fun H locs hP hD hS => ?_)
    obtain ⟨I29, eI29⟩ : ∃ zz : Nat → Int32, zz = va_up I 3 x28 := ⟨_, rfl⟩
    have hP : va_P (dC, dI) vwCl (HW cI cJ cII cJJ R (I29, A, B21, C, T)) H := by rw [eI29]; exact hP
    have hD : va_D Aa (HW cI cJ cII cJJ R (I29, A, B21, C, T)) := by rw [eI29]; exact hD
    refine lv_aload_n hx hb dX5_append_32 rfl (lv_at hl 1 rfl) ?_
    refine lv_dup hx hb dX5_append_33 rfl ?_
    refine va_get (D := (dC, dI)) (ci := 5) (v := .int (I29 2)) (C := RX5) (T := TX5) (N := 3) hx hb hts hinX5 hown hK hP 5 rfl rfl 0 (by decide) hf29 (fun _ h9 => h9) rfl dX5_append_34 ?_
    refine lv_iconst (v := 1) hx hb dX5_append_37 (by decide) ?_
    refine lv_iadd hx hb dX5_append_38 ?_
    refine lv_topi (fun x38 ex38 => ?_)
    refine va_put (D := (dC, dI)) (ci := 5) (v := .int x38) (ty := .int) (C := RX5) (T := TX5) (N := 3) hx hb hts hinX5 tyX5 tyX5_ok nmX5 hown hK hP hD hS 5 rfl rfl 0 (by decide) hf29 (fun _ h9 => h9) rfl (by decide +kernel) rfl rfl (Nat.le_of_ble_eq_true rfl) dX5_append_39 (fun H locs hP hD hS => ?_)
    obtain ⟨I39, eI39⟩ : ∃ zz : Nat → Int32, zz = va_up I29 2 x38 := ⟨_, rfl⟩
    have hP : va_P (dC, dI) vwCl (HW cI cJ cII cJJ R (I39, A, B21, C, T)) H := by rw [eI39]; exact hP
    have hD : va_D Aa (HW cI cJ cII cJJ R (I39, A, B21, C, T)) := by rw [eI39]; exact hD
    refine lv_aload_n hx hb dX5_append_42 rfl (lv_at hl 1 rfl) ?_
    refine va_get (D := (dC, dI)) (ci := 5) (v := .int (I39 2)) (C := RX5) (T := TX5) (N := 3) hx hb hts hinX5 hown hK hP 5 rfl rfl 0 (by decide) hf29 (fun _ h9 => h9) rfl dX5_append_43 ?_
    refine hret 46 ls _ _ (I39 2) (I39, A, B21, C, T) dX5_append_46 rfl ?_ hP hD hS
    try dsimp only
    exact ⟨by rw [eI39, up_self, ex38, eI29, up_ne (by decide), hs.1, nI_1], ⟨by rw [eI39, up_self, ex38, eI29, up_ne (by decide), hs.1, nI_1], by rw [eI39, up_ne (by decide), eI29, up_self, ex28, hs.2.1, nI_1]; unfold apk; rw [if_neg c9], fun e he => by
          unfold apn
          rw [if_neg c9, eB21, up_self, nI_clamp (by omega)]
          by_cases e1 : e = low (rst row 40 z)
          · rw [e1, pk_uLs, up_self]; exact ⟨rfl, hrl⟩
          · rw [pk_uLn e1, up_ne e1]; exact hs.2.2 e he⟩, fun k h2 h3 => by rw [eI39, up_ne h2, eI29, up_ne h3], rfl, fun k hk => by rw [eB21, up_ne hk], rfl, rfl⟩
set_option maxHeartbeats 4000000 in
set_option maxRecDepth 100000 in
theorem k_X5_empty (l : Launch) (dC : Nat → ClassId) (dI : Nat → Nat → Nat) (cI cJ cZ cII cJJ : ClassId) (R : Nat → Nat) (I : Nat → Int32) (A : Nat → Nat → Int32) (B : Nat → Nat → Int64) (C : Nat → Nat → Int32) (T : Nat → Nat → Int64)   : ctV l (dC, dI) (tyL cI cJ cZ cII cJJ) (HW cI cJ cII cJJ R) yX5_empty wsX5_empty (1, 30) [.ref (R 5)] (I, A, B, C, T) (fun u => rS 0 0 (fun _ => 0) u.1 u.2.2.1 ∧ (∀ k, k ≠ 2 → k ≠ 3 → u.1 k = I k) ∧ u.2.1 = A ∧ (∀ k, k ≠ 6 → u.2.2.1 k = B k) ∧ u.2.2.2.1 = C ∧ u.2.2.2.2 = T) := by
  refine ctV_intro (cc := cX5_empty) (maxL := 1) (by decide) rfl (Nat.le_of_ble_eq_true rfl) ?_
  intro p e s m below meth c ls Aa Q F hK hN hP hD hS hA hl hret
  have hx := F.1
  have hb := F.2.1
  have hown : s.vm.findClass RX5 = some m.cls := F.2.2.2.1
  have hts := F.2.2.2.2
  have hinX5 : ∀ w ∈ wsX50, w ∈ wsX5_empty := by decide +kernel
  have hf29 := hts (.fieldLink RX5 29 "CycleHouse$SetList" "sets" "I") (by decide +kernel)
  have hf25 := hts (.fieldLink RX5 25 "CycleHouse$SetList" "rank" "I") (by decide +kernel)
  have hf9 := hts (.fieldLink RX5 9 "CycleHouse$SetList" "row" "[J") (by decide +kernel)
  have hl : lv_has ls 1 [(0, .ref (R 5))] := hl
  refine lv_aload_n hx hb dX5_empty_0 rfl (lv_at hl 0 rfl) ?_
  refine lv_iconst (v := 0) hx hb dX5_empty_1 (by decide) ?_
  refine va_put (D := (dC, dI)) (ci := 5) (v := .int 0) (ty := .int) (C := RX5) (T := TX5) (N := 3) hx hb hts hinX5 tyX5 tyX5_ok nmX5 hown hK hP hD hS 5 rfl rfl 0 (by decide) hf29 (fun _ h9 => h9) rfl (by decide +kernel) rfl rfl (Nat.le_of_ble_eq_true rfl) dX5_empty_2 (fun H locs hP hD hS => ?_)
  obtain ⟨I2, eI2⟩ : ∃ zz : Nat → Int32, zz = va_up I 2 0 := ⟨_, rfl⟩
  have hP : va_P (dC, dI) vwCl (HW cI cJ cII cJJ R (I2, A, B, C, T)) H := by rw [eI2]; exact hP
  have hD : va_D Aa (HW cI cJ cII cJJ R (I2, A, B, C, T)) := by rw [eI2]; exact hD
  refine lv_aload_n hx hb dX5_empty_5 rfl (lv_at hl 0 rfl) ?_
  refine lv_iconst (v := 0) hx hb dX5_empty_6 (by decide) ?_
  refine va_put (D := (dC, dI)) (ci := 5) (v := .int 0) (ty := .int) (C := RX5) (T := TX5) (N := 3) hx hb hts hinX5 tyX5 tyX5_ok nmX5 hown hK hP hD hS 5 rfl rfl 1 (by decide) hf25 (fun _ h9 => h9) rfl (by decide +kernel) rfl rfl (Nat.le_of_ble_eq_true rfl) dX5_empty_7 (fun H locs hP hD hS => ?_)
  obtain ⟨I7, eI7⟩ : ∃ zz : Nat → Int32, zz = va_up I2 3 0 := ⟨_, rfl⟩
  have hP : va_P (dC, dI) vwCl (HW cI cJ cII cJJ R (I7, A, B, C, T)) H := by rw [eI7]; exact hP
  have hD : va_D Aa (HW cI cJ cII cJJ R (I7, A, B, C, T)) := by rw [eI7]; exact hD
  refine lv_aload_n hx hb dX5_empty_10 rfl (lv_at hl 0 rfl) ?_
  refine va_get (D := (dC, dI)) (ci := 5) (v := .ref (R 6)) (C := RX5) (T := TX5) (N := 3) hx hb hts hinX5 hown hK hP 5 rfl rfl 2 (by decide) hf9 (fun _ h9 => h9) rfl dX5_empty_11 ?_
  refine lv_lconst (v := 0) hx hb dX5_empty_14 (by decide) ?_
  refine ct_callv hD hS hA (va_runS (As := [.ref (R 6), .long 0]) (rest := []) F ((k_fillR l dC dI cI cJ cZ cII cJJ R I7 A B C T ) _) (va_cwS 2 hts gX5_empty_J7_fill_d0a16 rfl rfl rfl (by decide +kernel) ⟨(Nat.le_of_ble_eq_true rfl), (Nat.le_of_ble_eq_true rfl)⟩) (ct_preS hK hN hP hD) rfl rfl hl.1 rfl (lv_room (Nat.le_of_ble_eq_true rfl)) dX5_empty_15 ⟨(Nat.le_of_ble_eq_true rfl), (Nat.le_of_ble_eq_true rfl)⟩) (fun u15 H locs w15 hP hD hS => ?_)
  obtain ⟨I15, A15, B15, C15, T15⟩ := u15
  refine hret 18 ls _ _ (I15, A15, B15, C15, T15) dX5_empty_18 ?_ hP hD hS
  try dsimp only
  exact ⟨⟨by rw [show I15 = I7 from w15.1, eI7, up_ne (by decide), eI2, up_self]; rfl, by rw [show I15 = I7 from w15.1, eI7, up_self]; rfl, fun e he => ⟨w15.2.2.2.2.2 e he, Nat.two_pow_pos 40⟩⟩, fun k h2 h3 => by show I15 k = I k; rw [show I15 = I7 from w15.1, eI7, up_ne h3, eI2, up_ne h2], w15.2.1, w15.2.2.2.2.1, w15.2.2.1, w15.2.2.2.1⟩
set_option maxHeartbeats 4000000 in
set_option maxRecDepth 100000 in
theorem k_X7_clear (l : Launch) (dC : Nat → ClassId) (dI : Nat → Nat → Nat) (cI cJ cZ cII cJJ : ClassId) (R : Nat → Nat) (I : Nat → Int32) (A : Nat → Nat → Int32) (B : Nat → Nat → Int64) (C : Nat → Nat → Int32) (T : Nat → Nat → Int64) (n2 rk2 : Nat) (row : Nat → Nat) (hs : rS n2 rk2 row I B) : ctI l (dC, dI) (tyL cI cJ cZ cII cJJ) (HW cI cJ cII cJJ R) yX7_clear wsX7_clear (2, 60) [.ref (R 0)] (I, A, B, C, T) (fun r u => r = nI n2 ∧ rS 0 0 (fun _ => 0) u.1 u.2.2.1 ∧ (∀ k, k ≠ 2 → k ≠ 3 → u.1 k = I k) ∧ u.2.1 = A ∧ (∀ k, k ≠ 6 → u.2.2.1 k = B k) ∧ u.2.2.2.1 = C ∧ u.2.2.2.2 = T) := by
  refine ctI_intro (cc := cX7_clear) (maxL := 2) (by decide) rfl (Nat.le_of_ble_eq_true rfl) ?_
  intro p e s m below meth c ls Aa Q F hK hN hP hD hS hA hl hret
  have hx := F.1
  have hb := F.2.1
  have hown : s.vm.findClass RX7 = some m.cls := F.2.2.2.1
  have hts := F.2.2.2.2
  have hinX5 : ∀ w ∈ wsX50, w ∈ wsX7_clear := by decide +kernel
  have hinX7 : ∀ w ∈ wsX70, w ∈ wsX7_clear := by decide +kernel
  have hf19 := hts (.fieldLink RX7 19 "CycleHouse" "list" "LCycleHouse$SetList;") (by decide +kernel)
  have hl : lv_has ls 2 [(0, .ref (R 0))] := hl
  refine lv_aload_n hx hb dX7_clear_0 rfl (lv_at hl 0 rfl) ?_
  refine va_get (D := (dC, dI)) (ci := 7) (v := .ref (R 5)) (C := RX7) (T := TX7) (N := 8) hx hb hts hinX7 hown hK hP 0 rfl rfl 1 (by decide) hf19 (fun _ h9 => h9) rfl dX7_clear_1 ?_
  refine va_getN (D := (dC, dI)) (ci := 5) (v := .int (I 2)) (C := RX5) (T := TX5) (N := 3) hx hb hts hinX5 hown hK hP 5 rfl rfl 0 (by decide) (nwOK.f hN RX7 192 "CycleHouse$SetList" "sets" "I" "CycleHouse" (by decide +kernel)) (fun _ h9 => h9) rfl dX7_clear_4 ?_
  refine lv_istore_n (lv' := [(1, .int (I 2)), (0, .ref (R 0))]) hx hb dX7_clear_7 rfl hl (by decide) rfl (fun ls hl => ?_)
  refine lv_aload_n hx hb dX7_clear_8 rfl (lv_at hl 1 rfl) ?_
  refine va_get (D := (dC, dI)) (ci := 7) (v := .ref (R 5)) (C := RX7) (T := TX7) (N := 8) hx hb hts hinX7 hown hK hP 0 rfl rfl 1 (by decide) hf19 (fun _ h9 => h9) rfl dX7_clear_9 ?_
  refine ct_callv hD hS hA (va_runV (As := []) (rest := []) F ((k_X5_empty l dC dI cI cJ cZ cII cJJ R I A B C T ) _) (cwV 0 hts gX7_clear_X5_empty rfl rfl rfl (by decide +kernel) ⟨(Nat.le_of_ble_eq_true rfl), (Nat.le_of_ble_eq_true rfl)⟩) (ct_preV 5 5 hK hN hP hD rfl rfl) rfl rfl hl.1 rfl (lv_room (Nat.le_of_ble_eq_true rfl)) dX7_clear_12 ⟨(Nat.le_of_ble_eq_true rfl), (Nat.le_of_ble_eq_true rfl)⟩) (fun u12 H locs w12 hP hD hS => ?_)
  obtain ⟨I12, A12, B12, C12, T12⟩ := u12
  refine lv_iload_n hx hb dX7_clear_15 rfl (lv_at hl 0 rfl) ?_
  refine hret 16 ls _ _ (I 2) (I12, A12, B12, C12, T12) dX7_clear_16 rfl ?_ hP hD hS
  try dsimp only
  exact ⟨hs.1, w12⟩
set_option maxHeartbeats 4000000 in
set_option maxRecDepth 100000 in
theorem k_X7_hasOddCycle (l : Launch) (dC : Nat → ClassId) (dI : Nat → Nat → Nat) (cI cJ cZ cII cJJ : ClassId) (R : Nat → Nat) (I : Nat → Int32) (A : Nat → Nat → Int32) (B : Nat → Nat → Int64) (C : Nat → Nat → Int32) (T : Nat → Nat → Int64) (nv ne : Nat) (fr to wt : Nat → Nat) (g : gH nv ne fr to wt I A) (hd : dmA fr to ne ≤ 14) : ctI l (dC, dI) (tyL cI cJ cZ cII cJJ) (HW cI cJ cII cJJ R) yX7_hasOddCycle wsX7_hasOddCycle (3, 90) [.ref (R 0)] (I, A, B, C, T) (fun r u => ((r = 1 ∧ ∃ i, i < dmA fr to ne ∧ sz (rgA fr to ne i) 64 % 2 = 1) ∨ (r = 0 ∧ ∀ i, i < dmA fr to ne → sz (rgA fr to ne i) 64 % 2 = 0)) ∧ fF I A B C T u) := by
  refine ctI_intro (cc := cX7_hasOddCycle) (maxL := 3) (by decide) rfl (Nat.le_of_ble_eq_true rfl) ?_
  intro p e s m below meth c ls Aa Q F hK hN hP hD hS hA hl hret
  have hx := F.1
  have hb := F.2.1
  have hown : s.vm.findClass RX7 = some m.cls := F.2.2.2.1
  have hts := F.2.2.2.2
  have hinX2 : ∀ w ∈ wsX20, w ∈ wsX7_hasOddCycle := by decide +kernel
  have hinX3 : ∀ w ∈ wsX30, w ∈ wsX7_hasOddCycle := by decide +kernel
  have hinX7 : ∀ w ∈ wsX70, w ∈ wsX7_hasOddCycle := by decide +kernel
  have hf58 := hts (.fieldLink RX7 58 "CycleHouse" "rings" "[J") (by decide +kernel)
  have hl : lv_has ls 3 [(0, .ref (R 0))] := hl
  have hrb := rgA_lt g
  refine lv_aload_n hx hb dX7_hasOddCycle_0 rfl (lv_at hl 0 rfl) ?_
  refine ct_calli hD hS hA (va_runV (As := []) (rest := []) F ((k_X7_fillRings l dC dI cI cJ cZ cII cJJ R I A B C T nv ne fr to wt g hd) _) (cwV 0 hts gX7_hasOddCycle_X7_fillRings rfl rfl rfl (by decide +kernel) ⟨(Nat.le_of_ble_eq_true rfl), (Nat.le_of_ble_eq_true rfl)⟩) (ct_preV 0 7 hK hN hP hD rfl rfl) rfl rfl hl.1 rfl (lv_room (Nat.le_of_ble_eq_true rfl)) dX7_hasOddCycle_1 ⟨(Nat.le_of_ble_eq_true rfl), (Nat.le_of_ble_eq_true rfl)⟩) (fun r1 u1 H locs w1 hP hD hS => ?_)
  obtain ⟨I1, A1, B1, C1, T1⟩ := u1
  have er1 : r1 = nI (dmA fr to ne) := w1.1
  subst er1
  refine lv_istore_n (lv' := [(1, .int (nI (dmA fr to ne))), (0, .ref (R 0))]) hx hb dX7_hasOddCycle_4 rfl hl (by decide) rfl (fun ls hl => ?_)
  refine lv_iconst (v := 0) hx hb dX7_hasOddCycle_5 (by decide) ?_
  refine lv_istore_n (lv' := [(2, .int 0), (1, .int (nI (dmA fr to ne))), (0, .ref (R 0))]) hx hb dX7_hasOddCycle_6 rfl hl (by decide) rfl (fun ls hl => ?_)
  have K7 : ∀ (kn : Nat) (i : Nat) (ls : Array Slot) (H : Heap) (locs : List Loc), dmA fr to ne - i < kn → (i ≤ dmA fr to ne ∧ ∀ j, j < i → sz (rgA fr to ne j) 64 % 2 = 0) → va_P (dC, dI) vwCl (HW cI cJ cII cJJ R (I1, A1, B1, C1, T1)) H → va_D Aa (HW cI cJ cII cJJ R (I1, A1, B1, C1, T1)) → va_S Aa s.heap H locs → lv_has ls 3 [(0, .ref (R 0)), (1, .int (nI (dmA fr to ne))), (2, .int (nI i))] → W p l e (ctR (3, 90)) s m #[.ref (R 0)] below meth c H locs 0 0 Q (F0 m 7 ls []) := by
    intro kn
    induction kn with
    | zero => intro i ls H locs hmu; exact absurd hmu (Nat.not_lt_zero _)
    | succ kn ih7 =>
      intro i ls H locs mu7 inv7 hP hD hS hl
      obtain ⟨hi, hev⟩ := inv7
      refine lv_iload_n hx hb dX7_hasOddCycle_7 rfl (lv_at hl 2 rfl) ?_
      refine lv_iload_n hx hb dX7_hasOddCycle_8 rfl (lv_at hl 1 rfl) ?_
      refine lv_icmp_ge (tgt := 34) hx hb dX7_hasOddCycle_9 (by decide) (fun c9 => ?_) (fun c9 => ?_)
      · -- 9 taken
        have hge : i = dmA fr to ne := by have := (nI_leI (by omega) (by omega)).mp c9; omega
        rw [hge] at hev
        refine lv_iconst (v := 0) hx hb dX7_hasOddCycle_34 (by decide) ?_
        refine hret 35 ls _ _ 0 (I1, A1, B1, C1, T1) dX7_hasOddCycle_35 rfl ?_ hP hD hS
        try dsimp only
        exact ⟨.inr ⟨rfl, hev⟩, w1.2.2.2⟩
      · -- 9 not
        have hlt : i < dmA fr to ne := Nat.lt_of_not_le (fun h => c9 (nI_le h (by omega)))
        have hz64 : rgA fr to ne i < 2 ^ 64 := Nat.lt_of_lt_of_le (hrb i hlt) (Nat.pow_le_pow_right (by omega) (by have := g.2.2.1; omega))
        have hszl : sz (rgA fr to ne i) 64 ≤ 64 := ct0_le _ _
        refine lv_aload_n hx hb dX7_hasOddCycle_12 rfl (lv_at hl 0 rfl) ?_
        refine va_get (D := (dC, dI)) (ci := 7) (v := .ref (R 20)) (C := RX7) (T := TX7) (N := 8) hx hb hts hinX7 hown hK hP 0 rfl rfl 7 (by decide) hf58 (fun _ h9 => h9) rfl dX7_hasOddCycle_13 ?_
        refine lv_iload_n hx hb dX7_hasOddCycle_16 rfl (lv_at hl 2 rfl) ?_
        have h17 : vp_in (nI i) 14 := vp_in_nI (by omega) (by decide)
        refine va_lald hx hb hK hP 20 1 rfl rfl h17 dX7_hasOddCycle_17 ?_
        refine lv_topl (fun x17 ex17 => ?_)
        have ex17 : x17 = B1 20 (nI i).toNatClampNeg := ex17
        have ex17 : x17 = lN (rgA fr to ne i) := by rw [ex17, nI_clamp (by omega)]; exact w1.2.1 i hlt
        subst ex17
        refine ct_calli hD hS hA (va_runS (As := [.long (lN (rgA fr to ne i))]) (rest := []) F ((k_J13_bitCount_95d88 l dC dI cI cJ cZ cII cJJ R I1 A1 B1 C1 T1 (rgA fr to ne i) hz64) _) (va_cwS 1 hts gX7_hasOddCycle_J13_bitCount_95d88 rfl rfl rfl (by decide +kernel) ⟨(Nat.le_of_ble_eq_true rfl), (Nat.le_of_ble_eq_true rfl)⟩) (ct_preS hK hN hP hD) rfl rfl hl.1 rfl (lv_room (Nat.le_of_ble_eq_true rfl)) dX7_hasOddCycle_18 ⟨(Nat.le_of_ble_eq_true rfl), (Nat.le_of_ble_eq_true rfl)⟩) (fun r18 u18 H locs w18 hP hD hS => ?_)
        obtain ⟨w18, rfl⟩ := w18
        have er18 : r18 = nI (sz (rgA fr to ne i) 64) := w18
        subst er18
        refine lv_iconst (v := 2) hx hb dX7_hasOddCycle_21 (by decide) ?_
        refine lv_irem hx hb dX7_hasOddCycle_22 (by decide) ?_
        refine lv_topi (fun x22 ex22 => ?_)
        have ex22 : x22 = nI (sz (rgA fr to ne i) 64 % 2) := by rw [ex22]; exact pk_rem (d := 2) (by omega) (by decide) (by decide)
        refine lv_if_eq (tgt := 28) hx hb dX7_hasOddCycle_23 (by decide) (fun c23 => ?_) (fun c23 => ?_)
        · -- 23 taken
          have c23 : sz (rgA fr to ne i) 64 % 2 = 0 := by rw [ex22] at c23; exact (nI_eq (b := 0) (by omega) (by decide)).mp c23
          obtain ⟨x28, ex28⟩ : ∃ zz : Int32, zz = nI i + (1) := ⟨_, rfl⟩
          refine lv_iinc (v := x28) (lv' := [(2, .int x28), (0, .ref (R 0)), (1, .int (nI (dmA fr to ne)))]) hx hb dX7_hasOddCycle_28 hl (k := 2) rfl (by rw [ex28]; rfl) (by decide) rfl (fun ls hl => ?_)
          have ex28 : x28 = nI (i + 1) := by rw [ex28]; exact nI_1 i
          subst ex28
          refine lv_goto (tgt := 7) hx hb dX7_hasOddCycle_31 (by decide) ?_
          exact ih7 (i + 1) ls _ _ (by omega) ⟨by omega, fun j hj => by rcases Nat.lt_or_ge j i with q | q; exact hev j q; rw [show j = i by omega]; exact c23⟩ hP hD hS (lv_sub hl [1, 2, 0] rfl)
        · -- 23 not
          have c23 : sz (rgA fr to ne i) 64 % 2 = 1 := by
            rcases Nat.mod_two_eq_zero_or_one (sz (rgA fr to ne i) 64) with q | q
            · rw [ex22, q] at c23; exact absurd rfl c23
            · exact q
          refine lv_iconst (v := 1) hx hb dX7_hasOddCycle_26 (by decide) ?_
          refine hret 27 ls _ _ 1 (I1, A1, B1, C1, T1) dX7_hasOddCycle_27 rfl ?_ hP hD hS
          try dsimp only
          exact ⟨.inl ⟨rfl, i, hlt, c23⟩, w1.2.2.2⟩
  exact K7 _ 0 ls _ _ (Nat.lt_succ_self _) ⟨Nat.zero_le _, fun j h => absurd h (Nat.not_lt_zero _)⟩ hP hD hS (lv_sub hl [2, 1, 0] rfl)
set_option maxHeartbeats 4000000 in
set_option maxRecDepth 100000 in
theorem k_X7_countEdgesInNoCycle (l : Launch) (dC : Nat → ClassId) (dI : Nat → Nat → Nat) (cI cJ cZ cII cJJ : ClassId) (R : Nat → Nat) (I : Nat → Int32) (A : Nat → Nat → Int32) (B : Nat → Nat → Int64) (C : Nat → Nat → Int32) (T : Nat → Nat → Int64) (nv ne : Nat) (fr to wt : Nat → Nat) (g : gH nv ne fr to wt I A) (hd : dmA fr to ne ≤ 14) : ctI l (dC, dI) (tyL cI cJ cZ cII cJJ) (HW cI cJ cII cJJ R) yX7_countEdgesInNoCycle wsX7_countEdgesInNoCycle (3, 90) [.ref (R 0)] (I, A, B, C, T) (fun r u => r = nI (ne - sz (orS (rgA fr to ne) (dmA fr to ne)) ne) ∧ fF I A B C T u) := by
  refine ctI_intro (cc := cX7_countEdgesInNoCycle) (maxL := 5) (by decide) rfl (Nat.le_of_ble_eq_true rfl) ?_
  intro p e s m below meth c ls Aa Q F hK hN hP hD hS hA hl hret
  have hx := F.1
  have hb := F.2.1
  have hown : s.vm.findClass RX7 = some m.cls := F.2.2.2.1
  have hts := F.2.2.2.2
  have hinX2 : ∀ w ∈ wsX20, w ∈ wsX7_countEdgesInNoCycle := by decide +kernel
  have hinX3 : ∀ w ∈ wsX30, w ∈ wsX7_countEdgesInNoCycle := by decide +kernel
  have hinX7 : ∀ w ∈ wsX70, w ∈ wsX7_countEdgesInNoCycle := by decide +kernel
  have hf58 := hts (.fieldLink RX7 58 "CycleHouse" "rings" "[J") (by decide +kernel)
  have hf10 := hts (.fieldLink RX7 10 "CycleHouse" "graph" "LCycleHouse$Graph;") (by decide +kernel)
  have hl : lv_has ls 5 [(0, .ref (R 0))] := hl
  have hrb := rgA_lt g
  have g3 := g.2.2.1
  have p64 : ∀ {z : Nat}, z < 2 ^ ne → z < 2 ^ 64 := fun h => Nat.lt_of_lt_of_le h (Nat.pow_le_pow_right (by omega) (by omega))
  refine lv_aload_n hx hb dX7_countEdgesInNoCycle_0 rfl (lv_at hl 0 rfl) ?_
  refine ct_calli hD hS hA (va_runV (As := []) (rest := []) F ((k_X7_fillRings l dC dI cI cJ cZ cII cJJ R I A B C T nv ne fr to wt g hd) _) (cwV 0 hts gX7_countEdgesInNoCycle_X7_fillRings rfl rfl rfl (by decide +kernel) ⟨(Nat.le_of_ble_eq_true rfl), (Nat.le_of_ble_eq_true rfl)⟩) (ct_preV 0 7 hK hN hP hD rfl rfl) rfl rfl hl.1 rfl (lv_room (Nat.le_of_ble_eq_true rfl)) dX7_countEdgesInNoCycle_1 ⟨(Nat.le_of_ble_eq_true rfl), (Nat.le_of_ble_eq_true rfl)⟩) (fun r1 u1 H locs w1 hP hD hS => ?_)
  obtain ⟨I1, A1, B1, C1, T1⟩ := u1
  have er1 : r1 = nI (dmA fr to ne) := w1.1
  subst er1
  refine lv_istore_n (lv' := [(1, .int (nI (dmA fr to ne))), (0, .ref (R 0))]) hx hb dX7_countEdgesInNoCycle_4 rfl hl (by decide) rfl (fun ls hl => ?_)
  refine lv_lconst (v := 0) hx hb dX7_countEdgesInNoCycle_5 (by decide) ?_
  refine lv_lstore_n (lv' := [(2, .long 0), (1, .int (nI (dmA fr to ne))), (0, .ref (R 0))]) hx hb dX7_countEdgesInNoCycle_6 rfl hl (by decide) rfl (fun ls hl => ?_)
  refine lv_iconst (v := 0) hx hb dX7_countEdgesInNoCycle_7 (by decide) ?_
  refine lv_istore (lv' := [(4, .int 0), (2, .long 0), (1, .int (nI (dmA fr to ne))), (0, .ref (R 0))]) hx hb dX7_countEdgesInNoCycle_8 hl (by decide) rfl (fun ls hl => ?_)
  have K10 : ∀ (kn : Nat) (i : Nat) (ls : Array Slot) (H : Heap) (locs : List Loc), dmA fr to ne - i < kn → (i ≤ dmA fr to ne) → va_P (dC, dI) vwCl (HW cI cJ cII cJJ R (I1, A1, B1, C1, T1)) H → va_D Aa (HW cI cJ cII cJJ R (I1, A1, B1, C1, T1)) → va_S Aa s.heap H locs → lv_has ls 5 [(0, .ref (R 0)), (1, .int (nI (dmA fr to ne))), (2, .long (lN (orS (rgA fr to ne) i))), (4, .int (nI i))] → W p l e (ctR (3, 90)) s m #[.ref (R 0)] below meth c H locs 0 0 Q (F0 m 10 ls []) := by
    intro kn
    induction kn with
    | zero => intro i ls H locs hmu; exact absurd hmu (Nat.not_lt_zero _)
    | succ kn ih10 =>
      intro i ls H locs mu10 inv10 hP hD hS hl
      have h64a : orS (rgA fr to ne) i < 2 ^ 64 := p64 (orS_lt i (fun j hj => hrb j (by omega)))
      refine lv_iload hx hb dX7_countEdgesInNoCycle_10 (lv_at hl 3 rfl) ?_
      refine lv_iload_n hx hb dX7_countEdgesInNoCycle_12 rfl (lv_at hl 1 rfl) ?_
      refine lv_icmp_ge (tgt := 32) hx hb dX7_countEdgesInNoCycle_13 (by decide) (fun c13 => ?_) (fun c13 => ?_)
      · -- 13 taken
        have hge : i = dmA fr to ne := by have := (nI_leI (by omega) (by omega)).mp c13; omega
        refine lv_aload_n hx hb dX7_countEdgesInNoCycle_32 rfl (lv_at hl 0 rfl) ?_
        refine va_get (D := (dC, dI)) (ci := 7) (v := .ref (R 1)) (C := RX7) (T := TX7) (N := 8) hx hb hts hinX7 hown hK hP 0 rfl rfl 0 (by decide) hf10 (fun _ h9 => h9) rfl dX7_countEdgesInNoCycle_33 ?_
        refine va_getN (D := (dC, dI)) (ci := 2) (v := .int (I1 1)) (C := RX2) (T := TX2) (N := 5) hx hb hts hinX2 hown hK hP 1 rfl rfl 1 (by decide) (nwOK.f hN RX7 69 "CycleHouse$Graph" "edges" "I" "CycleHouse" (by decide +kernel)) (fun _ h9 => h9) rfl dX7_countEdgesInNoCycle_36 ?_
        refine lv_lload_n hx hb dX7_countEdgesInNoCycle_39 rfl (lv_at hl 2 rfl) ?_
        refine ct_calli hD hS hA (va_runS (As := [.long (lN (orS (rgA fr to ne) i))]) (rest := [.int (I1 1)]) F ((k_J13_bitCount_95d88 l dC dI cI cJ cZ cII cJJ R I1 A1 B1 C1 T1 (orS (rgA fr to ne) i) h64a) _) (va_cwS 1 hts gX7_countEdgesInNoCycle_J13_bitCount_95d88 rfl rfl rfl (by decide +kernel) ⟨(Nat.le_of_ble_eq_true rfl), (Nat.le_of_ble_eq_true rfl)⟩) (ct_preS hK hN hP hD) rfl rfl hl.1 rfl (lv_room (Nat.le_of_ble_eq_true rfl)) dX7_countEdgesInNoCycle_40 ⟨(Nat.le_of_ble_eq_true rfl), (Nat.le_of_ble_eq_true rfl)⟩) (fun r40 u40 H locs w40 hP hD hS => ?_)
        obtain ⟨w40, rfl⟩ := w40
        have er40 : r40 = nI (sz (orS (rgA fr to ne) i) 64) := w40
        subst er40
        refine lv_isub hx hb dX7_countEdgesInNoCycle_43 ?_
        refine lv_topi (fun x43 ex43 => ?_)
        refine hret 44 ls _ _ x43 (I1, A1, B1, C1, T1) dX7_countEdgesInNoCycle_44 rfl ?_ hP hD hS
        try dsimp only
        exact ⟨by rw [ex43, hge, show I1 1 = nI ne from (w1.2.2.2.1 1 (by decide) (by decide)).trans g.2.2.2.2.1, sz_le2 (by omega) (orS_lt _ hrb)]; exact pk_sub (ct0_le _ _), w1.2.2.2⟩
      · -- 13 not
        have hlt : i < dmA fr to ne := Nat.lt_of_not_le (fun h => c13 (nI_le h (by omega)))
        have h64b := p64 (hrb i hlt)
        refine lv_lload_n hx hb dX7_countEdgesInNoCycle_16 rfl (lv_at hl 2 rfl) ?_
        refine lv_aload_n hx hb dX7_countEdgesInNoCycle_17 rfl (lv_at hl 0 rfl) ?_
        refine va_get (D := (dC, dI)) (ci := 7) (v := .ref (R 20)) (C := RX7) (T := TX7) (N := 8) hx hb hts hinX7 hown hK hP 0 rfl rfl 7 (by decide) hf58 (fun _ h9 => h9) rfl dX7_countEdgesInNoCycle_18 ?_
        refine lv_iload hx hb dX7_countEdgesInNoCycle_21 (lv_at hl 3 rfl) ?_
        have h23 : vp_in (nI i) 14 := vp_in_nI (by omega) (by decide)
        refine va_lald hx hb hK hP 20 1 rfl rfl h23 dX7_countEdgesInNoCycle_23 ?_
        refine lv_topl (fun x23 ex23 => ?_)
        have ex23 : x23 = B1 20 (nI i).toNatClampNeg := ex23
        have ex23 : x23 = lN (rgA fr to ne i) := by rw [ex23, nI_clamp (by omega)]; exact w1.2.1 i hlt
        subst ex23
        refine lv_lor hx hb dX7_countEdgesInNoCycle_24 ?_
        refine lv_topl (fun x24 ex24 => ?_)
        have ex24 : x24 = lN (orS (rgA fr to ne) (i + 1)) := by rw [ex24]; exact wb_or h64a h64b
        subst ex24
        refine lv_lstore_n (lv' := [(2, .long (lN (orS (rgA fr to ne) (i + 1)))), (0, .ref (R 0)), (1, .int (nI (dmA fr to ne))), (4, .int (nI i))]) hx hb dX7_countEdgesInNoCycle_25 rfl hl (by decide) rfl (fun ls hl => ?_)
        obtain ⟨x26, ex26⟩ : ∃ zz : Int32, zz = nI i + (1) := ⟨_, rfl⟩
        refine lv_iinc (v := x26) (lv' := [(4, .int x26), (2, .long (lN (orS (rgA fr to ne) (i + 1)))), (0, .ref (R 0)), (1, .int (nI (dmA fr to ne)))]) hx hb dX7_countEdgesInNoCycle_26 hl (k := 3) rfl (by rw [ex26]; rfl) (by decide) rfl (fun ls hl => ?_)
        have ex26 : x26 = nI (i + 1) := by rw [ex26]; exact nI_1 i
        subst ex26
        refine lv_goto (tgt := 10) hx hb dX7_countEdgesInNoCycle_29 (by decide) ?_
        exact ih10 (i + 1) ls _ _ (by omega) (by omega) hP hD hS (lv_sub hl [2, 3, 1, 0] rfl)
  exact K10 _ 0 ls _ _ (Nat.lt_succ_self _) (Nat.zero_le _) hP hD hS (lv_sub hl [3, 2, 1, 0] rfl)
set_option maxHeartbeats 4000000 in
set_option maxRecDepth 100000 in
theorem k_X7_light (l : Launch) (dC : Nat → ClassId) (dI : Nat → Nat → Nat) (cI cJ cZ cII cJJ : ClassId) (R : Nat → Nat) (I : Nat → Int32) (A : Nat → Nat → Int32) (B : Nat → Nat → Int64) (C : Nat → Nat → Int32) (T : Nat → Nat → Int64) (nv ne : Nat) (fr to wt : Nat → Nat) (w : Int64) (g : gH nv ne fr to wt I A) (hd : dmA fr to ne ≤ 14) : ctI l (dC, dI) (tyL cI cJ cZ cII cJJ) (HW cI cJ cII cJJ R) yX7_light wsX7_light (4, 120) [.ref (R 0), .long w] (I, A, B, C, T) (fun r u => r = nI (ct0 (2 ^ dmA fr to ne) (fun j => decide (lN (wsum wt (gS (rgA fr to ne) j) ne) ≤ w))) ∧ fF I A B C T u) := by
  refine ctI_intro (cc := cX7_light) (maxL := 12) (by decide) rfl (Nat.le_of_ble_eq_true rfl) ?_
  intro p e s m below meth c ls Aa Q F hK hN hP hD hS hA hl hret
  have hx := F.1
  have hb := F.2.1
  have hown : s.vm.findClass RX7 = some m.cls := F.2.2.2.1
  have hts := F.2.2.2.2
  have hinX2 : ∀ w ∈ wsX20, w ∈ wsX7_light := by decide +kernel
  have hinX3 : ∀ w ∈ wsX30, w ∈ wsX7_light := by decide +kernel
  have hinX7 : ∀ w ∈ wsX70, w ∈ wsX7_light := by decide +kernel
  have hf58 := hts (.fieldLink RX7 58 "CycleHouse" "rings" "[J") (by decide +kernel)
  have hf10 := hts (.fieldLink RX7 10 "CycleHouse" "graph" "LCycleHouse$Graph;") (by decide +kernel)
  have hl : lv_has ls 12 [(0, .ref (R 0)), (1, .long w)] := hl
  have hrb := rgA_lt g
  have g3 := g.2.2.1
  have hpw := pw14 hd
  have p64 : ∀ {z : Nat}, z < 2 ^ ne → z < 2 ^ 64 := fun h => Nat.lt_of_lt_of_le h (Nat.pow_le_pow_right (by omega) (by omega))
  refine lv_iconst (v := 1) hx hb dX7_light_0 (by decide) ?_
  refine lv_aload_n hx hb dX7_light_1 rfl (lv_at hl 0 rfl) ?_
  refine ct_calli hD hS hA (va_runV (As := []) (rest := [.int 1]) F ((k_X7_fillRings l dC dI cI cJ cZ cII cJJ R I A B C T nv ne fr to wt g hd) _) (cwV 0 hts gX7_light_X7_fillRings rfl rfl rfl (by decide +kernel) ⟨(Nat.le_of_ble_eq_true rfl), (Nat.le_of_ble_eq_true rfl)⟩) (ct_preV 0 7 hK hN hP hD rfl rfl) rfl rfl hl.1 rfl (lv_room (Nat.le_of_ble_eq_true rfl)) dX7_light_2 ⟨(Nat.le_of_ble_eq_true rfl), (Nat.le_of_ble_eq_true rfl)⟩) (fun r2 u2 H locs w2 hP hD hS => ?_)
  obtain ⟨I2, A2, B2, C2, T2⟩ := u2
  have er2 : r2 = nI (dmA fr to ne) := w2.1
  subst er2
  have gg := g.ff w2.2.2.2
  refine lv_ishl hx hb dX7_light_5 ?_
  refine lv_topi (fun x5 ex5 => ?_)
  have ex5 : x5 = nI (2 ^ dmA fr to ne) := by rw [ex5]; exact nm_ishl (by omega)
  subst ex5
  refine lv_istore_n (lv' := [(3, .int (nI (2 ^ dmA fr to ne))), (0, .ref (R 0)), (1, .long w)]) hx hb dX7_light_6 rfl hl (by decide) rfl (fun ls hl => ?_)
  refine lv_lconst (v := 0) hx hb dX7_light_7 (by decide) ?_
  refine lv_lstore (lv' := [(4, .long 0), (3, .int (nI (2 ^ dmA fr to ne))), (0, .ref (R 0)), (1, .long w)]) hx hb dX7_light_8 hl (by decide) rfl (fun ls hl => ?_)
  refine lv_lconst (v := 0) hx hb dX7_light_10 (by decide) ?_
  refine lv_lstore (lv' := [(6, .long 0), (4, .long 0), (3, .int (nI (2 ^ dmA fr to ne))), (0, .ref (R 0)), (1, .long w)]) hx hb dX7_light_11 hl (by decide) rfl (fun ls hl => ?_)
  have K25 : ∀ (y8 : Int32) (ls : Array Slot) (H : Heap) (locs : List Loc), (y8 = nI (ct0 1 (fun j => decide (lN (wsum wt (gS (rgA fr to ne) j) ne) ≤ w)))) → va_P (dC, dI) vwCl (HW cI cJ cII cJJ R (I2, A2, B2, C2, T2)) H → va_D Aa (HW cI cJ cII cJJ R (I2, A2, B2, C2, T2)) → va_S Aa s.heap H locs → lv_has ls 12 [(0, .ref (R 0)), (1, .long w), (3, .int (nI (2 ^ dmA fr to ne))), (4, .long 0), (6, .long 0)] → W p l e (ctR (4, 120)) s m #[.ref (R 0), .long w] below meth c H locs 0 0 Q (F0 m 25 ls [.int y8]) := by
    intro y8 ls H locs inv25 hP hD hS hl
    refine lv_istore (lv' := [(8, .int y8), (0, .ref (R 0)), (1, .long w), (3, .int (nI (2 ^ dmA fr to ne))), (4, .long 0), (6, .long 0)]) hx hb dX7_light_25 hl (by decide) rfl (fun ls hl => ?_)
    refine lv_iconst (v := 1) hx hb dX7_light_27 (by decide) ?_
    refine lv_istore (lv' := [(9, .int 1), (8, .int y8), (0, .ref (R 0)), (1, .long w), (3, .int (nI (2 ^ dmA fr to ne))), (4, .long 0), (6, .long 0)]) hx hb dX7_light_28 hl (by decide) rfl (fun ls hl => ?_)
    have K30 : ∀ (kn : Nat) (t : Nat) (y6 : Int64) (y : Int32) (ls : Array Slot) (H : Heap) (locs : List Loc), 2 ^ dmA fr to ne - t < kn → ((t < 2 ^ dmA fr to ne ∧ y = nI (ct0 (t + 1) (fun j => decide (lN (wsum wt (gS (rgA fr to ne) j) ne) ≤ w)))) ∧ y6 = lN (wsum wt (gS (rgA fr to ne) t) ne)) → va_P (dC, dI) vwCl (HW cI cJ cII cJJ R (I2, A2, B2, C2, T2)) H → va_D Aa (HW cI cJ cII cJJ R (I2, A2, B2, C2, T2)) → va_S Aa s.heap H locs → lv_has ls 12 [(0, .ref (R 0)), (1, .long w), (3, .int (nI (2 ^ dmA fr to ne))), (4, .long (lN (gS (rgA fr to ne) t))), (6, .long y6), (8, .int y), (9, .int (nI (t + 1)))] → W p l e (ctR (4, 120)) s m #[.ref (R 0), .long w] below meth c H locs 0 0 Q (F0 m 30 ls []) := by
      intro kn
      induction kn with
      | zero => intro t y6 y ls H locs hmu; exact absurd hmu (Nat.not_lt_zero _)
      | succ kn ih30 =>
        intro t y6 y ls H locs mu30 inv30 hP hD hS hl
        obtain ⟨⟨ht, ey⟩, ey6⟩ := inv30
        refine lv_iload hx hb dX7_light_30 (lv_at hl 6 rfl) ?_
        refine lv_iload_n hx hb dX7_light_32 rfl (lv_at hl 2 rfl) ?_
        refine lv_icmp_ge (tgt := 87) hx hb dX7_light_33 (by decide) (fun c33 => ?_) (fun c33 => ?_)
        · -- 33 taken
          have hge : t + 1 = 2 ^ dmA fr to ne := by have := (nI_leI (by omega) (by omega)).mp c33; omega
          rw [hge] at ey
          refine lv_iload hx hb dX7_light_87 (lv_at hl 5 rfl) ?_
          refine hret 89 ls _ _ y (I2, A2, B2, C2, T2) dX7_light_89 rfl ?_ hP hD hS
          try dsimp only
          exact ⟨ey, w2.2.2.2⟩
        · -- 33 not
          have hlt : t + 1 < 2 ^ dmA fr to ne := Nat.lt_of_not_le (fun h => c33 (nI_le h (by omega)))
          have hlw := low_lt (Nat.succ_ne_zero t) (by omega) hlt
          have hlw4 : low (t + 1) < 14 := Nat.lt_of_lt_of_le hlw hd
          have hlo := low_ok (Nat.succ_ne_zero t) (show t + 1 < 2 ^ 64 by omega)
          refine lv_aload_n hx hb dX7_light_36 rfl (lv_at hl 0 rfl) ?_
          refine va_get (D := (dC, dI)) (ci := 7) (v := .ref (R 20)) (C := RX7) (T := TX7) (N := 8) hx hb hts hinX7 hown hK hP 0 rfl rfl 7 (by decide) hf58 (fun _ h9 => h9) rfl dX7_light_37 ?_
          refine lv_iload hx hb dX7_light_40 (lv_at hl 6 rfl) ?_
          refine ct_calli hD hS hA (va_runS (As := [.int (nI (t + 1))]) (rest := [.ref (R 20)]) F ((k_J6_numberOfTrailingZeros_0f7a4 l dC dI cI cJ cZ cII cJJ R I2 A2 B2 C2 T2 (t + 1) (low (t + 1)) (Nat.lt_trans hlw4 (by decide)) hlo.1 hlo.2.2) _) (va_cwS 1 hts gX7_light_J6_numberOfTrailingZeros_0f7a4 rfl rfl rfl (by decide +kernel) ⟨(Nat.le_of_ble_eq_true rfl), (Nat.le_of_ble_eq_true rfl)⟩) (ct_preS hK hN hP hD) rfl rfl hl.1 rfl (lv_room (Nat.le_of_ble_eq_true rfl)) dX7_light_42 ⟨(Nat.le_of_ble_eq_true rfl), (Nat.le_of_ble_eq_true rfl)⟩) (fun r42 u42 H locs w42 hP hD hS => ?_)
          obtain ⟨w42, rfl⟩ := w42
          have er42 : r42 = nI (low (t + 1)) := w42
          subst er42
          have h45 : vp_in (nI (low (t + 1))) 14 := vp_in_nI hlw4 (by decide)
          refine va_lald hx hb hK hP 20 1 rfl rfl h45 dX7_light_45 ?_
          refine lv_topl (fun x45 ex45 => ?_)
          have ex45 : x45 = B2 20 (nI (low (t + 1))).toNatClampNeg := ex45
          have ex45 : x45 = lN (rgA fr to ne (low (t + 1))) := by rw [ex45, nI_clamp (Nat.lt_trans hlw4 (by decide))]; exact w2.2.1 _ hlw
          subst ex45
          refine lv_lstore (lv' := [(10, .long (lN (rgA fr to ne (low (t + 1))))), (0, .ref (R 0)), (1, .long w), (3, .int (nI (2 ^ dmA fr to ne))), (4, .long (lN (gS (rgA fr to ne) t))), (6, .long y6), (8, .int y), (9, .int (nI (t + 1)))]) hx hb dX7_light_46 hl (by decide) rfl (fun ls hl => ?_)
          refine lv_lload hx hb dX7_light_48 (lv_at hl 4 rfl) ?_
          refine lv_lload hx hb dX7_light_50 (lv_at hl 0 rfl) ?_
          refine lv_lxor hx hb dX7_light_52 ?_
          refine lv_topl (fun x52 ex52 => ?_)
          have ex52 : x52 = lN (gS (rgA fr to ne) (t + 1)) := by rw [ex52]; exact lN_xor _ _
          subst ex52
          refine lv_lstore (lv' := [(4, .long (lN (gS (rgA fr to ne) (t + 1)))), (10, .long (lN (rgA fr to ne (low (t + 1))))), (0, .ref (R 0)), (1, .long w), (3, .int (nI (2 ^ dmA fr to ne))), (6, .long y6), (8, .int y), (9, .int (nI (t + 1)))]) hx hb dX7_light_53 hl (by decide) rfl (fun ls hl => ?_)
          refine lv_lload hx hb dX7_light_55 (lv_at hl 5 rfl) ?_
          refine lv_aload_n hx hb dX7_light_57 rfl (lv_at hl 2 rfl) ?_
          refine va_get (D := (dC, dI)) (ci := 7) (v := .ref (R 1)) (C := RX7) (T := TX7) (N := 8) hx hb hts hinX7 hown hK hP 0 rfl rfl 0 (by decide) hf10 (fun _ h9 => h9) rfl dX7_light_58 ?_
          refine lv_lload hx hb dX7_light_61 (lv_at hl 1 rfl) ?_
          refine lv_lload hx hb dX7_light_63 (lv_at hl 0 rfl) ?_
          refine ct_calll hD hS hA (va_runV (As := [.long (lN (rgA fr to ne (low (t + 1)))), .long (lN (gS (rgA fr to ne) (t + 1)))]) (rest := [.long y6]) F ((k_X2_gain l dC dI cI cJ cZ cII cJJ R I2 A2 B2 C2 T2 nv ne fr to wt (rgA fr to ne (low (t + 1))) (gS (rgA fr to ne) (t + 1)) gg (hrb _ hlw) (p64 (gS_lt (by omega) hrb _ hlt))) _) (cwV 2 hts gX7_light_X2_gain rfl rfl rfl (by decide +kernel) ⟨(Nat.le_of_ble_eq_true rfl), (Nat.le_of_ble_eq_true rfl)⟩) (ct_preV 1 2 hK hN hP hD rfl rfl) rfl rfl hl.1 rfl (lv_room (Nat.le_of_ble_eq_true rfl)) dX7_light_65 ⟨(Nat.le_of_ble_eq_true rfl), (Nat.le_of_ble_eq_true rfl)⟩) (fun r65 u65 H locs w65 hP hD hS => ?_)
          obtain ⟨w65, rfl⟩ := w65
          refine lv_ladd hx hb dX7_light_68 ?_
          refine lv_topl (fun x68 ex68 => ?_)
          have ex68 : x68 = lN (wsum wt (gS (rgA fr to ne) (t + 1)) ne) := by rw [ex68, ey6, w65]; exact gn_step ne
          subst ex68
          refine lv_lstore (lv' := [(6, .long (lN (wsum wt (gS (rgA fr to ne) (t + 1)) ne))), (4, .long (lN (gS (rgA fr to ne) (t + 1)))), (10, .long (lN (rgA fr to ne (low (t + 1))))), (0, .ref (R 0)), (1, .long w), (3, .int (nI (2 ^ dmA fr to ne))), (8, .int y), (9, .int (nI (t + 1)))]) hx hb dX7_light_69 hl (by decide) rfl (fun ls hl => ?_)
          refine lv_lload hx hb dX7_light_71 (lv_at hl 0 rfl) ?_
          refine lv_lload_n hx hb dX7_light_73 rfl (lv_at hl 4 rfl) ?_
          refine W.lcmp hx hb dX7_light_74 ?_
          refine lv_if_gt (tgt := 81) hx hb dX7_light_75 (by decide) (fun c75 => ?_) (fun c75 => ?_)
          · -- 75 taken
            rw [lg_cmp_gt] at c75
            obtain ⟨x81, ex81⟩ : ∃ zz : Int32, zz = nI (t + 1) + (1) := ⟨_, rfl⟩
            refine lv_iinc (v := x81) (lv' := [(9, .int x81), (6, .long (lN (wsum wt (gS (rgA fr to ne) (t + 1)) ne))), (4, .long (lN (gS (rgA fr to ne) (t + 1)))), (10, .long (lN (rgA fr to ne (low (t + 1))))), (0, .ref (R 0)), (1, .long w), (3, .int (nI (2 ^ dmA fr to ne))), (8, .int y)]) hx hb dX7_light_81 hl (k := 7) rfl (by rw [ex81]; rfl) (by decide) rfl (fun ls hl => ?_)
            have ex81 : x81 = nI (t + 1 + 1) := by rw [ex81]; exact nI_1 _
            subst ex81
            refine lv_goto (tgt := 30) hx hb dX7_light_84 (by decide) ?_
            exact ih30 (t + 1) (lN (wsum wt (gS (rgA fr to ne) (t + 1)) ne)) y ls _ _ (by omega) ⟨⟨hlt, by rw [ct0_f (decide_eq_false (fun h => lg_nle h c75))]; exact ey⟩, rfl⟩ hP hD hS (lv_sub hl [4, 5, 6, 2, 1, 7, 0] rfl)
          · -- 75 not
            rw [lg_cmp_gt] at c75
            obtain ⟨x78, ex78⟩ : ∃ zz : Int32, zz = y + (1) := ⟨_, rfl⟩
            refine lv_iinc (v := x78) (lv' := [(8, .int x78), (6, .long (lN (wsum wt (gS (rgA fr to ne) (t + 1)) ne))), (4, .long (lN (gS (rgA fr to ne) (t + 1)))), (10, .long (lN (rgA fr to ne (low (t + 1))))), (0, .ref (R 0)), (1, .long w), (3, .int (nI (2 ^ dmA fr to ne))), (9, .int (nI (t + 1)))]) hx hb dX7_light_78 hl (k := 6) rfl (by rw [ex78]; rfl) (by decide) rfl (fun ls hl => ?_)
            obtain ⟨x81, ex81⟩ : ∃ zz : Int32, zz = nI (t + 1) + (1) := ⟨_, rfl⟩
            refine lv_iinc (v := x81) (lv' := [(9, .int x81), (8, .int x78), (6, .long (lN (wsum wt (gS (rgA fr to ne) (t + 1)) ne))), (4, .long (lN (gS (rgA fr to ne) (t + 1)))), (10, .long (lN (rgA fr to ne (low (t + 1))))), (0, .ref (R 0)), (1, .long w), (3, .int (nI (2 ^ dmA fr to ne)))]) hx hb dX7_light_81 hl (k := 7) rfl (by rw [ex81]; rfl) (by decide) rfl (fun ls hl => ?_)
            have ex81 : x81 = nI (t + 1 + 1) := by rw [ex81]; exact nI_1 _
            subst ex81
            refine lv_goto (tgt := 30) hx hb dX7_light_84 (by decide) ?_
            exact ih30 (t + 1) (lN (wsum wt (gS (rgA fr to ne) (t + 1)) ne)) x78 ls _ _ (by omega) ⟨⟨hlt, by rw [ct0_t (decide_eq_true (lg_le c75)), ex78, ey]; exact nI_1 _⟩, rfl⟩ hP hD hS (lv_sub hl [5, 6, 7, 3, 2, 1, 0] rfl)
    exact K30 _ 0 0 y8 ls _ _ (Nat.lt_succ_self _) ⟨⟨Nat.two_pow_pos _, inv25⟩, by rw [show gS (rgA fr to ne) 0 = 0 from rfl, wsum_zero]; rfl⟩ hP hD hS (lv_sub hl [2, 3, 4, 5, 6, 1, 0] rfl)
  refine lv_lload hx hb dX7_light_13 (lv_at hl 0 rfl) ?_
  refine lv_lload_n hx hb dX7_light_15 rfl (lv_at hl 4 rfl) ?_
  refine W.lcmp hx hb dX7_light_16 ?_
  refine lv_if_gt (tgt := 24) hx hb dX7_light_17 (by decide) (fun c17 => ?_) (fun c17 => ?_)
  · -- 17 taken
    rw [lg_cmp_gt] at c17
    refine lv_iconst (v := 0) hx hb dX7_light_24 (by decide) ?_
    exact K25 0 ls _ _  (by rw [ct0_f (by rw [show lN (wsum wt (gS (rgA fr to ne) 0) ne) = 0 by rw [show gS (rgA fr to ne) 0 = 0 from rfl, wsum_zero]; rfl]; exact decide_eq_false (fun h => lg_nle h c17))]; rfl) hP hD hS (lv_sub hl [3, 4, 2, 1, 0] rfl)
  · -- 17 not
    rw [lg_cmp_gt] at c17
    refine lv_iconst (v := 1) hx hb dX7_light_20 (by decide) ?_
    refine lv_goto (tgt := 25) hx hb dX7_light_21 (by decide) ?_
    exact K25 1 ls _ _  (by rw [ct0_t (by rw [show lN (wsum wt (gS (rgA fr to ne) 0) ne) = 0 by rw [show gS (rgA fr to ne) 0 = 0 from rfl, wsum_zero]; rfl]; exact decide_eq_true (lg_le c17))]; rfl) hP hD hS (lv_sub hl [3, 4, 2, 1, 0] rfl)
