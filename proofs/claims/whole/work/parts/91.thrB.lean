set_option maxHeartbeats 4000000 in
set_option maxRecDepth 100000 in
theorem k_X7_forests (l : Launch) (dC : Nat → ClassId) (dI : Nat → Nat → Nat) (cI cJ cZ cII cJJ : ClassId) (R : Nat → Nat) (hlt : l.stackTraces = false) (I : Nat → Int32) (A : Nat → Nat → Int32) (B : Nat → Nat → Int64) (C : Nat → Nat → Int32) (T : Nat → Nat → Int64) (nv ne : Nat) (fr to wt : Nat → Nat) (z : Nat) (g : gH nv ne fr to wt I A) (hd : dmA fr to ne ≤ 14) (hz : z < 2 ^ 64) : cxL l (dC, dI) (tyL cI cJ cZ cII cJJ) (HW cI cJ cII cJJ R) yX7_forests wsX7_forests (7, 170) 2 [.ref (R 0), .long (lN z)] (I, A, B, C, T) (fun r u => z < 2 ^ ne ∧ fK I A B u ∧ r = (if (jRun fr to z ne).2.2.1 = 0 then iL (bsz nv (lgI fr to (jRun fr to z ne) ne) nv).2 else 0)) (fun E u => E = nIA ∧ ¬ z < 2 ^ ne ∧ fK I A B u) := by
  refine cxL_intro (cc := cX7_forests) (maxL := 3) hlt (Nat.le_of_ble_eq_true rfl) (Nat.le_of_ble_eq_true rfl) (by decide) rfl (Nat.le_of_ble_eq_true rfl) ?_
  intro p e s m below meth c ls Aa Q F hK hN hX hP hD hS hA hl hret hthr hthn hxo
  have hx := F.1
  have hb := F.2.1
  have hown : s.vm.findClass RX7 = some m.cls := F.2.2.2.1
  have hts := F.2.2.2.2
  have hinX1 : ∀ w ∈ wsX10, w ∈ wsX7_forests := by decide +kernel
  have hinX2 : ∀ w ∈ wsX20, w ∈ wsX7_forests := by decide +kernel
  have hinX3 : ∀ w ∈ wsX30, w ∈ wsX7_forests := by decide +kernel
  have hinX7 : ∀ w ∈ wsX70, w ∈ wsX7_forests := by decide +kernel
  have hf47 := hts (.fieldLink RX7 47 "CycleHouse" "forestCount" "LCycleHouse$ForestCount;") (by decide +kernel)
  have hf10 := hts (.fieldLink RX7 10 "CycleHouse" "graph" "LCycleHouse$Graph;") (by decide +kernel)
  have hf26 := hts (.fieldLink RX7 26 "CycleHouse" "groups" "LCycleHouse$Groups;") (by decide +kernel)
  have hl : lv_has ls 3 [(0, .ref (R 0)), (1, .long (lN z))] := hl
  have hft := (forest_tie (z := z) g.2.1 (ne29 g hd) g.en).2.2
  have hjl := Nat.le_trans (jd_lt (fr := fr) (to := to) (s := z) (k := ne)) g.2.2.1
  refine lv_aload_n hx hb dX7_forests_0 rfl (lv_at hl 0 rfl) ?_
  refine lv_lload_n hx hb dX7_forests_1 rfl (lv_at hl 1 rfl) ?_
  refine cx_callv hD hS hA (vx_runV (As := [.long (lN z)]) (rest := []) F ((k_X7_checkEdges l dC dI cI cJ cZ cII cJJ R hlt I A B C T nv ne fr to wt z g hz) _) (cwV 1 hts gX7_forests_X7_checkEdges rfl rfl rfl (by decide +kernel) ⟨(Nat.le_of_ble_eq_true rfl), (Nat.le_of_ble_eq_true rfl)⟩) (cx_preV 0 7 hK hN hX hS hA hP hD rfl rfl) rfl rfl hl.1 rfl (lv_room (Nat.le_of_ble_eq_true rfl)) dX7_forests_2 ⟨(Nat.le_of_ble_eq_true rfl), (Nat.le_of_ble_eq_true rfl)⟩) (fun E9 ce9 q9 u9 H9 locs9 a1 a2 a3 a4 a5 a6 a7 => hxo 2 ls H9 locs9 _ E9 ce9 q9 u9 _ _ (Nat.le_of_ble_eq_true rfl) (Nat.le_of_ble_eq_true rfl) a1 a2 a3 ⟨a4.1, a4.2.1, by rw [a4.2.2]; exact fK.rf⟩ a5 a6 a7) (fun u2 H locs w2 hP hD hS => ?_)
  obtain ⟨w2, rfl⟩ := w2
  refine lv_aload_n hx hb dX7_forests_5 rfl (lv_at hl 0 rfl) ?_
  refine lv_lload_n hx hb dX7_forests_6 rfl (lv_at hl 1 rfl) ?_
  refine ct_calli hD hS hA (va_runV (As := [.long (lN z)]) (rest := []) F ((k_X7_joinSet l dC dI cI cJ cZ cII cJJ R I A B C T nv ne fr to wt z g hz) _) (cwV 1 hts gX7_forests_X7_joinSet rfl rfl rfl (by decide +kernel) ⟨(Nat.le_of_ble_eq_true rfl), (Nat.le_of_ble_eq_true rfl)⟩) (ct_preV 0 7 hK hN hP hD rfl rfl) rfl rfl hl.1 rfl (lv_room (Nat.le_of_ble_eq_true rfl)) dX7_forests_7 ⟨(Nat.le_of_ble_eq_true rfl), (Nat.le_of_ble_eq_true rfl)⟩) (fun r7 u7 H locs w7 hP hD hS => ?_)
  obtain ⟨I7, A7, B7, C7, T7⟩ := u7
  refine lv_if_eq (tgt := 15) hx hb dX7_forests_10 (by decide) (fun c10 => ?_) (fun c10 => ?_)
  · -- 10 taken
    have c10 : (jRun fr to z ne).2.2.1 = 0 := by rw [w7.1] at c10; exact (nI_eq (b := 0) (by omega) (by decide)).mp c10
    refine lv_aload_n hx hb dX7_forests_15 rfl (lv_at hl 0 rfl) ?_
    refine va_get (D := (dC, dI)) (ci := 7) (v := .ref (R 18)) (C := RX7) (T := TX7) (N := 8) hx hb hts hinX7 hown hK hP 0 rfl rfl 5 (by decide) hf47 (fun _ h9 => h9) rfl dX7_forests_16 ?_
    refine lv_aload_n hx hb dX7_forests_19 rfl (lv_at hl 0 rfl) ?_
    refine va_get (D := (dC, dI)) (ci := 7) (v := .ref (R 1)) (C := RX7) (T := TX7) (N := 8) hx hb hts hinX7 hown hK hP 0 rfl rfl 0 (by decide) hf10 (fun _ h9 => h9) rfl dX7_forests_20 ?_
    refine lv_aload_n hx hb dX7_forests_23 rfl (lv_at hl 0 rfl) ?_
    refine va_get (D := (dC, dI)) (ci := 7) (v := .ref (R 7)) (C := RX7) (T := TX7) (N := 8) hx hb hts hinX7 hown hK hP 0 rfl rfl 2 (by decide) hf26 (fun _ h9 => h9) rfl dX7_forests_24 ?_
    refine ct_calll hD hS hA (va_runV (As := [.ref (R 1), .ref (R 7)]) (rest := []) F ((k_X1_count l dC dI cI cJ cZ cII cJJ R I7 A7 B7 C7 T7 nv ne fr to wt (jRun fr to z ne) (g.fg w7.2.2) w7.2.1.1 hft) _) (cwV 2 hts gX7_forests_X1_count rfl rfl rfl (by decide +kernel) ⟨(Nat.le_of_ble_eq_true rfl), (Nat.le_of_ble_eq_true rfl)⟩) (ct_preV 18 1 hK hN hP hD rfl rfl) rfl rfl hl.1 rfl (lv_room (Nat.le_of_ble_eq_true rfl)) dX7_forests_27 ⟨(Nat.le_of_ble_eq_true rfl), (Nat.le_of_ble_eq_true rfl)⟩) (fun r27 u27 H locs w27 hP hD hS => ?_)
    obtain ⟨I27, A27, B27, C27, T27⟩ := u27
    refine hret 30 ls _ _ r27 (I27, A27, B27, C27, T27) _ _ (Nat.le_of_ble_eq_true rfl) (Nat.le_of_ble_eq_true rfl) dX7_forests_30 ?_ hP hD hS
    try dsimp only
    exact ⟨w2, w7.2.2.k.tr (by rw [show I27 = I7 from w27.2.1, show A27 = A7 from w27.2.2.1, show B27 = B7 from w27.2.2.2.1]; exact fK.rf), by rw [if_pos c10]; exact w27.1⟩
  · -- 10 not
    have c10 : ¬ (jRun fr to z ne).2.2.1 = 0 := fun h => c10 (by rw [w7.1, h]; rfl)
    refine lv_lconst (v := 0) hx hb dX7_forests_13 (by decide) ?_
    refine hret 14 ls _ _ 0 (I7, A7, B7, C7, T7) _ _ (Nat.le_of_ble_eq_true rfl) (Nat.le_of_ble_eq_true rfl) dX7_forests_14 ?_ hP hD hS
    try dsimp only
    exact ⟨w2, w7.2.2.k, by rw [if_neg c10]⟩
set_option maxHeartbeats 4000000 in
set_option maxRecDepth 100000 in
theorem k_X7_lightest (l : Launch) (dC : Nat → ClassId) (dI : Nat → Nat → Nat) (cI cJ cZ cII cJJ : ClassId) (R : Nat → Nat) (hlt : l.stackTraces = false) (I : Nat → Int32) (A : Nat → Nat → Int32) (B : Nat → Nat → Int64) (C : Nat → Nat → Int32) (T : Nat → Nat → Int64) (nv ne : Nat) (fr to wt : Nat → Nat) (z : Nat) (g : gH nv ne fr to wt I A) (hz : z < 2 ^ 64) : cxL l (dC, dI) (tyL cI cJ cZ cII cJJ) (HW cI cJ cII cJJ R) yX7_lightest wsX7_lightest (7, 170) 2 [.ref (R 0), .long (lN z)] (I, A, B, C, T) (fun r u => z < 2 ^ ne ∧ fK I A B u ∧ r = (if (jRun fr to z ne).2.2.1 = 0 then lN (wsum wt z ne) + lN (lgo fr to wt ne (nv - 1) (jRun fr to z ne) 0) else -1)) (fun E u => E = nIA ∧ ¬ z < 2 ^ ne ∧ fK I A B u) := by
  refine cxL_intro (cc := cX7_lightest) (maxL := 3) hlt (Nat.le_of_ble_eq_true rfl) (Nat.le_of_ble_eq_true rfl) (by decide) rfl (Nat.le_of_ble_eq_true rfl) ?_
  intro p e s m below meth c ls Aa Q F hK hN hX hP hD hS hA hl hret hthr hthn hxo
  have hx := F.1
  have hb := F.2.1
  have hown : s.vm.findClass RX7 = some m.cls := F.2.2.2.1
  have hts := F.2.2.2.2
  have hinX2 : ∀ w ∈ wsX20, w ∈ wsX7_lightest := by decide +kernel
  have hinX3 : ∀ w ∈ wsX30, w ∈ wsX7_lightest := by decide +kernel
  have hinX7 : ∀ w ∈ wsX70, w ∈ wsX7_lightest := by decide +kernel
  have hf10 := hts (.fieldLink RX7 10 "CycleHouse" "graph" "LCycleHouse$Graph;") (by decide +kernel)
  have hl : lv_has ls 3 [(0, .ref (R 0)), (1, .long (lN z))] := hl
  have hjl := Nat.le_trans (jd_lt (fr := fr) (to := to) (s := z) (k := ne)) g.2.2.1
  refine lv_aload_n hx hb dX7_lightest_0 rfl (lv_at hl 0 rfl) ?_
  refine lv_lload_n hx hb dX7_lightest_1 rfl (lv_at hl 1 rfl) ?_
  refine cx_callv hD hS hA (vx_runV (As := [.long (lN z)]) (rest := []) F ((k_X7_checkEdges l dC dI cI cJ cZ cII cJJ R hlt I A B C T nv ne fr to wt z g hz) _) (cwV 1 hts gX7_lightest_X7_checkEdges rfl rfl rfl (by decide +kernel) ⟨(Nat.le_of_ble_eq_true rfl), (Nat.le_of_ble_eq_true rfl)⟩) (cx_preV 0 7 hK hN hX hS hA hP hD rfl rfl) rfl rfl hl.1 rfl (lv_room (Nat.le_of_ble_eq_true rfl)) dX7_lightest_2 ⟨(Nat.le_of_ble_eq_true rfl), (Nat.le_of_ble_eq_true rfl)⟩) (fun E9 ce9 q9 u9 H9 locs9 a1 a2 a3 a4 a5 a6 a7 => hxo 2 ls H9 locs9 _ E9 ce9 q9 u9 _ _ (Nat.le_of_ble_eq_true rfl) (Nat.le_of_ble_eq_true rfl) a1 a2 a3 ⟨a4.1, a4.2.1, by rw [a4.2.2]; exact fK.rf⟩ a5 a6 a7) (fun u2 H locs w2 hP hD hS => ?_)
  obtain ⟨w2, rfl⟩ := w2
  refine lv_aload_n hx hb dX7_lightest_5 rfl (lv_at hl 0 rfl) ?_
  refine lv_lload_n hx hb dX7_lightest_6 rfl (lv_at hl 1 rfl) ?_
  refine ct_calli hD hS hA (va_runV (As := [.long (lN z)]) (rest := []) F ((k_X7_joinSet l dC dI cI cJ cZ cII cJJ R I A B C T nv ne fr to wt z g hz) _) (cwV 1 hts gX7_lightest_X7_joinSet rfl rfl rfl (by decide +kernel) ⟨(Nat.le_of_ble_eq_true rfl), (Nat.le_of_ble_eq_true rfl)⟩) (ct_preV 0 7 hK hN hP hD rfl rfl) rfl rfl hl.1 rfl (lv_room (Nat.le_of_ble_eq_true rfl)) dX7_lightest_7 ⟨(Nat.le_of_ble_eq_true rfl), (Nat.le_of_ble_eq_true rfl)⟩) (fun r7 u7 H locs w7 hP hD hS => ?_)
  obtain ⟨I7, A7, B7, C7, T7⟩ := u7
  refine lv_if_eq (tgt := 17) hx hb dX7_lightest_10 (by decide) (fun c10 => ?_) (fun c10 => ?_)
  · -- 10 taken
    have c10 : (jRun fr to z ne).2.2.1 = 0 := by rw [w7.1] at c10; exact (nI_eq (b := 0) (by omega) (by decide)).mp c10
    refine lv_aload_n hx hb dX7_lightest_17 rfl (lv_at hl 0 rfl) ?_
    refine va_get (D := (dC, dI)) (ci := 7) (v := .ref (R 1)) (C := RX7) (T := TX7) (N := 8) hx hb hts hinX7 hown hK hP 0 rfl rfl 0 (by decide) hf10 (fun _ h9 => h9) rfl dX7_lightest_18 ?_
    refine lv_lload_n hx hb dX7_lightest_21 rfl (lv_at hl 1 rfl) ?_
    refine ct_calll hD hS hA (va_runV (As := [.long (lN z)]) (rest := []) F ((k_X2_weigh l dC dI cI cJ cZ cII cJJ R I7 A7 B7 C7 T7 nv ne fr to wt z (g.fg w7.2.2) w2) _) (cwV 1 hts gX7_lightest_X2_weigh rfl rfl rfl (by decide +kernel) ⟨(Nat.le_of_ble_eq_true rfl), (Nat.le_of_ble_eq_true rfl)⟩) (ct_preV 1 2 hK hN hP hD rfl rfl) rfl rfl hl.1 rfl (lv_room (Nat.le_of_ble_eq_true rfl)) dX7_lightest_22 ⟨(Nat.le_of_ble_eq_true rfl), (Nat.le_of_ble_eq_true rfl)⟩) (fun r22 u22 H locs w22 hP hD hS => ?_)
    obtain ⟨w22, rfl⟩ := w22
    refine lv_aload_n hx hb dX7_lightest_25 rfl (lv_at hl 0 rfl) ?_
    refine ct_calll hD hS hA (va_runV (As := []) (rest := [.long r22]) F ((k_X7_weightOfLightestJoins l dC dI cI cJ cZ cII cJJ R I7 A7 B7 C7 T7 nv ne fr to wt (jRun fr to z ne) (g.fg w7.2.2) w7.2.1 (jI_run ne (fun e he _ => g.en e he))) _) (cwV 0 hts gX7_lightest_X7_weightOfLightestJoins rfl rfl rfl (by decide +kernel) ⟨(Nat.le_of_ble_eq_true rfl), (Nat.le_of_ble_eq_true rfl)⟩) (ct_preV 0 7 hK hN hP hD rfl rfl) rfl rfl hl.1 rfl (lv_room (Nat.le_of_ble_eq_true rfl)) dX7_lightest_26 ⟨(Nat.le_of_ble_eq_true rfl), (Nat.le_of_ble_eq_true rfl)⟩) (fun r26 u26 H locs w26 hP hD hS => ?_)
    obtain ⟨I26, A26, B26, C26, T26⟩ := u26
    refine lv_ladd hx hb dX7_lightest_29 ?_
    refine lv_topl (fun x29 ex29 => ?_)
    refine hret 30 ls _ _ x29 (I26, A26, B26, C26, T26) _ _ (Nat.le_of_ble_eq_true rfl) (Nat.le_of_ble_eq_true rfl) dX7_lightest_30 ?_ hP hD hS
    try dsimp only
    exact ⟨w2, w7.2.2.k.tr w26.2.k, by rw [if_pos c10, ex29, w22, w26.1]⟩
  · -- 10 not
    have c10 : ¬ (jRun fr to z ne).2.2.1 = 0 := fun h => c10 (by rw [w7.1, h]; rfl)
    refine lv_ldc2 (v := (-1)) hx hb hown (hts (.constantLong RX7 122 (-1)) (by decide +kernel)) dX7_lightest_13 ?_
    refine hret 16 ls _ _ ((-1)) (I7, A7, B7, C7, T7) _ _ (Nat.le_of_ble_eq_true rfl) (Nat.le_of_ble_eq_true rfl) dX7_lightest_16 ?_ hP hD hS
    try dsimp only
    exact ⟨w2, w7.2.2.k, by rw [if_neg c10]⟩
set_option maxHeartbeats 4000000 in
set_option maxRecDepth 100000 in
theorem k_X7_isCycle (l : Launch) (dC : Nat → ClassId) (dI : Nat → Nat → Nat) (cI cJ cZ cII cJJ : ClassId) (R : Nat → Nat) (hlt : l.stackTraces = false) (I : Nat → Int32) (A : Nat → Nat → Int32) (B : Nat → Nat → Int64) (C : Nat → Nat → Int32) (T : Nat → Nat → Int64) (nv ne : Nat) (fr to wt : Nat → Nat) (z : Nat) (g : gH nv ne fr to wt I A) (hz : z < 2 ^ 64) : cxI l (dC, dI) (tyL cI cJ cZ cII cJJ) (HW cI cJ cII cJJ R) yX7_isCycle wsX7_isCycle (7, 170) 2 [.ref (R 0), .long (lN z)] (I, A, B, C, T) (fun r u => z < 2 ^ ne ∧ fK I A B u ∧ r = (if evn fr to nv ne z then (if (jRun fr to z ne).2.2.1 = 1 then 2 else 1) else 0)) (fun E u => E = nIA ∧ ¬ z < 2 ^ ne ∧ fK I A B u) := by
  refine cxI_intro (cc := cX7_isCycle) (maxL := 3) hlt (Nat.le_of_ble_eq_true rfl) (Nat.le_of_ble_eq_true rfl) (by decide) rfl (Nat.le_of_ble_eq_true rfl) ?_
  intro p e s m below meth c ls Aa Q F hK hN hX hP hD hS hA hl hret hthr hthn hxo
  have hx := F.1
  have hb := F.2.1
  have hown : s.vm.findClass RX7 = some m.cls := F.2.2.2.1
  have hts := F.2.2.2.2
  have hinX2 : ∀ w ∈ wsX20, w ∈ wsX7_isCycle := by decide +kernel
  have hinX3 : ∀ w ∈ wsX30, w ∈ wsX7_isCycle := by decide +kernel
  have hinX7 : ∀ w ∈ wsX70, w ∈ wsX7_isCycle := by decide +kernel
  have hf10 := hts (.fieldLink RX7 10 "CycleHouse" "graph" "LCycleHouse$Graph;") (by decide +kernel)
  have hl : lv_has ls 3 [(0, .ref (R 0)), (1, .long (lN z))] := hl
  have hjl := Nat.le_trans (jd_lt (fr := fr) (to := to) (s := z) (k := ne)) g.2.2.1
  refine lv_aload_n hx hb dX7_isCycle_0 rfl (lv_at hl 0 rfl) ?_
  refine lv_lload_n hx hb dX7_isCycle_1 rfl (lv_at hl 1 rfl) ?_
  refine cx_callv hD hS hA (vx_runV (As := [.long (lN z)]) (rest := []) F ((k_X7_checkEdges l dC dI cI cJ cZ cII cJJ R hlt I A B C T nv ne fr to wt z g hz) _) (cwV 1 hts gX7_isCycle_X7_checkEdges rfl rfl rfl (by decide +kernel) ⟨(Nat.le_of_ble_eq_true rfl), (Nat.le_of_ble_eq_true rfl)⟩) (cx_preV 0 7 hK hN hX hS hA hP hD rfl rfl) rfl rfl hl.1 rfl (lv_room (Nat.le_of_ble_eq_true rfl)) dX7_isCycle_2 ⟨(Nat.le_of_ble_eq_true rfl), (Nat.le_of_ble_eq_true rfl)⟩) (fun E9 ce9 q9 u9 H9 locs9 a1 a2 a3 a4 a5 a6 a7 => hxo 2 ls H9 locs9 _ E9 ce9 q9 u9 _ _ (Nat.le_of_ble_eq_true rfl) (Nat.le_of_ble_eq_true rfl) a1 a2 a3 ⟨a4.1, a4.2.1, by rw [a4.2.2]; exact fK.rf⟩ a5 a6 a7) (fun u2 H locs w2 hP hD hS => ?_)
  obtain ⟨w2, rfl⟩ := w2
  refine lv_aload_n hx hb dX7_isCycle_5 rfl (lv_at hl 0 rfl) ?_
  refine va_get (D := (dC, dI)) (ci := 7) (v := .ref (R 1)) (C := RX7) (T := TX7) (N := 8) hx hb hts hinX7 hown hK hP 0 rfl rfl 0 (by decide) hf10 (fun _ h9 => h9) rfl dX7_isCycle_6 ?_
  refine lv_lload_n hx hb dX7_isCycle_9 rfl (lv_at hl 1 rfl) ?_
  refine ct_calli hD hS hA (va_runV (As := [.long (lN z)]) (rest := []) F ((k_X2_isEven l dC dI cI cJ cZ cII cJJ R I A B C T nv ne fr to wt z g hz) _) (cwV 1 hts gX7_isCycle_X2_isEven rfl rfl rfl (by decide +kernel) ⟨(Nat.le_of_ble_eq_true rfl), (Nat.le_of_ble_eq_true rfl)⟩) (ct_preV 1 2 hK hN hP hD rfl rfl) rfl rfl hl.1 rfl (lv_room (Nat.le_of_ble_eq_true rfl)) dX7_isCycle_10 ⟨(Nat.le_of_ble_eq_true rfl), (Nat.le_of_ble_eq_true rfl)⟩) (fun r10 u10 H locs w10 hP hD hS => ?_)
  obtain ⟨w10, rfl⟩ := w10
  refine lv_if_ne (tgt := 18) hx hb dX7_isCycle_13 (by decide) (fun c13 => ?_) (fun c13 => ?_)
  · -- 13 taken
    have c13 : evn fr to nv ne z := Classical.byContradiction (fun h => c13 (by rw [w10, if_neg h]))
    refine lv_aload_n hx hb dX7_isCycle_18 rfl (lv_at hl 0 rfl) ?_
    refine lv_lload_n hx hb dX7_isCycle_19 rfl (lv_at hl 1 rfl) ?_
    refine ct_calli hD hS hA (va_runV (As := [.long (lN z)]) (rest := []) F ((k_X7_joinSet l dC dI cI cJ cZ cII cJJ R I A B C T nv ne fr to wt z g hz) _) (cwV 1 hts gX7_isCycle_X7_joinSet rfl rfl rfl (by decide +kernel) ⟨(Nat.le_of_ble_eq_true rfl), (Nat.le_of_ble_eq_true rfl)⟩) (ct_preV 0 7 hK hN hP hD rfl rfl) rfl rfl hl.1 rfl (lv_room (Nat.le_of_ble_eq_true rfl)) dX7_isCycle_20 ⟨(Nat.le_of_ble_eq_true rfl), (Nat.le_of_ble_eq_true rfl)⟩) (fun r20 u20 H locs w20 hP hD hS => ?_)
    obtain ⟨I20, A20, B20, C20, T20⟩ := u20
    refine lv_iconst (v := 1) hx hb dX7_isCycle_23 (by decide) ?_
    refine lv_icmp_ne (tgt := 31) hx hb dX7_isCycle_24 (by decide) (fun c24 => ?_) (fun c24 => ?_)
    · -- 24 taken
      have c24 : ¬ (jRun fr to z ne).2.2.1 = 1 := fun h => c24 (by rw [w20.1, h]; rfl)
      refine lv_iconst (v := 1) hx hb dX7_isCycle_31 (by decide) ?_
      refine hret 32 ls _ _ 1 (I20, A20, B20, C20, T20) _ _ (Nat.le_of_ble_eq_true rfl) (Nat.le_of_ble_eq_true rfl) dX7_isCycle_32 rfl ?_ hP hD hS
      try dsimp only
      exact ⟨w2, w20.2.2.k, by rw [if_pos c13, if_neg c24]⟩
    · -- 24 not
      have c24 : (jRun fr to z ne).2.2.1 = 1 := by rw [w20.1] at c24; exact (nI_eq (b := 1) (by omega) (by decide)).mp c24
      refine lv_iconst (v := 2) hx hb dX7_isCycle_27 (by decide) ?_
      refine lv_goto (tgt := 32) hx hb dX7_isCycle_28 (by decide) ?_
      refine hret 32 ls _ _ 2 (I20, A20, B20, C20, T20) _ _ (Nat.le_of_ble_eq_true rfl) (Nat.le_of_ble_eq_true rfl) dX7_isCycle_32 rfl ?_ hP hD hS
      try dsimp only
      exact ⟨w2, w20.2.2.k, by rw [if_pos c13, if_pos c24]⟩
  · -- 13 not
    have c13 : ¬ evn fr to nv ne z := fun h => by rw [w10, if_pos h] at c13; exact absurd c13 (by decide)
    refine lv_iconst (v := 0) hx hb dX7_isCycle_16 (by decide) ?_
    refine hret 17 ls _ _ 0 (I, A, B, C, T) _ _ (Nat.le_of_ble_eq_true rfl) (Nat.le_of_ble_eq_true rfl) dX7_isCycle_17 rfl ?_ hP hD hS
    try dsimp only
    exact ⟨w2, fK.rf, by rw [if_neg c13]⟩
set_option maxHeartbeats 4000000 in
set_option maxRecDepth 100000 in
theorem k_X7_through (l : Launch) (dC : Nat → ClassId) (dI : Nat → Nat → Nat) (cI cJ cZ cII cJJ : ClassId) (R : Nat → Nat) (hlt : l.stackTraces = false) (I : Nat → Int32) (A : Nat → Nat → Int32) (B : Nat → Nat → Int64) (C : Nat → Nat → Int32) (T : Nat → Nat → Int64) (nv ne : Nat) (fr to wt : Nat → Nat) (ed : Int32) (g : gH nv ne fr to wt I A) : cxL l (dC, dI) (tyL cI cJ cZ cII cJJ) (HW cI cJ cII cJJ R) yX7_through wsX7_through (7, 170) 2 [.ref (R 0), .int ed] (I, A, B, C, T) (fun r u => ∃ k, k < ne ∧ ed = nI k ∧ fK I A B u ∧ r = (if (sek fr to wt k ne nv (fr k)).1 (to k) < 2 ^ 60 then lN ((sek fr to wt k ne nv (fr k)).1 (to k) + wt k) else -1)) (fun E u => E = nNE ∧ (ed < 0 ∨ nI ne ≤ ed) ∧ fK I A B u) := by
  refine cxL_intro (cc := cX7_through) (maxL := 3) hlt (Nat.le_of_ble_eq_true rfl) (Nat.le_of_ble_eq_true rfl) (by decide) rfl (Nat.le_of_ble_eq_true rfl) ?_
  intro p e s m below meth c ls Aa Q F hK hN hX hP hD hS hA hl hret hthr hthn hxo
  have hx := F.1
  have hb := F.2.1
  have hown : s.vm.findClass RX7 = some m.cls := F.2.2.2.1
  have hts := F.2.2.2.2
  have hinX2 : ∀ w ∈ wsX20, w ∈ wsX7_through := by decide +kernel
  have hinX6 : ∀ w ∈ wsX60, w ∈ wsX7_through := by decide +kernel
  have hinX7 : ∀ w ∈ wsX70, w ∈ wsX7_through := by decide +kernel
  have hf10 := hts (.fieldLink RX7 10 "CycleHouse" "graph" "LCycleHouse$Graph;") (by decide +kernel)
  have hf33 := hts (.fieldLink RX7 33 "CycleHouse" "ways" "LCycleHouse$Ways;") (by decide +kernel)
  have hl : lv_has ls 3 [(0, .ref (R 0)), (1, .int ed)] := hl
  obtain ⟨g1, g2, g3, g4, g5, g6⟩ := id g
  refine lv_iload_n hx hb dX7_through_0 rfl (lv_at hl 1 rfl) ?_
  refine lv_if_lt (tgt := 15) hx hb dX7_through_1 (by decide) (fun c1 => ?_) (fun c1 => ?_)
  · -- 1 taken
    obtain ⟨sa, hsa⟩ := hX.1.2.2.2 (138, "no such edge") (by decide +kernel)
    refine hthn 15 ls _ _ (I, A, B, C, T) _ _ nNE "no such edge" 136 138 140 13 sa rxN (by decide +kernel) (by decide +kernel) (by decide +kernel) (by decide +kernel) (by decide) (hts (.classLink RX7 136 nNE) (by decide +kernel)) (hts (.initialized nNE) (by decide +kernel)) hsa (vx_hat (B := exW) (fun w hw => hts w ((by decide +kernel : ∀ w ∈ (vx_atN RX7 140 nNE 13 rxN nmX).filter goodWord, w ∈ wsX7_through) w hw)) (by decide +kernel) hX.1.w) (by decide +kernel) (hl.1.trans F.2.2.1.symm) dX7_through_15 dX7_through_18 dX7_through_19 dX7_through_21 dX7_through_24 (Nat.le_of_ble_eq_true rfl) (Nat.le_of_ble_eq_true rfl) ?_ hP hD hS
    try dsimp only
    exact ⟨rfl, .inl c1, fK.rf⟩
  · -- 1 not
    refine lv_iload_n hx hb dX7_through_4 rfl (lv_at hl 1 rfl) ?_
    refine lv_aload_n hx hb dX7_through_5 rfl (lv_at hl 0 rfl) ?_
    refine va_get (D := (dC, dI)) (ci := 7) (v := .ref (R 1)) (C := RX7) (T := TX7) (N := 8) hx hb hts hinX7 hown hK hP 0 rfl rfl 0 (by decide) hf10 (fun _ h9 => h9) rfl dX7_through_6 ?_
    refine va_getN (D := (dC, dI)) (ci := 2) (v := .int (I 1)) (C := RX2) (T := TX2) (N := 5) hx hb hts hinX2 hown hK hP 1 rfl rfl 1 (by decide) (nwOK.f hN RX7 69 "CycleHouse$Graph" "edges" "I" "CycleHouse" (by decide +kernel)) (fun _ h9 => h9) rfl dX7_through_9 ?_
    refine lv_icmp_lt (tgt := 25) hx hb dX7_through_12 (by decide) (fun c12 => ?_) (fun c12 => ?_)
    · -- 12 taken
      have c12 : ed < nI ne := by rw [g5] at c12; exact c12
      obtain ⟨k, hk, ek⟩ : ∃ k, k < ne ∧ ed = nI k := nat_of (by omega) c1 c12
      obtain ⟨⟨ga, ha⟩, ⟨gb, hb2⟩, gwt, gwl⟩ := g6 k hk
      have kcl : (nI k).toNatClampNeg = k := nI_clamp (by omega)
      refine lv_aload_n hx hb dX7_through_25 rfl (lv_at hl 0 rfl) ?_
      refine va_get (D := (dC, dI)) (ci := 7) (v := .ref (R 10)) (C := RX7) (T := TX7) (N := 8) hx hb hts hinX7 hown hK hP 0 rfl rfl 3 (by decide) hf33 (fun _ h9 => h9) rfl dX7_through_26 ?_
      refine lv_aload_n hx hb dX7_through_29 rfl (lv_at hl 0 rfl) ?_
      refine va_get (D := (dC, dI)) (ci := 7) (v := .ref (R 1)) (C := RX7) (T := TX7) (N := 8) hx hb hts hinX7 hown hK hP 0 rfl rfl 0 (by decide) hf10 (fun _ h9 => h9) rfl dX7_through_30 ?_
      refine lv_aload_n hx hb dX7_through_33 rfl (lv_at hl 0 rfl) ?_
      refine va_get (D := (dC, dI)) (ci := 7) (v := .ref (R 1)) (C := RX7) (T := TX7) (N := 8) hx hb hts hinX7 hown hK hP 0 rfl rfl 0 (by decide) hf10 (fun _ h9 => h9) rfl dX7_through_34 ?_
      refine va_getN (D := (dC, dI)) (ci := 2) (v := .ref (R 2)) (C := RX2) (T := TX2) (N := 5) hx hb hts hinX2 hown hK hP 1 rfl rfl 2 (by decide) (nwOK.f hN RX7 141 "CycleHouse$Graph" "from" "[I" "CycleHouse" (by decide +kernel)) (fun _ h9 => h9) rfl dX7_through_37 ?_
      refine lv_iload_n hx hb dX7_through_40 rfl (lv_at hl 1 rfl) ?_
      have eed : ed = nI k := ek
      subst eed
      have h41 : vp_in (nI k) 40 := vp_in_nI (by omega) (by omega)
      refine va_iald hx hb hK hP 2 0 rfl rfl h41 dX7_through_41 ?_
      refine lv_topi (fun x41 ex41 => ?_)
      have ex41 : x41 = A 2 (nI k).toNatClampNeg := ex41
      have ex41 : x41 = nI (fr k) := by rw [ex41, kcl]; exact ga
      subst ex41
      refine lv_iload_n hx hb dX7_through_42 rfl (lv_at hl 1 rfl) ?_
      refine ct_callv hD hS hA (va_runV (As := [.ref (R 1), .int (nI (fr k)), .int (nI k)]) (rest := []) F ((k_X6_seek l dC dI cI cJ cZ cII cJJ R I A B C T nv ne fr to wt (fr k) k (nI k) g ha (fun e he => nI_eq (by omega) (by omega))) _) (cwV 3 hts gX7_through_X6_seek rfl rfl rfl (by decide +kernel) ⟨(Nat.le_of_ble_eq_true rfl), (Nat.le_of_ble_eq_true rfl)⟩) (ct_preV 10 6 hK hN hP hD rfl rfl) rfl rfl hl.1 rfl (lv_room (Nat.le_of_ble_eq_true rfl)) dX7_through_43 ⟨(Nat.le_of_ble_eq_true rfl), (Nat.le_of_ble_eq_true rfl)⟩) (fun u43 H locs w43 hP hD hS => ?_)
      obtain ⟨I43, A43, B43, C43, T43⟩ := u43
      refine lv_aload_n hx hb dX7_through_46 rfl (lv_at hl 0 rfl) ?_
      refine va_get (D := (dC, dI)) (ci := 7) (v := .ref (R 1)) (C := RX7) (T := TX7) (N := 8) hx hb hts hinX7 hown hK hP 0 rfl rfl 0 (by decide) hf10 (fun _ h9 => h9) rfl dX7_through_47 ?_
      refine va_getN (D := (dC, dI)) (ci := 2) (v := .ref (R 3)) (C := RX2) (T := TX2) (N := 5) hx hb hts hinX2 hown hK hP 1 rfl rfl 3 (by decide) (nwOK.f hN RX7 149 "CycleHouse$Graph" "to" "[I" "CycleHouse" (by decide +kernel)) (fun _ h9 => h9) rfl dX7_through_50 ?_
      refine lv_iload_n hx hb dX7_through_53 rfl (lv_at hl 1 rfl) ?_
      have h54 : vp_in (nI k) 40 := vp_in_nI (by omega) (by omega)
      refine va_iald hx hb hK hP 3 0 rfl rfl h54 dX7_through_54 ?_
      refine lv_topi (fun x54 ex54 => ?_)
      have ex54 : x54 = A43 3 (nI k).toNatClampNeg := ex54
      have ex54 : x54 = nI (to k) := by rw [ex54, kcl, show A43 = A from w43.2.2.1]; exact gb
      subst ex54
      refine lv_istore_n (lv' := [(2, .int (nI (to k))), (0, .ref (R 0)), (1, .int (nI k))]) hx hb dX7_through_55 rfl hl (by decide) rfl (fun ls hl => ?_)
      refine lv_aload_n hx hb dX7_through_56 rfl (lv_at hl 1 rfl) ?_
      refine va_get (D := (dC, dI)) (ci := 7) (v := .ref (R 10)) (C := RX7) (T := TX7) (N := 8) hx hb hts hinX7 hown hK hP 0 rfl rfl 3 (by decide) hf33 (fun _ h9 => h9) rfl dX7_through_57 ?_
      refine lv_iload_n hx hb dX7_through_60 rfl (lv_at hl 0 rfl) ?_
      refine ct_calli hD hS hA (va_runV (As := [.int (nI (to k))]) (rest := []) F ((k_X6_reaches l dC dI cI cJ cZ cII cJJ R I43 A43 B43 C43 T43 nv (sek fr to wt k ne nv (fr k)) (to k) g2 w43.1 hb2) _) (cwV 1 hts gX7_through_X6_reaches rfl rfl rfl (by decide +kernel) ⟨(Nat.le_of_ble_eq_true rfl), (Nat.le_of_ble_eq_true rfl)⟩) (ct_preV 10 6 hK hN hP hD rfl rfl) rfl rfl hl.1 rfl (lv_room (Nat.le_of_ble_eq_true rfl)) dX7_through_61 ⟨(Nat.le_of_ble_eq_true rfl), (Nat.le_of_ble_eq_true rfl)⟩) (fun r61 u61 H locs w61 hP hD hS => ?_)
      obtain ⟨w61, rfl⟩ := w61
      refine lv_if_eq (tgt := 90) hx hb dX7_through_64 (by decide) (fun c64 => ?_) (fun c64 => ?_)
      · -- 64 taken
        have c64 : ¬ (sek fr to wt k ne nv (fr k)).1 (to k) < 2 ^ 60 := fun h => by rw [w61, if_pos h] at c64; exact absurd c64 (by decide)
        refine lv_ldc2 (v := (-1)) hx hb hown (hts (.constantLong RX7 122 (-1)) (by decide +kernel)) dX7_through_90 ?_
        refine hret 93 ls _ _ ((-1)) (I43, A43, B43, C43, T43) _ _ (Nat.le_of_ble_eq_true rfl) (Nat.le_of_ble_eq_true rfl) dX7_through_93 ?_ hP hD hS
        try dsimp only
        exact ⟨k, hk, rfl, w43.2.k, by rw [if_neg c64]⟩
      · -- 64 not
        have c64 : (sek fr to wt k ne nv (fr k)).1 (to k) < 2 ^ 60 := Classical.byContradiction (fun h => c64 (by rw [w61, if_neg h]))
        refine lv_aload_n hx hb dX7_through_67 rfl (lv_at hl 1 rfl) ?_
        refine va_get (D := (dC, dI)) (ci := 7) (v := .ref (R 10)) (C := RX7) (T := TX7) (N := 8) hx hb hts hinX7 hown hK hP 0 rfl rfl 3 (by decide) hf33 (fun _ h9 => h9) rfl dX7_through_68 ?_
        refine va_getN (D := (dC, dI)) (ci := 6) (v := .ref (R 11)) (C := RX6) (T := TX6) (N := 2) hx hb hts hinX6 hown hK hP 10 rfl rfl 0 (by decide) (nwOK.f hN RX7 155 "CycleHouse$Ways" "length" "[J" "CycleHouse" (by decide +kernel)) (fun _ h9 => h9) rfl dX7_through_71 ?_
        refine lv_iload_n hx hb dX7_through_74 rfl (lv_at hl 0 rfl) ?_
        have h75 : vp_in (nI (to k)) 16 := vp_in_nI (by omega) (by omega)
        refine va_lald hx hb hK hP 11 1 rfl rfl h75 dX7_through_75 ?_
        refine lv_topl (fun x75 ex75 => ?_)
        have ex75 : x75 = B43 11 (nI (to k)).toNatClampNeg := ex75
        have ex75 : x75 = lN ((sek fr to wt k ne nv (fr k)).1 (to k)) := by rw [ex75, nI_clamp (by omega)]; exact (w43.1 _ hb2).1
        subst ex75
        refine lv_aload_n hx hb dX7_through_76 rfl (lv_at hl 1 rfl) ?_
        refine va_get (D := (dC, dI)) (ci := 7) (v := .ref (R 1)) (C := RX7) (T := TX7) (N := 8) hx hb hts hinX7 hown hK hP 0 rfl rfl 0 (by decide) hf10 (fun _ h9 => h9) rfl dX7_through_77 ?_
        refine va_getN (D := (dC, dI)) (ci := 2) (v := .ref (R 4)) (C := RX2) (T := TX2) (N := 5) hx hb hts hinX2 hown hK hP 1 rfl rfl 4 (by decide) (nwOK.f hN RX7 158 "CycleHouse$Graph" "weight" "[I" "CycleHouse" (by decide +kernel)) (fun _ h9 => h9) rfl dX7_through_80 ?_
        refine lv_iload_n hx hb dX7_through_83 rfl (lv_at hl 2 rfl) ?_
        have h84 : vp_in (nI k) 40 := vp_in_nI (by omega) (by omega)
        refine va_iald hx hb hK hP 4 0 rfl rfl h84 dX7_through_84 ?_
        refine lv_topi (fun x84 ex84 => ?_)
        have ex84 : x84 = A43 4 (nI k).toNatClampNeg := ex84
        have ex84 : x84 = nI (wt k) := by rw [ex84, kcl, show A43 = A from w43.2.2.1]; exact gwt
        subst ex84
        refine lv_i2l hx hb dX7_through_85 rfl ?_
        refine lv_topl (fun x85 ex85 => ?_)
        have ex85 : x85 = lN (wt k) := by rw [ex85]; exact nm_il (by omega)
        subst ex85
        refine lv_ladd hx hb dX7_through_86 ?_
        refine lv_topl (fun x86 ex86 => ?_)
        refine lv_goto (tgt := 93) hx hb dX7_through_87 (by decide) ?_
        refine hret 93 ls _ _ x86 (I43, A43, B43, C43, T43) _ _ (Nat.le_of_ble_eq_true rfl) (Nat.le_of_ble_eq_true rfl) dX7_through_93 ?_ hP hD hS
        try dsimp only
        exact ⟨k, hk, rfl, w43.2.k, by rw [if_pos c64, ex86, lN_add]⟩
    · -- 12 not
      have c12 : nI ne ≤ ed := by rw [g5] at c12; exact Int32.not_lt.mp c12
      obtain ⟨sa, hsa⟩ := hX.1.2.2.2 (138, "no such edge") (by decide +kernel)
      refine hthn 15 ls _ _ (I, A, B, C, T) _ _ nNE "no such edge" 136 138 140 13 sa rxN (by decide +kernel) (by decide +kernel) (by decide +kernel) (by decide +kernel) (by decide) (hts (.classLink RX7 136 nNE) (by decide +kernel)) (hts (.initialized nNE) (by decide +kernel)) hsa (vx_hat (B := exW) (fun w hw => hts w ((by decide +kernel : ∀ w ∈ (vx_atN RX7 140 nNE 13 rxN nmX).filter goodWord, w ∈ wsX7_through) w hw)) (by decide +kernel) hX.1.w) (by decide +kernel) (hl.1.trans F.2.2.1.symm) dX7_through_15 dX7_through_18 dX7_through_19 dX7_through_21 dX7_through_24 (Nat.le_of_ble_eq_true rfl) (Nat.le_of_ble_eq_true rfl) ?_ hP hD hS
      try dsimp only
      exact ⟨rfl, .inr c12, fK.rf⟩
set_option maxHeartbeats 4000000 in
set_option maxRecDepth 100000 in
theorem k_X7_basis (l : Launch) (dC : Nat → ClassId) (dI : Nat → Nat → Nat) (cI cJ cZ cII cJJ : ClassId) (R : Nat → Nat) (hlt : l.stackTraces = false) (I : Nat → Int32) (A : Nat → Nat → Int32) (B : Nat → Nat → Int64) (C : Nat → Nat → Int32) (T : Nat → Nat → Int64) (nv ne : Nat) (fr to wt : Nat → Nat) (ib : Int32) (g : gH nv ne fr to wt I A) (hd : dmA fr to ne ≤ 14) : cxL l (dC, dI) (tyL cI cJ cZ cII cJJ) (HW cI cJ cII cJJ R) yX7_basis wsX7_basis (7, 200) 2 [.ref (R 0), .int ib] (I, A, B, C, T) (fun r u => ∃ k, k < dmA fr to ne ∧ ib = nI k ∧ fK I A B u ∧ r = lN ((fnd fr to wt nv ne).2.2.1 k)) (fun E u => E = nNE ∧ (ib < 0 ∨ nI (dmA fr to ne) ≤ ib) ∧ fK I A B u) := by
  refine cxL_intro (cc := cX7_basis) (maxL := 2) hlt (Nat.le_of_ble_eq_true rfl) (Nat.le_of_ble_eq_true rfl) (by decide) rfl (Nat.le_of_ble_eq_true rfl) ?_
  intro p e s m below meth c ls Aa Q F hK hN hX hP hD hS hA hl hret hthr hthn hxo
  have hx := F.1
  have hb := F.2.1
  have hown : s.vm.findClass RX7 = some m.cls := F.2.2.2.1
  have hts := F.2.2.2.2
  have hinX2 : ∀ w ∈ wsX20, w ∈ wsX7_basis := by decide +kernel
  have hinX3 : ∀ w ∈ wsX30, w ∈ wsX7_basis := by decide +kernel
  have hinX4 : ∀ w ∈ wsX40, w ∈ wsX7_basis := by decide +kernel
  have hinX6 : ∀ w ∈ wsX60, w ∈ wsX7_basis := by decide +kernel
  have hinX7 : ∀ w ∈ wsX70, w ∈ wsX7_basis := by decide +kernel
  have hf40 := hts (.fieldLink RX7 40 "CycleHouse" "lightBasis" "LCycleHouse$LightBasis;") (by decide +kernel)
  have hf10 := hts (.fieldLink RX7 10 "CycleHouse" "graph" "LCycleHouse$Graph;") (by decide +kernel)
  have hf33 := hts (.fieldLink RX7 33 "CycleHouse" "ways" "LCycleHouse$Ways;") (by decide +kernel)
  have hl : lv_has ls 2 [(0, .ref (R 0)), (1, .int ib)] := hl
  have hfs := fnd_size (wt := wt) g.2.2.1 g.2.1 g.en (fun e he => (g.2.2.2.2.2 e he).2.2.2) hd
  refine lv_iload_n hx hb dX7_basis_0 rfl (lv_at hl 1 rfl) ?_
  refine lv_if_lt (tgt := 12) hx hb dX7_basis_1 (by decide) (fun c1 => ?_) (fun c1 => ?_)
  · -- 1 taken
    obtain ⟨sa, hsa⟩ := hX.1.2.2.2 (161, "a basis has not so many cycles") (by decide +kernel)
    refine hthn 12 ls _ _ (I, A, B, C, T) _ _ nNE "a basis has not so many cycles" 136 161 140 13 sa rxN (by decide +kernel) (by decide +kernel) (by decide +kernel) (by decide +kernel) (by decide) (hts (.classLink RX7 136 nNE) (by decide +kernel)) (hts (.initialized nNE) (by decide +kernel)) hsa (vx_hat (B := exW) (fun w hw => hts w ((by decide +kernel : ∀ w ∈ (vx_atN RX7 140 nNE 13 rxN nmX).filter goodWord, w ∈ wsX7_basis) w hw)) (by decide +kernel) hX.1.w) (by decide +kernel) (hl.1.trans F.2.2.1.symm) dX7_basis_12 dX7_basis_15 dX7_basis_16 dX7_basis_18 dX7_basis_21 (Nat.le_of_ble_eq_true rfl) (Nat.le_of_ble_eq_true rfl) ?_ hP hD hS
    try dsimp only
    exact ⟨rfl, .inl c1, fK.rf⟩
  · -- 1 not
    refine lv_iload_n hx hb dX7_basis_4 rfl (lv_at hl 1 rfl) ?_
    refine lv_aload_n hx hb dX7_basis_5 rfl (lv_at hl 0 rfl) ?_
    refine ct_calli hD hS hA (va_runV (As := []) (rest := [.int ib]) F ((k_X7_joinWhole l dC dI cI cJ cZ cII cJJ R I A B C T nv ne fr to wt g) _) (cwV 0 hts gX7_basis_X7_joinWhole rfl rfl rfl (by decide +kernel) ⟨(Nat.le_of_ble_eq_true rfl), (Nat.le_of_ble_eq_true rfl)⟩) (ct_preV 0 7 hK hN hP hD rfl rfl) rfl rfl hl.1 rfl (lv_room (Nat.le_of_ble_eq_true rfl)) dX7_basis_6 ⟨(Nat.le_of_ble_eq_true rfl), (Nat.le_of_ble_eq_true rfl)⟩) (fun r6 u6 H locs w6 hP hD hS => ?_)
    obtain ⟨I6, A6, B6, C6, T6⟩ := u6
    refine lv_icmp_lt (tgt := 22) hx hb dX7_basis_9 (by decide) (fun c9 => ?_) (fun c9 => ?_)
    · -- 9 taken
      have c9 : ib < nI (dmA fr to ne) := by rw [w6.1] at c9; exact c9
      obtain ⟨k, hk, ek⟩ : ∃ k, k < dmA fr to ne ∧ ib = nI k := nat_of (Nat.le_trans hd (by decide)) c1 c9
      have hk2 : k < (fnd fr to wt nv ne).1 := Nat.lt_of_lt_of_le hk hfs
      have hk14 : k < 14 := Nat.lt_of_lt_of_le hk hd
      refine lv_aload_n hx hb dX7_basis_22 rfl (lv_at hl 0 rfl) ?_
      refine va_get (D := (dC, dI)) (ci := 7) (v := .ref (R 13)) (C := RX7) (T := TX7) (N := 8) hx hb hts hinX7 hown hK hP 0 rfl rfl 4 (by decide) hf40 (fun _ h9 => h9) rfl dX7_basis_23 ?_
      refine lv_aload_n hx hb dX7_basis_26 rfl (lv_at hl 0 rfl) ?_
      refine va_get (D := (dC, dI)) (ci := 7) (v := .ref (R 1)) (C := RX7) (T := TX7) (N := 8) hx hb hts hinX7 hown hK hP 0 rfl rfl 0 (by decide) hf10 (fun _ h9 => h9) rfl dX7_basis_27 ?_
      refine lv_aload_n hx hb dX7_basis_30 rfl (lv_at hl 0 rfl) ?_
      refine va_get (D := (dC, dI)) (ci := 7) (v := .ref (R 10)) (C := RX7) (T := TX7) (N := 8) hx hb hts hinX7 hown hK hP 0 rfl rfl 3 (by decide) hf33 (fun _ h9 => h9) rfl dX7_basis_31 ?_
      refine ct_callv hD hS hA (va_runV (As := [.ref (R 1), .ref (R 10)]) (rest := []) F ((k_X4_find l dC dI cI cJ cZ cII cJJ R I6 A6 B6 C6 T6 nv ne fr to wt (g.fg w6.2.2)) _) (cwV 2 hts gX7_basis_X4_find rfl rfl rfl (by decide +kernel) ⟨(Nat.le_of_ble_eq_true rfl), (Nat.le_of_ble_eq_true rfl)⟩) (ct_preV 13 4 hK hN hP hD rfl rfl) rfl rfl hl.1 rfl (lv_room (Nat.le_of_ble_eq_true rfl)) dX7_basis_34 ⟨(Nat.le_of_ble_eq_true rfl), (Nat.le_of_ble_eq_true rfl)⟩) (fun u34 H locs w34 hP hD hS => ?_)
      obtain ⟨I34, A34, B34, C34, T34⟩ := u34
      refine lv_aload_n hx hb dX7_basis_37 rfl (lv_at hl 0 rfl) ?_
      refine va_get (D := (dC, dI)) (ci := 7) (v := .ref (R 13)) (C := RX7) (T := TX7) (N := 8) hx hb hts hinX7 hown hK hP 0 rfl rfl 4 (by decide) hf40 (fun _ h9 => h9) rfl dX7_basis_38 ?_
      refine va_getN (D := (dC, dI)) (ci := 4) (v := .ref (R 15)) (C := RX4) (T := TX4) (N := 6) hx hb hts hinX4 hown hK hP 13 rfl rfl 2 (by decide) (nwOK.f hN RX7 167 "CycleHouse$LightBasis" "weight" "[J" "CycleHouse" (by decide +kernel)) (fun _ h9 => h9) rfl dX7_basis_41 ?_
      refine lv_iload_n hx hb dX7_basis_44 rfl (lv_at hl 1 rfl) ?_
      have eib : ib = nI k := ek
      subst eib
      have h45 : vp_in (nI k) 14 := vp_in_nI (by omega) (by omega)
      refine va_lald hx hb hK hP 15 1 rfl rfl h45 dX7_basis_45 ?_
      refine lv_topl (fun x45 ex45 => ?_)
      have ex45 : x45 = B34 15 (nI k).toNatClampNeg := ex45
      have ex45 : x45 = lN ((fnd fr to wt nv ne).2.2.1 k) := by rw [ex45, nI_clamp (by omega)]; exact (w34.1.2.2 k hk2).2.2.2.1
      subst ex45
      refine hret 46 ls _ _ (lN ((fnd fr to wt nv ne).2.2.1 k)) (I34, A34, B34, C34, T34) _ _ (Nat.le_of_ble_eq_true rfl) (Nat.le_of_ble_eq_true rfl) dX7_basis_46 ?_ hP hD hS
      try dsimp only
      exact ⟨k, hk, rfl, w6.2.2.k.tr w34.2.k, rfl⟩
    · -- 9 not
      have c9 : nI (dmA fr to ne) ≤ ib := by rw [w6.1] at c9; exact Int32.not_lt.mp c9
      obtain ⟨sa, hsa⟩ := hX.1.2.2.2 (161, "a basis has not so many cycles") (by decide +kernel)
      refine hthn 12 ls _ _ (I6, A6, B6, C6, T6) _ _ nNE "a basis has not so many cycles" 136 161 140 13 sa rxN (by decide +kernel) (by decide +kernel) (by decide +kernel) (by decide +kernel) (by decide) (hts (.classLink RX7 136 nNE) (by decide +kernel)) (hts (.initialized nNE) (by decide +kernel)) hsa (vx_hat (B := exW) (fun w hw => hts w ((by decide +kernel : ∀ w ∈ (vx_atN RX7 140 nNE 13 rxN nmX).filter goodWord, w ∈ wsX7_basis) w hw)) (by decide +kernel) hX.1.w) (by decide +kernel) (hl.1.trans F.2.2.1.symm) dX7_basis_12 dX7_basis_15 dX7_basis_16 dX7_basis_18 dX7_basis_21 (Nat.le_of_ble_eq_true rfl) (Nat.le_of_ble_eq_true rfl) ?_ hP hD hS
      try dsimp only
      exact ⟨rfl, .inr c9, w6.2.2.k⟩
set_option maxHeartbeats 4000000 in
set_option maxRecDepth 100000 in
theorem k_X7_belongs (l : Launch) (dC : Nat → ClassId) (dI : Nat → Nat → Nat) (cI cJ cZ cII cJJ : ClassId) (R : Nat → Nat) (hlt : l.stackTraces = false) (I : Nat → Int32) (A : Nat → Nat → Int32) (B : Nat → Nat → Int64) (C : Nat → Nat → Int32) (T : Nat → Nat → Int64) (nv ne : Nat) (fr to wt : Nat → Nat) (z : Nat) (g : gH nv ne fr to wt I A) (hz : z < 2 ^ 64) : cxI l (dC, dI) (tyL cI cJ cZ cII cJJ) (HW cI cJ cII cJJ R) yX7_belongs wsX7_belongs (7, 200) 2 [.ref (R 0), .long (lN z)] (I, A, B, C, T) (fun r u => z < 2 ^ ne ∧ fK I A B u ∧ r = (if evn fr to nv ne z then (if isl (fnd fr to wt nv ne) (wsum wt z ne) (fnd fr to wt nv ne).1 z = 0 then 0 else 1) else 0)) (fun E u => E = nIA ∧ ¬ z < 2 ^ ne ∧ fK I A B u) := by
  refine cxI_intro (cc := cX7_belongs) (maxL := 3) hlt (Nat.le_of_ble_eq_true rfl) (Nat.le_of_ble_eq_true rfl) (by decide) rfl (Nat.le_of_ble_eq_true rfl) ?_
  intro p e s m below meth c ls Aa Q F hK hN hX hP hD hS hA hl hret hthr hthn hxo
  have hx := F.1
  have hb := F.2.1
  have hown : s.vm.findClass RX7 = some m.cls := F.2.2.2.1
  have hts := F.2.2.2.2
  have hinX2 : ∀ w ∈ wsX20, w ∈ wsX7_belongs := by decide +kernel
  have hinX4 : ∀ w ∈ wsX40, w ∈ wsX7_belongs := by decide +kernel
  have hinX6 : ∀ w ∈ wsX60, w ∈ wsX7_belongs := by decide +kernel
  have hinX7 : ∀ w ∈ wsX70, w ∈ wsX7_belongs := by decide +kernel
  have hf10 := hts (.fieldLink RX7 10 "CycleHouse" "graph" "LCycleHouse$Graph;") (by decide +kernel)
  have hf40 := hts (.fieldLink RX7 40 "CycleHouse" "lightBasis" "LCycleHouse$LightBasis;") (by decide +kernel)
  have hf33 := hts (.fieldLink RX7 33 "CycleHouse" "ways" "LCycleHouse$Ways;") (by decide +kernel)
  have hl : lv_has ls 3 [(0, .ref (R 0)), (1, .long (lN z))] := hl
  refine lv_aload_n hx hb dX7_belongs_0 rfl (lv_at hl 0 rfl) ?_
  refine lv_lload_n hx hb dX7_belongs_1 rfl (lv_at hl 1 rfl) ?_
  refine cx_callv hD hS hA (vx_runV (As := [.long (lN z)]) (rest := []) F ((k_X7_checkEdges l dC dI cI cJ cZ cII cJJ R hlt I A B C T nv ne fr to wt z g hz) _) (cwV 1 hts gX7_belongs_X7_checkEdges rfl rfl rfl (by decide +kernel) ⟨(Nat.le_of_ble_eq_true rfl), (Nat.le_of_ble_eq_true rfl)⟩) (cx_preV 0 7 hK hN hX hS hA hP hD rfl rfl) rfl rfl hl.1 rfl (lv_room (Nat.le_of_ble_eq_true rfl)) dX7_belongs_2 ⟨(Nat.le_of_ble_eq_true rfl), (Nat.le_of_ble_eq_true rfl)⟩) (fun E9 ce9 q9 u9 H9 locs9 a1 a2 a3 a4 a5 a6 a7 => hxo 2 ls H9 locs9 _ E9 ce9 q9 u9 _ _ (Nat.le_of_ble_eq_true rfl) (Nat.le_of_ble_eq_true rfl) a1 a2 a3 ⟨a4.1, a4.2.1, by rw [a4.2.2]; exact fK.rf⟩ a5 a6 a7) (fun u2 H locs w2 hP hD hS => ?_)
  obtain ⟨w2, rfl⟩ := w2
  refine lv_aload_n hx hb dX7_belongs_5 rfl (lv_at hl 0 rfl) ?_
  refine va_get (D := (dC, dI)) (ci := 7) (v := .ref (R 1)) (C := RX7) (T := TX7) (N := 8) hx hb hts hinX7 hown hK hP 0 rfl rfl 0 (by decide) hf10 (fun _ h9 => h9) rfl dX7_belongs_6 ?_
  refine lv_lload_n hx hb dX7_belongs_9 rfl (lv_at hl 1 rfl) ?_
  refine ct_calli hD hS hA (va_runV (As := [.long (lN z)]) (rest := []) F ((k_X2_isEven l dC dI cI cJ cZ cII cJJ R I A B C T nv ne fr to wt z g hz) _) (cwV 1 hts gX7_belongs_X2_isEven rfl rfl rfl (by decide +kernel) ⟨(Nat.le_of_ble_eq_true rfl), (Nat.le_of_ble_eq_true rfl)⟩) (ct_preV 1 2 hK hN hP hD rfl rfl) rfl rfl hl.1 rfl (lv_room (Nat.le_of_ble_eq_true rfl)) dX7_belongs_10 ⟨(Nat.le_of_ble_eq_true rfl), (Nat.le_of_ble_eq_true rfl)⟩) (fun r10 u10 H locs w10 hP hD hS => ?_)
  obtain ⟨w10, rfl⟩ := w10
  refine lv_if_ne (tgt := 18) hx hb dX7_belongs_13 (by decide) (fun c13 => ?_) (fun c13 => ?_)
  · -- 13 taken
    have c13 : evn fr to nv ne z := Classical.byContradiction (fun h => c13 (by rw [w10, if_neg h]))
    refine lv_aload_n hx hb dX7_belongs_18 rfl (lv_at hl 0 rfl) ?_
    refine va_get (D := (dC, dI)) (ci := 7) (v := .ref (R 13)) (C := RX7) (T := TX7) (N := 8) hx hb hts hinX7 hown hK hP 0 rfl rfl 4 (by decide) hf40 (fun _ h9 => h9) rfl dX7_belongs_19 ?_
    refine lv_aload_n hx hb dX7_belongs_22 rfl (lv_at hl 0 rfl) ?_
    refine va_get (D := (dC, dI)) (ci := 7) (v := .ref (R 1)) (C := RX7) (T := TX7) (N := 8) hx hb hts hinX7 hown hK hP 0 rfl rfl 0 (by decide) hf10 (fun _ h9 => h9) rfl dX7_belongs_23 ?_
    refine lv_aload_n hx hb dX7_belongs_26 rfl (lv_at hl 0 rfl) ?_
    refine va_get (D := (dC, dI)) (ci := 7) (v := .ref (R 10)) (C := RX7) (T := TX7) (N := 8) hx hb hts hinX7 hown hK hP 0 rfl rfl 3 (by decide) hf33 (fun _ h9 => h9) rfl dX7_belongs_27 ?_
    refine ct_callv hD hS hA (va_runV (As := [.ref (R 1), .ref (R 10)]) (rest := []) F ((k_X4_find l dC dI cI cJ cZ cII cJJ R I A B C T nv ne fr to wt g) _) (cwV 2 hts gX7_belongs_X4_find rfl rfl rfl (by decide +kernel) ⟨(Nat.le_of_ble_eq_true rfl), (Nat.le_of_ble_eq_true rfl)⟩) (ct_preV 13 4 hK hN hP hD rfl rfl) rfl rfl hl.1 rfl (lv_room (Nat.le_of_ble_eq_true rfl)) dX7_belongs_30 ⟨(Nat.le_of_ble_eq_true rfl), (Nat.le_of_ble_eq_true rfl)⟩) (fun u30 H locs w30 hP hD hS => ?_)
    obtain ⟨I30, A30, B30, C30, T30⟩ := u30
    have gg := g.fl w30.2
    have hz40 : z < 2 ^ 40 := Nat.lt_of_lt_of_le w2 (Nat.pow_le_pow_right (by omega) g.2.2.1)
    have hwl : wsum wt z ne < 2 ^ 62 := by have := wsum_le (wt := wt) (z := z) ne (fun e he => (g.2.2.2.2.2 e he).2.2.2); have := g.2.2.1; omega
    refine lv_aload_n hx hb dX7_belongs_33 rfl (lv_at hl 0 rfl) ?_
    refine va_get (D := (dC, dI)) (ci := 7) (v := .ref (R 13)) (C := RX7) (T := TX7) (N := 8) hx hb hts hinX7 hown hK hP 0 rfl rfl 4 (by decide) hf40 (fun _ h9 => h9) rfl dX7_belongs_34 ?_
    refine lv_lload_n hx hb dX7_belongs_37 rfl (lv_at hl 1 rfl) ?_
    refine lv_aload_n hx hb dX7_belongs_38 rfl (lv_at hl 0 rfl) ?_
    refine va_get (D := (dC, dI)) (ci := 7) (v := .ref (R 1)) (C := RX7) (T := TX7) (N := 8) hx hb hts hinX7 hown hK hP 0 rfl rfl 0 (by decide) hf10 (fun _ h9 => h9) rfl dX7_belongs_39 ?_
    refine lv_lload_n hx hb dX7_belongs_42 rfl (lv_at hl 1 rfl) ?_
    refine ct_calll hD hS hA (va_runV (As := [.long (lN z)]) (rest := [.long (lN z), .ref (R 13)]) F ((k_X2_weigh l dC dI cI cJ cZ cII cJJ R I30 A30 B30 C30 T30 nv ne fr to wt z gg w2) _) (cwV 1 hts gX7_belongs_X2_weigh rfl rfl rfl (by decide +kernel) ⟨(Nat.le_of_ble_eq_true rfl), (Nat.le_of_ble_eq_true rfl)⟩) (ct_preV 1 2 hK hN hP hD rfl rfl) rfl rfl hl.1 rfl (lv_room (Nat.le_of_ble_eq_true rfl)) dX7_belongs_43 ⟨(Nat.le_of_ble_eq_true rfl), (Nat.le_of_ble_eq_true rfl)⟩) (fun r43 u43 H locs w43 hP hD hS => ?_)
    obtain ⟨w43, rfl⟩ := w43
    have er43 : r43 = lN (wsum wt z ne) := w43
    subst er43
    refine ct_calli hD hS hA (va_runV (As := [.long (lN z), .long (lN (wsum wt z ne))]) (rest := []) F ((k_X4_isSumOfLighter l dC dI cI cJ cZ cII cJJ R I30 A30 B30 C30 T30 (fnd fr to wt nv ne) z (wsum wt z ne) w30.1 hz40 hwl) _) (cwV 2 hts gX7_belongs_X4_isSumOfLighter rfl rfl rfl (by decide +kernel) ⟨(Nat.le_of_ble_eq_true rfl), (Nat.le_of_ble_eq_true rfl)⟩) (ct_preV 13 4 hK hN hP hD rfl rfl) rfl rfl hl.1 rfl (lv_room (Nat.le_of_ble_eq_true rfl)) dX7_belongs_46 ⟨(Nat.le_of_ble_eq_true rfl), (Nat.le_of_ble_eq_true rfl)⟩) (fun r46 u46 H locs w46 hP hD hS => ?_)
    obtain ⟨w46, rfl⟩ := w46
    refine lv_if_ne (tgt := 56) hx hb dX7_belongs_49 (by decide) (fun c49 => ?_) (fun c49 => ?_)
    · -- 49 taken
      have c49 : isl (fnd fr to wt nv ne) (wsum wt z ne) (fnd fr to wt nv ne).1 z = 0 := Classical.byContradiction (fun h => c49 (by rw [w46, if_neg h]))
      refine lv_iconst (v := 0) hx hb dX7_belongs_56 (by decide) ?_
      refine hret 57 ls _ _ 0 (I30, A30, B30, C30, T30) _ _ (Nat.le_of_ble_eq_true rfl) (Nat.le_of_ble_eq_true rfl) dX7_belongs_57 rfl ?_ hP hD hS
      try dsimp only
      exact ⟨w2, w30.2.k, by rw [if_pos c13, if_pos c49]⟩
    · -- 49 not
      have c49 : ¬ isl (fnd fr to wt nv ne) (wsum wt z ne) (fnd fr to wt nv ne).1 z = 0 := fun h => by rw [w46, if_pos h] at c49; exact absurd c49 (by decide)
      refine lv_iconst (v := 1) hx hb dX7_belongs_52 (by decide) ?_
      refine lv_goto (tgt := 57) hx hb dX7_belongs_53 (by decide) ?_
      refine hret 57 ls _ _ 1 (I30, A30, B30, C30, T30) _ _ (Nat.le_of_ble_eq_true rfl) (Nat.le_of_ble_eq_true rfl) dX7_belongs_57 rfl ?_ hP hD hS
      try dsimp only
      exact ⟨w2, w30.2.k, by rw [if_pos c13, if_neg c49]⟩
  · -- 13 not
    have c13 : ¬ evn fr to nv ne z := fun h => by rw [w10, if_pos h] at c13; exact absurd c13 (by decide)
    refine lv_iconst (v := 0) hx hb dX7_belongs_16 (by decide) ?_
    refine hret 17 ls _ _ 0 (I, A, B, C, T) _ _ (Nat.le_of_ble_eq_true rfl) (Nat.le_of_ble_eq_true rfl) dX7_belongs_17 rfl ?_ hP hD hS
    try dsimp only
    exact ⟨w2, fK.rf, by rw [if_neg c13]⟩
set_option maxHeartbeats 4000000 in
set_option maxRecDepth 100000 in
theorem k_X7_add (l : Launch) (dC : Nat → ClassId) (dI : Nat → Nat → Nat) (cI cJ cZ cII cJJ : ClassId) (R : Nat → Nat) (hlt : l.stackTraces = false) (I : Nat → Int32) (A : Nat → Nat → Int32) (B : Nat → Nat → Int64) (C : Nat → Nat → Int32) (T : Nat → Nat → Int64) (n2 rk2 : Nat) (row : Nat → Nat) (z : Nat) (hs : rS n2 rk2 row I B) (hn : n2 ≤ 64) (hz : z < 2 ^ 64) : cxI l (dC, dI) (tyL cI cJ cZ cII cJJ) (HW cI cJ cII cJJ R) yX7_add wsX7_add (7, 170) 2 [.ref (R 0), .long (lN z)] (I, A, B, C, T) (fun r u => z < 2 ^ 40 ∧ n2 < 64 ∧ r = nI (n2 + 1) ∧ rS (n2 + 1) (apk row rk2 z) (apn row z) u.1 u.2.2.1 ∧ u.1 0 = I 0 ∧ u.1 1 = I 1 ∧ u.2.1 = A) (fun E u => (E = nIA ∧ ¬ z < 2 ^ 40 ∧ u = (I, A, B, C, T)) ∨ (E = nIS ∧ z < 2 ^ 40 ∧ n2 = 64 ∧ u = (I, A, B, C, T))) := by
  refine cxI_intro (cc := cX7_add) (maxL := 3) hlt (Nat.le_of_ble_eq_true rfl) (Nat.le_of_ble_eq_true rfl) (by decide) rfl (Nat.le_of_ble_eq_true rfl) ?_
  intro p e s m below meth c ls Aa Q F hK hN hX hP hD hS hA hl hret hthr hthn hxo
  have hx := F.1
  have hb := F.2.1
  have hown : s.vm.findClass RX7 = some m.cls := F.2.2.2.1
  have hts := F.2.2.2.2
  have hinX5 : ∀ w ∈ wsX50, w ∈ wsX7_add := by decide +kernel
  have hinX7 : ∀ w ∈ wsX70, w ∈ wsX7_add := by decide +kernel
  have hf19 := hts (.fieldLink RX7 19 "CycleHouse" "list" "LCycleHouse$SetList;") (by decide +kernel)
  have hl : lv_has ls 3 [(0, .ref (R 0)), (1, .long (lN z))] := hl
  refine lv_aload_n hx hb dX7_add_0 rfl (lv_at hl 0 rfl) ?_
  refine lv_lload_n hx hb dX7_add_1 rfl (lv_at hl 1 rfl) ?_
  refine cx_callv hD hS hA (vx_runV (As := [.long (lN z)]) (rest := []) F ((k_X7_checkListed l dC dI cI cJ cZ cII cJJ R hlt I A B C T z hz) _) (cwV 1 hts gX7_add_X7_checkListed rfl rfl rfl (by decide +kernel) ⟨(Nat.le_of_ble_eq_true rfl), (Nat.le_of_ble_eq_true rfl)⟩) (cx_preV 0 7 hK hN hX hS hA hP hD rfl rfl) rfl rfl hl.1 rfl (lv_room (Nat.le_of_ble_eq_true rfl)) dX7_add_2 ⟨(Nat.le_of_ble_eq_true rfl), (Nat.le_of_ble_eq_true rfl)⟩) (fun E9 ce9 q9 u9 H9 locs9 a1 a2 a3 a4 a5 a6 a7 => hxo 2 ls H9 locs9 _ E9 ce9 q9 u9 _ _ (Nat.le_of_ble_eq_true rfl) (Nat.le_of_ble_eq_true rfl) a1 a2 a3 (.inl a4) a5 a6 a7) (fun u2 H locs w2 hP hD hS => ?_)
  obtain ⟨w2, rfl⟩ := w2
  refine lv_aload_n hx hb dX7_add_5 rfl (lv_at hl 0 rfl) ?_
  refine va_get (D := (dC, dI)) (ci := 7) (v := .ref (R 5)) (C := RX7) (T := TX7) (N := 8) hx hb hts hinX7 hown hK hP 0 rfl rfl 1 (by decide) hf19 (fun _ h9 => h9) rfl dX7_add_6 ?_
  refine va_getN (D := (dC, dI)) (ci := 5) (v := .int (I 2)) (C := RX5) (T := TX5) (N := 3) hx hb hts hinX5 hown hK hP 5 rfl rfl 0 (by decide) (nwOK.f hN RX7 192 "CycleHouse$SetList" "sets" "I" "CycleHouse" (by decide +kernel)) (fun _ h9 => h9) rfl dX7_add_9 ?_
  refine lv_bipush (v := 64) hx hb dX7_add_12 (by decide) ?_
  refine lv_icmp_lt (tgt := 27) hx hb dX7_add_14 (by decide) (fun c14 => ?_) (fun c14 => ?_)
  · -- 14 taken
    have c14 : n2 < 64 := by rw [hs.1] at c14; exact (nI_ltI (b := 64) (by omega) (by decide)).mp c14
    refine lv_aload_n hx hb dX7_add_27 rfl (lv_at hl 0 rfl) ?_
    refine va_get (D := (dC, dI)) (ci := 7) (v := .ref (R 5)) (C := RX7) (T := TX7) (N := 8) hx hb hts hinX7 hown hK hP 0 rfl rfl 1 (by decide) hf19 (fun _ h9 => h9) rfl dX7_add_28 ?_
    refine lv_lload_n hx hb dX7_add_31 rfl (lv_at hl 1 rfl) ?_
    refine ct_calli hD hS hA (va_runV (As := [.long (lN z)]) (rest := []) F ((k_X5_append l dC dI cI cJ cZ cII cJJ R I A B C T n2 rk2 row z hs w2) _) (cwV 1 hts gX7_add_X5_append rfl rfl rfl (by decide +kernel) ⟨(Nat.le_of_ble_eq_true rfl), (Nat.le_of_ble_eq_true rfl)⟩) (ct_preV 5 5 hK hN hP hD rfl rfl) rfl rfl hl.1 rfl (lv_room (Nat.le_of_ble_eq_true rfl)) dX7_add_32 ⟨(Nat.le_of_ble_eq_true rfl), (Nat.le_of_ble_eq_true rfl)⟩) (fun r32 u32 H locs w32 hP hD hS => ?_)
    obtain ⟨I32, A32, B32, C32, T32⟩ := u32
    refine hret 35 ls _ _ r32 (I32, A32, B32, C32, T32) _ _ (Nat.le_of_ble_eq_true rfl) (Nat.le_of_ble_eq_true rfl) dX7_add_35 rfl ?_ hP hD hS
    try dsimp only
    exact ⟨w2, c14, w32.1, w32.2.1, w32.2.2.1 0 (by decide) (by decide), w32.2.2.1 1 (by decide) (by decide), w32.2.2.2.1⟩
  · -- 14 not
    have c14 : n2 = 64 := by rw [hs.1] at c14; have := Classical.byContradiction (fun h : ¬ 64 ≤ n2 => c14 ((nI_ltI (b := 64) (by omega) (by decide)).mpr (by omega))); omega
    obtain ⟨sa, hsa⟩ := hX.1.2.2.2 (195, "the list has 64 sets") (by decide +kernel)
    refine hthr 17 ls _ _ (I, A, B, C, T) _ _ nIS "the list has 64 sets" 86 195 90 sa (by decide) (hts (.classLink RX7 86 nIS) (by decide +kernel)) (hts (.initialized nIS) (by decide +kernel)) hsa (vx_hat (B := exW) (fun w hw => hts w ((by decide +kernel : ∀ w ∈ (vx_atS RX7 90 nIS nmX).filter goodWord, w ∈ wsX7_add) w hw)) (by decide +kernel) hX.1.w) (by decide +kernel) (hl.1.trans F.2.2.1.symm) dX7_add_17 dX7_add_20 dX7_add_21 dX7_add_23 dX7_add_26 (Nat.le_of_ble_eq_true rfl) (Nat.le_of_ble_eq_true rfl) ?_ hP hD hS
    try dsimp only
    exact .inr ⟨rfl, w2, c14, rfl⟩
set_option maxHeartbeats 4000000 in
set_option maxRecDepth 100000 in
theorem k_X7_spans (l : Launch) (dC : Nat → ClassId) (dI : Nat → Nat → Nat) (cI cJ cZ cII cJJ : ClassId) (R : Nat → Nat) (hlt : l.stackTraces = false) (I : Nat → Int32) (A : Nat → Nat → Int32) (B : Nat → Nat → Int64) (C : Nat → Nat → Int32) (T : Nat → Nat → Int64) (n2 rk2 : Nat) (row : Nat → Nat) (z : Nat) (hs : rS n2 rk2 row I B) (hz : z < 2 ^ 64) : cxI l (dC, dI) (tyL cI cJ cZ cII cJJ) (HW cI cJ cII cJJ R) yX7_spans wsX7_spans (7, 170) 2 [.ref (R 0), .long (lN z)] (I, A, B, C, T) (fun r u => z < 2 ^ 40 ∧ r = (if rst row 40 z = 0 then 1 else 0) ∧ u = (I, A, B, C, T)) (fun E u => E = nIA ∧ ¬ z < 2 ^ 40 ∧ u = (I, A, B, C, T)) := by
  refine cxI_intro (cc := cX7_spans) (maxL := 3) hlt (Nat.le_of_ble_eq_true rfl) (Nat.le_of_ble_eq_true rfl) (by decide) rfl (Nat.le_of_ble_eq_true rfl) ?_
  intro p e s m below meth c ls Aa Q F hK hN hX hP hD hS hA hl hret hthr hthn hxo
  have hx := F.1
  have hb := F.2.1
  have hown : s.vm.findClass RX7 = some m.cls := F.2.2.2.1
  have hts := F.2.2.2.2
  have hinX5 : ∀ w ∈ wsX50, w ∈ wsX7_spans := by decide +kernel
  have hinX7 : ∀ w ∈ wsX70, w ∈ wsX7_spans := by decide +kernel
  have hf19 := hts (.fieldLink RX7 19 "CycleHouse" "list" "LCycleHouse$SetList;") (by decide +kernel)
  have hl : lv_has ls 3 [(0, .ref (R 0)), (1, .long (lN z))] := hl
  refine lv_aload_n hx hb dX7_spans_0 rfl (lv_at hl 0 rfl) ?_
  refine lv_lload_n hx hb dX7_spans_1 rfl (lv_at hl 1 rfl) ?_
  refine cx_callv hD hS hA (vx_runV (As := [.long (lN z)]) (rest := []) F ((k_X7_checkListed l dC dI cI cJ cZ cII cJJ R hlt I A B C T z hz) _) (cwV 1 hts gX7_spans_X7_checkListed rfl rfl rfl (by decide +kernel) ⟨(Nat.le_of_ble_eq_true rfl), (Nat.le_of_ble_eq_true rfl)⟩) (cx_preV 0 7 hK hN hX hS hA hP hD rfl rfl) rfl rfl hl.1 rfl (lv_room (Nat.le_of_ble_eq_true rfl)) dX7_spans_2 ⟨(Nat.le_of_ble_eq_true rfl), (Nat.le_of_ble_eq_true rfl)⟩) (fun E9 ce9 q9 u9 H9 locs9 a1 a2 a3 a4 a5 a6 a7 => hxo 2 ls H9 locs9 _ E9 ce9 q9 u9 _ _ (Nat.le_of_ble_eq_true rfl) (Nat.le_of_ble_eq_true rfl) a1 a2 a3 a4 a5 a6 a7) (fun u2 H locs w2 hP hD hS => ?_)
  obtain ⟨w2, rfl⟩ := w2
  refine lv_aload_n hx hb dX7_spans_5 rfl (lv_at hl 0 rfl) ?_
  refine va_get (D := (dC, dI)) (ci := 7) (v := .ref (R 5)) (C := RX7) (T := TX7) (N := 8) hx hb hts hinX7 hown hK hP 0 rfl rfl 1 (by decide) hf19 (fun _ h9 => h9) rfl dX7_spans_6 ?_
  refine lv_lload_n hx hb dX7_spans_9 rfl (lv_at hl 1 rfl) ?_
  refine ct_calll hD hS hA (va_runV (As := [.long (lN z)]) (rest := []) F ((k_X5_rest l dC dI cI cJ cZ cII cJJ R I A B C T n2 rk2 row z hs w2) _) (cwV 1 hts gX7_spans_X5_rest rfl rfl rfl (by decide +kernel) ⟨(Nat.le_of_ble_eq_true rfl), (Nat.le_of_ble_eq_true rfl)⟩) (ct_preV 5 5 hK hN hP hD rfl rfl) rfl rfl hl.1 rfl (lv_room (Nat.le_of_ble_eq_true rfl)) dX7_spans_10 ⟨(Nat.le_of_ble_eq_true rfl), (Nat.le_of_ble_eq_true rfl)⟩) (fun r10 u10 H locs w10 hP hD hS => ?_)
  obtain ⟨w10, rfl⟩ := w10
  have er10 : r10 = lN (rst row 40 z) := w10
  subst er10
  have hrl := rst_lt w2 (fun e he => (hs.2.2 e he).2) 40 (Nat.le_refl 40)
  refine lv_lconst (v := 0) hx hb dX7_spans_13 (by decide) ?_
  refine W.lcmp hx hb dX7_spans_14 ?_
  refine lv_if_ne (tgt := 22) hx hb dX7_spans_15 (by decide) (fun c15 => ?_) (fun c15 => ?_)
  · -- 15 taken
    rw [lg_cmp_eq] at c15
    have c15 : ¬ rst row 40 z = 0 := fun h => c15 (by rw [h]; rfl)
    refine lv_iconst (v := 0) hx hb dX7_spans_22 (by decide) ?_
    refine hret 23 ls _ _ 0 (I, A, B, C, T) _ _ (Nat.le_of_ble_eq_true rfl) (Nat.le_of_ble_eq_true rfl) dX7_spans_23 rfl ?_ hP hD hS
    try dsimp only
    exact ⟨w2, by rw [if_neg c15], rfl⟩
  · -- 15 not
    rw [lg_cmp_eq] at c15
    have c15 : rst row 40 z = 0 := (pk_lEQ (b := 0) (Nat.lt_trans hrl (by decide)) (by decide)).mp c15
    refine lv_iconst (v := 1) hx hb dX7_spans_18 (by decide) ?_
    refine lv_goto (tgt := 23) hx hb dX7_spans_19 (by decide) ?_
    refine hret 23 ls _ _ 1 (I, A, B, C, T) _ _ (Nat.le_of_ble_eq_true rfl) (Nat.le_of_ble_eq_true rfl) dX7_spans_23 rfl ?_ hP hD hS
    try dsimp only
    exact ⟨w2, by rw [if_pos c15], rfl⟩
set_option maxHeartbeats 4000000 in
set_option maxRecDepth 100000 in
theorem k_lookOut (l : Launch) (dC : Nat → ClassId) (dI : Nat → Nat → Nat) (cI cJ cZ cII cJJ : ClassId) (R : Nat → Nat) (hlt : l.stackTraces = false) (I : Nat → Int32) (A : Nat → Nat → Int32) (B : Nat → Nat → Int64) (C : Nat → Nat → Int32) (T : Nat → Nat → Int64) (v : Int32) (hv : v.toInt < 0 ∨ 8 < v.toInt) : cxI l (dC, dI) (tyL cI cJ cZ cII cJJ) (HW cI cJ cII cJJ R) yX7_look wsX7_look (8, 250) 2 [.ref (R 0), .int v] (I, A, B, C, T) (fun r u => False) (fun E u => E = nIA ∧ u = (I, A, B, C, T)) := by
  refine cxI_intro (cc := cX7_look) (maxL := 2) hlt (Nat.le_of_ble_eq_true rfl) (Nat.le_of_ble_eq_true rfl) (by decide) rfl (Nat.le_of_ble_eq_true rfl) ?_
  intro p e s m below meth c ls Aa Q F hK hN hX hP hD hS hA hl hret hthr hthn hxo
  have hx := F.1
  have hb := F.2.1
  have hown : s.vm.findClass RX7 = some m.cls := F.2.2.2.1
  have hts := F.2.2.2.2
  have hinX2 : ∀ w ∈ wsX20, w ∈ wsX7_look := by decide +kernel
  have hinX3 : ∀ w ∈ wsX30, w ∈ wsX7_look := by decide +kernel
  have hinX5 : ∀ w ∈ wsX50, w ∈ wsX7_look := by decide +kernel
  have hinX7 : ∀ w ∈ wsX70, w ∈ wsX7_look := by decide +kernel
  have hf10 := hts (.fieldLink RX7 10 "CycleHouse" "graph" "LCycleHouse$Graph;") (by decide +kernel)
  have hf19 := hts (.fieldLink RX7 19 "CycleHouse" "list" "LCycleHouse$SetList;") (by decide +kernel)
  have hl : lv_has ls 2 [(0, .ref (R 0)), (1, .int v)] := hl
  refine lv_iload_n hx hb dX7_look_0 rfl (lv_at hl 1 rfl) ?_
  refine lv_tableOut (tgt := 117) hx hb dX7_look_1 hv (by decide) ?_
  obtain ⟨sa, hsa⟩ := hX.1.2.2.2 (224, "what is 0 .. 8") (by decide +kernel)
  refine hthr 117 ls _ _ (I, A, B, C, T) _ _ nIA "what is 0 .. 8" 62 224 66 sa (by decide) (hts (.classLink RX7 62 nIA) (by decide +kernel)) (hts (.initialized nIA) (by decide +kernel)) hsa (vx_hat (B := exW) (fun w hw => hts w ((by decide +kernel : ∀ w ∈ (vx_atS RX7 66 nIA nmX).filter goodWord, w ∈ wsX7_look) w hw)) (by decide +kernel) hX.1.w) (by decide +kernel) (hl.1.trans F.2.2.1.symm) dX7_look_117 dX7_look_120 dX7_look_121 dX7_look_123 dX7_look_126 (Nat.le_of_ble_eq_true rfl) (Nat.le_of_ble_eq_true rfl) ?_ hP hD hS
  try dsimp only
  exact ⟨rfl, rfl⟩
set_option maxHeartbeats 4000000 in
set_option maxRecDepth 100000 in
theorem k_lookIn (l : Launch) (dC : Nat → ClassId) (dI : Nat → Nat → Nat) (cI cJ cZ cII cJJ : ClassId) (R : Nat → Nat) (hlt : l.stackTraces = false) (I : Nat → Int32) (A : Nat → Nat → Int32) (B : Nat → Nat → Int64) (C : Nat → Nat → Int32) (T : Nat → Nat → Int64) (nv ne : Nat) (fr to wt : Nat → Nat) (n2 rk2 : Nat) (row : Nat → Nat) (v : Int32) (k : Nat) (g : gH nv ne fr to wt I A) (hd : dmA fr to ne ≤ 14) (hs : rS n2 rk2 row I B) (hv : v = nI k) (hk : k < 9) : cxI l (dC, dI) (tyL cI cJ cZ cII cJJ) (HW cI cJ cII cJJ R) yX7_look wsX7_look (8, 250) 2 [.ref (R 0), .int v] (I, A, B, C, T) (fun r u => r = nI (lkH nv ne fr to n2 rk2 k) ∧ fK I A B u) (fun E u => False) := by
  refine cxI_intro (cc := cX7_look) (maxL := 2) hlt (Nat.le_of_ble_eq_true rfl) (Nat.le_of_ble_eq_true rfl) (by decide) rfl (Nat.le_of_ble_eq_true rfl) ?_
  intro p e s m below meth c ls Aa Q F hK hN hX hP hD hS hA hl hret hthr hthn hxo
  have hx := F.1
  have hb := F.2.1
  have hown : s.vm.findClass RX7 = some m.cls := F.2.2.2.1
  have hts := F.2.2.2.2
  have hinX2 : ∀ w ∈ wsX20, w ∈ wsX7_look := by decide +kernel
  have hinX3 : ∀ w ∈ wsX30, w ∈ wsX7_look := by decide +kernel
  have hinX5 : ∀ w ∈ wsX50, w ∈ wsX7_look := by decide +kernel
  have hinX7 : ∀ w ∈ wsX70, w ∈ wsX7_look := by decide +kernel
  have hf10 := hts (.fieldLink RX7 10 "CycleHouse" "graph" "LCycleHouse$Graph;") (by decide +kernel)
  have hf19 := hts (.fieldLink RX7 19 "CycleHouse" "list" "LCycleHouse$SetList;") (by decide +kernel)
  have hl : lv_has ls 2 [(0, .ref (R 0)), (1, .int v)] := hl
  refine lv_iload_n hx hb dX7_look_0 rfl (lv_at hl 1 rfl) ?_
  have hsw1 : k = 0 ∨ k = 1 ∨ k = 2 ∨ k = 3 ∨ k = 4 ∨ k = 5 ∨ k = 6 ∨ k = 7 ∨ k = 8 := by omega
  rcases hsw1 with hsw | hsw | hsw | hsw | hsw | hsw | hsw | hsw | hsw
  · rw [hsw] at hv
    refine lv_tableIn (off := 51) (tgt := 52) hx hb dX7_look_1 (by rw [hv]; decide) (by rw [hv]; decide) (by rw [hv]; rfl) (by decide) ?_
    refine lv_aload_n hx hb dX7_look_52 rfl (lv_at hl 0 rfl) ?_
    refine va_get (D := (dC, dI)) (ci := 7) (v := .ref (R 1)) (C := RX7) (T := TX7) (N := 8) hx hb hts hinX7 hown hK hP 0 rfl rfl 0 (by decide) hf10 (fun _ h9 => h9) rfl dX7_look_53 ?_
    refine va_getN (D := (dC, dI)) (ci := 2) (v := .int (I 0)) (C := RX2) (T := TX2) (N := 5) hx hb hts hinX2 hown hK hP 1 rfl rfl 0 (by decide) (nwOK.f hN RX7 205 "CycleHouse$Graph" "vertices" "I" "CycleHouse" (by decide +kernel)) (fun _ h9 => h9) rfl dX7_look_56 ?_
    refine hret 59 ls _ _ (I 0) (I, A, B, C, T) _ _ (Nat.le_of_ble_eq_true rfl) (Nat.le_of_ble_eq_true rfl) dX7_look_59 rfl ?_ hP hD hS
    try dsimp only
    exact ⟨by rw [hsw]; exact g.2.2.2.1, fK.rf⟩
  · rw [hsw] at hv
    refine lv_tableIn (off := 59) (tgt := 60) hx hb dX7_look_1 (by rw [hv]; decide) (by rw [hv]; decide) (by rw [hv]; rfl) (by decide) ?_
    refine lv_aload_n hx hb dX7_look_60 rfl (lv_at hl 0 rfl) ?_
    refine va_get (D := (dC, dI)) (ci := 7) (v := .ref (R 1)) (C := RX7) (T := TX7) (N := 8) hx hb hts hinX7 hown hK hP 0 rfl rfl 0 (by decide) hf10 (fun _ h9 => h9) rfl dX7_look_61 ?_
    refine va_getN (D := (dC, dI)) (ci := 2) (v := .int (I 1)) (C := RX2) (T := TX2) (N := 5) hx hb hts hinX2 hown hK hP 1 rfl rfl 1 (by decide) (nwOK.f hN RX7 69 "CycleHouse$Graph" "edges" "I" "CycleHouse" (by decide +kernel)) (fun _ h9 => h9) rfl dX7_look_64 ?_
    refine hret 67 ls _ _ (I 1) (I, A, B, C, T) _ _ (Nat.le_of_ble_eq_true rfl) (Nat.le_of_ble_eq_true rfl) dX7_look_67 rfl ?_ hP hD hS
    try dsimp only
    exact ⟨by rw [hsw]; exact g.2.2.2.2.1, fK.rf⟩
  · rw [hsw] at hv
    refine lv_tableIn (off := 67) (tgt := 68) hx hb dX7_look_1 (by rw [hv]; decide) (by rw [hv]; decide) (by rw [hv]; rfl) (by decide) ?_
    refine lv_aload_n hx hb dX7_look_68 rfl (lv_at hl 0 rfl) ?_
    refine ct_calli hD hS hA (va_runV (As := []) (rest := []) F ((k_X7_countGroups l dC dI cI cJ cZ cII cJJ R I A B C T nv ne fr to wt g) _) (cwV 0 hts gX7_look_X7_countGroups rfl rfl rfl (by decide +kernel) ⟨(Nat.le_of_ble_eq_true rfl), (Nat.le_of_ble_eq_true rfl)⟩) (ct_preV 0 7 hK hN hP hD rfl rfl) rfl rfl hl.1 rfl (lv_room (Nat.le_of_ble_eq_true rfl)) dX7_look_69 ⟨(Nat.le_of_ble_eq_true rfl), (Nat.le_of_ble_eq_true rfl)⟩) (fun r69 u69 H locs w69 hP hD hS => ?_)
    obtain ⟨I69, A69, B69, C69, T69⟩ := u69
    refine hret 72 ls _ _ r69 (I69, A69, B69, C69, T69) _ _ (Nat.le_of_ble_eq_true rfl) (Nat.le_of_ble_eq_true rfl) dX7_look_72 rfl ?_ hP hD hS
    try dsimp only
    exact ⟨by rw [hsw]; exact w69.1, w69.2.2.k⟩
  · rw [hsw] at hv
    refine lv_tableIn (off := 72) (tgt := 73) hx hb dX7_look_1 (by rw [hv]; decide) (by rw [hv]; decide) (by rw [hv]; rfl) (by decide) ?_
    refine lv_aload_n hx hb dX7_look_73 rfl (lv_at hl 0 rfl) ?_
    refine ct_calli hD hS hA (va_runV (As := []) (rest := []) F ((k_X7_joinWhole l dC dI cI cJ cZ cII cJJ R I A B C T nv ne fr to wt g) _) (cwV 0 hts gX7_look_X7_joinWhole rfl rfl rfl (by decide +kernel) ⟨(Nat.le_of_ble_eq_true rfl), (Nat.le_of_ble_eq_true rfl)⟩) (ct_preV 0 7 hK hN hP hD rfl rfl) rfl rfl hl.1 rfl (lv_room (Nat.le_of_ble_eq_true rfl)) dX7_look_74 ⟨(Nat.le_of_ble_eq_true rfl), (Nat.le_of_ble_eq_true rfl)⟩) (fun r74 u74 H locs w74 hP hD hS => ?_)
    obtain ⟨I74, A74, B74, C74, T74⟩ := u74
    refine hret 77 ls _ _ r74 (I74, A74, B74, C74, T74) _ _ (Nat.le_of_ble_eq_true rfl) (Nat.le_of_ble_eq_true rfl) dX7_look_77 rfl ?_ hP hD hS
    try dsimp only
    exact ⟨by rw [hsw]; exact w74.1, w74.2.2.k⟩
  · rw [hsw] at hv
    refine lv_tableIn (off := 77) (tgt := 78) hx hb dX7_look_1 (by rw [hv]; decide) (by rw [hv]; decide) (by rw [hv]; rfl) (by decide) ?_
    refine lv_aload_n hx hb dX7_look_78 rfl (lv_at hl 0 rfl) ?_
    refine ct_calli hD hS hA (va_runV (As := []) (rest := []) F ((k_X7_countEdgesInNoCycle l dC dI cI cJ cZ cII cJJ R I A B C T nv ne fr to wt g hd) _) (cwV 0 hts gX7_look_X7_countEdgesInNoCycle rfl rfl rfl (by decide +kernel) ⟨(Nat.le_of_ble_eq_true rfl), (Nat.le_of_ble_eq_true rfl)⟩) (ct_preV 0 7 hK hN hP hD rfl rfl) rfl rfl hl.1 rfl (lv_room (Nat.le_of_ble_eq_true rfl)) dX7_look_79 ⟨(Nat.le_of_ble_eq_true rfl), (Nat.le_of_ble_eq_true rfl)⟩) (fun r79 u79 H locs w79 hP hD hS => ?_)
    obtain ⟨I79, A79, B79, C79, T79⟩ := u79
    refine hret 82 ls _ _ r79 (I79, A79, B79, C79, T79) _ _ (Nat.le_of_ble_eq_true rfl) (Nat.le_of_ble_eq_true rfl) dX7_look_82 rfl ?_ hP hD hS
    try dsimp only
    exact ⟨by rw [hsw]; exact w79.1, w79.2.k⟩
  · rw [hsw] at hv
    refine lv_tableIn (off := 82) (tgt := 83) hx hb dX7_look_1 (by rw [hv]; decide) (by rw [hv]; decide) (by rw [hv]; rfl) (by decide) ?_
    refine lv_aload_n hx hb dX7_look_83 rfl (lv_at hl 0 rfl) ?_
    refine ct_calli hD hS hA (va_runV (As := []) (rest := []) F ((k_X7_hasOddCycle l dC dI cI cJ cZ cII cJJ R I A B C T nv ne fr to wt g hd) _) (cwV 0 hts gX7_look_X7_hasOddCycle rfl rfl rfl (by decide +kernel) ⟨(Nat.le_of_ble_eq_true rfl), (Nat.le_of_ble_eq_true rfl)⟩) (ct_preV 0 7 hK hN hP hD rfl rfl) rfl rfl hl.1 rfl (lv_room (Nat.le_of_ble_eq_true rfl)) dX7_look_84 ⟨(Nat.le_of_ble_eq_true rfl), (Nat.le_of_ble_eq_true rfl)⟩) (fun r84 u84 H locs w84 hP hD hS => ?_)
    obtain ⟨I84, A84, B84, C84, T84⟩ := u84
    refine lv_if_eq (tgt := 94) hx hb dX7_look_87 (by decide) (fun c87 => ?_) (fun c87 => ?_)
    · -- 87 taken
      have c87 : ¬ ∃ i, i < dmA fr to ne ∧ sz (rgA fr to ne i) 64 % 2 = 1 := fun ⟨i, h1, h2⟩ => by
        rcases w84.1 with h | h
        · rw [h.1] at c87; exact absurd c87 (by decide)
        · have := h.2 i h1; omega
      refine lv_iconst (v := 1) hx hb dX7_look_94 (by decide) ?_
      refine hret 95 ls _ _ 1 (I84, A84, B84, C84, T84) _ _ (Nat.le_of_ble_eq_true rfl) (Nat.le_of_ble_eq_true rfl) dX7_look_95 rfl ?_ hP hD hS
      try dsimp only
      exact ⟨by rw [hsw, lkH5_n c87]; rfl, w84.2.k⟩
    · -- 87 not
      have c87 : ∃ i, i < dmA fr to ne ∧ sz (rgA fr to ne i) 64 % 2 = 1 := by
        rcases w84.1 with h | h
        · exact h.2
        · exact absurd h.1 c87
      refine lv_iconst (v := 0) hx hb dX7_look_90 (by decide) ?_
      refine lv_goto (tgt := 95) hx hb dX7_look_91 (by decide) ?_
      refine hret 95 ls _ _ 0 (I84, A84, B84, C84, T84) _ _ (Nat.le_of_ble_eq_true rfl) (Nat.le_of_ble_eq_true rfl) dX7_look_95 rfl ?_ hP hD hS
      try dsimp only
      exact ⟨by rw [hsw, lkH5_y c87]; rfl, w84.2.k⟩
  · rw [hsw] at hv
    refine lv_tableIn (off := 95) (tgt := 96) hx hb dX7_look_1 (by rw [hv]; decide) (by rw [hv]; decide) (by rw [hv]; rfl) (by decide) ?_
    refine lv_aload_n hx hb dX7_look_96 rfl (lv_at hl 0 rfl) ?_
    refine va_get (D := (dC, dI)) (ci := 7) (v := .ref (R 5)) (C := RX7) (T := TX7) (N := 8) hx hb hts hinX7 hown hK hP 0 rfl rfl 1 (by decide) hf19 (fun _ h9 => h9) rfl dX7_look_97 ?_
    refine va_getN (D := (dC, dI)) (ci := 5) (v := .int (I 2)) (C := RX5) (T := TX5) (N := 3) hx hb hts hinX5 hown hK hP 5 rfl rfl 0 (by decide) (nwOK.f hN RX7 192 "CycleHouse$SetList" "sets" "I" "CycleHouse" (by decide +kernel)) (fun _ h9 => h9) rfl dX7_look_100 ?_
    refine hret 103 ls _ _ (I 2) (I, A, B, C, T) _ _ (Nat.le_of_ble_eq_true rfl) (Nat.le_of_ble_eq_true rfl) dX7_look_103 rfl ?_ hP hD hS
    try dsimp only
    exact ⟨by rw [hsw]; exact hs.1, fK.rf⟩
  · rw [hsw] at hv
    refine lv_tableIn (off := 103) (tgt := 104) hx hb dX7_look_1 (by rw [hv]; decide) (by rw [hv]; decide) (by rw [hv]; rfl) (by decide) ?_
    refine lv_aload_n hx hb dX7_look_104 rfl (lv_at hl 0 rfl) ?_
    refine va_get (D := (dC, dI)) (ci := 7) (v := .ref (R 5)) (C := RX7) (T := TX7) (N := 8) hx hb hts hinX7 hown hK hP 0 rfl rfl 1 (by decide) hf19 (fun _ h9 => h9) rfl dX7_look_105 ?_
    refine va_getN (D := (dC, dI)) (ci := 5) (v := .int (I 3)) (C := RX5) (T := TX5) (N := 3) hx hb hts hinX5 hown hK hP 5 rfl rfl 1 (by decide) (nwOK.f hN RX7 218 "CycleHouse$SetList" "rank" "I" "CycleHouse" (by decide +kernel)) (fun _ h9 => h9) rfl dX7_look_108 ?_
    refine hret 111 ls _ _ (I 3) (I, A, B, C, T) _ _ (Nat.le_of_ble_eq_true rfl) (Nat.le_of_ble_eq_true rfl) dX7_look_111 rfl ?_ hP hD hS
    try dsimp only
    exact ⟨by rw [hsw]; exact hs.2.1, fK.rf⟩
  · rw [hsw] at hv
    refine lv_tableIn (off := 111) (tgt := 112) hx hb dX7_look_1 (by rw [hv]; decide) (by rw [hv]; decide) (by rw [hv]; rfl) (by decide) ?_
    refine lv_aload_n hx hb dX7_look_112 rfl (lv_at hl 0 rfl) ?_
    refine ct_calli hD hS hA (va_runV (As := []) (rest := []) F ((k_X7_countCuttingVertices l dC dI cI cJ cZ cII cJJ R I A B C T nv ne fr to wt g) _) (cwV 0 hts gX7_look_X7_countCuttingVertices rfl rfl rfl (by decide +kernel) ⟨(Nat.le_of_ble_eq_true rfl), (Nat.le_of_ble_eq_true rfl)⟩) (ct_preV 0 7 hK hN hP hD rfl rfl) rfl rfl hl.1 rfl (lv_room (Nat.le_of_ble_eq_true rfl)) dX7_look_113 ⟨(Nat.le_of_ble_eq_true rfl), (Nat.le_of_ble_eq_true rfl)⟩) (fun r113 u113 H locs w113 hP hD hS => ?_)
    obtain ⟨I113, A113, B113, C113, T113⟩ := u113
    refine hret 116 ls _ _ r113 (I113, A113, B113, C113, T113) _ _ (Nat.le_of_ble_eq_true rfl) (Nat.le_of_ble_eq_true rfl) dX7_look_116 rfl ?_ hP hD hS
    try dsimp only
    exact ⟨by rw [hsw]; exact w113.1, w113.2.k⟩
