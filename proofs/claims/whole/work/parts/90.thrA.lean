set_option maxHeartbeats 4000000 in
set_option maxRecDepth 100000 in
theorem k_X7_checkEdges (l : Launch) (dC : Nat → ClassId) (dI : Nat → Nat → Nat) (cI cJ cZ cII cJJ : ClassId) (R : Nat → Nat) (hlt : l.stackTraces = false) (I : Nat → Int32) (A : Nat → Nat → Int32) (B : Nat → Nat → Int64) (C : Nat → Nat → Int32) (T : Nat → Nat → Int64) (nv ne : Nat) (fr to wt : Nat → Nat) (z : Nat) (g : gH nv ne fr to wt I A) (hz : z < 2 ^ 64) : cxV l (dC, dI) (tyL cI cJ cZ cII cJJ) (HW cI cJ cII cJJ R) yX7_checkEdges wsX7_checkEdges (6, 82) 1 [.ref (R 0), .long (lN z)] (I, A, B, C, T) (fun u => z < 2 ^ ne ∧ u = (I, A, B, C, T)) (fun E u => E = nIA ∧ ¬ z < 2 ^ ne ∧ u = (I, A, B, C, T)) := by
  refine cxV_intro (cc := cX7_checkEdges) (maxL := 3) hlt (Nat.le_of_ble_eq_true rfl) (Nat.le_of_ble_eq_true rfl) (by decide) rfl (Nat.le_of_ble_eq_true rfl) ?_
  intro p e s m below meth c ls Aa Q F hK hN hX hP hD hS hA hl hret hthr hthn hxo
  have hx := F.1
  have hb := F.2.1
  have hown : s.vm.findClass RX7 = some m.cls := F.2.2.2.1
  have hts := F.2.2.2.2
  have hinX2 : ∀ w ∈ wsX20, w ∈ wsX7_checkEdges := by decide +kernel
  have hinX7 : ∀ w ∈ wsX70, w ∈ wsX7_checkEdges := by decide +kernel
  have hf10 := hts (.fieldLink RX7 10 "CycleHouse" "graph" "LCycleHouse$Graph;") (by decide +kernel)
  have hl : lv_has ls 3 [(0, .ref (R 0)), (1, .long (lN z))] := hl
  refine lv_lload_n hx hb dX7_checkEdges_0 rfl (lv_at hl 1 rfl) ?_
  refine lv_aload_n hx hb dX7_checkEdges_1 rfl (lv_at hl 0 rfl) ?_
  refine va_get (D := (dC, dI)) (ci := 7) (v := .ref (R 1)) (C := RX7) (T := TX7) (N := 8) hx hb hts hinX7 hown hK hP 0 rfl rfl 0 (by decide) hf10 (fun _ h9 => h9) rfl dX7_checkEdges_2 ?_
  refine va_getN (D := (dC, dI)) (ci := 2) (v := .int (I 1)) (C := RX2) (T := TX2) (N := 5) hx hb hts hinX2 hown hK hP 1 rfl rfl 1 (by decide) (nwOK.f hN RX7 69 "CycleHouse$Graph" "edges" "I" "CycleHouse" (by decide +kernel)) (fun _ h9 => h9) rfl dX7_checkEdges_5 ?_
  refine lv_lushr hx hb dX7_checkEdges_8 rfl ?_
  refine lv_topl (fun x8 ex8 => ?_)
  refine lv_lconst (v := 0) hx hb dX7_checkEdges_9 (by decide) ?_
  refine W.lcmp hx hb dX7_checkEdges_10 ?_
  refine lv_if_eq (tgt := 24) hx hb dX7_checkEdges_11 (by decide) (fun c11 => ?_) (fun c11 => ?_)
  · -- 11 taken
    rw [lg_cmp_eq] at c11
    rw [ex8, g.2.2.2.2.1, nm_set hz g.2.2.1] at c11
    refine hret 24 ls _ _ (I, A, B, C, T) _ _ (Nat.le_of_ble_eq_true rfl) (Nat.le_of_ble_eq_true rfl) dX7_checkEdges_24 ?_ hP hD hS
    try dsimp only
    exact ⟨c11, rfl⟩
  · -- 11 not
    rw [lg_cmp_eq] at c11
    rw [ex8, g.2.2.2.2.1, nm_set hz g.2.2.1] at c11
    obtain ⟨sa, hsa⟩ := hX.1.2.2.2 (226, "the set has an edge that is not there") (by decide +kernel)
    refine hthr 14 ls _ _ (I, A, B, C, T) _ _ nIA "the set has an edge that is not there" 62 226 66 sa (by decide) (hts (.classLink RX7 62 nIA) (by decide +kernel)) (hts (.initialized nIA) (by decide +kernel)) hsa (vx_hat (B := exW) (fun w hw => hts w ((by decide +kernel : ∀ w ∈ (vx_atS RX7 66 nIA nmX).filter goodWord, w ∈ wsX7_checkEdges) w hw)) (by decide +kernel) hX.1.w) (by decide +kernel) (hl.1.trans F.2.2.1.symm) dX7_checkEdges_14 dX7_checkEdges_17 dX7_checkEdges_18 dX7_checkEdges_20 dX7_checkEdges_23 (Nat.le_of_ble_eq_true rfl) (Nat.le_of_ble_eq_true rfl) ?_ hP hD hS
    try dsimp only
    exact ⟨rfl, c11, rfl⟩
set_option maxHeartbeats 4000000 in
set_option maxRecDepth 100000 in
theorem k_X7_checkListed (l : Launch) (dC : Nat → ClassId) (dI : Nat → Nat → Nat) (cI cJ cZ cII cJJ : ClassId) (R : Nat → Nat) (hlt : l.stackTraces = false) (I : Nat → Int32) (A : Nat → Nat → Int32) (B : Nat → Nat → Int64) (C : Nat → Nat → Int32) (T : Nat → Nat → Int64) (z : Nat) (hz : z < 2 ^ 64) : cxV l (dC, dI) (tyL cI cJ cZ cII cJJ) (HW cI cJ cII cJJ R) yX7_checkListed wsX7_checkListed (6, 82) 1 [.ref (R 0), .long (lN z)] (I, A, B, C, T) (fun u => z < 2 ^ 40 ∧ u = (I, A, B, C, T)) (fun E u => E = nIA ∧ ¬ z < 2 ^ 40 ∧ u = (I, A, B, C, T)) := by
  refine cxV_intro (cc := cX7_checkListed) (maxL := 3) hlt (Nat.le_of_ble_eq_true rfl) (Nat.le_of_ble_eq_true rfl) (by decide) rfl (Nat.le_of_ble_eq_true rfl) ?_
  intro p e s m below meth c ls Aa Q F hK hN hX hP hD hS hA hl hret hthr hthn hxo
  have hx := F.1
  have hb := F.2.1
  have hown : s.vm.findClass RX7 = some m.cls := F.2.2.2.1
  have hts := F.2.2.2.2
  have hl : lv_has ls 3 [(0, .ref (R 0)), (1, .long (lN z))] := hl
  refine lv_lload_n hx hb dX7_checkListed_0 rfl (lv_at hl 1 rfl) ?_
  refine lv_bipush (v := 40) hx hb dX7_checkListed_1 (by decide) ?_
  refine lv_lushr hx hb dX7_checkListed_3 rfl ?_
  refine lv_topl (fun x3 ex3 => ?_)
  refine lv_lconst (v := 0) hx hb dX7_checkListed_4 (by decide) ?_
  refine W.lcmp hx hb dX7_checkListed_5 ?_
  refine lv_if_eq (tgt := 19) hx hb dX7_checkListed_6 (by decide) (fun c6 => ?_) (fun c6 => ?_)
  · -- 6 taken
    rw [lg_cmp_eq] at c6
    rw [ex3] at c6
    have c6 : z < 2 ^ 40 := (nm_set (k := 40) hz (by decide)).mp c6
    refine hret 19 ls _ _ (I, A, B, C, T) _ _ (Nat.le_of_ble_eq_true rfl) (Nat.le_of_ble_eq_true rfl) dX7_checkListed_19 ?_ hP hD hS
    try dsimp only
    exact ⟨c6, rfl⟩
  · -- 6 not
    rw [lg_cmp_eq] at c6
    rw [ex3] at c6
    have c6 : ¬ z < 2 ^ 40 := fun h => c6 ((nm_set (k := 40) hz (by decide)).mpr h)
    obtain ⟨sa, hsa⟩ := hX.1.2.2.2 (228, "the set has bits from 40 on") (by decide +kernel)
    refine hthr 9 ls _ _ (I, A, B, C, T) _ _ nIA "the set has bits from 40 on" 62 228 66 sa (by decide) (hts (.classLink RX7 62 nIA) (by decide +kernel)) (hts (.initialized nIA) (by decide +kernel)) hsa (vx_hat (B := exW) (fun w hw => hts w ((by decide +kernel : ∀ w ∈ (vx_atS RX7 66 nIA nmX).filter goodWord, w ∈ wsX7_checkListed) w hw)) (by decide +kernel) hX.1.w) (by decide +kernel) (hl.1.trans F.2.2.1.symm) dX7_checkListed_9 dX7_checkListed_12 dX7_checkListed_13 dX7_checkListed_15 dX7_checkListed_18 (Nat.le_of_ble_eq_true rfl) (Nat.le_of_ble_eq_true rfl) ?_ hP hD hS
    try dsimp only
    exact ⟨rfl, c6, rfl⟩
set_option maxHeartbeats 4000000 in
set_option maxRecDepth 100000 in
theorem k_X7_reset (l : Launch) (dC : Nat → ClassId) (dI : Nat → Nat → Nat) (cI cJ cZ cII cJJ : ClassId) (R : Nat → Nat) (hlt : l.stackTraces = false) (I : Nat → Int32) (A : Nat → Nat → Int32) (B : Nat → Nat → Int64) (C : Nat → Nat → Int32) (T : Nat → Nat → Int64) (v : Int32)  : cxI l (dC, dI) (tyL cI cJ cZ cII cJJ) (HW cI cJ cII cJJ R) yX7_reset wsX7_reset (6, 110) 2 [.ref (R 0), .int v] (I, A, B, C, T) (fun r u => ¬ (v < 1 ∨ 16 < v) ∧ r = I 1 ∧ u = (va_up (va_up I 0 v) 1 0, A, B, C, T)) (fun E u => E = nIA ∧ (v < 1 ∨ 16 < v) ∧ u = (I, A, B, C, T)) := by
  refine cxI_intro (cc := cX7_reset) (maxL := 3) hlt (Nat.le_of_ble_eq_true rfl) (Nat.le_of_ble_eq_true rfl) (by decide) rfl (Nat.le_of_ble_eq_true rfl) ?_
  intro p e s m below meth c ls Aa Q F hK hN hX hP hD hS hA hl hret hthr hthn hxo
  have hx := F.1
  have hb := F.2.1
  have hown : s.vm.findClass RX7 = some m.cls := F.2.2.2.1
  have hts := F.2.2.2.2
  have hinX2 : ∀ w ∈ wsX20, w ∈ wsX7_reset := by decide +kernel
  have hinX7 : ∀ w ∈ wsX70, w ∈ wsX7_reset := by decide +kernel
  have hf10 := hts (.fieldLink RX7 10 "CycleHouse" "graph" "LCycleHouse$Graph;") (by decide +kernel)
  have hl : lv_has ls 3 [(0, .ref (R 0)), (1, .int v)] := hl
  refine lv_iload_n hx hb dX7_reset_0 rfl (lv_at hl 1 rfl) ?_
  refine lv_iconst (v := 1) hx hb dX7_reset_1 (by decide) ?_
  refine lv_icmp_lt (tgt := 11) hx hb dX7_reset_2 (by decide) (fun c2 => ?_) (fun c2 => ?_)
  · -- 2 taken
    obtain ⟨sa, hsa⟩ := hX.1.2.2.2 (64, "vertices are 1 .. 16") (by decide +kernel)
    refine hthr 11 ls _ _ (I, A, B, C, T) _ _ nIA "vertices are 1 .. 16" 62 64 66 sa (by decide) (hts (.classLink RX7 62 nIA) (by decide +kernel)) (hts (.initialized nIA) (by decide +kernel)) hsa (vx_hat (B := exW) (fun w hw => hts w ((by decide +kernel : ∀ w ∈ (vx_atS RX7 66 nIA nmX).filter goodWord, w ∈ wsX7_reset) w hw)) (by decide +kernel) hX.1.w) (by decide +kernel) (hl.1.trans F.2.2.1.symm) dX7_reset_11 dX7_reset_14 dX7_reset_15 dX7_reset_17 dX7_reset_20 (Nat.le_of_ble_eq_true rfl) (Nat.le_of_ble_eq_true rfl) ?_ hP hD hS
    try dsimp only
    exact ⟨rfl, .inl c2, rfl⟩
  · -- 2 not
    refine lv_iload_n hx hb dX7_reset_5 rfl (lv_at hl 1 rfl) ?_
    refine lv_bipush (v := 16) hx hb dX7_reset_6 (by decide) ?_
    refine lv_icmp_le (tgt := 21) hx hb dX7_reset_8 (by decide) (fun c8 => ?_) (fun c8 => ?_)
    · -- 8 taken
      refine lv_aload_n hx hb dX7_reset_21 rfl (lv_at hl 0 rfl) ?_
      refine va_get (D := (dC, dI)) (ci := 7) (v := .ref (R 1)) (C := RX7) (T := TX7) (N := 8) hx hb hts hinX7 hown hK hP 0 rfl rfl 0 (by decide) hf10 (fun _ h9 => h9) rfl dX7_reset_22 ?_
      refine va_getN (D := (dC, dI)) (ci := 2) (v := .int (I 1)) (C := RX2) (T := TX2) (N := 5) hx hb hts hinX2 hown hK hP 1 rfl rfl 1 (by decide) (nwOK.f hN RX7 69 "CycleHouse$Graph" "edges" "I" "CycleHouse" (by decide +kernel)) (fun _ h9 => h9) rfl dX7_reset_25 ?_
      refine lv_istore_n (lv' := [(2, .int (I 1)), (0, .ref (R 0)), (1, .int v)]) hx hb dX7_reset_28 rfl hl (by decide) rfl (fun ls hl => ?_)
      refine lv_aload_n hx hb dX7_reset_29 rfl (lv_at hl 1 rfl) ?_
      refine va_get (D := (dC, dI)) (ci := 7) (v := .ref (R 1)) (C := RX7) (T := TX7) (N := 8) hx hb hts hinX7 hown hK hP 0 rfl rfl 0 (by decide) hf10 (fun _ h9 => h9) rfl dX7_reset_30 ?_
      refine lv_iload_n hx hb dX7_reset_33 rfl (lv_at hl 2 rfl) ?_
      refine ct_callv hD hS hA (va_runV (As := [.int v]) (rest := []) F ((k_X2_begin l dC dI cI cJ cZ cII cJJ R I A B C T v) _) (cwV 1 hts gX7_reset_X2_begin rfl rfl rfl (by decide +kernel) ⟨(Nat.le_of_ble_eq_true rfl), (Nat.le_of_ble_eq_true rfl)⟩) (ct_preV 1 2 hK hN hP hD rfl rfl) rfl rfl hl.1 rfl (lv_room (Nat.le_of_ble_eq_true rfl)) dX7_reset_34 ⟨(Nat.le_of_ble_eq_true rfl), (Nat.le_of_ble_eq_true rfl)⟩) (fun u34 H locs w34 hP hD hS => ?_)
      obtain ⟨I34, A34, B34, C34, T34⟩ := u34
      refine lv_iload_n hx hb dX7_reset_37 rfl (lv_at hl 0 rfl) ?_
      refine hret 38 ls _ _ (I 1) (I34, A34, B34, C34, T34) _ _ (Nat.le_of_ble_eq_true rfl) (Nat.le_of_ble_eq_true rfl) dX7_reset_38 rfl ?_ hP hD hS
      try dsimp only
      exact ⟨fun h => h.elim c2 (fun h => absurd c8 (Int32.not_le.mpr h)), rfl, w34⟩
    · -- 8 not
      obtain ⟨sa, hsa⟩ := hX.1.2.2.2 (64, "vertices are 1 .. 16") (by decide +kernel)
      refine hthr 11 ls _ _ (I, A, B, C, T) _ _ nIA "vertices are 1 .. 16" 62 64 66 sa (by decide) (hts (.classLink RX7 62 nIA) (by decide +kernel)) (hts (.initialized nIA) (by decide +kernel)) hsa (vx_hat (B := exW) (fun w hw => hts w ((by decide +kernel : ∀ w ∈ (vx_atS RX7 66 nIA nmX).filter goodWord, w ∈ wsX7_reset) w hw)) (by decide +kernel) hX.1.w) (by decide +kernel) (hl.1.trans F.2.2.1.symm) dX7_reset_11 dX7_reset_14 dX7_reset_15 dX7_reset_17 dX7_reset_20 (Nat.le_of_ble_eq_true rfl) (Nat.le_of_ble_eq_true rfl) ?_ hP hD hS
      try dsimp only
      exact ⟨rfl, .inr (Int32.not_le.mp c8), rfl⟩
set_option maxHeartbeats 4000000 in
set_option maxRecDepth 100000 in
theorem k_X7_drop (l : Launch) (dC : Nat → ClassId) (dI : Nat → Nat → Nat) (cI cJ cZ cII cJJ : ClassId) (R : Nat → Nat) (hlt : l.stackTraces = false) (I : Nat → Int32) (A : Nat → Nat → Int32) (B : Nat → Nat → Int64) (C : Nat → Nat → Int32) (T : Nat → Nat → Int64) (ne : Nat) (h1 : I 1 = nI ne) (hne : ne ≤ 40) : cxI l (dC, dI) (tyL cI cJ cZ cII cJJ) (HW cI cJ cII cJJ R) yX7_drop wsX7_drop (6, 110) 2 [.ref (R 0)] (I, A, B, C, T) (fun r u => ne ≠ 0 ∧ r = nI (ne - 1) ∧ u = (va_up I 1 (nI (ne - 1)), A, B, C, T)) (fun E u => E = nIS ∧ ne = 0 ∧ u = (I, A, B, C, T)) := by
  refine cxI_intro (cc := cX7_drop) (maxL := 1) hlt (Nat.le_of_ble_eq_true rfl) (Nat.le_of_ble_eq_true rfl) (by decide) rfl (Nat.le_of_ble_eq_true rfl) ?_
  intro p e s m below meth c ls Aa Q F hK hN hX hP hD hS hA hl hret hthr hthn hxo
  have hx := F.1
  have hb := F.2.1
  have hown : s.vm.findClass RX7 = some m.cls := F.2.2.2.1
  have hts := F.2.2.2.2
  have hinX2 : ∀ w ∈ wsX20, w ∈ wsX7_drop := by decide +kernel
  have hinX7 : ∀ w ∈ wsX70, w ∈ wsX7_drop := by decide +kernel
  have hf10 := hts (.fieldLink RX7 10 "CycleHouse" "graph" "LCycleHouse$Graph;") (by decide +kernel)
  have hl : lv_has ls 1 [(0, .ref (R 0))] := hl
  refine lv_aload_n hx hb dX7_drop_0 rfl (lv_at hl 0 rfl) ?_
  refine va_get (D := (dC, dI)) (ci := 7) (v := .ref (R 1)) (C := RX7) (T := TX7) (N := 8) hx hb hts hinX7 hown hK hP 0 rfl rfl 0 (by decide) hf10 (fun _ h9 => h9) rfl dX7_drop_1 ?_
  refine va_getN (D := (dC, dI)) (ci := 2) (v := .int (I 1)) (C := RX2) (T := TX2) (N := 5) hx hb hts hinX2 hown hK hP 1 rfl rfl 1 (by decide) (nwOK.f hN RX7 69 "CycleHouse$Graph" "edges" "I" "CycleHouse" (by decide +kernel)) (fun _ h9 => h9) rfl dX7_drop_4 ?_
  refine lv_if_ne (tgt := 20) hx hb dX7_drop_7 (by decide) (fun c7 => ?_) (fun c7 => ?_)
  · -- 7 taken
    have c7 : ne ≠ 0 := fun h => c7 (by rw [h1, h]; rfl)
    have hsub : I 1 - 1 = nI (ne - 1) := by rw [h1]; exact pk_sub (b := 1) (by omega)
    refine lv_aload_n hx hb dX7_drop_20 rfl (lv_at hl 0 rfl) ?_
    refine va_get (D := (dC, dI)) (ci := 7) (v := .ref (R 1)) (C := RX7) (T := TX7) (N := 8) hx hb hts hinX7 hown hK hP 0 rfl rfl 0 (by decide) hf10 (fun _ h9 => h9) rfl dX7_drop_21 ?_
    refine ct_calli hD hS hA (va_runV (As := []) (rest := []) F ((k_X2_removeLast l dC dI cI cJ cZ cII cJJ R I A B C T ) _) (cwV 0 hts gX7_drop_X2_removeLast rfl rfl rfl (by decide +kernel) ⟨(Nat.le_of_ble_eq_true rfl), (Nat.le_of_ble_eq_true rfl)⟩) (ct_preV 1 2 hK hN hP hD rfl rfl) rfl rfl hl.1 rfl (lv_room (Nat.le_of_ble_eq_true rfl)) dX7_drop_24 ⟨(Nat.le_of_ble_eq_true rfl), (Nat.le_of_ble_eq_true rfl)⟩) (fun r24 u24 H locs w24 hP hD hS => ?_)
    obtain ⟨I24, A24, B24, C24, T24⟩ := u24
    refine hret 27 ls _ _ r24 (I24, A24, B24, C24, T24) _ _ (Nat.le_of_ble_eq_true rfl) (Nat.le_of_ble_eq_true rfl) dX7_drop_27 rfl ?_ hP hD hS
    try dsimp only
    exact ⟨c7, w24.1.trans hsub, by rw [w24.2, hsub]⟩
  · -- 7 not
    have c7 : ne = 0 := by rw [h1] at c7; exact (nI_eq (b := 0) (by omega) (by decide)).mp c7
    obtain ⟨sa, hsa⟩ := hX.1.2.2.2 (105, "there is no edge") (by decide +kernel)
    refine hthr 10 ls _ _ (I, A, B, C, T) _ _ nIS "there is no edge" 86 105 90 sa (by decide) (hts (.classLink RX7 86 nIS) (by decide +kernel)) (hts (.initialized nIS) (by decide +kernel)) hsa (vx_hat (B := exW) (fun w hw => hts w ((by decide +kernel : ∀ w ∈ (vx_atS RX7 90 nIS nmX).filter goodWord, w ∈ wsX7_drop) w hw)) (by decide +kernel) hX.1.w) (by decide +kernel) (hl.1.trans F.2.2.1.symm) dX7_drop_10 dX7_drop_13 dX7_drop_14 dX7_drop_16 dX7_drop_19 (Nat.le_of_ble_eq_true rfl) (Nat.le_of_ble_eq_true rfl) ?_ hP hD hS
    try dsimp only
    exact ⟨rfl, c7, rfl⟩
set_option maxHeartbeats 4000000 in
set_option maxRecDepth 100000 in
theorem k_X7_edge (l : Launch) (dC : Nat → ClassId) (dI : Nat → Nat → Nat) (cI cJ cZ cII cJJ : ClassId) (R : Nat → Nat) (hlt : l.stackTraces = false) (I : Nat → Int32) (A : Nat → Nat → Int32) (B : Nat → Nat → Int64) (C : Nat → Nat → Int32) (T : Nat → Nat → Int64) (nv ne : Nat) (fr to wt : Nat → Nat) (a b w : Int32) (g : gH nv ne fr to wt I A) (hd : dmA fr to ne ≤ 14) : cxI l (dC, dI) (tyL cI cJ cZ cII cJJ) (HW cI cJ cII cJJ R) yX7_edge wsX7_edge (6, 170) 2 [.ref (R 0), .int a, .int b, .int w] (I, A, B, C, T) (fun r u => ¬ bE nv a b w ∧ ¬ fE ne (jRun fr to (fl ne) ne) a b ∧ r = nI ne ∧ nH ne a b w I A B u) (fun E u => (E = nIA ∧ bE nv a b w ∧ fK I A B u) ∨ (E = nIS ∧ ¬ bE nv a b w ∧ fE ne (jRun fr to (fl ne) ne) a b ∧ fK I A B u)) := by
  refine cxI_intro (cc := cX7_edge) (maxL := 4) hlt (Nat.le_of_ble_eq_true rfl) (Nat.le_of_ble_eq_true rfl) (by decide) rfl (Nat.le_of_ble_eq_true rfl) ?_
  intro p e s m below meth c ls Aa Q F hK hN hX hP hD hS hA hl hret hthr hthn hxo
  have hx := F.1
  have hb := F.2.1
  have hown : s.vm.findClass RX7 = some m.cls := F.2.2.2.1
  have hts := F.2.2.2.2
  have hinX2 : ∀ w ∈ wsX20, w ∈ wsX7_edge := by decide +kernel
  have hinX3 : ∀ w ∈ wsX30, w ∈ wsX7_edge := by decide +kernel
  have hinX7 : ∀ w ∈ wsX70, w ∈ wsX7_edge := by decide +kernel
  have hf10 := hts (.fieldLink RX7 10 "CycleHouse" "graph" "LCycleHouse$Graph;") (by decide +kernel)
  have hf26 := hts (.fieldLink RX7 26 "CycleHouse" "groups" "LCycleHouse$Groups;") (by decide +kernel)
  have hl : lv_has ls 4 [(0, .ref (R 0)), (1, .int a), (2, .int b), (3, .int w)] := hl
  obtain ⟨g1, g2, g3, g4, g5, g6⟩ := id g
  refine lv_aload_n hx hb dX7_edge_0 rfl (lv_at hl 0 rfl) ?_
  refine va_get (D := (dC, dI)) (ci := 7) (v := .ref (R 1)) (C := RX7) (T := TX7) (N := 8) hx hb hts hinX7 hown hK hP 0 rfl rfl 0 (by decide) hf10 (fun _ h9 => h9) rfl dX7_edge_1 ?_
  refine lv_iload_n hx hb dX7_edge_4 rfl (lv_at hl 1 rfl) ?_
  refine ct_calli hD hS hA (va_runV (As := [.int a]) (rest := []) F ((k_X2_hasVertex l dC dI cI cJ cZ cII cJJ R I A B C T a) _) (cwV 1 hts gX7_edge_X2_hasVertex rfl rfl rfl (by decide +kernel) ⟨(Nat.le_of_ble_eq_true rfl), (Nat.le_of_ble_eq_true rfl)⟩) (ct_preV 1 2 hK hN hP hD rfl rfl) rfl rfl hl.1 rfl (lv_room (Nat.le_of_ble_eq_true rfl)) dX7_edge_5 ⟨(Nat.le_of_ble_eq_true rfl), (Nat.le_of_ble_eq_true rfl)⟩) (fun r5 u5 H locs w5 hP hD hS => ?_)
  obtain ⟨w5, rfl⟩ := w5
  refine lv_if_eq (tgt := 22) hx hb dX7_edge_8 (by decide) (fun c8 => ?_) (fun c8 => ?_)
  · -- 8 taken
    have c8 : a < 0 ∨ nI nv ≤ a := by rw [w5, g4] at c8; exact isv.mp c8
    obtain ⟨sa, hsa⟩ := hX.1.2.2.2 (81, "no such vertex") (by decide +kernel)
    refine hthr 22 ls _ _ (I, A, B, C, T) _ _ nIA "no such vertex" 62 81 66 sa (by decide) (hts (.classLink RX7 62 nIA) (by decide +kernel)) (hts (.initialized nIA) (by decide +kernel)) hsa (vx_hat (B := exW) (fun w hw => hts w ((by decide +kernel : ∀ w ∈ (vx_atS RX7 66 nIA nmX).filter goodWord, w ∈ wsX7_edge) w hw)) (by decide +kernel) hX.1.w) (by decide +kernel) (hl.1.trans F.2.2.1.symm) dX7_edge_22 dX7_edge_25 dX7_edge_26 dX7_edge_28 dX7_edge_31 (Nat.le_of_ble_eq_true rfl) (Nat.le_of_ble_eq_true rfl) ?_ hP hD hS
    try dsimp only
    exact .inl ⟨rfl, c8.elim .inl (fun h => .inr (.inl h)), fK.rf⟩
  · -- 8 not
    have c8 : ¬ (a < 0 ∨ nI nv ≤ a) := fun h => c8 (by rw [w5, g4]; exact isv.mpr h)
    refine lv_aload_n hx hb dX7_edge_11 rfl (lv_at hl 0 rfl) ?_
    refine va_get (D := (dC, dI)) (ci := 7) (v := .ref (R 1)) (C := RX7) (T := TX7) (N := 8) hx hb hts hinX7 hown hK hP 0 rfl rfl 0 (by decide) hf10 (fun _ h9 => h9) rfl dX7_edge_12 ?_
    refine lv_iload_n hx hb dX7_edge_15 rfl (lv_at hl 2 rfl) ?_
    refine ct_calli hD hS hA (va_runV (As := [.int b]) (rest := []) F ((k_X2_hasVertex l dC dI cI cJ cZ cII cJJ R I A B C T b) _) (cwV 1 hts gX7_edge_X2_hasVertex rfl rfl rfl (by decide +kernel) ⟨(Nat.le_of_ble_eq_true rfl), (Nat.le_of_ble_eq_true rfl)⟩) (ct_preV 1 2 hK hN hP hD rfl rfl) rfl rfl hl.1 rfl (lv_room (Nat.le_of_ble_eq_true rfl)) dX7_edge_16 ⟨(Nat.le_of_ble_eq_true rfl), (Nat.le_of_ble_eq_true rfl)⟩) (fun r16 u16 H locs w16 hP hD hS => ?_)
    obtain ⟨w16, rfl⟩ := w16
    refine lv_if_ne (tgt := 32) hx hb dX7_edge_19 (by decide) (fun c19 => ?_) (fun c19 => ?_)
    · -- 19 taken
      have c19 : ¬ (b < 0 ∨ nI nv ≤ b) := fun h => c19 (by rw [w16, g4]; exact isv.mpr h)
      obtain ⟨ja, ja1, ja2, ja3⟩ := vtx_of g2 (fun h => c8 (.inl h)) (fun h => c8 (.inr h))
      obtain ⟨jb, jb1, jb2, jb3⟩ := vtx_of g2 (fun h => c19 (.inl h)) (fun h => c19 (.inr h))
      refine lv_iload_n hx hb dX7_edge_32 rfl (lv_at hl 3 rfl) ?_
      refine lv_if_lt (tgt := 42) hx hb dX7_edge_33 (by decide) (fun c33 => ?_) (fun c33 => ?_)
      · -- 33 taken
        obtain ⟨sa, hsa⟩ := hX.1.2.2.2 (84, "a weight is 0 .. 1000000000") (by decide +kernel)
        refine hthr 42 ls _ _ (I, A, B, C, T) _ _ nIA "a weight is 0 .. 1000000000" 62 84 66 sa (by decide) (hts (.classLink RX7 62 nIA) (by decide +kernel)) (hts (.initialized nIA) (by decide +kernel)) hsa (vx_hat (B := exW) (fun w hw => hts w ((by decide +kernel : ∀ w ∈ (vx_atS RX7 66 nIA nmX).filter goodWord, w ∈ wsX7_edge) w hw)) (by decide +kernel) hX.1.w) (by decide +kernel) (hl.1.trans F.2.2.1.symm) dX7_edge_42 dX7_edge_45 dX7_edge_46 dX7_edge_48 dX7_edge_51 (Nat.le_of_ble_eq_true rfl) (Nat.le_of_ble_eq_true rfl) ?_ hP hD hS
        try dsimp only
        exact .inl ⟨rfl, .inr (.inr (.inr (.inr (.inl c33)))), fK.rf⟩
      · -- 33 not
        refine lv_iload_n hx hb dX7_edge_36 rfl (lv_at hl 3 rfl) ?_
        refine lv_ldc (v := 1000000000) hx hb hown (hts (.constant RX7 83 1000000000) (by decide +kernel)) dX7_edge_37 ?_
        refine lv_icmp_le (tgt := 52) hx hb dX7_edge_39 (by decide) (fun c39 => ?_) (fun c39 => ?_)
        · -- 39 taken
          have hbE : ¬ bE nv a b w := fun h => by
            rcases h with h | h | h | h | h | h
            · exact c8 (.inl h)
            · exact c8 (.inr h)
            · exact c19 (.inl h)
            · exact c19 (.inr h)
            · exact c33 h
            · exact absurd c39 (Int32.not_le.mpr h)
          refine lv_aload_n hx hb dX7_edge_52 rfl (lv_at hl 0 rfl) ?_
          refine va_get (D := (dC, dI)) (ci := 7) (v := .ref (R 1)) (C := RX7) (T := TX7) (N := 8) hx hb hts hinX7 hown hK hP 0 rfl rfl 0 (by decide) hf10 (fun _ h9 => h9) rfl dX7_edge_53 ?_
          refine va_getN (D := (dC, dI)) (ci := 2) (v := .int (I 1)) (C := RX2) (T := TX2) (N := 5) hx hb hts hinX2 hown hK hP 1 rfl rfl 1 (by decide) (nwOK.f hN RX7 69 "CycleHouse$Graph" "edges" "I" "CycleHouse" (by decide +kernel)) (fun _ h9 => h9) rfl dX7_edge_56 ?_
          refine lv_bipush (v := 40) hx hb dX7_edge_59 (by decide) ?_
          refine lv_icmp_lt (tgt := 74) hx hb dX7_edge_61 (by decide) (fun c61 => ?_) (fun c61 => ?_)
          · -- 61 taken
            have h40 : ne < 40 := by rw [g5] at c61; exact (nI_ltI (b := 40) (by omega) (by decide)).mp c61
            refine lv_aload_n hx hb dX7_edge_74 rfl (lv_at hl 0 rfl) ?_
            refine ct_calli hD hS hA (va_runV (As := []) (rest := []) F ((k_X7_joinWhole l dC dI cI cJ cZ cII cJJ R I A B C T nv ne fr to wt g) _) (cwV 0 hts gX7_edge_X7_joinWhole rfl rfl rfl (by decide +kernel) ⟨(Nat.le_of_ble_eq_true rfl), (Nat.le_of_ble_eq_true rfl)⟩) (ct_preV 0 7 hK hN hP hD rfl rfl) rfl rfl hl.1 rfl (lv_room (Nat.le_of_ble_eq_true rfl)) dX7_edge_75 ⟨(Nat.le_of_ble_eq_true rfl), (Nat.le_of_ble_eq_true rfl)⟩) (fun r75 u75 H locs w75 hP hD hS => ?_)
            obtain ⟨I75, A75, B75, C75, T75⟩ := u75
            have gg := g.fg w75.2.2
            have hdl : dmA fr to ne ≤ 14 := hd
            refine lv_bipush (v := 14) hx hb dX7_edge_78 (by decide) ?_
            refine lv_icmp_lt (tgt := 105) hx hb dX7_edge_80 (by decide) (fun c80 => ?_) (fun c80 => ?_)
            · -- 80 taken
              have c80 : dmA fr to ne < 14 := by rw [w75.1] at c80; exact (nI_ltI (b := 14) (by omega) (by decide)).mp c80
              have hfE : ¬ fE ne (jRun fr to (fl ne) ne) a b := fun h => h.elim (fun h => by omega) (fun h => by have := h.1; have c80 : (jRun fr to (fl ne) ne).2.2.1 < 14 := c80; omega)
              refine lv_aload_n hx hb dX7_edge_105 rfl (lv_at hl 0 rfl) ?_
              refine va_get (D := (dC, dI)) (ci := 7) (v := .ref (R 1)) (C := RX7) (T := TX7) (N := 8) hx hb hts hinX7 hown hK hP 0 rfl rfl 0 (by decide) hf10 (fun _ h9 => h9) rfl dX7_edge_106 ?_
              refine lv_iload_n hx hb dX7_edge_109 rfl (lv_at hl 1 rfl) ?_
              refine lv_iload_n hx hb dX7_edge_110 rfl (lv_at hl 2 rfl) ?_
              refine lv_iload_n hx hb dX7_edge_111 rfl (lv_at hl 3 rfl) ?_
              refine ct_calli hD hS hA (va_runV (As := [.int a, .int b, .int w]) (rest := []) F ((k_X2_append l dC dI cI cJ cZ cII cJJ R I75 A75 B75 C75 T75 ne a b w gg.2.2.2.2.1 h40) _) (cwV 3 hts gX7_edge_X2_append rfl rfl rfl (by decide +kernel) ⟨(Nat.le_of_ble_eq_true rfl), (Nat.le_of_ble_eq_true rfl)⟩) (ct_preV 1 2 hK hN hP hD rfl rfl) rfl rfl hl.1 rfl (lv_room (Nat.le_of_ble_eq_true rfl)) dX7_edge_112 ⟨(Nat.le_of_ble_eq_true rfl), (Nat.le_of_ble_eq_true rfl)⟩) (fun r112 u112 H locs w112 hP hD hS => ?_)
              obtain ⟨I112, A112, B112, C112, T112⟩ := u112
              refine hret 115 ls _ _ r112 (I112, A112, B112, C112, T112) _ _ (Nat.le_of_ble_eq_true rfl) (Nat.le_of_ble_eq_true rfl) dX7_edge_115 rfl ?_ hP hD hS
              try dsimp only
              exact ⟨hbE, hfE, w112.1, nH_of w75.2.2.k w112.2⟩
            · -- 80 not
              have c80 : dmA fr to ne = 14 := by rw [w75.1] at c80; have := Classical.byContradiction (fun h : ¬ 14 ≤ dmA fr to ne => c80 ((nI_ltI (b := 14) (by omega) (by decide)).mpr (Nat.lt_of_not_le h))); exact Nat.le_antisymm hd this
              refine lv_aload_n hx hb dX7_edge_83 rfl (lv_at hl 0 rfl) ?_
              refine va_get (D := (dC, dI)) (ci := 7) (v := .ref (R 7)) (C := RX7) (T := TX7) (N := 8) hx hb hts hinX7 hown hK hP 0 rfl rfl 2 (by decide) hf26 (fun _ h9 => h9) rfl dX7_edge_84 ?_
              refine lv_iload_n hx hb dX7_edge_87 rfl (lv_at hl 1 rfl) ?_
              have ea : a = nI ja := ja2
              subst ea
              refine lv_iload_n hx hb dX7_edge_88 rfl (lv_at hl 2 rfl) ?_
              have eb : b = nI jb := jb2
              subst eb
              refine ct_calli hD hS hA (va_runV (As := [.int (nI ja), .int (nI jb)]) (rest := []) F ((k_X3_together l dC dI cI cJ cZ cII cJJ R I75 A75 B75 C75 T75 nv (jRun fr to (fl ne) ne) ja jb g2 w75.2.1.1 ja1 jb1) _) (cwV 2 hts gX7_edge_X3_together rfl rfl rfl (by decide +kernel) ⟨(Nat.le_of_ble_eq_true rfl), (Nat.le_of_ble_eq_true rfl)⟩) (ct_preV 7 3 hK hN hP hD rfl rfl) rfl rfl hl.1 rfl (lv_room (Nat.le_of_ble_eq_true rfl)) dX7_edge_89 ⟨(Nat.le_of_ble_eq_true rfl), (Nat.le_of_ble_eq_true rfl)⟩) (fun r89 u89 H locs w89 hP hD hS => ?_)
              obtain ⟨w89, rfl⟩ := w89
              refine lv_if_eq (tgt := 105) hx hb dX7_edge_92 (by decide) (fun c92 => ?_) (fun c92 => ?_)
              · -- 92 taken
                have hfE : ¬ fE ne (jRun fr to (fl ne) ne) (nI ja) (nI jb) := fun h => h.elim (fun h => by omega) (fun h => by have h2 := h.2; rw [nI_clamp (by omega), nI_clamp (by omega)] at h2; rw [w89, if_pos h2] at c92; exact absurd c92 (by decide))
                refine lv_aload_n hx hb dX7_edge_105 rfl (lv_at hl 0 rfl) ?_
                refine va_get (D := (dC, dI)) (ci := 7) (v := .ref (R 1)) (C := RX7) (T := TX7) (N := 8) hx hb hts hinX7 hown hK hP 0 rfl rfl 0 (by decide) hf10 (fun _ h9 => h9) rfl dX7_edge_106 ?_
                refine lv_iload_n hx hb dX7_edge_109 rfl (lv_at hl 1 rfl) ?_
                refine lv_iload_n hx hb dX7_edge_110 rfl (lv_at hl 2 rfl) ?_
                refine lv_iload_n hx hb dX7_edge_111 rfl (lv_at hl 3 rfl) ?_
                refine ct_calli hD hS hA (va_runV (As := [.int (nI ja), .int (nI jb), .int w]) (rest := []) F ((k_X2_append l dC dI cI cJ cZ cII cJJ R I75 A75 B75 C75 T75 ne (nI ja) (nI jb) w gg.2.2.2.2.1 h40) _) (cwV 3 hts gX7_edge_X2_append rfl rfl rfl (by decide +kernel) ⟨(Nat.le_of_ble_eq_true rfl), (Nat.le_of_ble_eq_true rfl)⟩) (ct_preV 1 2 hK hN hP hD rfl rfl) rfl rfl hl.1 rfl (lv_room (Nat.le_of_ble_eq_true rfl)) dX7_edge_112 ⟨(Nat.le_of_ble_eq_true rfl), (Nat.le_of_ble_eq_true rfl)⟩) (fun r112 u112 H locs w112 hP hD hS => ?_)
                obtain ⟨I112, A112, B112, C112, T112⟩ := u112
                refine hret 115 ls _ _ r112 (I112, A112, B112, C112, T112) _ _ (Nat.le_of_ble_eq_true rfl) (Nat.le_of_ble_eq_true rfl) dX7_edge_115 rfl ?_ hP hD hS
                try dsimp only
                exact ⟨hbE, hfE, w112.1, nH_of w75.2.2.k w112.2⟩
              · -- 92 not
                have c92 : (jRun fr to (fl ne) ne).1 ja = (jRun fr to (fl ne) ne).1 jb := Classical.byContradiction (fun h => c92 (by rw [w89, if_neg h]))
                obtain ⟨sa, hsa⟩ := hX.1.2.2.2 (99, "the dimension is 14") (by decide +kernel)
                refine hthr 95 ls _ _ (I75, A75, B75, C75, T75) _ _ nIS "the dimension is 14" 86 99 90 sa (by decide) (hts (.classLink RX7 86 nIS) (by decide +kernel)) (hts (.initialized nIS) (by decide +kernel)) hsa (vx_hat (B := exW) (fun w hw => hts w ((by decide +kernel : ∀ w ∈ (vx_atS RX7 90 nIS nmX).filter goodWord, w ∈ wsX7_edge) w hw)) (by decide +kernel) hX.1.w) (by decide +kernel) (hl.1.trans F.2.2.1.symm) dX7_edge_95 dX7_edge_98 dX7_edge_99 dX7_edge_101 dX7_edge_104 (Nat.le_of_ble_eq_true rfl) (Nat.le_of_ble_eq_true rfl) ?_ hP hD hS
                try dsimp only
                exact .inr ⟨rfl, hbE, .inr ⟨c80, by rw [nI_clamp (by omega), nI_clamp (by omega)]; exact c92⟩, w75.2.2.k⟩
          · -- 61 not
            have h40 : ne = 40 := by rw [g5] at c61; have := Classical.byContradiction (fun h : ¬ 40 ≤ ne => c61 ((nI_ltI (b := 40) (by omega) (by decide)).mpr (by omega))); omega
            obtain ⟨sa, hsa⟩ := hX.1.2.2.2 (88, "there are 40 edges") (by decide +kernel)
            refine hthr 64 ls _ _ (I, A, B, C, T) _ _ nIS "there are 40 edges" 86 88 90 sa (by decide) (hts (.classLink RX7 86 nIS) (by decide +kernel)) (hts (.initialized nIS) (by decide +kernel)) hsa (vx_hat (B := exW) (fun w hw => hts w ((by decide +kernel : ∀ w ∈ (vx_atS RX7 90 nIS nmX).filter goodWord, w ∈ wsX7_edge) w hw)) (by decide +kernel) hX.1.w) (by decide +kernel) (hl.1.trans F.2.2.1.symm) dX7_edge_64 dX7_edge_67 dX7_edge_68 dX7_edge_70 dX7_edge_73 (Nat.le_of_ble_eq_true rfl) (Nat.le_of_ble_eq_true rfl) ?_ hP hD hS
            try dsimp only
            exact .inr ⟨rfl, hbE, .inl h40, fK.rf⟩
        · -- 39 not
          obtain ⟨sa, hsa⟩ := hX.1.2.2.2 (84, "a weight is 0 .. 1000000000") (by decide +kernel)
          refine hthr 42 ls _ _ (I, A, B, C, T) _ _ nIA "a weight is 0 .. 1000000000" 62 84 66 sa (by decide) (hts (.classLink RX7 62 nIA) (by decide +kernel)) (hts (.initialized nIA) (by decide +kernel)) hsa (vx_hat (B := exW) (fun w hw => hts w ((by decide +kernel : ∀ w ∈ (vx_atS RX7 66 nIA nmX).filter goodWord, w ∈ wsX7_edge) w hw)) (by decide +kernel) hX.1.w) (by decide +kernel) (hl.1.trans F.2.2.1.symm) dX7_edge_42 dX7_edge_45 dX7_edge_46 dX7_edge_48 dX7_edge_51 (Nat.le_of_ble_eq_true rfl) (Nat.le_of_ble_eq_true rfl) ?_ hP hD hS
          try dsimp only
          exact .inl ⟨rfl, .inr (.inr (.inr (.inr (.inr (Int32.not_le.mp c39))))), fK.rf⟩
    · -- 19 not
      have c19 : b < 0 ∨ nI nv ≤ b := by rw [w16, g4] at c19; exact isv.mp c19
      obtain ⟨sa, hsa⟩ := hX.1.2.2.2 (81, "no such vertex") (by decide +kernel)
      refine hthr 22 ls _ _ (I, A, B, C, T) _ _ nIA "no such vertex" 62 81 66 sa (by decide) (hts (.classLink RX7 62 nIA) (by decide +kernel)) (hts (.initialized nIA) (by decide +kernel)) hsa (vx_hat (B := exW) (fun w hw => hts w ((by decide +kernel : ∀ w ∈ (vx_atS RX7 66 nIA nmX).filter goodWord, w ∈ wsX7_edge) w hw)) (by decide +kernel) hX.1.w) (by decide +kernel) (hl.1.trans F.2.2.1.symm) dX7_edge_22 dX7_edge_25 dX7_edge_26 dX7_edge_28 dX7_edge_31 (Nat.le_of_ble_eq_true rfl) (Nat.le_of_ble_eq_true rfl) ?_ hP hD hS
      try dsimp only
      exact .inl ⟨rfl, .inr (.inr (c19.elim .inl (fun h => .inr (.inl h)))), fK.rf⟩
