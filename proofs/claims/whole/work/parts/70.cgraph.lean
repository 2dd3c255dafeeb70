set_option maxHeartbeats 4000000 in
set_option maxRecDepth 100000 in
theorem k_X7_has (l : Launch) (dC : Nat → ClassId) (dI : Nat → Nat → Nat) (cI cJ cZ cII cJJ : ClassId) (R : Nat → Nat) (I : Nat → Int32) (A : Nat → Nat → Int32) (B : Nat → Nat → Int64) (C : Nat → Nat → Int32) (T : Nat → Nat → Int64) (z k : Nat) (hz : z < 2 ^ 64) (hk : k < 64) : ctI l (dC, dI) (tyL cI cJ cZ cII cJJ) (HW cI cJ cII cJJ R) yX7_has wsX7_has (0, 0) [.long (lN z), .int (nI k)] (I, A, B, C, T) (fun r u => r = (if z.testBit k then 1 else 0) ∧ u = (I, A, B, C, T)) := by
  refine ctI_intro (cc := cX7_has) (maxL := 3) (by decide) rfl (Nat.le_of_ble_eq_true rfl) ?_
  intro p e s m below meth c ls Aa Q F hK hN hP hD hS hA hl hret
  have hx := F.1
  have hb := F.2.1
  have hown : s.vm.findClass RX7 = some m.cls := F.2.2.2.1
  have hts := F.2.2.2.2
  have hl : lv_has ls 3 [(0, .long (lN z)), (2, .int (nI k))] := hl
  refine lv_lload_n hx hb dX7_has_0 rfl (lv_at hl 0 rfl) ?_
  refine lv_iload_n hx hb dX7_has_1 rfl (lv_at hl 1 rfl) ?_
  refine lv_lushr hx hb dX7_has_2 rfl ?_
  refine lv_topl (fun x2 ex2 => ?_)
  refine lv_lconst (v := 1) hx hb dX7_has_3 (by decide) ?_
  refine lv_land hx hb dX7_has_4 ?_
  refine lv_topl (fun x4 ex4 => ?_)
  refine lv_lconst (v := 0) hx hb dX7_has_5 (by decide) ?_
  refine W.lcmp hx hb dX7_has_6 ?_
  refine lv_if_eq (tgt := 14) hx hb dX7_has_7 (by decide) (fun c7 => ?_) (fun c7 => ?_)
  · -- 7 taken
    rw [lg_cmp_eq] at c7
    rw [ex4, ex2, nm_ubit0 hz hk] at c7
    refine lv_iconst (v := 0) hx hb dX7_has_14 (by decide) ?_
    refine hret 15 ls _ _ 0 (I, A, B, C, T) dX7_has_15 rfl ?_ hP hD hS
    try dsimp only
    exact ⟨by rw [c7]; rfl, rfl⟩
  · -- 7 not
    rw [lg_cmp_eq] at c7
    rw [ex4, ex2, nm_ubit0 hz hk] at c7
    refine lv_iconst (v := 1) hx hb dX7_has_10 (by decide) ?_
    refine lv_goto (tgt := 15) hx hb dX7_has_11 (by decide) ?_
    refine hret 15 ls _ _ 1 (I, A, B, C, T) dX7_has_15 rfl ?_ hP hD hS
    try dsimp only
    exact ⟨by rw [if_pos (by cases h : z.testBit k with | true => rfl | false => exact absurd h c7)], rfl⟩
set_option maxHeartbeats 4000000 in
set_option maxRecDepth 100000 in
theorem k_X2_begin (l : Launch) (dC : Nat → ClassId) (dI : Nat → Nat → Nat) (cI cJ cZ cII cJJ : ClassId) (R : Nat → Nat) (I : Nat → Int32) (A : Nat → Nat → Int32) (B : Nat → Nat → Int64) (C : Nat → Nat → Int32) (T : Nat → Nat → Int64) (v : Int32)  : ctV l (dC, dI) (tyL cI cJ cZ cII cJJ) (HW cI cJ cII cJJ R) yX2_begin wsX2_begin (0, 0) [.ref (R 1), .int v] (I, A, B, C, T) (fun u => u = (va_up (va_up I 0 v) 1 0, A, B, C, T)) := by
  refine ctV_intro (cc := cX2_begin) (maxL := 2) (by decide) rfl (Nat.le_of_ble_eq_true rfl) ?_
  intro p e s m below meth c ls Aa Q F hK hN hP hD hS hA hl hret
  have hx := F.1
  have hb := F.2.1
  have hown : s.vm.findClass RX2 = some m.cls := F.2.2.2.1
  have hts := F.2.2.2.2
  have hinX2 : ∀ w ∈ wsX20, w ∈ wsX2_begin := by decide +kernel
  have hf9 := hts (.fieldLink RX2 9 "CycleHouse$Graph" "vertices" "I") (by decide +kernel)
  have hf25 := hts (.fieldLink RX2 25 "CycleHouse$Graph" "edges" "I") (by decide +kernel)
  have hl : lv_has ls 2 [(0, .ref (R 1)), (1, .int v)] := hl
  refine lv_aload_n hx hb dX2_begin_0 rfl (lv_at hl 0 rfl) ?_
  refine lv_iload_n hx hb dX2_begin_1 rfl (lv_at hl 1 rfl) ?_
  refine va_put (D := (dC, dI)) (ci := 2) (v := .int v) (ty := .int) (C := RX2) (T := TX2) (N := 5) hx hb hts hinX2 tyX2 tyX2_ok nmX2 hown hK hP hD hS 1 rfl rfl 0 (by decide) hf9 (fun _ h9 => h9) rfl (by decide +kernel) rfl rfl (Nat.le_of_ble_eq_true rfl) dX2_begin_2 (fun H locs hP hD hS => ?_)
  obtain ⟨I2, eI2⟩ : ∃ zz : Nat → Int32, zz = va_up I 0 v := ⟨_, rfl⟩
  have hP : va_P (dC, dI) vwCl (HW cI cJ cII cJJ R (I2, A, B, C, T)) H := by rw [eI2]; exact hP
  have hD : va_D Aa (HW cI cJ cII cJJ R (I2, A, B, C, T)) := by rw [eI2]; exact hD
  refine lv_aload_n hx hb dX2_begin_5 rfl (lv_at hl 0 rfl) ?_
  refine lv_iconst (v := 0) hx hb dX2_begin_6 (by decide) ?_
  refine va_put (D := (dC, dI)) (ci := 2) (v := .int 0) (ty := .int) (C := RX2) (T := TX2) (N := 5) hx hb hts hinX2 tyX2 tyX2_ok nmX2 hown hK hP hD hS 1 rfl rfl 1 (by decide) hf25 (fun _ h9 => h9) rfl (by decide +kernel) rfl rfl (Nat.le_of_ble_eq_true rfl) dX2_begin_7 (fun H locs hP hD hS => ?_)
  obtain ⟨I7, eI7⟩ : ∃ zz : Nat → Int32, zz = va_up I2 1 0 := ⟨_, rfl⟩
  have hP : va_P (dC, dI) vwCl (HW cI cJ cII cJJ R (I7, A, B, C, T)) H := by rw [eI7]; exact hP
  have hD : va_D Aa (HW cI cJ cII cJJ R (I7, A, B, C, T)) := by rw [eI7]; exact hD
  refine hret 10 ls _ _ (I7, A, B, C, T) dX2_begin_10 ?_ hP hD hS
  try dsimp only
  exact (by rw [eI7, eI2])
set_option maxHeartbeats 4000000 in
set_option maxRecDepth 100000 in
theorem k_X2_hasVertex (l : Launch) (dC : Nat → ClassId) (dI : Nat → Nat → Nat) (cI cJ cZ cII cJJ : ClassId) (R : Nat → Nat) (I : Nat → Int32) (A : Nat → Nat → Int32) (B : Nat → Nat → Int64) (C : Nat → Nat → Int32) (T : Nat → Nat → Int64) (v : Int32)  : ctI l (dC, dI) (tyL cI cJ cZ cII cJJ) (HW cI cJ cII cJJ R) yX2_hasVertex wsX2_hasVertex (0, 0) [.ref (R 1), .int v] (I, A, B, C, T) (fun r u => r = (if v < 0 then 0 else if I 0 ≤ v then 0 else 1) ∧ u = (I, A, B, C, T)) := by
  refine ctI_intro (cc := cX2_hasVertex) (maxL := 2) (by decide) rfl (Nat.le_of_ble_eq_true rfl) ?_
  intro p e s m below meth c ls Aa Q F hK hN hP hD hS hA hl hret
  have hx := F.1
  have hb := F.2.1
  have hown : s.vm.findClass RX2 = some m.cls := F.2.2.2.1
  have hts := F.2.2.2.2
  have hinX2 : ∀ w ∈ wsX20, w ∈ wsX2_hasVertex := by decide +kernel
  have hf9 := hts (.fieldLink RX2 9 "CycleHouse$Graph" "vertices" "I") (by decide +kernel)
  have hl : lv_has ls 2 [(0, .ref (R 1)), (1, .int v)] := hl
  refine lv_iload_n hx hb dX2_hasVertex_0 rfl (lv_at hl 1 rfl) ?_
  refine lv_if_lt (tgt := 16) hx hb dX2_hasVertex_1 (by decide) (fun c1 => ?_) (fun c1 => ?_)
  · -- 1 taken
    refine lv_iconst (v := 0) hx hb dX2_hasVertex_16 (by decide) ?_
    refine hret 17 ls _ _ 0 (I, A, B, C, T) dX2_hasVertex_17 rfl ?_ hP hD hS
    try dsimp only
    exact ⟨by simp [*], rfl⟩
  · -- 1 not
    refine lv_iload_n hx hb dX2_hasVertex_4 rfl (lv_at hl 1 rfl) ?_
    refine lv_aload_n hx hb dX2_hasVertex_5 rfl (lv_at hl 0 rfl) ?_
    refine va_get (D := (dC, dI)) (ci := 2) (v := .int (I 0)) (C := RX2) (T := TX2) (N := 5) hx hb hts hinX2 hown hK hP 1 rfl rfl 0 (by decide) hf9 (fun _ h9 => h9) rfl dX2_hasVertex_6 ?_
    refine lv_icmp_ge (tgt := 16) hx hb dX2_hasVertex_9 (by decide) (fun c9 => ?_) (fun c9 => ?_)
    · -- 9 taken
      refine lv_iconst (v := 0) hx hb dX2_hasVertex_16 (by decide) ?_
      refine hret 17 ls _ _ 0 (I, A, B, C, T) dX2_hasVertex_17 rfl ?_ hP hD hS
      try dsimp only
      exact ⟨by simp [*], rfl⟩
    · -- 9 not
      refine lv_iconst (v := 1) hx hb dX2_hasVertex_12 (by decide) ?_
      refine lv_goto (tgt := 17) hx hb dX2_hasVertex_13 (by decide) ?_
      refine hret 17 ls _ _ 1 (I, A, B, C, T) dX2_hasVertex_17 rfl ?_ hP hD hS
      try dsimp only
      exact ⟨by simp [*], rfl⟩
set_option maxHeartbeats 4000000 in
set_option maxRecDepth 100000 in
theorem k_X2_append (l : Launch) (dC : Nat → ClassId) (dI : Nat → Nat → Nat) (cI cJ cZ cII cJJ : ClassId) (R : Nat → Nat) (I : Nat → Int32) (A : Nat → Nat → Int32) (B : Nat → Nat → Int64) (C : Nat → Nat → Int32) (T : Nat → Nat → Int64) (ne : Nat) (a b w : Int32) (h1 : I 1 = nI ne) (hne : ne < 40) : ctI l (dC, dI) (tyL cI cJ cZ cII cJJ) (HW cI cJ cII cJJ R) yX2_append wsX2_append (0, 0) [.ref (R 1), .int a, .int b, .int w] (I, A, B, C, T) (fun r u => r = nI ne ∧ u = (va_up I 1 (nI (ne + 1)), va_up (va_up (va_up A 2 (upd (A 2) ne a)) 3 (upd (A 3) ne b)) 4 (upd (A 4) ne w), B, C, T)) := by
  refine ctI_intro (cc := cX2_append) (maxL := 5) (by decide) rfl (Nat.le_of_ble_eq_true rfl) ?_
  intro p e s m below meth c ls Aa Q F hK hN hP hD hS hA hl hret
  have hx := F.1
  have hb := F.2.1
  have hown : s.vm.findClass RX2 = some m.cls := F.2.2.2.1
  have hts := F.2.2.2.2
  have hinX2 : ∀ w ∈ wsX20, w ∈ wsX2_append := by decide +kernel
  have hf25 := hts (.fieldLink RX2 25 "CycleHouse$Graph" "edges" "I") (by decide +kernel)
  have hf15 := hts (.fieldLink RX2 15 "CycleHouse$Graph" "from" "[I") (by decide +kernel)
  have hf19 := hts (.fieldLink RX2 19 "CycleHouse$Graph" "to" "[I") (by decide +kernel)
  have hf22 := hts (.fieldLink RX2 22 "CycleHouse$Graph" "weight" "[I") (by decide +kernel)
  have hl : lv_has ls 5 [(0, .ref (R 1)), (1, .int a), (2, .int b), (3, .int w)] := hl
  have ecl : (I 1).toNatClampNeg = ne := by rw [h1]; exact nI_clamp (by omega)
  have ein : vp_in (I 1) 40 := by rw [h1]; exact vp_in_nI hne (by omega)
  refine lv_aload_n hx hb dX2_append_0 rfl (lv_at hl 0 rfl) ?_
  refine va_get (D := (dC, dI)) (ci := 2) (v := .int (I 1)) (C := RX2) (T := TX2) (N := 5) hx hb hts hinX2 hown hK hP 1 rfl rfl 1 (by decide) hf25 (fun _ h9 => h9) rfl dX2_append_1 ?_
  refine lv_istore (lv' := [(4, .int (I 1)), (0, .ref (R 1)), (1, .int a), (2, .int b), (3, .int w)]) hx hb dX2_append_4 hl (by decide) rfl (fun ls hl => ?_)
  refine lv_aload_n hx hb dX2_append_6 rfl (lv_at hl 1 rfl) ?_
  refine va_get (D := (dC, dI)) (ci := 2) (v := .ref (R 2)) (C := RX2) (T := TX2) (N := 5) hx hb hts hinX2 hown hK hP 1 rfl rfl 2 (by decide) hf15 (fun _ h9 => h9) rfl dX2_append_7 ?_
  refine lv_iload hx hb dX2_append_10 (lv_at hl 0 rfl) ?_
  refine lv_iload_n hx hb dX2_append_12 rfl (lv_at hl 2 rfl) ?_
  have h13 : vp_in (I 1) 40 := ein
  refine va_iast hx hb hK hP hD hS 2 0 rfl rfl h13 dX2_append_13 (fun H locs hP hD hS => ?_)
  obtain ⟨A13, eA13⟩ : ∃ zz : Nat → Nat → Int32, zz = va_up A 2 (upd (A 2) (I 1).toNatClampNeg a) := ⟨_, rfl⟩
  have hP : va_P (dC, dI) vwCl (HW cI cJ cII cJJ R (I, A13, B, C, T)) H := by rw [eA13]; exact hP
  have hD : va_D Aa (HW cI cJ cII cJJ R (I, A13, B, C, T)) := by rw [eA13]; exact hD
  refine lv_aload_n hx hb dX2_append_14 rfl (lv_at hl 1 rfl) ?_
  refine va_get (D := (dC, dI)) (ci := 2) (v := .ref (R 3)) (C := RX2) (T := TX2) (N := 5) hx hb hts hinX2 hown hK hP 1 rfl rfl 3 (by decide) hf19 (fun _ h9 => h9) rfl dX2_append_15 ?_
  refine lv_iload hx hb dX2_append_18 (lv_at hl 0 rfl) ?_
  refine lv_iload_n hx hb dX2_append_20 rfl (lv_at hl 3 rfl) ?_
  have h21 : vp_in (I 1) 40 := ein
  refine va_iast hx hb hK hP hD hS 3 0 rfl rfl h21 dX2_append_21 (fun H locs hP hD hS => ?_)
  obtain ⟨A21, eA21⟩ : ∃ zz : Nat → Nat → Int32, zz = va_up A13 3 (upd (A13 3) (I 1).toNatClampNeg b) := ⟨_, rfl⟩
  have hP : va_P (dC, dI) vwCl (HW cI cJ cII cJJ R (I, A21, B, C, T)) H := by rw [eA21]; exact hP
  have hD : va_D Aa (HW cI cJ cII cJJ R (I, A21, B, C, T)) := by rw [eA21]; exact hD
  refine lv_aload_n hx hb dX2_append_22 rfl (lv_at hl 1 rfl) ?_
  refine va_get (D := (dC, dI)) (ci := 2) (v := .ref (R 4)) (C := RX2) (T := TX2) (N := 5) hx hb hts hinX2 hown hK hP 1 rfl rfl 4 (by decide) hf22 (fun _ h9 => h9) rfl dX2_append_23 ?_
  refine lv_iload hx hb dX2_append_26 (lv_at hl 0 rfl) ?_
  refine lv_iload_n hx hb dX2_append_28 rfl (lv_at hl 4 rfl) ?_
  have h29 : vp_in (I 1) 40 := ein
  refine va_iast hx hb hK hP hD hS 4 0 rfl rfl h29 dX2_append_29 (fun H locs hP hD hS => ?_)
  obtain ⟨A29, eA29⟩ : ∃ zz : Nat → Nat → Int32, zz = va_up A21 4 (upd (A21 4) (I 1).toNatClampNeg w) := ⟨_, rfl⟩
  have hP : va_P (dC, dI) vwCl (HW cI cJ cII cJJ R (I, A29, B, C, T)) H := by rw [eA29]; exact hP
  have hD : va_D Aa (HW cI cJ cII cJJ R (I, A29, B, C, T)) := by rw [eA29]; exact hD
  refine lv_aload_n hx hb dX2_append_30 rfl (lv_at hl 1 rfl) ?_
  refine lv_dup hx hb dX2_append_31 rfl ?_
  refine va_get (D := (dC, dI)) (ci := 2) (v := .int (I 1)) (C := RX2) (T := TX2) (N := 5) hx hb hts hinX2 hown hK hP 1 rfl rfl 1 (by decide) hf25 (fun _ h9 => h9) rfl dX2_append_32 ?_
  refine lv_iconst (v := 1) hx hb dX2_append_35 (by decide) ?_
  refine lv_iadd hx hb dX2_append_36 ?_
  refine lv_topi (fun x36 ex36 => ?_)
  refine va_put (D := (dC, dI)) (ci := 2) (v := .int x36) (ty := .int) (C := RX2) (T := TX2) (N := 5) hx hb hts hinX2 tyX2 tyX2_ok nmX2 hown hK hP hD hS 1 rfl rfl 1 (by decide) hf25 (fun _ h9 => h9) rfl (by decide +kernel) rfl rfl (Nat.le_of_ble_eq_true rfl) dX2_append_37 (fun H locs hP hD hS => ?_)
  obtain ⟨I37, eI37⟩ : ∃ zz : Nat → Int32, zz = va_up I 1 x36 := ⟨_, rfl⟩
  have hP : va_P (dC, dI) vwCl (HW cI cJ cII cJJ R (I37, A29, B, C, T)) H := by rw [eI37]; exact hP
  have hD : va_D Aa (HW cI cJ cII cJJ R (I37, A29, B, C, T)) := by rw [eI37]; exact hD
  refine lv_iload hx hb dX2_append_40 (lv_at hl 0 rfl) ?_
  refine hret 42 ls _ _ (I 1) (I37, A29, B, C, T) dX2_append_42 rfl ?_ hP hD hS
  try dsimp only
  exact ⟨h1, by rw [eI37, ex36, h1, nI_1, eA29, eA21, eA13, ecl]; rfl⟩
set_option maxHeartbeats 4000000 in
set_option maxRecDepth 100000 in
theorem k_X2_removeLast (l : Launch) (dC : Nat → ClassId) (dI : Nat → Nat → Nat) (cI cJ cZ cII cJJ : ClassId) (R : Nat → Nat) (I : Nat → Int32) (A : Nat → Nat → Int32) (B : Nat → Nat → Int64) (C : Nat → Nat → Int32) (T : Nat → Nat → Int64)   : ctI l (dC, dI) (tyL cI cJ cZ cII cJJ) (HW cI cJ cII cJJ R) yX2_removeLast wsX2_removeLast (0, 0) [.ref (R 1)] (I, A, B, C, T) (fun r u => r = I 1 - 1 ∧ u = (va_up I 1 (I 1 - 1), A, B, C, T)) := by
  refine ctI_intro (cc := cX2_removeLast) (maxL := 1) (by decide) rfl (Nat.le_of_ble_eq_true rfl) ?_
  intro p e s m below meth c ls Aa Q F hK hN hP hD hS hA hl hret
  have hx := F.1
  have hb := F.2.1
  have hown : s.vm.findClass RX2 = some m.cls := F.2.2.2.1
  have hts := F.2.2.2.2
  have hinX2 : ∀ w ∈ wsX20, w ∈ wsX2_removeLast := by decide +kernel
  have hf25 := hts (.fieldLink RX2 25 "CycleHouse$Graph" "edges" "I") (by decide +kernel)
  have hl : lv_has ls 1 [(0, .ref (R 1))] := hl
  refine lv_aload_n hx hb dX2_removeLast_0 rfl (lv_at hl 0 rfl) ?_
  refine lv_dup hx hb dX2_removeLast_1 rfl ?_
  refine va_get (D := (dC, dI)) (ci := 2) (v := .int (I 1)) (C := RX2) (T := TX2) (N := 5) hx hb hts hinX2 hown hK hP 1 rfl rfl 1 (by decide) hf25 (fun _ h9 => h9) rfl dX2_removeLast_2 ?_
  refine lv_iconst (v := 1) hx hb dX2_removeLast_5 (by decide) ?_
  refine lv_isub hx hb dX2_removeLast_6 ?_
  refine lv_topi (fun x6 ex6 => ?_)
  refine va_put (D := (dC, dI)) (ci := 2) (v := .int x6) (ty := .int) (C := RX2) (T := TX2) (N := 5) hx hb hts hinX2 tyX2 tyX2_ok nmX2 hown hK hP hD hS 1 rfl rfl 1 (by decide) hf25 (fun _ h9 => h9) rfl (by decide +kernel) rfl rfl (Nat.le_of_ble_eq_true rfl) dX2_removeLast_7 (fun H locs hP hD hS => ?_)
  obtain ⟨I7, eI7⟩ : ∃ zz : Nat → Int32, zz = va_up I 1 x6 := ⟨_, rfl⟩
  have hP : va_P (dC, dI) vwCl (HW cI cJ cII cJJ R (I7, A, B, C, T)) H := by rw [eI7]; exact hP
  have hD : va_D Aa (HW cI cJ cII cJJ R (I7, A, B, C, T)) := by rw [eI7]; exact hD
  refine lv_aload_n hx hb dX2_removeLast_10 rfl (lv_at hl 0 rfl) ?_
  refine va_get (D := (dC, dI)) (ci := 2) (v := .int (I7 1)) (C := RX2) (T := TX2) (N := 5) hx hb hts hinX2 hown hK hP 1 rfl rfl 1 (by decide) hf25 (fun _ h9 => h9) rfl dX2_removeLast_11 ?_
  refine hret 14 ls _ _ (I7 1) (I7, A, B, C, T) dX2_removeLast_14 rfl ?_ hP hD hS
  try dsimp only
  exact ⟨by rw [eI7, up_self, ex6], by rw [eI7, ex6]⟩
set_option maxHeartbeats 4000000 in
set_option maxRecDepth 100000 in
theorem k_X2_isEven (l : Launch) (dC : Nat → ClassId) (dI : Nat → Nat → Nat) (cI cJ cZ cII cJJ : ClassId) (R : Nat → Nat) (I : Nat → Int32) (A : Nat → Nat → Int32) (B : Nat → Nat → Int64) (C : Nat → Nat → Int32) (T : Nat → Nat → Int64) (nv ne : Nat) (fr to wt : Nat → Nat) (z : Nat) (g : gH nv ne fr to wt I A) (hz : z < 2 ^ 64) : ctI l (dC, dI) (tyL cI cJ cZ cII cJJ) (HW cI cJ cII cJJ R) yX2_isEven wsX2_isEven (1, 30) [.ref (R 1), .long (lN z)] (I, A, B, C, T) (fun r u => r = (if evn fr to nv ne z then 1 else 0) ∧ u = (I, A, B, C, T)) := by
  refine ctI_intro (cc := cX2_isEven) (maxL := 5) (by decide) rfl (Nat.le_of_ble_eq_true rfl) ?_
  intro p e s m below meth c ls Aa Q F hK hN hP hD hS hA hl hret
  have hx := F.1
  have hb := F.2.1
  have hown : s.vm.findClass RX2 = some m.cls := F.2.2.2.1
  have hts := F.2.2.2.2
  have hinX2 : ∀ w ∈ wsX20, w ∈ wsX2_isEven := by decide +kernel
  have hf25 := hts (.fieldLink RX2 25 "CycleHouse$Graph" "edges" "I") (by decide +kernel)
  have hf15 := hts (.fieldLink RX2 15 "CycleHouse$Graph" "from" "[I") (by decide +kernel)
  have hf19 := hts (.fieldLink RX2 19 "CycleHouse$Graph" "to" "[I") (by decide +kernel)
  have hl : lv_has ls 5 [(0, .ref (R 1)), (1, .long (lN z))] := hl
  obtain ⟨g1, g2, g3, g4, g5, g6⟩ := id g
  refine lv_iconst (v := 0) hx hb dX2_isEven_0 (by decide) ?_
  refine lv_istore_n (lv' := [(3, .int 0), (0, .ref (R 1)), (1, .long (lN z))]) hx hb dX2_isEven_1 rfl hl (by decide) rfl (fun ls hl => ?_)
  refine lv_iconst (v := 0) hx hb dX2_isEven_2 (by decide) ?_
  refine lv_istore (lv' := [(4, .int 0), (3, .int 0), (0, .ref (R 1)), (1, .long (lN z))]) hx hb dX2_isEven_3 hl (by decide) rfl (fun ls hl => ?_)
  have K5 : ∀ (kn : Nat) (i : Nat) (o : Nat) (ls : Array Slot) (H : Heap) (locs : List Loc), ne - i < kn → (i ≤ ne ∧ o < 2 ^ 16 ∧ ∀ v, v < 16 → o.testBit v = xs i (fun e => z.testBit e && ((fr e == v) ^^ (to e == v)))) → va_P (dC, dI) vwCl (HW cI cJ cII cJJ R (I, A, B, C, T)) H → va_D Aa (HW cI cJ cII cJJ R (I, A, B, C, T)) → va_S Aa s.heap H locs → lv_has ls 5 [(0, .ref (R 1)), (1, .long (lN z)), (3, .int (nI o)), (4, .int (nI i))] → W p l e (ctR (1, 30)) s m #[.ref (R 1), .long (lN z)] below meth c H locs 0 0 Q (F0 m 5 ls []) := by
    intro kn
    induction kn with
    | zero => intro i o ls H locs hmu; exact absurd hmu (Nat.not_lt_zero _)
    | succ kn ih5 =>
      intro i o ls H locs mu5 inv5 hP hD hS hl
      obtain ⟨hi, ho, hob⟩ := inv5
      refine lv_iload hx hb dX2_isEven_5 (lv_at hl 3 rfl) ?_
      refine lv_aload_n hx hb dX2_isEven_7 rfl (lv_at hl 0 rfl) ?_
      refine va_get (D := (dC, dI)) (ci := 2) (v := .int (I 1)) (C := RX2) (T := TX2) (N := 5) hx hb hts hinX2 hown hK hP 1 rfl rfl 1 (by decide) hf25 (fun _ h9 => h9) rfl dX2_isEven_8 ?_
      refine lv_icmp_ge (tgt := 53) hx hb dX2_isEven_11 (by decide) (fun c11 => ?_) (fun c11 => ?_)
      · -- 11 taken
        rw [g5, nI_leI (by omega) (by omega)] at c11
        have hge : i = ne := by omega
        rw [hge] at hob
        have hev : evn fr to nv ne z ↔ o = 0 := ⟨fun h => Nat.eq_of_testBit_eq (fun v => by
            rw [Nat.zero_testBit]
            rcases Nat.lt_or_ge v 16 with q | q
            · rw [hob v q, xs_dg]
              rcases Nat.lt_or_ge v nv with q2 | q2
              · rw [h v q2]; rfl
              · rw [dg_out (fun e he => by have := g.en e he; omega)]; rfl
            · exact Nat.testBit_lt_two_pow (Nat.lt_of_lt_of_le ho (Nat.pow_le_pow_right (by omega) q))), fun h v hv => by
            have h2 := hob v (by omega)
            rw [h, Nat.zero_testBit, xs_dg] at h2
            have : ¬ dg fr to z ne v % 2 = 1 := by simpa using h2.symm
            omega⟩
        refine lv_iload_n hx hb dX2_isEven_53 rfl (lv_at hl 2 rfl) ?_
        refine lv_if_ne (tgt := 61) hx hb dX2_isEven_54 (by decide) (fun c54 => ?_) (fun c54 => ?_)
        · -- 54 taken
          have c54 : ¬ o = 0 := fun h => c54 (by rw [h]; rfl)
          refine lv_iconst (v := 0) hx hb dX2_isEven_61 (by decide) ?_
          refine hret 62 ls _ _ 0 (I, A, B, C, T) dX2_isEven_62 rfl ?_ hP hD hS
          try dsimp only
          exact ⟨by rw [if_neg (fun h => c54 (hev.mp h))], rfl⟩
        · -- 54 not
          have c54 : o = 0 := (nI_eq (b := 0) (by omega) (by omega)).mp c54
          refine lv_iconst (v := 1) hx hb dX2_isEven_57 (by decide) ?_
          refine lv_goto (tgt := 62) hx hb dX2_isEven_58 (by decide) ?_
          refine hret 62 ls _ _ 1 (I, A, B, C, T) dX2_isEven_62 rfl ?_ hP hD hS
          try dsimp only
          exact ⟨by rw [if_pos (hev.mpr c54)], rfl⟩
      · -- 11 not
        rw [g5, nI_leI (by omega) (by omega)] at c11
        have icl : (nI i).toNatClampNeg = i := nI_clamp (by omega)
        have iin : vp_in (nI i) 40 := vp_in_nI (by omega) (by omega)
        have gi := g6 i (by omega)
        have l1 := gi.1.2
        have l2 := gi.2.1.2
        refine lv_lload_n hx hb dX2_isEven_14 rfl (lv_at hl 1 rfl) ?_
        refine lv_iload hx hb dX2_isEven_15 (lv_at hl 3 rfl) ?_
        refine ct_calli hD hS hA (va_runSN (As := [.long (lN z), .int (nI i)]) (rest := []) F ((k_X7_has l dC dI cI cJ cZ cII cJJ R I A B C T z i hz (by omega)) _) ⟨va_cnB 2 hts ggX2_isEven_X7_has rfl rfl rfl (nwOK.m hN RX2 28 yX7_has "CycleHouse" (by decide +kernel)) (hts (.initialized RX7) (by decide +kernel)) (by decide +kernel) ⟨(Nat.le_of_ble_eq_true rfl), (Nat.le_of_ble_eq_true rfl)⟩, hts (.static yX7_has) (by decide +kernel), trivial⟩ (ct_preS hK hN hP hD) rfl rfl hl.1 rfl (lv_room (Nat.le_of_ble_eq_true rfl)) dX2_isEven_17 ⟨(Nat.le_of_ble_eq_true rfl), (Nat.le_of_ble_eq_true rfl)⟩) (fun r17 u17 H locs w17 hP hD hS => ?_)
        obtain ⟨w17, rfl⟩ := w17
        refine lv_if_eq (tgt := 47) hx hb dX2_isEven_20 (by decide) (fun c20 => ?_) (fun c20 => ?_)
        · -- 20 taken
          have c20 : z.testBit i = false := by cases h : z.testBit i with | false => rfl | true => rw [w17, h] at c20; exact absurd c20 (by decide)
          obtain ⟨x47, ex47⟩ : ∃ zz : Int32, zz = nI i + (1) := ⟨_, rfl⟩
          refine lv_iinc (v := x47) (lv' := [(4, .int x47), (0, .ref (R 1)), (1, .long (lN z)), (3, .int (nI o))]) hx hb dX2_isEven_47 hl (k := 3) rfl (by rw [ex47]; rfl) (by decide) rfl (fun ls hl => ?_)
          have ex47 : x47 = nI (i + 1) := by rw [ex47]; exact nI_1 i
          subst ex47
          refine lv_goto (tgt := 5) hx hb dX2_isEven_50 (by decide) ?_
          exact ih5 (i + 1) o ls _ _ (by omega) ⟨by omega, ho, fun v hv => by simp only [xs]; rw [hob v hv, c20]; simp⟩ hP hD hS (lv_sub hl [1, 2, 3, 0] rfl)
        · -- 20 not
          have c20 : z.testBit i = true := by cases h : z.testBit i with | true => rfl | false => rw [w17, h] at c20; exact absurd rfl c20
          refine lv_iload_n hx hb dX2_isEven_23 rfl (lv_at hl 2 rfl) ?_
          refine lv_iconst (v := 1) hx hb dX2_isEven_24 (by decide) ?_
          refine lv_aload_n hx hb dX2_isEven_25 rfl (lv_at hl 0 rfl) ?_
          refine va_get (D := (dC, dI)) (ci := 2) (v := .ref (R 2)) (C := RX2) (T := TX2) (N := 5) hx hb hts hinX2 hown hK hP 1 rfl rfl 2 (by decide) hf15 (fun _ h9 => h9) rfl dX2_isEven_26 ?_
          refine lv_iload hx hb dX2_isEven_29 (lv_at hl 3 rfl) ?_
          have h31 : vp_in (nI i) 40 := iin
          refine va_iald hx hb hK hP 2 0 rfl rfl h31 dX2_isEven_31 ?_
          refine lv_topi (fun x31 ex31 => ?_)
          have ex31 : x31 = A 2 (nI i).toNatClampNeg := ex31
          have ex31 : x31 = nI (fr i) := by rw [ex31, icl]; exact gi.1.1
          subst ex31
          refine lv_ishl hx hb dX2_isEven_32 ?_
          refine lv_topi (fun x32 ex32 => ?_)
          have ex32 : x32 = nI (2 ^ fr i) := by rw [ex32]; exact nm_ishl (by omega)
          subst ex32
          refine lv_ixor hx hb dX2_isEven_33 ?_
          refine lv_topi (fun x33 ex33 => ?_)
          have ex33 : x33 = nI (o ^^^ 2 ^ fr i) := by rw [ex33, nx_xor]
          subst ex33
          refine lv_istore_n (lv' := [(3, .int (nI (o ^^^ 2 ^ fr i))), (0, .ref (R 1)), (1, .long (lN z)), (4, .int (nI i))]) hx hb dX2_isEven_34 rfl hl (by decide) rfl (fun ls hl => ?_)
          refine lv_iload_n hx hb dX2_isEven_35 rfl (lv_at hl 0 rfl) ?_
          refine lv_iconst (v := 1) hx hb dX2_isEven_36 (by decide) ?_
          refine lv_aload_n hx hb dX2_isEven_37 rfl (lv_at hl 1 rfl) ?_
          refine va_get (D := (dC, dI)) (ci := 2) (v := .ref (R 3)) (C := RX2) (T := TX2) (N := 5) hx hb hts hinX2 hown hK hP 1 rfl rfl 3 (by decide) hf19 (fun _ h9 => h9) rfl dX2_isEven_38 ?_
          refine lv_iload hx hb dX2_isEven_41 (lv_at hl 3 rfl) ?_
          have h43 : vp_in (nI i) 40 := iin
          refine va_iald hx hb hK hP 3 0 rfl rfl h43 dX2_isEven_43 ?_
          refine lv_topi (fun x43 ex43 => ?_)
          have ex43 : x43 = A 3 (nI i).toNatClampNeg := ex43
          have ex43 : x43 = nI (to i) := by rw [ex43, icl]; exact gi.2.1.1
          subst ex43
          refine lv_ishl hx hb dX2_isEven_44 ?_
          refine lv_topi (fun x44 ex44 => ?_)
          have ex44 : x44 = nI (2 ^ to i) := by rw [ex44]; exact nm_ishl (by omega)
          subst ex44
          refine lv_ixor hx hb dX2_isEven_45 ?_
          refine lv_topi (fun x45 ex45 => ?_)
          have ex45 : x45 = nI (o ^^^ 2 ^ fr i ^^^ 2 ^ to i) := by rw [ex45, nx_xor]
          subst ex45
          refine lv_istore_n (lv' := [(3, .int (nI (o ^^^ 2 ^ fr i ^^^ 2 ^ to i))), (0, .ref (R 1)), (1, .long (lN z)), (4, .int (nI i))]) hx hb dX2_isEven_46 rfl hl (by decide) rfl (fun ls hl => ?_)
          obtain ⟨x47, ex47⟩ : ∃ zz : Int32, zz = nI i + (1) := ⟨_, rfl⟩
          refine lv_iinc (v := x47) (lv' := [(4, .int x47), (3, .int (nI (o ^^^ 2 ^ fr i ^^^ 2 ^ to i))), (0, .ref (R 1)), (1, .long (lN z))]) hx hb dX2_isEven_47 hl (k := 3) rfl (by rw [ex47]; rfl) (by decide) rfl (fun ls hl => ?_)
          have ex47 : x47 = nI (i + 1) := by rw [ex47]; exact nI_1 i
          subst ex47
          refine lv_goto (tgt := 5) hx hb dX2_isEven_50 (by decide) ?_
          exact ih5 (i + 1) (o ^^^ 2 ^ fr i ^^^ 2 ^ to i) ls _ _ (by omega) ⟨by omega, Nat.xor_lt_two_pow (Nat.xor_lt_two_pow ho (Nat.pow_lt_pow_right (by omega) (by omega))) (Nat.pow_lt_pow_right (by omega) (by omega)), fun v hv => by rw [Nat.testBit_xor, Nat.testBit_xor, pow_bit, pow_bit, hob v hv]; simp only [xs]; rw [c20]; cases (fr i == v) <;> cases (to i == v) <;> cases xs i (fun e => z.testBit e && ((fr e == v) ^^ (to e == v))) <;> rfl⟩ hP hD hS (lv_sub hl [2, 3, 1, 0] rfl)
  exact K5 _ 0 0 ls _ _ (Nat.lt_succ_self _) ⟨Nat.zero_le _, by decide, fun v _ => by rw [Nat.zero_testBit]; rfl⟩ hP hD hS (lv_sub hl [2, 3, 1, 0] rfl)
set_option maxHeartbeats 4000000 in
set_option maxRecDepth 100000 in
theorem k_X2_edgesApartFrom (l : Launch) (dC : Nat → ClassId) (dI : Nat → Nat → Nat) (cI cJ cZ cII cJJ : ClassId) (R : Nat → Nat) (I : Nat → Int32) (A : Nat → Nat → Int32) (B : Nat → Nat → Int64) (C : Nat → Nat → Int32) (T : Nat → Nat → Int64) (nv ne : Nat) (fr to wt : Nat → Nat) (v : Nat) (g : gH nv ne fr to wt I A) (hv : v < nv) : ctL l (dC, dI) (tyL cI cJ cZ cII cJJ) (HW cI cJ cII cJJ R) yX2_edgesApartFrom wsX2_edgesApartFrom (0, 0) [.ref (R 1), .int (nI v)] (I, A, B, C, T) (fun r u => r = lN (ap fr to ne v) ∧ u = (I, A, B, C, T)) := by
  refine ctL_intro (cc := cX2_edgesApartFrom) (maxL := 5) (by decide) rfl (Nat.le_of_ble_eq_true rfl) ?_
  intro p e s m below meth c ls Aa Q F hK hN hP hD hS hA hl hret
  have hx := F.1
  have hb := F.2.1
  have hown : s.vm.findClass RX2 = some m.cls := F.2.2.2.1
  have hts := F.2.2.2.2
  have hinX2 : ∀ w ∈ wsX20, w ∈ wsX2_edgesApartFrom := by decide +kernel
  have hf25 := hts (.fieldLink RX2 25 "CycleHouse$Graph" "edges" "I") (by decide +kernel)
  have hf15 := hts (.fieldLink RX2 15 "CycleHouse$Graph" "from" "[I") (by decide +kernel)
  have hf19 := hts (.fieldLink RX2 19 "CycleHouse$Graph" "to" "[I") (by decide +kernel)
  have hl : lv_has ls 5 [(0, .ref (R 1)), (1, .int (nI v))] := hl
  obtain ⟨g1, g2, g3, g4, g5, g6⟩ := id g
  refine lv_lconst (v := 0) hx hb dX2_edgesApartFrom_0 (by decide) ?_
  refine lv_lstore_n (lv' := [(2, .long 0), (0, .ref (R 1)), (1, .int (nI v))]) hx hb dX2_edgesApartFrom_1 rfl hl (by decide) rfl (fun ls hl => ?_)
  refine lv_iconst (v := 0) hx hb dX2_edgesApartFrom_2 (by decide) ?_
  refine lv_istore (lv' := [(4, .int 0), (2, .long 0), (0, .ref (R 1)), (1, .int (nI v))]) hx hb dX2_edgesApartFrom_3 hl (by decide) rfl (fun ls hl => ?_)
  have K5 : ∀ (kn : Nat) (i : Nat) (y : Int64) (ls : Array Slot) (H : Heap) (locs : List Loc), ne - i < kn → (i ≤ ne ∧ y = lN (ap fr to i v)) → va_P (dC, dI) vwCl (HW cI cJ cII cJJ R (I, A, B, C, T)) H → va_D Aa (HW cI cJ cII cJJ R (I, A, B, C, T)) → va_S Aa s.heap H locs → lv_has ls 5 [(0, .ref (R 1)), (1, .int (nI v)), (2, .long y), (4, .int (nI i))] → W p l e (ctR (0, 0)) s m #[.ref (R 1), .int (nI v)] below meth c H locs 0 0 Q (F0 m 5 ls []) := by
    intro kn
    induction kn with
    | zero => intro i y ls H locs hmu; exact absurd hmu (Nat.not_lt_zero _)
    | succ kn ih5 =>
      intro i y ls H locs mu5 inv5 hP hD hS hl
      obtain ⟨hi, ey⟩ := inv5
      refine lv_iload hx hb dX2_edgesApartFrom_5 (lv_at hl 3 rfl) ?_
      refine lv_aload_n hx hb dX2_edgesApartFrom_7 rfl (lv_at hl 0 rfl) ?_
      refine va_get (D := (dC, dI)) (ci := 2) (v := .int (I 1)) (C := RX2) (T := TX2) (N := 5) hx hb hts hinX2 hown hK hP 1 rfl rfl 1 (by decide) hf25 (fun _ h9 => h9) rfl dX2_edgesApartFrom_8 ?_
      refine lv_icmp_ge (tgt := 49) hx hb dX2_edgesApartFrom_11 (by decide) (fun c11 => ?_) (fun c11 => ?_)
      · -- 11 taken
        rw [g5, nI_leI (by omega) (by omega)] at c11
        have hge : i = ne := by omega
        rw [hge] at ey
        refine lv_lload_n hx hb dX2_edgesApartFrom_49 rfl (lv_at hl 2 rfl) ?_
        refine hret 50 ls _ _ y (I, A, B, C, T) dX2_edgesApartFrom_50 ?_ hP hD hS
        try dsimp only
        exact ⟨ey, rfl⟩
      · -- 11 not
        rw [g5, nI_leI (by omega) (by omega)] at c11
        have icl : (nI i).toNatClampNeg = i := nI_clamp (by omega)
        have iin : vp_in (nI i) 40 := vp_in_nI (by omega) (by omega)
        have gi := g6 i (by omega)
        have l1 := gi.1.2
        have l2 := gi.2.1.2
        refine lv_aload_n hx hb dX2_edgesApartFrom_14 rfl (lv_at hl 0 rfl) ?_
        refine va_get (D := (dC, dI)) (ci := 2) (v := .ref (R 2)) (C := RX2) (T := TX2) (N := 5) hx hb hts hinX2 hown hK hP 1 rfl rfl 2 (by decide) hf15 (fun _ h9 => h9) rfl dX2_edgesApartFrom_15 ?_
        refine lv_iload hx hb dX2_edgesApartFrom_18 (lv_at hl 3 rfl) ?_
        have h20 : vp_in (nI i) 40 := iin
        refine va_iald hx hb hK hP 2 0 rfl rfl h20 dX2_edgesApartFrom_20 ?_
        refine lv_topi (fun x20 ex20 => ?_)
        have ex20 : x20 = A 2 (nI i).toNatClampNeg := ex20
        have ex20 : x20 = nI (fr i) := by rw [ex20, icl]; exact gi.1.1
        subst ex20
        refine lv_iload_n hx hb dX2_edgesApartFrom_21 rfl (lv_at hl 1 rfl) ?_
        refine lv_icmp_eq (tgt := 43) hx hb dX2_edgesApartFrom_22 (by decide) (fun c22 => ?_) (fun c22 => ?_)
        · -- 22 taken
          rw [nI_eq (by omega) (by omega)] at c22
          obtain ⟨x43, ex43⟩ : ∃ zz : Int32, zz = nI i + (1) := ⟨_, rfl⟩
          refine lv_iinc (v := x43) (lv' := [(4, .int x43), (0, .ref (R 1)), (1, .int (nI v)), (2, .long y)]) hx hb dX2_edgesApartFrom_43 hl (k := 3) rfl (by rw [ex43]; rfl) (by decide) rfl (fun ls hl => ?_)
          have ex43 : x43 = nI (i + 1) := by rw [ex43]; exact nI_1 i
          subst ex43
          refine lv_goto (tgt := 5) hx hb dX2_edgesApartFrom_46 (by decide) ?_
          exact ih5 (i + 1) y ls _ _ (by omega) ⟨by omega, by rw [ey]; unfold ap; rw [nb, if_neg (by simp [c22]), Nat.add_zero]⟩ hP hD hS (lv_sub hl [1, 2, 3, 0] rfl)
        · -- 22 not
          rw [nI_eq (by omega) (by omega)] at c22
          refine lv_aload_n hx hb dX2_edgesApartFrom_25 rfl (lv_at hl 0 rfl) ?_
          refine va_get (D := (dC, dI)) (ci := 2) (v := .ref (R 3)) (C := RX2) (T := TX2) (N := 5) hx hb hts hinX2 hown hK hP 1 rfl rfl 3 (by decide) hf19 (fun _ h9 => h9) rfl dX2_edgesApartFrom_26 ?_
          refine lv_iload hx hb dX2_edgesApartFrom_29 (lv_at hl 3 rfl) ?_
          have h31 : vp_in (nI i) 40 := iin
          refine va_iald hx hb hK hP 3 0 rfl rfl h31 dX2_edgesApartFrom_31 ?_
          refine lv_topi (fun x31 ex31 => ?_)
          have ex31 : x31 = A 3 (nI i).toNatClampNeg := ex31
          have ex31 : x31 = nI (to i) := by rw [ex31, icl]; exact gi.2.1.1
          subst ex31
          refine lv_iload_n hx hb dX2_edgesApartFrom_32 rfl (lv_at hl 1 rfl) ?_
          refine lv_icmp_eq (tgt := 43) hx hb dX2_edgesApartFrom_33 (by decide) (fun c33 => ?_) (fun c33 => ?_)
          · -- 33 taken
            rw [nI_eq (by omega) (by omega)] at c33
            obtain ⟨x43, ex43⟩ : ∃ zz : Int32, zz = nI i + (1) := ⟨_, rfl⟩
            refine lv_iinc (v := x43) (lv' := [(4, .int x43), (0, .ref (R 1)), (1, .int (nI v)), (2, .long y)]) hx hb dX2_edgesApartFrom_43 hl (k := 3) rfl (by rw [ex43]; rfl) (by decide) rfl (fun ls hl => ?_)
            have ex43 : x43 = nI (i + 1) := by rw [ex43]; exact nI_1 i
            subst ex43
            refine lv_goto (tgt := 5) hx hb dX2_edgesApartFrom_46 (by decide) ?_
            exact ih5 (i + 1) y ls _ _ (by omega) ⟨by omega, by rw [ey]; unfold ap; rw [nb, if_neg (by simp [c33]), Nat.add_zero]⟩ hP hD hS (lv_sub hl [1, 2, 3, 0] rfl)
          · -- 33 not
            rw [nI_eq (by omega) (by omega)] at c33
            refine lv_lload_n hx hb dX2_edgesApartFrom_36 rfl (lv_at hl 2 rfl) ?_
            refine lv_lconst (v := 1) hx hb dX2_edgesApartFrom_37 (by decide) ?_
            refine lv_iload hx hb dX2_edgesApartFrom_38 (lv_at hl 3 rfl) ?_
            refine lv_lshl hx hb dX2_edgesApartFrom_40 rfl ?_
            refine lv_topl (fun x40 ex40 => ?_)
            have ex40 : x40 = lN (2 ^ i) := by rw [ex40]; exact nm_pow (by omega)
            subst ex40
            refine lv_lor hx hb dX2_edgesApartFrom_41 ?_
            refine lv_topl (fun x41 ex41 => ?_)
            refine lv_lstore_n (lv' := [(2, .long x41), (0, .ref (R 1)), (1, .int (nI v)), (4, .int (nI i))]) hx hb dX2_edgesApartFrom_42 rfl hl (by decide) rfl (fun ls hl => ?_)
            obtain ⟨x43, ex43⟩ : ∃ zz : Int32, zz = nI i + (1) := ⟨_, rfl⟩
            refine lv_iinc (v := x43) (lv' := [(4, .int x43), (2, .long x41), (0, .ref (R 1)), (1, .int (nI v))]) hx hb dX2_edgesApartFrom_43 hl (k := 3) rfl (by rw [ex43]; rfl) (by decide) rfl (fun ls hl => ?_)
            have ex43 : x43 = nI (i + 1) := by rw [ex43]; exact nI_1 i
            subst ex43
            refine lv_goto (tgt := 5) hx hb dX2_edgesApartFrom_46 (by decide) ?_
            exact ih5 (i + 1) x41 ls _ _ (by omega) ⟨by omega, by rw [ex41, ey]; unfold ap; rw [or_pow (nb_lt _ _) (by omega), nb, if_pos (by simp [c22, c33])]⟩ hP hD hS (lv_sub hl [2, 3, 1, 0] rfl)
  exact K5 _ 0 0 ls _ _ (Nat.lt_succ_self _) ⟨Nat.zero_le _, rfl⟩ hP hD hS (lv_sub hl [2, 3, 1, 0] rfl)
