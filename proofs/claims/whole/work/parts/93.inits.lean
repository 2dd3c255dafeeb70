theorem rows_eq {r : Nat → Nat} {f : Nat → va_E} {e : va_E} : va_pl ([] ++ (List.range 16).map r) (vr_up f ((List.range 16).map r) e) = (List.range 16).map (fun i => (r i, e)) := by
  unfold va_pl
  rw [List.nil_append, List.map_map]
  apply List.map_congr_left
  intro i hi
  show (r i, vr_up f _ e (r i)) = (r i, e)
  rw [vr_up_in (List.mem_map.mpr ⟨i, hi, rfl⟩)]
abbrev nwX2 (cI cJ cZ cII cJJ : ClassId) (h0 : Nat) (u : Nat → Nat) : va_W := [(h0, .inr (2, [.int 1, .int 0, .ref (u 0), .ref (u 1), .ref (u 2)])), (u 0, aI cI 40 (fun _ => 0)), (u 1, aI cI 40 (fun _ => 0)), (u 2, aI cI 40 (fun _ => 0))]
set_option maxHeartbeats 4000000 in
set_option maxRecDepth 100000 in
theorem k_X2_init (l : Launch) (dC : Nat → ClassId) (dI : Nat → Nat → Nat) (cI cJ cZ cII cJJ : ClassId) : cnw l (dC, dI) (tyL cI cJ cZ cII cJJ) yX2_init wsX2_init (1, 60) 3 120 (.inr (2, [.int 0, .int 0, .null, .null, .null])) (nwX2 cI cJ cZ cII cJJ) := by
  refine cn_intro (cc := cX2_init) (maxL := 1) (by decide) rfl (Nat.le_of_ble_eq_true rfl) ?_
  intro h0 p e s m below meth c ls Aa Q F hnm hK hao hP hD hS hA hl hret
  have hx := F.1
  have hb := F.2.1
  have hown : s.vm.findClass RX2 = some m.cls := F.2.2.2.1
  have hts := F.2.2.2.2
  refine lv_aload_n hx hb dX2_init_0 rfl (lv_at hl 0 rfl) ?_
  refine W.objInit hx hb hown (hts (.methodLink RX2 3 objectInit) (by decide +kernel)) (hts (.instanceMethod objectInit) (by decide +kernel)) (hts (.code objectInit ⟨#[0xb1]⟩ 1 none) (by decide +kernel)) rfl (by rw [F.2.2.1]; exact hl.1) rfl dX2_init_1 (Nat.le_of_ble_eq_true rfl) (Nat.le_of_ble_eq_true rfl) ?_
  refine W.eq (g2 := F0 m 4 ls []) rfl ?_
  refine lv_aload_n hx hb dX2_init_4 rfl (lv_at hl 0 rfl) ?_
  refine lv_iconst (v := 1) hx hb dX2_init_5 (by decide) ?_
  refine va_put (D := (dC, dI)) (ci := 2) (v := .int 1) (ty := tyX2 0) (C := RX2) (T := TX2) (N := 5) hx hb hts (by decide +kernel) tyX2 tyX2_ok nmX2 hown hK hP hD hS 0 rfl rfl 0 (by decide) (hts (.fieldLink RX2 9 "CycleHouse$Graph" "vertices" "I") (by decide +kernel)) (fun _ h9 => h9) rfl (by decide +kernel) rfl rfl (Nat.le_of_ble_eq_true rfl) dX2_init_6 (fun H locs hP hD hS => ?_)
  have hP : va_P (dC, dI) vwCl ([(h0, .inr (2, [.int 1, .int 0, .null, .null, .null]))]) H := hP
  have hD : va_D Aa ([(h0, .inr (2, [.int 1, .int 0, .null, .null, .null]))]) := hD
  refine lv_aload_n hx hb dX2_init_9 rfl (lv_at hl 0 rfl) ?_
  refine lv_bipush (v := 40) hx hb dX2_init_10 (by decide) ?_
  refine va_newa (atype := .int) (ty := .int) (N' := 40) (n := 40) (a0 := (40, .inl (fun _ => 0))) hx hb (hts (.arrayClass .int) (by decide +kernel)) rfl hK hP hD hS hA (fun _ => rfl) (by decide) (by decide) (by decide) (Nat.le_of_ble_eq_true rfl) (Nat.le_of_ble_eq_true rfl) dX2_init_12 (fun q12 cA H hK9 hP hD hS => ?_)
  have ec : cA = cI := arr_same hK9 (k := 0) rfl (fun _ h => by cases h)
  rw [ec] at hP hD
  have hP : va_P (dC, dI) vwCl [(h0, .inr (2, [.int 1, .int 0, .null, .null, .null])), (q12, aI cI 40 (fun _ => 0))] H := hP
  have hD : va_D Aa [(h0, .inr (2, [.int 1, .int 0, .null, .null, .null])), (q12, aI cI 40 (fun _ => 0))] := hD
  refine va_putF (v := .ref q12) (ty := tyX2 2) (C := RX2) (T := TX2) (N := 5) (ci := 2) hx hb hts (by decide +kernel) tyX2 tyX2_ok nmX2 hown hK hP hD hS 0 rfl rfl 2 (by decide) (hts (.fieldLink RX2 15 "CycleHouse$Graph" "from" "[I") (by decide +kernel)) (fun _ h => h) rfl hnm rfl (by decide +kernel) rfl rfl (Nat.le_of_ble_eq_true rfl) dX2_init_14 (fun H locs hP hD hS => ?_)
  have hP : va_P (dC, dI) vwCl ([(h0, .inr (2, [.int 1, .int 0, .ref q12, .null, .null])), (q12, aI cI 40 (fun _ => 0))]) H := hP
  have hD : va_D Aa ([(h0, .inr (2, [.int 1, .int 0, .ref q12, .null, .null])), (q12, aI cI 40 (fun _ => 0))]) := hD
  refine lv_aload_n hx hb dX2_init_17 rfl (lv_at hl 0 rfl) ?_
  refine lv_bipush (v := 40) hx hb dX2_init_18 (by decide) ?_
  refine va_newa (atype := .int) (ty := .int) (N' := 40) (n := 40) (a0 := (40, .inl (fun _ => 0))) hx hb (hts (.arrayClass .int) (by decide +kernel)) rfl hK hP hD hS hA (fun _ => rfl) (by decide) (by decide) (by decide) (Nat.le_of_ble_eq_true rfl) (Nat.le_of_ble_eq_true rfl) dX2_init_20 (fun q20 cA H hK9 hP hD hS => ?_)
  have ec : cA = cI := arr_same hK9 (k := 0) rfl (fun _ h => by cases h)
  rw [ec] at hP hD
  have hP : va_P (dC, dI) vwCl [(h0, .inr (2, [.int 1, .int 0, .ref q12, .null, .null])), (q12, aI cI 40 (fun _ => 0)), (q20, aI cI 40 (fun _ => 0))] H := hP
  have hD : va_D Aa [(h0, .inr (2, [.int 1, .int 0, .ref q12, .null, .null])), (q12, aI cI 40 (fun _ => 0)), (q20, aI cI 40 (fun _ => 0))] := hD
  refine va_putF (v := .ref q20) (ty := tyX2 3) (C := RX2) (T := TX2) (N := 5) (ci := 2) hx hb hts (by decide +kernel) tyX2 tyX2_ok nmX2 hown hK hP hD hS 0 rfl rfl 3 (by decide) (hts (.fieldLink RX2 19 "CycleHouse$Graph" "to" "[I") (by decide +kernel)) (fun _ h => h) rfl hnm rfl (by decide +kernel) rfl rfl (Nat.le_of_ble_eq_true rfl) dX2_init_22 (fun H locs hP hD hS => ?_)
  have hP : va_P (dC, dI) vwCl ([(h0, .inr (2, [.int 1, .int 0, .ref q12, .ref q20, .null])), (q12, aI cI 40 (fun _ => 0)), (q20, aI cI 40 (fun _ => 0))]) H := hP
  have hD : va_D Aa ([(h0, .inr (2, [.int 1, .int 0, .ref q12, .ref q20, .null])), (q12, aI cI 40 (fun _ => 0)), (q20, aI cI 40 (fun _ => 0))]) := hD
  refine lv_aload_n hx hb dX2_init_25 rfl (lv_at hl 0 rfl) ?_
  refine lv_bipush (v := 40) hx hb dX2_init_26 (by decide) ?_
  refine va_newa (atype := .int) (ty := .int) (N' := 40) (n := 40) (a0 := (40, .inl (fun _ => 0))) hx hb (hts (.arrayClass .int) (by decide +kernel)) rfl hK hP hD hS hA (fun _ => rfl) (by decide) (by decide) (by decide) (Nat.le_of_ble_eq_true rfl) (Nat.le_of_ble_eq_true rfl) dX2_init_28 (fun q28 cA H hK9 hP hD hS => ?_)
  have ec : cA = cI := arr_same hK9 (k := 0) rfl (fun _ h => by cases h)
  rw [ec] at hP hD
  have hP : va_P (dC, dI) vwCl [(h0, .inr (2, [.int 1, .int 0, .ref q12, .ref q20, .null])), (q12, aI cI 40 (fun _ => 0)), (q20, aI cI 40 (fun _ => 0)), (q28, aI cI 40 (fun _ => 0))] H := hP
  have hD : va_D Aa [(h0, .inr (2, [.int 1, .int 0, .ref q12, .ref q20, .null])), (q12, aI cI 40 (fun _ => 0)), (q20, aI cI 40 (fun _ => 0)), (q28, aI cI 40 (fun _ => 0))] := hD
  refine va_putF (v := .ref q28) (ty := tyX2 4) (C := RX2) (T := TX2) (N := 5) (ci := 2) hx hb hts (by decide +kernel) tyX2 tyX2_ok nmX2 hown hK hP hD hS 0 rfl rfl 4 (by decide) (hts (.fieldLink RX2 22 "CycleHouse$Graph" "weight" "[I") (by decide +kernel)) (fun _ h => h) rfl hnm rfl (by decide +kernel) rfl rfl (Nat.le_of_ble_eq_true rfl) dX2_init_30 (fun H locs hP hD hS => ?_)
  have hP : va_P (dC, dI) vwCl ([(h0, .inr (2, [.int 1, .int 0, .ref q12, .ref q20, .ref q28])), (q12, aI cI 40 (fun _ => 0)), (q20, aI cI 40 (fun _ => 0)), (q28, aI cI 40 (fun _ => 0))]) H := hP
  have hD : va_D Aa ([(h0, .inr (2, [.int 1, .int 0, .ref q12, .ref q20, .ref q28])), (q12, aI cI 40 (fun _ => 0)), (q20, aI cI 40 (fun _ => 0)), (q28, aI cI 40 (fun _ => 0))]) := hD
  exact hret 33 ls _ _ (fun k => ([q12, q20, q28] : List Nat).getD k 0) _ _ (Nat.le_of_ble_eq_true rfl) (Nat.le_of_ble_eq_true rfl) dX2_init_33 hP hD hS
abbrev nwX5 (cI cJ cZ cII cJJ : ClassId) (h0 : Nat) (u : Nat → Nat) : va_W := [(h0, .inr (5, [.int 0, .int 0, .ref (u 0)])), (u 0, aJ cJ 40 (fun _ => 0))]
set_option maxHeartbeats 4000000 in
set_option maxRecDepth 100000 in
theorem k_X5_init (l : Launch) (dC : Nat → ClassId) (dI : Nat → Nat → Nat) (cI cJ cZ cII cJJ : ClassId) : cnw l (dC, dI) (tyL cI cJ cZ cII cJJ) yX5_init wsX5_init (1, 60) 1 40 (.inr (5, [.int 0, .int 0, .null])) (nwX5 cI cJ cZ cII cJJ) := by
  refine cn_intro (cc := cX5_init) (maxL := 1) (by decide) rfl (Nat.le_of_ble_eq_true rfl) ?_
  intro h0 p e s m below meth c ls Aa Q F hnm hK hao hP hD hS hA hl hret
  have hx := F.1
  have hb := F.2.1
  have hown : s.vm.findClass RX5 = some m.cls := F.2.2.2.1
  have hts := F.2.2.2.2
  refine lv_aload_n hx hb dX5_init_0 rfl (lv_at hl 0 rfl) ?_
  refine W.objInit hx hb hown (hts (.methodLink RX5 3 objectInit) (by decide +kernel)) (hts (.instanceMethod objectInit) (by decide +kernel)) (hts (.code objectInit ⟨#[0xb1]⟩ 1 none) (by decide +kernel)) rfl (by rw [F.2.2.1]; exact hl.1) rfl dX5_init_1 (Nat.le_of_ble_eq_true rfl) (Nat.le_of_ble_eq_true rfl) ?_
  refine W.eq (g2 := F0 m 4 ls []) rfl ?_
  refine lv_aload_n hx hb dX5_init_4 rfl (lv_at hl 0 rfl) ?_
  refine lv_bipush (v := 40) hx hb dX5_init_5 (by decide) ?_
  refine va_newa (atype := .long) (ty := .long) (N' := 40) (n := 40) (a0 := (40, .inr (.inl (fun _ => 0)))) hx hb (hts (.arrayClass .long) (by decide +kernel)) rfl hK hP hD hS hA (fun _ => rfl) (by decide) (by decide) (by decide) (Nat.le_of_ble_eq_true rfl) (Nat.le_of_ble_eq_true rfl) dX5_init_7 (fun q7 cA H hK9 hP hD hS => ?_)
  have ec : cA = cJ := arr_same hK9 (k := 1) rfl (fun _ h => by cases h)
  rw [ec] at hP hD
  have hP : va_P (dC, dI) vwCl [(h0, .inr (5, [.int 0, .int 0, .null])), (q7, aJ cJ 40 (fun _ => 0))] H := hP
  have hD : va_D Aa [(h0, .inr (5, [.int 0, .int 0, .null])), (q7, aJ cJ 40 (fun _ => 0))] := hD
  refine va_putF (v := .ref q7) (ty := tyX5 2) (C := RX5) (T := TX5) (N := 3) (ci := 5) hx hb hts (by decide +kernel) tyX5 tyX5_ok nmX5 hown hK hP hD hS 0 rfl rfl 2 (by decide) (hts (.fieldLink RX5 9 "CycleHouse$SetList" "row" "[J") (by decide +kernel)) (fun _ h => h) rfl hnm rfl (by decide +kernel) rfl rfl (Nat.le_of_ble_eq_true rfl) dX5_init_9 (fun H locs hP hD hS => ?_)
  have hP : va_P (dC, dI) vwCl ([(h0, .inr (5, [.int 0, .int 0, .ref q7])), (q7, aJ cJ 40 (fun _ => 0))]) H := hP
  have hD : va_D Aa ([(h0, .inr (5, [.int 0, .int 0, .ref q7])), (q7, aJ cJ 40 (fun _ => 0))]) := hD
  exact hret 12 ls _ _ (fun k => ([q7] : List Nat).getD k 0) _ _ (Nat.le_of_ble_eq_true rfl) (Nat.le_of_ble_eq_true rfl) dX5_init_12 hP hD hS
abbrev nwX3 (cI cJ cZ cII cJJ : ClassId) (h0 : Nat) (u : Nat → Nat) : va_W := [(h0, .inr (3, [.int 0, .int 0, .ref (u 0), .ref (u 1)])), (u 0, aI cI 16 (fun _ => 0)), (u 1, aJ cJ 16 (fun _ => 0))]
set_option maxHeartbeats 4000000 in
set_option maxRecDepth 100000 in
theorem k_X3_init (l : Launch) (dC : Nat → ClassId) (dI : Nat → Nat → Nat) (cI cJ cZ cII cJJ : ClassId) : cnw l (dC, dI) (tyL cI cJ cZ cII cJJ) yX3_init wsX3_init (1, 60) 2 32 (.inr (3, [.int 0, .int 0, .null, .null])) (nwX3 cI cJ cZ cII cJJ) := by
  refine cn_intro (cc := cX3_init) (maxL := 1) (by decide) rfl (Nat.le_of_ble_eq_true rfl) ?_
  intro h0 p e s m below meth c ls Aa Q F hnm hK hao hP hD hS hA hl hret
  have hx := F.1
  have hb := F.2.1
  have hown : s.vm.findClass RX3 = some m.cls := F.2.2.2.1
  have hts := F.2.2.2.2
  refine lv_aload_n hx hb dX3_init_0 rfl (lv_at hl 0 rfl) ?_
  refine W.objInit hx hb hown (hts (.methodLink RX3 3 objectInit) (by decide +kernel)) (hts (.instanceMethod objectInit) (by decide +kernel)) (hts (.code objectInit ⟨#[0xb1]⟩ 1 none) (by decide +kernel)) rfl (by rw [F.2.2.1]; exact hl.1) rfl dX3_init_1 (Nat.le_of_ble_eq_true rfl) (Nat.le_of_ble_eq_true rfl) ?_
  refine W.eq (g2 := F0 m 4 ls []) rfl ?_
  refine lv_aload_n hx hb dX3_init_4 rfl (lv_at hl 0 rfl) ?_
  refine lv_bipush (v := 16) hx hb dX3_init_5 (by decide) ?_
  refine va_newa (atype := .int) (ty := .int) (N' := 16) (n := 16) (a0 := (16, .inl (fun _ => 0))) hx hb (hts (.arrayClass .int) (by decide +kernel)) rfl hK hP hD hS hA (fun _ => rfl) (by decide) (by decide) (by decide) (Nat.le_of_ble_eq_true rfl) (Nat.le_of_ble_eq_true rfl) dX3_init_7 (fun q7 cA H hK9 hP hD hS => ?_)
  have ec : cA = cI := arr_same hK9 (k := 0) rfl (fun _ h => by cases h)
  rw [ec] at hP hD
  have hP : va_P (dC, dI) vwCl [(h0, .inr (3, [.int 0, .int 0, .null, .null])), (q7, aI cI 16 (fun _ => 0))] H := hP
  have hD : va_D Aa [(h0, .inr (3, [.int 0, .int 0, .null, .null])), (q7, aI cI 16 (fun _ => 0))] := hD
  refine va_putF (v := .ref q7) (ty := tyX3 2) (C := RX3) (T := TX3) (N := 4) (ci := 3) hx hb hts (by decide +kernel) tyX3 tyX3_ok nmX3 hown hK hP hD hS 0 rfl rfl 2 (by decide) (hts (.fieldLink RX3 9 "CycleHouse$Groups" "name" "[I") (by decide +kernel)) (fun _ h => h) rfl hnm rfl (by decide +kernel) rfl rfl (Nat.le_of_ble_eq_true rfl) dX3_init_9 (fun H locs hP hD hS => ?_)
  have hP : va_P (dC, dI) vwCl ([(h0, .inr (3, [.int 0, .int 0, .ref q7, .null])), (q7, aI cI 16 (fun _ => 0))]) H := hP
  have hD : va_D Aa ([(h0, .inr (3, [.int 0, .int 0, .ref q7, .null])), (q7, aI cI 16 (fun _ => 0))]) := hD
  refine lv_aload_n hx hb dX3_init_12 rfl (lv_at hl 0 rfl) ?_
  refine lv_bipush (v := 16) hx hb dX3_init_13 (by decide) ?_
  refine va_newa (atype := .long) (ty := .long) (N' := 16) (n := 16) (a0 := (16, .inr (.inl (fun _ => 0)))) hx hb (hts (.arrayClass .long) (by decide +kernel)) rfl hK hP hD hS hA (fun _ => rfl) (by decide) (by decide) (by decide) (Nat.le_of_ble_eq_true rfl) (Nat.le_of_ble_eq_true rfl) dX3_init_15 (fun q15 cA H hK9 hP hD hS => ?_)
  have ec : cA = cJ := arr_same hK9 (k := 1) rfl (fun _ h => by cases h)
  rw [ec] at hP hD
  have hP : va_P (dC, dI) vwCl [(h0, .inr (3, [.int 0, .int 0, .ref q7, .null])), (q7, aI cI 16 (fun _ => 0)), (q15, aJ cJ 16 (fun _ => 0))] H := hP
  have hD : va_D Aa [(h0, .inr (3, [.int 0, .int 0, .ref q7, .null])), (q7, aI cI 16 (fun _ => 0)), (q15, aJ cJ 16 (fun _ => 0))] := hD
  refine va_putF (v := .ref q15) (ty := tyX3 3) (C := RX3) (T := TX3) (N := 4) (ci := 3) hx hb hts (by decide +kernel) tyX3 tyX3_ok nmX3 hown hK hP hD hS 0 rfl rfl 3 (by decide) (hts (.fieldLink RX3 15 "CycleHouse$Groups" "way" "[J") (by decide +kernel)) (fun _ h => h) rfl hnm rfl (by decide +kernel) rfl rfl (Nat.le_of_ble_eq_true rfl) dX3_init_17 (fun H locs hP hD hS => ?_)
  have hP : va_P (dC, dI) vwCl ([(h0, .inr (3, [.int 0, .int 0, .ref q7, .ref q15])), (q7, aI cI 16 (fun _ => 0)), (q15, aJ cJ 16 (fun _ => 0))]) H := hP
  have hD : va_D Aa ([(h0, .inr (3, [.int 0, .int 0, .ref q7, .ref q15])), (q7, aI cI 16 (fun _ => 0)), (q15, aJ cJ 16 (fun _ => 0))]) := hD
  exact hret 20 ls _ _ (fun k => ([q7, q15] : List Nat).getD k 0) _ _ (Nat.le_of_ble_eq_true rfl) (Nat.le_of_ble_eq_true rfl) dX3_init_20 hP hD hS
abbrev nwX6 (cI cJ cZ cII cJJ : ClassId) (h0 : Nat) (u : Nat → Nat) : va_W := [(h0, .inr (6, [.ref (u 0), .ref (u 1)])), (u 0, aJ cJ 16 (fun _ => 0)), (u 1, aJ cJ 16 (fun _ => 0))]
set_option maxHeartbeats 4000000 in
set_option maxRecDepth 100000 in
theorem k_X6_init (l : Launch) (dC : Nat → ClassId) (dI : Nat → Nat → Nat) (cI cJ cZ cII cJJ : ClassId) : cnw l (dC, dI) (tyL cI cJ cZ cII cJJ) yX6_init wsX6_init (1, 60) 2 32 (.inr (6, [.null, .null])) (nwX6 cI cJ cZ cII cJJ) := by
  refine cn_intro (cc := cX6_init) (maxL := 1) (by decide) rfl (Nat.le_of_ble_eq_true rfl) ?_
  intro h0 p e s m below meth c ls Aa Q F hnm hK hao hP hD hS hA hl hret
  have hx := F.1
  have hb := F.2.1
  have hown : s.vm.findClass RX6 = some m.cls := F.2.2.2.1
  have hts := F.2.2.2.2
  refine lv_aload_n hx hb dX6_init_0 rfl (lv_at hl 0 rfl) ?_
  refine W.objInit hx hb hown (hts (.methodLink RX6 3 objectInit) (by decide +kernel)) (hts (.instanceMethod objectInit) (by decide +kernel)) (hts (.code objectInit ⟨#[0xb1]⟩ 1 none) (by decide +kernel)) rfl (by rw [F.2.2.1]; exact hl.1) rfl dX6_init_1 (Nat.le_of_ble_eq_true rfl) (Nat.le_of_ble_eq_true rfl) ?_
  refine W.eq (g2 := F0 m 4 ls []) rfl ?_
  refine lv_aload_n hx hb dX6_init_4 rfl (lv_at hl 0 rfl) ?_
  refine lv_bipush (v := 16) hx hb dX6_init_5 (by decide) ?_
  refine va_newa (atype := .long) (ty := .long) (N' := 16) (n := 16) (a0 := (16, .inr (.inl (fun _ => 0)))) hx hb (hts (.arrayClass .long) (by decide +kernel)) rfl hK hP hD hS hA (fun _ => rfl) (by decide) (by decide) (by decide) (Nat.le_of_ble_eq_true rfl) (Nat.le_of_ble_eq_true rfl) dX6_init_7 (fun q7 cA H hK9 hP hD hS => ?_)
  have ec : cA = cJ := arr_same hK9 (k := 1) rfl (fun _ h => by cases h)
  rw [ec] at hP hD
  have hP : va_P (dC, dI) vwCl [(h0, .inr (6, [.null, .null])), (q7, aJ cJ 16 (fun _ => 0))] H := hP
  have hD : va_D Aa [(h0, .inr (6, [.null, .null])), (q7, aJ cJ 16 (fun _ => 0))] := hD
  refine va_putF (v := .ref q7) (ty := tyX6 0) (C := RX6) (T := TX6) (N := 2) (ci := 6) hx hb hts (by decide +kernel) tyX6 tyX6_ok nmX6 hown hK hP hD hS 0 rfl rfl 0 (by decide) (hts (.fieldLink RX6 9 "CycleHouse$Ways" "length" "[J") (by decide +kernel)) (fun _ h => h) rfl hnm rfl (by decide +kernel) rfl rfl (Nat.le_of_ble_eq_true rfl) dX6_init_9 (fun H locs hP hD hS => ?_)
  have hP : va_P (dC, dI) vwCl ([(h0, .inr (6, [.ref q7, .null])), (q7, aJ cJ 16 (fun _ => 0))]) H := hP
  have hD : va_D Aa ([(h0, .inr (6, [.ref q7, .null])), (q7, aJ cJ 16 (fun _ => 0))]) := hD
  refine lv_aload_n hx hb dX6_init_12 rfl (lv_at hl 0 rfl) ?_
  refine lv_bipush (v := 16) hx hb dX6_init_13 (by decide) ?_
  refine va_newa (atype := .long) (ty := .long) (N' := 16) (n := 16) (a0 := (16, .inr (.inl (fun _ => 0)))) hx hb (hts (.arrayClass .long) (by decide +kernel)) rfl hK hP hD hS hA (fun _ => rfl) (by decide) (by decide) (by decide) (Nat.le_of_ble_eq_true rfl) (Nat.le_of_ble_eq_true rfl) dX6_init_15 (fun q15 cA H hK9 hP hD hS => ?_)
  have ec : cA = cJ := arr_same hK9 (k := 1) rfl (fun _ h => by cases h)
  rw [ec] at hP hD
  have hP : va_P (dC, dI) vwCl [(h0, .inr (6, [.ref q7, .null])), (q7, aJ cJ 16 (fun _ => 0)), (q15, aJ cJ 16 (fun _ => 0))] H := hP
  have hD : va_D Aa [(h0, .inr (6, [.ref q7, .null])), (q7, aJ cJ 16 (fun _ => 0)), (q15, aJ cJ 16 (fun _ => 0))] := hD
  refine va_putF (v := .ref q15) (ty := tyX6 1) (C := RX6) (T := TX6) (N := 2) (ci := 6) hx hb hts (by decide +kernel) tyX6 tyX6_ok nmX6 hown hK hP hD hS 0 rfl rfl 1 (by decide) (hts (.fieldLink RX6 15 "CycleHouse$Ways" "way" "[J") (by decide +kernel)) (fun _ h => h) rfl hnm rfl (by decide +kernel) rfl rfl (Nat.le_of_ble_eq_true rfl) dX6_init_17 (fun H locs hP hD hS => ?_)
  have hP : va_P (dC, dI) vwCl ([(h0, .inr (6, [.ref q7, .ref q15])), (q7, aJ cJ 16 (fun _ => 0)), (q15, aJ cJ 16 (fun _ => 0))]) H := hP
  have hD : va_D Aa ([(h0, .inr (6, [.ref q7, .ref q15])), (q7, aJ cJ 16 (fun _ => 0)), (q15, aJ cJ 16 (fun _ => 0))]) := hD
  exact hret 20 ls _ _ (fun k => ([q7, q15] : List Nat).getD k 0) _ _ (Nat.le_of_ble_eq_true rfl) (Nat.le_of_ble_eq_true rfl) dX6_init_20 hP hD hS
abbrev nwX4 (cI cJ cZ cII cJJ : ClassId) (h0 : Nat) (u : Nat → Nat) : va_W := [(h0, .inr (4, [.int 0, .ref (u 0), .ref (u 1), .int 0, .ref (u 2), .ref (u 3)])), (u 0, aJ cJ 14 (fun _ => 0)), (u 1, aJ cJ 14 (fun _ => 0)), (u 2, aJ cJ 640 (fun _ => 0)), (u 3, aJ cJ 640 (fun _ => 0))]
set_option maxHeartbeats 4000000 in
set_option maxRecDepth 100000 in
theorem k_X4_init (l : Launch) (dC : Nat → ClassId) (dI : Nat → Nat → Nat) (cI cJ cZ cII cJJ : ClassId) : cnw l (dC, dI) (tyL cI cJ cZ cII cJJ) yX4_init wsX4_init (1, 60) 4 1308 (.inr (4, [.int 0, .null, .null, .int 0, .null, .null])) (nwX4 cI cJ cZ cII cJJ) := by
  refine cn_intro (cc := cX4_init) (maxL := 1) (by decide) rfl (Nat.le_of_ble_eq_true rfl) ?_
  intro h0 p e s m below meth c ls Aa Q F hnm hK hao hP hD hS hA hl hret
  have hx := F.1
  have hb := F.2.1
  have hown : s.vm.findClass RX4 = some m.cls := F.2.2.2.1
  have hts := F.2.2.2.2
  refine lv_aload_n hx hb dX4_init_0 rfl (lv_at hl 0 rfl) ?_
  refine W.objInit hx hb hown (hts (.methodLink RX4 3 objectInit) (by decide +kernel)) (hts (.instanceMethod objectInit) (by decide +kernel)) (hts (.code objectInit ⟨#[0xb1]⟩ 1 none) (by decide +kernel)) rfl (by rw [F.2.2.1]; exact hl.1) rfl dX4_init_1 (Nat.le_of_ble_eq_true rfl) (Nat.le_of_ble_eq_true rfl) ?_
  refine W.eq (g2 := F0 m 4 ls []) rfl ?_
  refine lv_aload_n hx hb dX4_init_4 rfl (lv_at hl 0 rfl) ?_
  refine lv_bipush (v := 14) hx hb dX4_init_5 (by decide) ?_
  refine va_newa (atype := .long) (ty := .long) (N' := 14) (n := 14) (a0 := (14, .inr (.inl (fun _ => 0)))) hx hb (hts (.arrayClass .long) (by decide +kernel)) rfl hK hP hD hS hA (fun _ => rfl) (by decide) (by decide) (by decide) (Nat.le_of_ble_eq_true rfl) (Nat.le_of_ble_eq_true rfl) dX4_init_7 (fun q7 cA H hK9 hP hD hS => ?_)
  have ec : cA = cJ := arr_same hK9 (k := 1) rfl (fun _ h => by cases h)
  rw [ec] at hP hD
  have hP : va_P (dC, dI) vwCl [(h0, .inr (4, [.int 0, .null, .null, .int 0, .null, .null])), (q7, aJ cJ 14 (fun _ => 0))] H := hP
  have hD : va_D Aa [(h0, .inr (4, [.int 0, .null, .null, .int 0, .null, .null])), (q7, aJ cJ 14 (fun _ => 0))] := hD
  refine va_putF (v := .ref q7) (ty := tyX4 1) (C := RX4) (T := TX4) (N := 6) (ci := 4) hx hb hts (by decide +kernel) tyX4 tyX4_ok nmX4 hown hK hP hD hS 0 rfl rfl 1 (by decide) (hts (.fieldLink RX4 9 "CycleHouse$LightBasis" "ring" "[J") (by decide +kernel)) (fun _ h => h) rfl hnm rfl (by decide +kernel) rfl rfl (Nat.le_of_ble_eq_true rfl) dX4_init_9 (fun H locs hP hD hS => ?_)
  have hP : va_P (dC, dI) vwCl ([(h0, .inr (4, [.int 0, .ref q7, .null, .int 0, .null, .null])), (q7, aJ cJ 14 (fun _ => 0))]) H := hP
  have hD : va_D Aa ([(h0, .inr (4, [.int 0, .ref q7, .null, .int 0, .null, .null])), (q7, aJ cJ 14 (fun _ => 0))]) := hD
  refine lv_aload_n hx hb dX4_init_12 rfl (lv_at hl 0 rfl) ?_
  refine lv_bipush (v := 14) hx hb dX4_init_13 (by decide) ?_
  refine va_newa (atype := .long) (ty := .long) (N' := 14) (n := 14) (a0 := (14, .inr (.inl (fun _ => 0)))) hx hb (hts (.arrayClass .long) (by decide +kernel)) rfl hK hP hD hS hA (fun _ => rfl) (by decide) (by decide) (by decide) (Nat.le_of_ble_eq_true rfl) (Nat.le_of_ble_eq_true rfl) dX4_init_15 (fun q15 cA H hK9 hP hD hS => ?_)
  have ec : cA = cJ := arr_same hK9 (k := 1) rfl (fun _ h => by cases h)
  rw [ec] at hP hD
  have hP : va_P (dC, dI) vwCl [(h0, .inr (4, [.int 0, .ref q7, .null, .int 0, .null, .null])), (q7, aJ cJ 14 (fun _ => 0)), (q15, aJ cJ 14 (fun _ => 0))] H := hP
  have hD : va_D Aa [(h0, .inr (4, [.int 0, .ref q7, .null, .int 0, .null, .null])), (q7, aJ cJ 14 (fun _ => 0)), (q15, aJ cJ 14 (fun _ => 0))] := hD
  refine va_putF (v := .ref q15) (ty := tyX4 2) (C := RX4) (T := TX4) (N := 6) (ci := 4) hx hb hts (by decide +kernel) tyX4 tyX4_ok nmX4 hown hK hP hD hS 0 rfl rfl 2 (by decide) (hts (.fieldLink RX4 15 "CycleHouse$LightBasis" "weight" "[J") (by decide +kernel)) (fun _ h => h) rfl hnm rfl (by decide +kernel) rfl rfl (Nat.le_of_ble_eq_true rfl) dX4_init_17 (fun H locs hP hD hS => ?_)
  have hP : va_P (dC, dI) vwCl ([(h0, .inr (4, [.int 0, .ref q7, .ref q15, .int 0, .null, .null])), (q7, aJ cJ 14 (fun _ => 0)), (q15, aJ cJ 14 (fun _ => 0))]) H := hP
  have hD : va_D Aa ([(h0, .inr (4, [.int 0, .ref q7, .ref q15, .int 0, .null, .null])), (q7, aJ cJ 14 (fun _ => 0)), (q15, aJ cJ 14 (fun _ => 0))]) := hD
  refine lv_aload_n hx hb dX4_init_20 rfl (lv_at hl 0 rfl) ?_
  refine lv_sipush (v := 640) hx hb dX4_init_21 (by decide) ?_
  refine va_newa (atype := .long) (ty := .long) (N' := 640) (n := 640) (a0 := (640, .inr (.inl (fun _ => 0)))) hx hb (hts (.arrayClass .long) (by decide +kernel)) rfl hK hP hD hS hA (fun _ => rfl) (by decide) (by decide) (by decide) (Nat.le_of_ble_eq_true rfl) (Nat.le_of_ble_eq_true rfl) dX4_init_24 (fun q24 cA H hK9 hP hD hS => ?_)
  have ec : cA = cJ := arr_same hK9 (k := 1) rfl (fun _ h => by cases h)
  rw [ec] at hP hD
  have hP : va_P (dC, dI) vwCl [(h0, .inr (4, [.int 0, .ref q7, .ref q15, .int 0, .null, .null])), (q7, aJ cJ 14 (fun _ => 0)), (q15, aJ cJ 14 (fun _ => 0)), (q24, aJ cJ 640 (fun _ => 0))] H := hP
  have hD : va_D Aa [(h0, .inr (4, [.int 0, .ref q7, .ref q15, .int 0, .null, .null])), (q7, aJ cJ 14 (fun _ => 0)), (q15, aJ cJ 14 (fun _ => 0)), (q24, aJ cJ 640 (fun _ => 0))] := hD
  refine va_putF (v := .ref q24) (ty := tyX4 4) (C := RX4) (T := TX4) (N := 6) (ci := 4) hx hb hts (by decide +kernel) tyX4 tyX4_ok nmX4 hown hK hP hD hS 0 rfl rfl 4 (by decide) (hts (.fieldLink RX4 18 "CycleHouse$LightBasis" "left" "[J") (by decide +kernel)) (fun _ h => h) rfl hnm rfl (by decide +kernel) rfl rfl (Nat.le_of_ble_eq_true rfl) dX4_init_26 (fun H locs hP hD hS => ?_)
  have hP : va_P (dC, dI) vwCl ([(h0, .inr (4, [.int 0, .ref q7, .ref q15, .int 0, .ref q24, .null])), (q7, aJ cJ 14 (fun _ => 0)), (q15, aJ cJ 14 (fun _ => 0)), (q24, aJ cJ 640 (fun _ => 0))]) H := hP
  have hD : va_D Aa ([(h0, .inr (4, [.int 0, .ref q7, .ref q15, .int 0, .ref q24, .null])), (q7, aJ cJ 14 (fun _ => 0)), (q15, aJ cJ 14 (fun _ => 0)), (q24, aJ cJ 640 (fun _ => 0))]) := hD
  refine lv_aload_n hx hb dX4_init_29 rfl (lv_at hl 0 rfl) ?_
  refine lv_sipush (v := 640) hx hb dX4_init_30 (by decide) ?_
  refine va_newa (atype := .long) (ty := .long) (N' := 640) (n := 640) (a0 := (640, .inr (.inl (fun _ => 0)))) hx hb (hts (.arrayClass .long) (by decide +kernel)) rfl hK hP hD hS hA (fun _ => rfl) (by decide) (by decide) (by decide) (Nat.le_of_ble_eq_true rfl) (Nat.le_of_ble_eq_true rfl) dX4_init_33 (fun q33 cA H hK9 hP hD hS => ?_)
  have ec : cA = cJ := arr_same hK9 (k := 1) rfl (fun _ h => by cases h)
  rw [ec] at hP hD
  have hP : va_P (dC, dI) vwCl [(h0, .inr (4, [.int 0, .ref q7, .ref q15, .int 0, .ref q24, .null])), (q7, aJ cJ 14 (fun _ => 0)), (q15, aJ cJ 14 (fun _ => 0)), (q24, aJ cJ 640 (fun _ => 0)), (q33, aJ cJ 640 (fun _ => 0))] H := hP
  have hD : va_D Aa [(h0, .inr (4, [.int 0, .ref q7, .ref q15, .int 0, .ref q24, .null])), (q7, aJ cJ 14 (fun _ => 0)), (q15, aJ cJ 14 (fun _ => 0)), (q24, aJ cJ 640 (fun _ => 0)), (q33, aJ cJ 640 (fun _ => 0))] := hD
  refine va_putF (v := .ref q33) (ty := tyX4 5) (C := RX4) (T := TX4) (N := 6) (ci := 4) hx hb hts (by decide +kernel) tyX4 tyX4_ok nmX4 hown hK hP hD hS 0 rfl rfl 5 (by decide) (hts (.fieldLink RX4 21 "CycleHouse$LightBasis" "leftWeight" "[J") (by decide +kernel)) (fun _ h => h) rfl hnm rfl (by decide +kernel) rfl rfl (Nat.le_of_ble_eq_true rfl) dX4_init_35 (fun H locs hP hD hS => ?_)
  have hP : va_P (dC, dI) vwCl ([(h0, .inr (4, [.int 0, .ref q7, .ref q15, .int 0, .ref q24, .ref q33])), (q7, aJ cJ 14 (fun _ => 0)), (q15, aJ cJ 14 (fun _ => 0)), (q24, aJ cJ 640 (fun _ => 0)), (q33, aJ cJ 640 (fun _ => 0))]) H := hP
  have hD : va_D Aa ([(h0, .inr (4, [.int 0, .ref q7, .ref q15, .int 0, .ref q24, .ref q33])), (q7, aJ cJ 14 (fun _ => 0)), (q15, aJ cJ 14 (fun _ => 0)), (q24, aJ cJ 640 (fun _ => 0)), (q33, aJ cJ 640 (fun _ => 0))]) := hD
  exact hret 38 ls _ _ (fun k => ([q7, q15, q24, q33] : List Nat).getD k 0) _ _ (Nat.le_of_ble_eq_true rfl) (Nat.le_of_ble_eq_true rfl) dX4_init_38 hP hD hS
abbrev nwX1 (cI cJ cZ cII cJJ : ClassId) (h0 : Nat) (u : Nat → Nat) : va_W := ([(h0, .inr (1, [.ref (u 0)])), (u 0, aO cJJ 16 (fun i => if i < 16 then some (u (i + 1)) else none))] ++ (List.range 16).map (fun i => (u (i + 1), aJ cJ 16 (fun _ => 0))))
set_option maxHeartbeats 4000000 in
set_option maxRecDepth 100000 in
theorem k_X1_init (l : Launch) (dC : Nat → ClassId) (dI : Nat → Nat → Nat) (cI cJ cZ cII cJJ : ClassId) : cnw l (dC, dI) (tyL cI cJ cZ cII cJJ) yX1_init wsX1_init (1, 60) 17 272 (.inr (1, [.null])) (nwX1 cI cJ cZ cII cJJ) := by
  refine cn_intro (cc := cX1_init) (maxL := 1) (by decide) rfl (Nat.le_of_ble_eq_true rfl) ?_
  intro h0 p e s m below meth c ls Aa Q F hnm hK hao hP hD hS hA hl hret
  have hx := F.1
  have hb := F.2.1
  have hown : s.vm.findClass RX1 = some m.cls := F.2.2.2.1
  have hts := F.2.2.2.2
  refine lv_aload_n hx hb dX1_init_0 rfl (lv_at hl 0 rfl) ?_
  refine W.objInit hx hb hown (hts (.methodLink RX1 3 objectInit) (by decide +kernel)) (hts (.instanceMethod objectInit) (by decide +kernel)) (hts (.code objectInit ⟨#[0xb1]⟩ 1 none) (by decide +kernel)) rfl (by rw [F.2.2.1]; exact hl.1) rfl dX1_init_1 (Nat.le_of_ble_eq_true rfl) (Nat.le_of_ble_eq_true rfl) ?_
  refine W.eq (g2 := F0 m 4 ls []) rfl ?_
  refine lv_aload_n hx hb dX1_init_4 rfl (lv_at hl 0 rfl) ?_
  refine lv_bipush (v := 16) hx hb dX1_init_5 (by decide) ?_
  refine lv_bipush (v := 16) hx hb dX1_init_7 (by decide) ?_
  refine va_mna (X := [(h0, .inr (1, [.null]))]) (L := []) (f := fun _ => .inr (1, [.null])) (ty := .long) (cy := cJ) (N' := 16) (K' := 16) (z := (16, .inr (.inl (fun _ => 0)))) hx hb hown (hts (.classLink RX1 9 "[[J") (by decide +kernel)) hao.2 (hts (.arrayClass .long) (by decide +kernel)) (hK.2 1 _ rfl).2 hK hP hD hS hA (by decide) (by decide) rfl rfl (by decide) (by decide) (by decide) rfl rfl (Nat.le_of_ble_eq_true rfl) (Nat.le_of_ble_eq_true rfl) (fun c => rfl) dX1_init_9 (fun q9 r cA H rin _ hK9 hP hD hS => ?_)
  have ec : cA = cJJ := arr_same hK9 (k := 4) rfl (fun _ h => by cases h)
  rw [ec] at hP hD
  rw [rows_eq] at hP hD
  have hP : va_P (dC, dI) vwCl (([(h0, .inr (1, [.null]))] ++ [(q9, aO cJJ 16 (fun i => if i < 16 then some (r i) else none))]) ++ (List.range 16).map (fun i => (r i, aJ cJ 16 (fun _ => 0)))) H := hP
  have hD : va_D Aa (([(h0, .inr (1, [.null]))] ++ [(q9, aO cJJ 16 (fun i => if i < 16 then some (r i) else none))]) ++ (List.range 16).map (fun i => (r i, aJ cJ 16 (fun _ => 0)))) := hD
  refine va_putF (v := .ref q9) (ty := tyX1 0) (C := RX1) (T := TX1) (N := 1) (ci := 1) hx hb hts (by decide +kernel) tyX1 tyX1_ok nmX1 hown hK hP hD hS 0 rfl rfl 0 (by decide) (hts (.fieldLink RX1 11 "CycleHouse$ForestCount" "table" "[[J") (by decide +kernel)) (fun _ h => h) rfl hnm rfl (by decide +kernel) rfl rfl (Nat.le_of_ble_eq_true rfl) dX1_init_13 (fun H locs hP hD hS => ?_)
  have hP : va_P (dC, dI) vwCl (([(h0, .inr (1, [.ref q9]))] ++ [(q9, aO cJJ 16 (fun i => if i < 16 then some (r i) else none))]) ++ (List.range 16).map (fun i => (r i, aJ cJ 16 (fun _ => 0)))) H := hP
  have hD : va_D Aa (([(h0, .inr (1, [.ref q9]))] ++ [(q9, aO cJJ 16 (fun i => if i < 16 then some (r i) else none))]) ++ (List.range 16).map (fun i => (r i, aJ cJ 16 (fun _ => 0)))) := hD
  exact hret 16 ls _ _ (fun k => if k = 0 then q9 else r (k - 1)) _ _ (Nat.le_of_ble_eq_true rfl) (Nat.le_of_ble_eq_true rfl) dX1_init_16 hP hD hS
abbrev nwX0 (cI cJ cZ cII cJJ : ClassId) (h0 : Nat) (u : Nat → Nat) : va_W := ([(h0, .inr (0, [.ref (u 0)])), (u 0, aO cII 16 (fun i => if i < 16 then some (u (i + 1)) else none))] ++ (List.range 16).map (fun i => (u (i + 1), aI cI 16 (fun _ => 0))))
set_option maxHeartbeats 4000000 in
set_option maxRecDepth 100000 in
theorem k_X0_init (l : Launch) (dC : Nat → ClassId) (dI : Nat → Nat → Nat) (cI cJ cZ cII cJJ : ClassId) : cnw l (dC, dI) (tyL cI cJ cZ cII cJJ) yX0_init wsX0_init (1, 60) 17 272 (.inr (0, [.null])) (nwX0 cI cJ cZ cII cJJ) := by
  refine cn_intro (cc := cX0_init) (maxL := 1) (by decide) rfl (Nat.le_of_ble_eq_true rfl) ?_
  intro h0 p e s m below meth c ls Aa Q F hnm hK hao hP hD hS hA hl hret
  have hx := F.1
  have hb := F.2.1
  have hown : s.vm.findClass RX0 = some m.cls := F.2.2.2.1
  have hts := F.2.2.2.2
  refine lv_aload_n hx hb dX0_init_0 rfl (lv_at hl 0 rfl) ?_
  refine W.objInit hx hb hown (hts (.methodLink RX0 3 objectInit) (by decide +kernel)) (hts (.instanceMethod objectInit) (by decide +kernel)) (hts (.code objectInit ⟨#[0xb1]⟩ 1 none) (by decide +kernel)) rfl (by rw [F.2.2.1]; exact hl.1) rfl dX0_init_1 (Nat.le_of_ble_eq_true rfl) (Nat.le_of_ble_eq_true rfl) ?_
  refine W.eq (g2 := F0 m 4 ls []) rfl ?_
  refine lv_aload_n hx hb dX0_init_4 rfl (lv_at hl 0 rfl) ?_
  refine lv_bipush (v := 16) hx hb dX0_init_5 (by decide) ?_
  refine lv_bipush (v := 16) hx hb dX0_init_7 (by decide) ?_
  refine va_mna (X := [(h0, .inr (0, [.null]))]) (L := []) (f := fun _ => .inr (0, [.null])) (ty := .int) (cy := cI) (N' := 16) (K' := 16) (z := (16, .inl (fun _ => 0))) hx hb hown (hts (.classLink RX0 9 "[[I") (by decide +kernel)) hao.1 (hts (.arrayClass .int) (by decide +kernel)) (hK.2 0 _ rfl).2 hK hP hD hS hA (by decide) (by decide) rfl rfl (by decide) (by decide) (by decide) rfl rfl (Nat.le_of_ble_eq_true rfl) (Nat.le_of_ble_eq_true rfl) (fun c => rfl) dX0_init_9 (fun q9 r cA H rin _ hK9 hP hD hS => ?_)
  have ec : cA = cII := arr_same hK9 (k := 3) rfl (fun _ h => by cases h)
  rw [ec] at hP hD
  rw [rows_eq] at hP hD
  have hP : va_P (dC, dI) vwCl (([(h0, .inr (0, [.null]))] ++ [(q9, aO cII 16 (fun i => if i < 16 then some (r i) else none))]) ++ (List.range 16).map (fun i => (r i, aI cI 16 (fun _ => 0)))) H := hP
  have hD : va_D Aa (([(h0, .inr (0, [.null]))] ++ [(q9, aO cII 16 (fun i => if i < 16 then some (r i) else none))]) ++ (List.range 16).map (fun i => (r i, aI cI 16 (fun _ => 0)))) := hD
  refine va_putF (v := .ref q9) (ty := tyX0 0) (C := RX0) (T := TX0) (N := 1) (ci := 0) hx hb hts (by decide +kernel) tyX0 tyX0_ok nmX0 hown hK hP hD hS 0 rfl rfl 0 (by decide) (hts (.fieldLink RX0 11 "CycleHouse$CycleCount" "between" "[[I") (by decide +kernel)) (fun _ h => h) rfl hnm rfl (by decide +kernel) rfl rfl (Nat.le_of_ble_eq_true rfl) dX0_init_13 (fun H locs hP hD hS => ?_)
  have hP : va_P (dC, dI) vwCl (([(h0, .inr (0, [.ref q9]))] ++ [(q9, aO cII 16 (fun i => if i < 16 then some (r i) else none))]) ++ (List.range 16).map (fun i => (r i, aI cI 16 (fun _ => 0)))) H := hP
  have hD : va_D Aa (([(h0, .inr (0, [.ref q9]))] ++ [(q9, aO cII 16 (fun i => if i < 16 then some (r i) else none))]) ++ (List.range 16).map (fun i => (r i, aI cI 16 (fun _ => 0)))) := hD
  exact hret 16 ls _ _ (fun k => if k = 0 then q9 else r (k - 1)) _ _ (Nat.le_of_ble_eq_true rfl) (Nat.le_of_ble_eq_true rfl) dX0_init_16 hP hD hS
abbrev nwX8 (cI cJ cZ cII cJJ : ClassId) (h0 : Nat) (u : Nat → Nat) : va_W := [(h0, .inr (8, [.int 0, .int 1, .int 0, .ref (u 0), .ref (u 1), .ref (u 2), .ref (u 3), .int 0, .ref (u 4), .ref (u 5), .int 0, .ref (u 6), .ref (u 7), .ref (u 8), .ref (u 9), .ref (u 10), .int 0, .ref (u 11), .ref (u 12), .ref (u 13)])), (u 0, aI cI 40 (fun _ => 0)), (u 1, aI cI 40 (fun _ => 0)), (u 2, aI cI 40 (fun _ => 0)), (u 3, aJ cJ 64 (fun _ => 0)), (u 4, aI cI 16 (fun _ => 0)), (u 5, aJ cJ 16 (fun _ => 0)), (u 6, aJ cJ 40 (fun _ => 0)), (u 7, aI cI 40 (fun _ => 0)), (u 8, aJ cJ 16384 (fun _ => 0)), (u 9, aJ cJ 16384 (fun _ => 0)), (u 10, aJ cJ 64 (fun _ => 0)), (u 11, aJ cJ 256 (fun _ => 0)), (u 12, aI cI 16 (fun _ => 0)), (u 13, aI cZ 16 (fun _ => 0))]
set_option maxHeartbeats 4000000 in
set_option maxRecDepth 100000 in
theorem k_X8_init (l : Launch) (dC : Nat → ClassId) (dI : Nat → Nat → Nat) (cI cJ cZ cII cJJ : ClassId) : cnw l (dC, dI) (tyL cI cJ cZ cII cJJ) yX8_init wsX8_init (1, 60) 14 33416 (.inr (8, [.int 0, .int 0, .int 0, .null, .null, .null, .null, .int 0, .null, .null, .int 0, .null, .null, .null, .null, .null, .int 0, .null, .null, .null])) (nwX8 cI cJ cZ cII cJJ) := by
  refine cn_intro (cc := cX8_init) (maxL := 1) (by decide) rfl (Nat.le_of_ble_eq_true rfl) ?_
  intro h0 p e s m below meth c ls Aa Q F hnm hK hao hP hD hS hA hl hret
  have hx := F.1
  have hb := F.2.1
  have hown : s.vm.findClass RX8 = some m.cls := F.2.2.2.1
  have hts := F.2.2.2.2
  refine lv_aload_n hx hb dX8_init_0 rfl (lv_at hl 0 rfl) ?_
  refine W.objInit hx hb hown (hts (.methodLink RX8 1 objectInit) (by decide +kernel)) (hts (.instanceMethod objectInit) (by decide +kernel)) (hts (.code objectInit ⟨#[0xb1]⟩ 1 none) (by decide +kernel)) rfl (by rw [F.2.2.1]; exact hl.1) rfl dX8_init_1 (Nat.le_of_ble_eq_true rfl) (Nat.le_of_ble_eq_true rfl) ?_
  refine W.eq (g2 := F0 m 4 ls []) rfl ?_
  refine lv_aload_n hx hb dX8_init_4 rfl (lv_at hl 0 rfl) ?_
  refine lv_iconst (v := 1) hx hb dX8_init_5 (by decide) ?_
  refine va_put (D := (dC, dI)) (ci := 8) (v := .int 1) (ty := tyX8 1) (C := RX8) (T := TX8) (N := 20) hx hb hts (by decide +kernel) tyX8 tyX8_ok nmX8 hown hK hP hD hS 0 rfl rfl 1 (by decide) (hts (.fieldLink RX8 7 "CycleHouseModel" "n" "I") (by decide +kernel)) (fun _ h9 => h9) rfl (by decide +kernel) rfl rfl (Nat.le_of_ble_eq_true rfl) dX8_init_6 (fun H locs hP hD hS => ?_)
  have hP : va_P (dC, dI) vwCl ([(h0, .inr (8, [.int 0, .int 1, .int 0, .null, .null, .null, .null, .int 0, .null, .null, .int 0, .null, .null, .null, .null, .null, .int 0, .null, .null, .null]))]) H := hP
  have hD : va_D Aa ([(h0, .inr (8, [.int 0, .int 1, .int 0, .null, .null, .null, .null, .int 0, .null, .null, .int 0, .null, .null, .null, .null, .null, .int 0, .null, .null, .null]))]) := hD
  refine lv_aload_n hx hb dX8_init_9 rfl (lv_at hl 0 rfl) ?_
  refine lv_bipush (v := 40) hx hb dX8_init_10 (by decide) ?_
  refine va_newa (atype := .int) (ty := .int) (N' := 40) (n := 40) (a0 := (40, .inl (fun _ => 0))) hx hb (hts (.arrayClass .int) (by decide +kernel)) rfl hK hP hD hS hA (fun _ => rfl) (by decide) (by decide) (by decide) (Nat.le_of_ble_eq_true rfl) (Nat.le_of_ble_eq_true rfl) dX8_init_12 (fun q12 cA H hK9 hP hD hS => ?_)
  have ec : cA = cI := arr_same hK9 (k := 0) rfl (fun _ h => by cases h)
  rw [ec] at hP hD
  have hP : va_P (dC, dI) vwCl [(h0, .inr (8, [.int 0, .int 1, .int 0, .null, .null, .null, .null, .int 0, .null, .null, .int 0, .null, .null, .null, .null, .null, .int 0, .null, .null, .null])), (q12, aI cI 40 (fun _ => 0))] H := hP
  have hD : va_D Aa [(h0, .inr (8, [.int 0, .int 1, .int 0, .null, .null, .null, .null, .int 0, .null, .null, .int 0, .null, .null, .null, .null, .null, .int 0, .null, .null, .null])), (q12, aI cI 40 (fun _ => 0))] := hD
  refine va_putF (v := .ref q12) (ty := tyX8 3) (C := RX8) (T := TX8) (N := 20) (ci := 8) hx hb hts (by decide +kernel) tyX8 tyX8_ok nmX8 hown hK hP hD hS 0 rfl rfl 3 (by decide) (hts (.fieldLink RX8 13 "CycleHouseModel" "from" "[I") (by decide +kernel)) (fun _ h => h) rfl hnm rfl (by decide +kernel) rfl rfl (Nat.le_of_ble_eq_true rfl) dX8_init_14 (fun H locs hP hD hS => ?_)
  have hP : va_P (dC, dI) vwCl ([(h0, .inr (8, [.int 0, .int 1, .int 0, .ref q12, .null, .null, .null, .int 0, .null, .null, .int 0, .null, .null, .null, .null, .null, .int 0, .null, .null, .null])), (q12, aI cI 40 (fun _ => 0))]) H := hP
  have hD : va_D Aa ([(h0, .inr (8, [.int 0, .int 1, .int 0, .ref q12, .null, .null, .null, .int 0, .null, .null, .int 0, .null, .null, .null, .null, .null, .int 0, .null, .null, .null])), (q12, aI cI 40 (fun _ => 0))]) := hD
  refine lv_aload_n hx hb dX8_init_17 rfl (lv_at hl 0 rfl) ?_
  refine lv_bipush (v := 40) hx hb dX8_init_18 (by decide) ?_
  refine va_newa (atype := .int) (ty := .int) (N' := 40) (n := 40) (a0 := (40, .inl (fun _ => 0))) hx hb (hts (.arrayClass .int) (by decide +kernel)) rfl hK hP hD hS hA (fun _ => rfl) (by decide) (by decide) (by decide) (Nat.le_of_ble_eq_true rfl) (Nat.le_of_ble_eq_true rfl) dX8_init_20 (fun q20 cA H hK9 hP hD hS => ?_)
  have ec : cA = cI := arr_same hK9 (k := 0) rfl (fun _ h => by cases h)
  rw [ec] at hP hD
  have hP : va_P (dC, dI) vwCl [(h0, .inr (8, [.int 0, .int 1, .int 0, .ref q12, .null, .null, .null, .int 0, .null, .null, .int 0, .null, .null, .null, .null, .null, .int 0, .null, .null, .null])), (q12, aI cI 40 (fun _ => 0)), (q20, aI cI 40 (fun _ => 0))] H := hP
  have hD : va_D Aa [(h0, .inr (8, [.int 0, .int 1, .int 0, .ref q12, .null, .null, .null, .int 0, .null, .null, .int 0, .null, .null, .null, .null, .null, .int 0, .null, .null, .null])), (q12, aI cI 40 (fun _ => 0)), (q20, aI cI 40 (fun _ => 0))] := hD
  refine va_putF (v := .ref q20) (ty := tyX8 4) (C := RX8) (T := TX8) (N := 20) (ci := 8) hx hb hts (by decide +kernel) tyX8 tyX8_ok nmX8 hown hK hP hD hS 0 rfl rfl 4 (by decide) (hts (.fieldLink RX8 17 "CycleHouseModel" "to" "[I") (by decide +kernel)) (fun _ h => h) rfl hnm rfl (by decide +kernel) rfl rfl (Nat.le_of_ble_eq_true rfl) dX8_init_22 (fun H locs hP hD hS => ?_)
  have hP : va_P (dC, dI) vwCl ([(h0, .inr (8, [.int 0, .int 1, .int 0, .ref q12, .ref q20, .null, .null, .int 0, .null, .null, .int 0, .null, .null, .null, .null, .null, .int 0, .null, .null, .null])), (q12, aI cI 40 (fun _ => 0)), (q20, aI cI 40 (fun _ => 0))]) H := hP
  have hD : va_D Aa ([(h0, .inr (8, [.int 0, .int 1, .int 0, .ref q12, .ref q20, .null, .null, .int 0, .null, .null, .int 0, .null, .null, .null, .null, .null, .int 0, .null, .null, .null])), (q12, aI cI 40 (fun _ => 0)), (q20, aI cI 40 (fun _ => 0))]) := hD
  refine lv_aload_n hx hb dX8_init_25 rfl (lv_at hl 0 rfl) ?_
  refine lv_bipush (v := 40) hx hb dX8_init_26 (by decide) ?_
  refine va_newa (atype := .int) (ty := .int) (N' := 40) (n := 40) (a0 := (40, .inl (fun _ => 0))) hx hb (hts (.arrayClass .int) (by decide +kernel)) rfl hK hP hD hS hA (fun _ => rfl) (by decide) (by decide) (by decide) (Nat.le_of_ble_eq_true rfl) (Nat.le_of_ble_eq_true rfl) dX8_init_28 (fun q28 cA H hK9 hP hD hS => ?_)
  have ec : cA = cI := arr_same hK9 (k := 0) rfl (fun _ h => by cases h)
  rw [ec] at hP hD
  have hP : va_P (dC, dI) vwCl [(h0, .inr (8, [.int 0, .int 1, .int 0, .ref q12, .ref q20, .null, .null, .int 0, .null, .null, .int 0, .null, .null, .null, .null, .null, .int 0, .null, .null, .null])), (q12, aI cI 40 (fun _ => 0)), (q20, aI cI 40 (fun _ => 0)), (q28, aI cI 40 (fun _ => 0))] H := hP
  have hD : va_D Aa [(h0, .inr (8, [.int 0, .int 1, .int 0, .ref q12, .ref q20, .null, .null, .int 0, .null, .null, .int 0, .null, .null, .null, .null, .null, .int 0, .null, .null, .null])), (q12, aI cI 40 (fun _ => 0)), (q20, aI cI 40 (fun _ => 0)), (q28, aI cI 40 (fun _ => 0))] := hD
  refine va_putF (v := .ref q28) (ty := tyX8 5) (C := RX8) (T := TX8) (N := 20) (ci := 8) hx hb hts (by decide +kernel) tyX8 tyX8_ok nmX8 hown hK hP hD hS 0 rfl rfl 5 (by decide) (hts (.fieldLink RX8 20 "CycleHouseModel" "weight" "[I") (by decide +kernel)) (fun _ h => h) rfl hnm rfl (by decide +kernel) rfl rfl (Nat.le_of_ble_eq_true rfl) dX8_init_30 (fun H locs hP hD hS => ?_)
  have hP : va_P (dC, dI) vwCl ([(h0, .inr (8, [.int 0, .int 1, .int 0, .ref q12, .ref q20, .ref q28, .null, .int 0, .null, .null, .int 0, .null, .null, .null, .null, .null, .int 0, .null, .null, .null])), (q12, aI cI 40 (fun _ => 0)), (q20, aI cI 40 (fun _ => 0)), (q28, aI cI 40 (fun _ => 0))]) H := hP
  have hD : va_D Aa ([(h0, .inr (8, [.int 0, .int 1, .int 0, .ref q12, .ref q20, .ref q28, .null, .int 0, .null, .null, .int 0, .null, .null, .null, .null, .null, .int 0, .null, .null, .null])), (q12, aI cI 40 (fun _ => 0)), (q20, aI cI 40 (fun _ => 0)), (q28, aI cI 40 (fun _ => 0))]) := hD
  refine lv_aload_n hx hb dX8_init_33 rfl (lv_at hl 0 rfl) ?_
  refine lv_bipush (v := 64) hx hb dX8_init_34 (by decide) ?_
  refine va_newa (atype := .long) (ty := .long) (N' := 64) (n := 64) (a0 := (64, .inr (.inl (fun _ => 0)))) hx hb (hts (.arrayClass .long) (by decide +kernel)) rfl hK hP hD hS hA (fun _ => rfl) (by decide) (by decide) (by decide) (Nat.le_of_ble_eq_true rfl) (Nat.le_of_ble_eq_true rfl) dX8_init_36 (fun q36 cA H hK9 hP hD hS => ?_)
  have ec : cA = cJ := arr_same hK9 (k := 1) rfl (fun _ h => by cases h)
  rw [ec] at hP hD
  have hP : va_P (dC, dI) vwCl [(h0, .inr (8, [.int 0, .int 1, .int 0, .ref q12, .ref q20, .ref q28, .null, .int 0, .null, .null, .int 0, .null, .null, .null, .null, .null, .int 0, .null, .null, .null])), (q12, aI cI 40 (fun _ => 0)), (q20, aI cI 40 (fun _ => 0)), (q28, aI cI 40 (fun _ => 0)), (q36, aJ cJ 64 (fun _ => 0))] H := hP
  have hD : va_D Aa [(h0, .inr (8, [.int 0, .int 1, .int 0, .ref q12, .ref q20, .ref q28, .null, .int 0, .null, .null, .int 0, .null, .null, .null, .null, .null, .int 0, .null, .null, .null])), (q12, aI cI 40 (fun _ => 0)), (q20, aI cI 40 (fun _ => 0)), (q28, aI cI 40 (fun _ => 0)), (q36, aJ cJ 64 (fun _ => 0))] := hD
  refine va_putF (v := .ref q36) (ty := tyX8 6) (C := RX8) (T := TX8) (N := 20) (ci := 8) hx hb hts (by decide +kernel) tyX8 tyX8_ok nmX8 hown hK hP hD hS 0 rfl rfl 6 (by decide) (hts (.fieldLink RX8 23 "CycleHouseModel" "list" "[J") (by decide +kernel)) (fun _ h => h) rfl hnm rfl (by decide +kernel) rfl rfl (Nat.le_of_ble_eq_true rfl) dX8_init_38 (fun H locs hP hD hS => ?_)
  have hP : va_P (dC, dI) vwCl ([(h0, .inr (8, [.int 0, .int 1, .int 0, .ref q12, .ref q20, .ref q28, .ref q36, .int 0, .null, .null, .int 0, .null, .null, .null, .null, .null, .int 0, .null, .null, .null])), (q12, aI cI 40 (fun _ => 0)), (q20, aI cI 40 (fun _ => 0)), (q28, aI cI 40 (fun _ => 0)), (q36, aJ cJ 64 (fun _ => 0))]) H := hP
  have hD : va_D Aa ([(h0, .inr (8, [.int 0, .int 1, .int 0, .ref q12, .ref q20, .ref q28, .ref q36, .int 0, .null, .null, .int 0, .null, .null, .null, .null, .null, .int 0, .null, .null, .null])), (q12, aI cI 40 (fun _ => 0)), (q20, aI cI 40 (fun _ => 0)), (q28, aI cI 40 (fun _ => 0)), (q36, aJ cJ 64 (fun _ => 0))]) := hD
  refine lv_aload_n hx hb dX8_init_41 rfl (lv_at hl 0 rfl) ?_
  refine lv_bipush (v := 16) hx hb dX8_init_42 (by decide) ?_
  refine va_newa (atype := .int) (ty := .int) (N' := 16) (n := 16) (a0 := (16, .inl (fun _ => 0))) hx hb (hts (.arrayClass .int) (by decide +kernel)) rfl hK hP hD hS hA (fun _ => rfl) (by decide) (by decide) (by decide) (Nat.le_of_ble_eq_true rfl) (Nat.le_of_ble_eq_true rfl) dX8_init_44 (fun q44 cA H hK9 hP hD hS => ?_)
  have ec : cA = cI := arr_same hK9 (k := 0) rfl (fun _ h => by cases h)
  rw [ec] at hP hD
  have hP : va_P (dC, dI) vwCl [(h0, .inr (8, [.int 0, .int 1, .int 0, .ref q12, .ref q20, .ref q28, .ref q36, .int 0, .null, .null, .int 0, .null, .null, .null, .null, .null, .int 0, .null, .null, .null])), (q12, aI cI 40 (fun _ => 0)), (q20, aI cI 40 (fun _ => 0)), (q28, aI cI 40 (fun _ => 0)), (q36, aJ cJ 64 (fun _ => 0)), (q44, aI cI 16 (fun _ => 0))] H := hP
  have hD : va_D Aa [(h0, .inr (8, [.int 0, .int 1, .int 0, .ref q12, .ref q20, .ref q28, .ref q36, .int 0, .null, .null, .int 0, .null, .null, .null, .null, .null, .int 0, .null, .null, .null])), (q12, aI cI 40 (fun _ => 0)), (q20, aI cI 40 (fun _ => 0)), (q28, aI cI 40 (fun _ => 0)), (q36, aJ cJ 64 (fun _ => 0)), (q44, aI cI 16 (fun _ => 0))] := hD
  refine va_putF (v := .ref q44) (ty := tyX8 8) (C := RX8) (T := TX8) (N := 20) (ci := 8) hx hb hts (by decide +kernel) tyX8 tyX8_ok nmX8 hown hK hP hD hS 0 rfl rfl 8 (by decide) (hts (.fieldLink RX8 27 "CycleHouseModel" "group" "[I") (by decide +kernel)) (fun _ h => h) rfl hnm rfl (by decide +kernel) rfl rfl (Nat.le_of_ble_eq_true rfl) dX8_init_46 (fun H locs hP hD hS => ?_)
  have hP : va_P (dC, dI) vwCl ([(h0, .inr (8, [.int 0, .int 1, .int 0, .ref q12, .ref q20, .ref q28, .ref q36, .int 0, .ref q44, .null, .int 0, .null, .null, .null, .null, .null, .int 0, .null, .null, .null])), (q12, aI cI 40 (fun _ => 0)), (q20, aI cI 40 (fun _ => 0)), (q28, aI cI 40 (fun _ => 0)), (q36, aJ cJ 64 (fun _ => 0)), (q44, aI cI 16 (fun _ => 0))]) H := hP
  have hD : va_D Aa ([(h0, .inr (8, [.int 0, .int 1, .int 0, .ref q12, .ref q20, .ref q28, .ref q36, .int 0, .ref q44, .null, .int 0, .null, .null, .null, .null, .null, .int 0, .null, .null, .null])), (q12, aI cI 40 (fun _ => 0)), (q20, aI cI 40 (fun _ => 0)), (q28, aI cI 40 (fun _ => 0)), (q36, aJ cJ 64 (fun _ => 0)), (q44, aI cI 16 (fun _ => 0))]) := hD
  refine lv_aload_n hx hb dX8_init_49 rfl (lv_at hl 0 rfl) ?_
  refine lv_bipush (v := 16) hx hb dX8_init_50 (by decide) ?_
  refine va_newa (atype := .long) (ty := .long) (N' := 16) (n := 16) (a0 := (16, .inr (.inl (fun _ => 0)))) hx hb (hts (.arrayClass .long) (by decide +kernel)) rfl hK hP hD hS hA (fun _ => rfl) (by decide) (by decide) (by decide) (Nat.le_of_ble_eq_true rfl) (Nat.le_of_ble_eq_true rfl) dX8_init_52 (fun q52 cA H hK9 hP hD hS => ?_)
  have ec : cA = cJ := arr_same hK9 (k := 1) rfl (fun _ h => by cases h)
  rw [ec] at hP hD
  have hP : va_P (dC, dI) vwCl [(h0, .inr (8, [.int 0, .int 1, .int 0, .ref q12, .ref q20, .ref q28, .ref q36, .int 0, .ref q44, .null, .int 0, .null, .null, .null, .null, .null, .int 0, .null, .null, .null])), (q12, aI cI 40 (fun _ => 0)), (q20, aI cI 40 (fun _ => 0)), (q28, aI cI 40 (fun _ => 0)), (q36, aJ cJ 64 (fun _ => 0)), (q44, aI cI 16 (fun _ => 0)), (q52, aJ cJ 16 (fun _ => 0))] H := hP
  have hD : va_D Aa [(h0, .inr (8, [.int 0, .int 1, .int 0, .ref q12, .ref q20, .ref q28, .ref q36, .int 0, .ref q44, .null, .int 0, .null, .null, .null, .null, .null, .int 0, .null, .null, .null])), (q12, aI cI 40 (fun _ => 0)), (q20, aI cI 40 (fun _ => 0)), (q28, aI cI 40 (fun _ => 0)), (q36, aJ cJ 64 (fun _ => 0)), (q44, aI cI 16 (fun _ => 0)), (q52, aJ cJ 16 (fun _ => 0))] := hD
  refine va_putF (v := .ref q52) (ty := tyX8 9) (C := RX8) (T := TX8) (N := 20) (ci := 8) hx hb hts (by decide +kernel) tyX8 tyX8_ok nmX8 hown hK hP hD hS 0 rfl rfl 9 (by decide) (hts (.fieldLink RX8 30 "CycleHouseModel" "ways" "[J") (by decide +kernel)) (fun _ h => h) rfl hnm rfl (by decide +kernel) rfl rfl (Nat.le_of_ble_eq_true rfl) dX8_init_54 (fun H locs hP hD hS => ?_)
  have hP : va_P (dC, dI) vwCl ([(h0, .inr (8, [.int 0, .int 1, .int 0, .ref q12, .ref q20, .ref q28, .ref q36, .int 0, .ref q44, .ref q52, .int 0, .null, .null, .null, .null, .null, .int 0, .null, .null, .null])), (q12, aI cI 40 (fun _ => 0)), (q20, aI cI 40 (fun _ => 0)), (q28, aI cI 40 (fun _ => 0)), (q36, aJ cJ 64 (fun _ => 0)), (q44, aI cI 16 (fun _ => 0)), (q52, aJ cJ 16 (fun _ => 0))]) H := hP
  have hD : va_D Aa ([(h0, .inr (8, [.int 0, .int 1, .int 0, .ref q12, .ref q20, .ref q28, .ref q36, .int 0, .ref q44, .ref q52, .int 0, .null, .null, .null, .null, .null, .int 0, .null, .null, .null])), (q12, aI cI 40 (fun _ => 0)), (q20, aI cI 40 (fun _ => 0)), (q28, aI cI 40 (fun _ => 0)), (q36, aJ cJ 64 (fun _ => 0)), (q44, aI cI 16 (fun _ => 0)), (q52, aJ cJ 16 (fun _ => 0))]) := hD
  refine lv_aload_n hx hb dX8_init_57 rfl (lv_at hl 0 rfl) ?_
  refine lv_bipush (v := 40) hx hb dX8_init_58 (by decide) ?_
  refine va_newa (atype := .long) (ty := .long) (N' := 40) (n := 40) (a0 := (40, .inr (.inl (fun _ => 0)))) hx hb (hts (.arrayClass .long) (by decide +kernel)) rfl hK hP hD hS hA (fun _ => rfl) (by decide) (by decide) (by decide) (Nat.le_of_ble_eq_true rfl) (Nat.le_of_ble_eq_true rfl) dX8_init_60 (fun q60 cA H hK9 hP hD hS => ?_)
  have ec : cA = cJ := arr_same hK9 (k := 1) rfl (fun _ h => by cases h)
  rw [ec] at hP hD
  have hP : va_P (dC, dI) vwCl [(h0, .inr (8, [.int 0, .int 1, .int 0, .ref q12, .ref q20, .ref q28, .ref q36, .int 0, .ref q44, .ref q52, .int 0, .null, .null, .null, .null, .null, .int 0, .null, .null, .null])), (q12, aI cI 40 (fun _ => 0)), (q20, aI cI 40 (fun _ => 0)), (q28, aI cI 40 (fun _ => 0)), (q36, aJ cJ 64 (fun _ => 0)), (q44, aI cI 16 (fun _ => 0)), (q52, aJ cJ 16 (fun _ => 0)), (q60, aJ cJ 40 (fun _ => 0))] H := hP
  have hD : va_D Aa [(h0, .inr (8, [.int 0, .int 1, .int 0, .ref q12, .ref q20, .ref q28, .ref q36, .int 0, .ref q44, .ref q52, .int 0, .null, .null, .null, .null, .null, .int 0, .null, .null, .null])), (q12, aI cI 40 (fun _ => 0)), (q20, aI cI 40 (fun _ => 0)), (q28, aI cI 40 (fun _ => 0)), (q36, aJ cJ 64 (fun _ => 0)), (q44, aI cI 16 (fun _ => 0)), (q52, aJ cJ 16 (fun _ => 0)), (q60, aJ cJ 40 (fun _ => 0))] := hD
  refine va_putF (v := .ref q60) (ty := tyX8 11) (C := RX8) (T := TX8) (N := 20) (ci := 8) hx hb hts (by decide +kernel) tyX8 tyX8_ok nmX8 hown hK hP hD hS 0 rfl rfl 11 (by decide) (hts (.fieldLink RX8 33 "CycleHouseModel" "closing" "[J") (by decide +kernel)) (fun _ h => h) rfl hnm rfl (by decide +kernel) rfl rfl (Nat.le_of_ble_eq_true rfl) dX8_init_62 (fun H locs hP hD hS => ?_)
  have hP : va_P (dC, dI) vwCl ([(h0, .inr (8, [.int 0, .int 1, .int 0, .ref q12, .ref q20, .ref q28, .ref q36, .int 0, .ref q44, .ref q52, .int 0, .ref q60, .null, .null, .null, .null, .int 0, .null, .null, .null])), (q12, aI cI 40 (fun _ => 0)), (q20, aI cI 40 (fun _ => 0)), (q28, aI cI 40 (fun _ => 0)), (q36, aJ cJ 64 (fun _ => 0)), (q44, aI cI 16 (fun _ => 0)), (q52, aJ cJ 16 (fun _ => 0)), (q60, aJ cJ 40 (fun _ => 0))]) H := hP
  have hD : va_D Aa ([(h0, .inr (8, [.int 0, .int 1, .int 0, .ref q12, .ref q20, .ref q28, .ref q36, .int 0, .ref q44, .ref q52, .int 0, .ref q60, .null, .null, .null, .null, .int 0, .null, .null, .null])), (q12, aI cI 40 (fun _ => 0)), (q20, aI cI 40 (fun _ => 0)), (q28, aI cI 40 (fun _ => 0)), (q36, aJ cJ 64 (fun _ => 0)), (q44, aI cI 16 (fun _ => 0)), (q52, aJ cJ 16 (fun _ => 0)), (q60, aJ cJ 40 (fun _ => 0))]) := hD
  refine lv_aload_n hx hb dX8_init_65 rfl (lv_at hl 0 rfl) ?_
  refine lv_bipush (v := 40) hx hb dX8_init_66 (by decide) ?_
  refine va_newa (atype := .int) (ty := .int) (N' := 40) (n := 40) (a0 := (40, .inl (fun _ => 0))) hx hb (hts (.arrayClass .int) (by decide +kernel)) rfl hK hP hD hS hA (fun _ => rfl) (by decide) (by decide) (by decide) (Nat.le_of_ble_eq_true rfl) (Nat.le_of_ble_eq_true rfl) dX8_init_68 (fun q68 cA H hK9 hP hD hS => ?_)
  have ec : cA = cI := arr_same hK9 (k := 0) rfl (fun _ h => by cases h)
  rw [ec] at hP hD
  have hP : va_P (dC, dI) vwCl [(h0, .inr (8, [.int 0, .int 1, .int 0, .ref q12, .ref q20, .ref q28, .ref q36, .int 0, .ref q44, .ref q52, .int 0, .ref q60, .null, .null, .null, .null, .int 0, .null, .null, .null])), (q12, aI cI 40 (fun _ => 0)), (q20, aI cI 40 (fun _ => 0)), (q28, aI cI 40 (fun _ => 0)), (q36, aJ cJ 64 (fun _ => 0)), (q44, aI cI 16 (fun _ => 0)), (q52, aJ cJ 16 (fun _ => 0)), (q60, aJ cJ 40 (fun _ => 0)), (q68, aI cI 40 (fun _ => 0))] H := hP
  have hD : va_D Aa [(h0, .inr (8, [.int 0, .int 1, .int 0, .ref q12, .ref q20, .ref q28, .ref q36, .int 0, .ref q44, .ref q52, .int 0, .ref q60, .null, .null, .null, .null, .int 0, .null, .null, .null])), (q12, aI cI 40 (fun _ => 0)), (q20, aI cI 40 (fun _ => 0)), (q28, aI cI 40 (fun _ => 0)), (q36, aJ cJ 64 (fun _ => 0)), (q44, aI cI 16 (fun _ => 0)), (q52, aJ cJ 16 (fun _ => 0)), (q60, aJ cJ 40 (fun _ => 0)), (q68, aI cI 40 (fun _ => 0))] := hD
  refine va_putF (v := .ref q68) (ty := tyX8 12) (C := RX8) (T := TX8) (N := 20) (ci := 8) hx hb hts (by decide +kernel) tyX8 tyX8_ok nmX8 hown hK hP hD hS 0 rfl rfl 12 (by decide) (hts (.fieldLink RX8 36 "CycleHouseModel" "closer" "[I") (by decide +kernel)) (fun _ h => h) rfl hnm rfl (by decide +kernel) rfl rfl (Nat.le_of_ble_eq_true rfl) dX8_init_70 (fun H locs hP hD hS => ?_)
  have hP : va_P (dC, dI) vwCl ([(h0, .inr (8, [.int 0, .int 1, .int 0, .ref q12, .ref q20, .ref q28, .ref q36, .int 0, .ref q44, .ref q52, .int 0, .ref q60, .ref q68, .null, .null, .null, .int 0, .null, .null, .null])), (q12, aI cI 40 (fun _ => 0)), (q20, aI cI 40 (fun _ => 0)), (q28, aI cI 40 (fun _ => 0)), (q36, aJ cJ 64 (fun _ => 0)), (q44, aI cI 16 (fun _ => 0)), (q52, aJ cJ 16 (fun _ => 0)), (q60, aJ cJ 40 (fun _ => 0)), (q68, aI cI 40 (fun _ => 0))]) H := hP
  have hD : va_D Aa ([(h0, .inr (8, [.int 0, .int 1, .int 0, .ref q12, .ref q20, .ref q28, .ref q36, .int 0, .ref q44, .ref q52, .int 0, .ref q60, .ref q68, .null, .null, .null, .int 0, .null, .null, .null])), (q12, aI cI 40 (fun _ => 0)), (q20, aI cI 40 (fun _ => 0)), (q28, aI cI 40 (fun _ => 0)), (q36, aJ cJ 64 (fun _ => 0)), (q44, aI cI 16 (fun _ => 0)), (q52, aJ cJ 16 (fun _ => 0)), (q60, aJ cJ 40 (fun _ => 0)), (q68, aI cI 40 (fun _ => 0))]) := hD
  refine lv_aload_n hx hb dX8_init_73 rfl (lv_at hl 0 rfl) ?_
  refine lv_sipush (v := 16384) hx hb dX8_init_74 (by decide) ?_
  refine va_newa (atype := .long) (ty := .long) (N' := 16384) (n := 16384) (a0 := (16384, .inr (.inl (fun _ => 0)))) hx hb (hts (.arrayClass .long) (by decide +kernel)) rfl hK hP hD hS hA (fun _ => rfl) (by decide) (by decide) (by decide) (Nat.le_of_ble_eq_true rfl) (Nat.le_of_ble_eq_true rfl) dX8_init_77 (fun q77 cA H hK9 hP hD hS => ?_)
  have ec : cA = cJ := arr_same hK9 (k := 1) rfl (fun _ h => by cases h)
  rw [ec] at hP hD
  have hP : va_P (dC, dI) vwCl [(h0, .inr (8, [.int 0, .int 1, .int 0, .ref q12, .ref q20, .ref q28, .ref q36, .int 0, .ref q44, .ref q52, .int 0, .ref q60, .ref q68, .null, .null, .null, .int 0, .null, .null, .null])), (q12, aI cI 40 (fun _ => 0)), (q20, aI cI 40 (fun _ => 0)), (q28, aI cI 40 (fun _ => 0)), (q36, aJ cJ 64 (fun _ => 0)), (q44, aI cI 16 (fun _ => 0)), (q52, aJ cJ 16 (fun _ => 0)), (q60, aJ cJ 40 (fun _ => 0)), (q68, aI cI 40 (fun _ => 0)), (q77, aJ cJ 16384 (fun _ => 0))] H := hP
  have hD : va_D Aa [(h0, .inr (8, [.int 0, .int 1, .int 0, .ref q12, .ref q20, .ref q28, .ref q36, .int 0, .ref q44, .ref q52, .int 0, .ref q60, .ref q68, .null, .null, .null, .int 0, .null, .null, .null])), (q12, aI cI 40 (fun _ => 0)), (q20, aI cI 40 (fun _ => 0)), (q28, aI cI 40 (fun _ => 0)), (q36, aJ cJ 64 (fun _ => 0)), (q44, aI cI 16 (fun _ => 0)), (q52, aJ cJ 16 (fun _ => 0)), (q60, aJ cJ 40 (fun _ => 0)), (q68, aI cI 40 (fun _ => 0)), (q77, aJ cJ 16384 (fun _ => 0))] := hD
  refine va_putF (v := .ref q77) (ty := tyX8 13) (C := RX8) (T := TX8) (N := 20) (ci := 8) hx hb hts (by decide +kernel) tyX8 tyX8_ok nmX8 hown hK hP hD hS 0 rfl rfl 13 (by decide) (hts (.fieldLink RX8 39 "CycleHouseModel" "elements" "[J") (by decide +kernel)) (fun _ h => h) rfl hnm rfl (by decide +kernel) rfl rfl (Nat.le_of_ble_eq_true rfl) dX8_init_79 (fun H locs hP hD hS => ?_)
  have hP : va_P (dC, dI) vwCl ([(h0, .inr (8, [.int 0, .int 1, .int 0, .ref q12, .ref q20, .ref q28, .ref q36, .int 0, .ref q44, .ref q52, .int 0, .ref q60, .ref q68, .ref q77, .null, .null, .int 0, .null, .null, .null])), (q12, aI cI 40 (fun _ => 0)), (q20, aI cI 40 (fun _ => 0)), (q28, aI cI 40 (fun _ => 0)), (q36, aJ cJ 64 (fun _ => 0)), (q44, aI cI 16 (fun _ => 0)), (q52, aJ cJ 16 (fun _ => 0)), (q60, aJ cJ 40 (fun _ => 0)), (q68, aI cI 40 (fun _ => 0)), (q77, aJ cJ 16384 (fun _ => 0))]) H := hP
  have hD : va_D Aa ([(h0, .inr (8, [.int 0, .int 1, .int 0, .ref q12, .ref q20, .ref q28, .ref q36, .int 0, .ref q44, .ref q52, .int 0, .ref q60, .ref q68, .ref q77, .null, .null, .int 0, .null, .null, .null])), (q12, aI cI 40 (fun _ => 0)), (q20, aI cI 40 (fun _ => 0)), (q28, aI cI 40 (fun _ => 0)), (q36, aJ cJ 64 (fun _ => 0)), (q44, aI cI 16 (fun _ => 0)), (q52, aJ cJ 16 (fun _ => 0)), (q60, aJ cJ 40 (fun _ => 0)), (q68, aI cI 40 (fun _ => 0)), (q77, aJ cJ 16384 (fun _ => 0))]) := hD
  refine lv_aload_n hx hb dX8_init_82 rfl (lv_at hl 0 rfl) ?_
  refine lv_sipush (v := 16384) hx hb dX8_init_83 (by decide) ?_
  refine va_newa (atype := .long) (ty := .long) (N' := 16384) (n := 16384) (a0 := (16384, .inr (.inl (fun _ => 0)))) hx hb (hts (.arrayClass .long) (by decide +kernel)) rfl hK hP hD hS hA (fun _ => rfl) (by decide) (by decide) (by decide) (Nat.le_of_ble_eq_true rfl) (Nat.le_of_ble_eq_true rfl) dX8_init_86 (fun q86 cA H hK9 hP hD hS => ?_)
  have ec : cA = cJ := arr_same hK9 (k := 1) rfl (fun _ h => by cases h)
  rw [ec] at hP hD
  have hP : va_P (dC, dI) vwCl [(h0, .inr (8, [.int 0, .int 1, .int 0, .ref q12, .ref q20, .ref q28, .ref q36, .int 0, .ref q44, .ref q52, .int 0, .ref q60, .ref q68, .ref q77, .null, .null, .int 0, .null, .null, .null])), (q12, aI cI 40 (fun _ => 0)), (q20, aI cI 40 (fun _ => 0)), (q28, aI cI 40 (fun _ => 0)), (q36, aJ cJ 64 (fun _ => 0)), (q44, aI cI 16 (fun _ => 0)), (q52, aJ cJ 16 (fun _ => 0)), (q60, aJ cJ 40 (fun _ => 0)), (q68, aI cI 40 (fun _ => 0)), (q77, aJ cJ 16384 (fun _ => 0)), (q86, aJ cJ 16384 (fun _ => 0))] H := hP
  have hD : va_D Aa [(h0, .inr (8, [.int 0, .int 1, .int 0, .ref q12, .ref q20, .ref q28, .ref q36, .int 0, .ref q44, .ref q52, .int 0, .ref q60, .ref q68, .ref q77, .null, .null, .int 0, .null, .null, .null])), (q12, aI cI 40 (fun _ => 0)), (q20, aI cI 40 (fun _ => 0)), (q28, aI cI 40 (fun _ => 0)), (q36, aJ cJ 64 (fun _ => 0)), (q44, aI cI 16 (fun _ => 0)), (q52, aJ cJ 16 (fun _ => 0)), (q60, aJ cJ 40 (fun _ => 0)), (q68, aI cI 40 (fun _ => 0)), (q77, aJ cJ 16384 (fun _ => 0)), (q86, aJ cJ 16384 (fun _ => 0))] := hD
  refine va_putF (v := .ref q86) (ty := tyX8 14) (C := RX8) (T := TX8) (N := 20) (ci := 8) hx hb hts (by decide +kernel) tyX8 tyX8_ok nmX8 hown hK hP hD hS 0 rfl rfl 14 (by decide) (hts (.fieldLink RX8 42 "CycleHouseModel" "weights" "[J") (by decide +kernel)) (fun _ h => h) rfl hnm rfl (by decide +kernel) rfl rfl (Nat.le_of_ble_eq_true rfl) dX8_init_88 (fun H locs hP hD hS => ?_)
  have hP : va_P (dC, dI) vwCl ([(h0, .inr (8, [.int 0, .int 1, .int 0, .ref q12, .ref q20, .ref q28, .ref q36, .int 0, .ref q44, .ref q52, .int 0, .ref q60, .ref q68, .ref q77, .ref q86, .null, .int 0, .null, .null, .null])), (q12, aI cI 40 (fun _ => 0)), (q20, aI cI 40 (fun _ => 0)), (q28, aI cI 40 (fun _ => 0)), (q36, aJ cJ 64 (fun _ => 0)), (q44, aI cI 16 (fun _ => 0)), (q52, aJ cJ 16 (fun _ => 0)), (q60, aJ cJ 40 (fun _ => 0)), (q68, aI cI 40 (fun _ => 0)), (q77, aJ cJ 16384 (fun _ => 0)), (q86, aJ cJ 16384 (fun _ => 0))]) H := hP
  have hD : va_D Aa ([(h0, .inr (8, [.int 0, .int 1, .int 0, .ref q12, .ref q20, .ref q28, .ref q36, .int 0, .ref q44, .ref q52, .int 0, .ref q60, .ref q68, .ref q77, .ref q86, .null, .int 0, .null, .null, .null])), (q12, aI cI 40 (fun _ => 0)), (q20, aI cI 40 (fun _ => 0)), (q28, aI cI 40 (fun _ => 0)), (q36, aJ cJ 64 (fun _ => 0)), (q44, aI cI 16 (fun _ => 0)), (q52, aJ cJ 16 (fun _ => 0)), (q60, aJ cJ 40 (fun _ => 0)), (q68, aI cI 40 (fun _ => 0)), (q77, aJ cJ 16384 (fun _ => 0)), (q86, aJ cJ 16384 (fun _ => 0))]) := hD
  refine lv_aload_n hx hb dX8_init_91 rfl (lv_at hl 0 rfl) ?_
  refine lv_bipush (v := 64) hx hb dX8_init_92 (by decide) ?_
  refine va_newa (atype := .long) (ty := .long) (N' := 64) (n := 64) (a0 := (64, .inr (.inl (fun _ => 0)))) hx hb (hts (.arrayClass .long) (by decide +kernel)) rfl hK hP hD hS hA (fun _ => rfl) (by decide) (by decide) (by decide) (Nat.le_of_ble_eq_true rfl) (Nat.le_of_ble_eq_true rfl) dX8_init_94 (fun q94 cA H hK9 hP hD hS => ?_)
  have ec : cA = cJ := arr_same hK9 (k := 1) rfl (fun _ h => by cases h)
  rw [ec] at hP hD
  have hP : va_P (dC, dI) vwCl [(h0, .inr (8, [.int 0, .int 1, .int 0, .ref q12, .ref q20, .ref q28, .ref q36, .int 0, .ref q44, .ref q52, .int 0, .ref q60, .ref q68, .ref q77, .ref q86, .null, .int 0, .null, .null, .null])), (q12, aI cI 40 (fun _ => 0)), (q20, aI cI 40 (fun _ => 0)), (q28, aI cI 40 (fun _ => 0)), (q36, aJ cJ 64 (fun _ => 0)), (q44, aI cI 16 (fun _ => 0)), (q52, aJ cJ 16 (fun _ => 0)), (q60, aJ cJ 40 (fun _ => 0)), (q68, aI cI 40 (fun _ => 0)), (q77, aJ cJ 16384 (fun _ => 0)), (q86, aJ cJ 16384 (fun _ => 0)), (q94, aJ cJ 64 (fun _ => 0))] H := hP
  have hD : va_D Aa [(h0, .inr (8, [.int 0, .int 1, .int 0, .ref q12, .ref q20, .ref q28, .ref q36, .int 0, .ref q44, .ref q52, .int 0, .ref q60, .ref q68, .ref q77, .ref q86, .null, .int 0, .null, .null, .null])), (q12, aI cI 40 (fun _ => 0)), (q20, aI cI 40 (fun _ => 0)), (q28, aI cI 40 (fun _ => 0)), (q36, aJ cJ 64 (fun _ => 0)), (q44, aI cI 16 (fun _ => 0)), (q52, aJ cJ 16 (fun _ => 0)), (q60, aJ cJ 40 (fun _ => 0)), (q68, aI cI 40 (fun _ => 0)), (q77, aJ cJ 16384 (fun _ => 0)), (q86, aJ cJ 16384 (fun _ => 0)), (q94, aJ cJ 64 (fun _ => 0))] := hD
  refine va_putF (v := .ref q94) (ty := tyX8 15) (C := RX8) (T := TX8) (N := 20) (ci := 8) hx hb hts (by decide +kernel) tyX8 tyX8_ok nmX8 hown hK hP hD hS 0 rfl rfl 15 (by decide) (hts (.fieldLink RX8 45 "CycleHouseModel" "rows" "[J") (by decide +kernel)) (fun _ h => h) rfl hnm rfl (by decide +kernel) rfl rfl (Nat.le_of_ble_eq_true rfl) dX8_init_96 (fun H locs hP hD hS => ?_)
  have hP : va_P (dC, dI) vwCl ([(h0, .inr (8, [.int 0, .int 1, .int 0, .ref q12, .ref q20, .ref q28, .ref q36, .int 0, .ref q44, .ref q52, .int 0, .ref q60, .ref q68, .ref q77, .ref q86, .ref q94, .int 0, .null, .null, .null])), (q12, aI cI 40 (fun _ => 0)), (q20, aI cI 40 (fun _ => 0)), (q28, aI cI 40 (fun _ => 0)), (q36, aJ cJ 64 (fun _ => 0)), (q44, aI cI 16 (fun _ => 0)), (q52, aJ cJ 16 (fun _ => 0)), (q60, aJ cJ 40 (fun _ => 0)), (q68, aI cI 40 (fun _ => 0)), (q77, aJ cJ 16384 (fun _ => 0)), (q86, aJ cJ 16384 (fun _ => 0)), (q94, aJ cJ 64 (fun _ => 0))]) H := hP
  have hD : va_D Aa ([(h0, .inr (8, [.int 0, .int 1, .int 0, .ref q12, .ref q20, .ref q28, .ref q36, .int 0, .ref q44, .ref q52, .int 0, .ref q60, .ref q68, .ref q77, .ref q86, .ref q94, .int 0, .null, .null, .null])), (q12, aI cI 40 (fun _ => 0)), (q20, aI cI 40 (fun _ => 0)), (q28, aI cI 40 (fun _ => 0)), (q36, aJ cJ 64 (fun _ => 0)), (q44, aI cI 16 (fun _ => 0)), (q52, aJ cJ 16 (fun _ => 0)), (q60, aJ cJ 40 (fun _ => 0)), (q68, aI cI 40 (fun _ => 0)), (q77, aJ cJ 16384 (fun _ => 0)), (q86, aJ cJ 16384 (fun _ => 0)), (q94, aJ cJ 64 (fun _ => 0))]) := hD
  refine lv_aload_n hx hb dX8_init_99 rfl (lv_at hl 0 rfl) ?_
  refine lv_sipush (v := 256) hx hb dX8_init_100 (by decide) ?_
  refine va_newa (atype := .long) (ty := .long) (N' := 256) (n := 256) (a0 := (256, .inr (.inl (fun _ => 0)))) hx hb (hts (.arrayClass .long) (by decide +kernel)) rfl hK hP hD hS hA (fun _ => rfl) (by decide) (by decide) (by decide) (Nat.le_of_ble_eq_true rfl) (Nat.le_of_ble_eq_true rfl) dX8_init_103 (fun q103 cA H hK9 hP hD hS => ?_)
  have ec : cA = cJ := arr_same hK9 (k := 1) rfl (fun _ h => by cases h)
  rw [ec] at hP hD
  have hP : va_P (dC, dI) vwCl [(h0, .inr (8, [.int 0, .int 1, .int 0, .ref q12, .ref q20, .ref q28, .ref q36, .int 0, .ref q44, .ref q52, .int 0, .ref q60, .ref q68, .ref q77, .ref q86, .ref q94, .int 0, .null, .null, .null])), (q12, aI cI 40 (fun _ => 0)), (q20, aI cI 40 (fun _ => 0)), (q28, aI cI 40 (fun _ => 0)), (q36, aJ cJ 64 (fun _ => 0)), (q44, aI cI 16 (fun _ => 0)), (q52, aJ cJ 16 (fun _ => 0)), (q60, aJ cJ 40 (fun _ => 0)), (q68, aI cI 40 (fun _ => 0)), (q77, aJ cJ 16384 (fun _ => 0)), (q86, aJ cJ 16384 (fun _ => 0)), (q94, aJ cJ 64 (fun _ => 0)), (q103, aJ cJ 256 (fun _ => 0))] H := hP
  have hD : va_D Aa [(h0, .inr (8, [.int 0, .int 1, .int 0, .ref q12, .ref q20, .ref q28, .ref q36, .int 0, .ref q44, .ref q52, .int 0, .ref q60, .ref q68, .ref q77, .ref q86, .ref q94, .int 0, .null, .null, .null])), (q12, aI cI 40 (fun _ => 0)), (q20, aI cI 40 (fun _ => 0)), (q28, aI cI 40 (fun _ => 0)), (q36, aJ cJ 64 (fun _ => 0)), (q44, aI cI 16 (fun _ => 0)), (q52, aJ cJ 16 (fun _ => 0)), (q60, aJ cJ 40 (fun _ => 0)), (q68, aI cI 40 (fun _ => 0)), (q77, aJ cJ 16384 (fun _ => 0)), (q86, aJ cJ 16384 (fun _ => 0)), (q94, aJ cJ 64 (fun _ => 0)), (q103, aJ cJ 256 (fun _ => 0))] := hD
  refine va_putF (v := .ref q103) (ty := tyX8 17) (C := RX8) (T := TX8) (N := 20) (ci := 8) hx hb hts (by decide +kernel) tyX8 tyX8_ok nmX8 hown hK hP hD hS 0 rfl rfl 17 (by decide) (hts (.fieldLink RX8 48 "CycleHouseModel" "matrix" "[J") (by decide +kernel)) (fun _ h => h) rfl hnm rfl (by decide +kernel) rfl rfl (Nat.le_of_ble_eq_true rfl) dX8_init_105 (fun H locs hP hD hS => ?_)
  have hP : va_P (dC, dI) vwCl ([(h0, .inr (8, [.int 0, .int 1, .int 0, .ref q12, .ref q20, .ref q28, .ref q36, .int 0, .ref q44, .ref q52, .int 0, .ref q60, .ref q68, .ref q77, .ref q86, .ref q94, .int 0, .ref q103, .null, .null])), (q12, aI cI 40 (fun _ => 0)), (q20, aI cI 40 (fun _ => 0)), (q28, aI cI 40 (fun _ => 0)), (q36, aJ cJ 64 (fun _ => 0)), (q44, aI cI 16 (fun _ => 0)), (q52, aJ cJ 16 (fun _ => 0)), (q60, aJ cJ 40 (fun _ => 0)), (q68, aI cI 40 (fun _ => 0)), (q77, aJ cJ 16384 (fun _ => 0)), (q86, aJ cJ 16384 (fun _ => 0)), (q94, aJ cJ 64 (fun _ => 0)), (q103, aJ cJ 256 (fun _ => 0))]) H := hP
  have hD : va_D Aa ([(h0, .inr (8, [.int 0, .int 1, .int 0, .ref q12, .ref q20, .ref q28, .ref q36, .int 0, .ref q44, .ref q52, .int 0, .ref q60, .ref q68, .ref q77, .ref q86, .ref q94, .int 0, .ref q103, .null, .null])), (q12, aI cI 40 (fun _ => 0)), (q20, aI cI 40 (fun _ => 0)), (q28, aI cI 40 (fun _ => 0)), (q36, aJ cJ 64 (fun _ => 0)), (q44, aI cI 16 (fun _ => 0)), (q52, aJ cJ 16 (fun _ => 0)), (q60, aJ cJ 40 (fun _ => 0)), (q68, aI cI 40 (fun _ => 0)), (q77, aJ cJ 16384 (fun _ => 0)), (q86, aJ cJ 16384 (fun _ => 0)), (q94, aJ cJ 64 (fun _ => 0)), (q103, aJ cJ 256 (fun _ => 0))]) := hD
  refine lv_aload_n hx hb dX8_init_108 rfl (lv_at hl 0 rfl) ?_
  refine lv_bipush (v := 16) hx hb dX8_init_109 (by decide) ?_
  refine va_newa (atype := .int) (ty := .int) (N' := 16) (n := 16) (a0 := (16, .inl (fun _ => 0))) hx hb (hts (.arrayClass .int) (by decide +kernel)) rfl hK hP hD hS hA (fun _ => rfl) (by decide) (by decide) (by decide) (Nat.le_of_ble_eq_true rfl) (Nat.le_of_ble_eq_true rfl) dX8_init_111 (fun q111 cA H hK9 hP hD hS => ?_)
  have ec : cA = cI := arr_same hK9 (k := 0) rfl (fun _ h => by cases h)
  rw [ec] at hP hD
  have hP : va_P (dC, dI) vwCl [(h0, .inr (8, [.int 0, .int 1, .int 0, .ref q12, .ref q20, .ref q28, .ref q36, .int 0, .ref q44, .ref q52, .int 0, .ref q60, .ref q68, .ref q77, .ref q86, .ref q94, .int 0, .ref q103, .null, .null])), (q12, aI cI 40 (fun _ => 0)), (q20, aI cI 40 (fun _ => 0)), (q28, aI cI 40 (fun _ => 0)), (q36, aJ cJ 64 (fun _ => 0)), (q44, aI cI 16 (fun _ => 0)), (q52, aJ cJ 16 (fun _ => 0)), (q60, aJ cJ 40 (fun _ => 0)), (q68, aI cI 40 (fun _ => 0)), (q77, aJ cJ 16384 (fun _ => 0)), (q86, aJ cJ 16384 (fun _ => 0)), (q94, aJ cJ 64 (fun _ => 0)), (q103, aJ cJ 256 (fun _ => 0)), (q111, aI cI 16 (fun _ => 0))] H := hP
  have hD : va_D Aa [(h0, .inr (8, [.int 0, .int 1, .int 0, .ref q12, .ref q20, .ref q28, .ref q36, .int 0, .ref q44, .ref q52, .int 0, .ref q60, .ref q68, .ref q77, .ref q86, .ref q94, .int 0, .ref q103, .null, .null])), (q12, aI cI 40 (fun _ => 0)), (q20, aI cI 40 (fun _ => 0)), (q28, aI cI 40 (fun _ => 0)), (q36, aJ cJ 64 (fun _ => 0)), (q44, aI cI 16 (fun _ => 0)), (q52, aJ cJ 16 (fun _ => 0)), (q60, aJ cJ 40 (fun _ => 0)), (q68, aI cI 40 (fun _ => 0)), (q77, aJ cJ 16384 (fun _ => 0)), (q86, aJ cJ 16384 (fun _ => 0)), (q94, aJ cJ 64 (fun _ => 0)), (q103, aJ cJ 256 (fun _ => 0)), (q111, aI cI 16 (fun _ => 0))] := hD
  refine va_putF (v := .ref q111) (ty := tyX8 18) (C := RX8) (T := TX8) (N := 20) (ci := 8) hx hb hts (by decide +kernel) tyX8 tyX8_ok nmX8 hown hK hP hD hS 0 rfl rfl 18 (by decide) (hts (.fieldLink RX8 51 "CycleHouseModel" "place" "[I") (by decide +kernel)) (fun _ h => h) rfl hnm rfl (by decide +kernel) rfl rfl (Nat.le_of_ble_eq_true rfl) dX8_init_113 (fun H locs hP hD hS => ?_)
  have hP : va_P (dC, dI) vwCl ([(h0, .inr (8, [.int 0, .int 1, .int 0, .ref q12, .ref q20, .ref q28, .ref q36, .int 0, .ref q44, .ref q52, .int 0, .ref q60, .ref q68, .ref q77, .ref q86, .ref q94, .int 0, .ref q103, .ref q111, .null])), (q12, aI cI 40 (fun _ => 0)), (q20, aI cI 40 (fun _ => 0)), (q28, aI cI 40 (fun _ => 0)), (q36, aJ cJ 64 (fun _ => 0)), (q44, aI cI 16 (fun _ => 0)), (q52, aJ cJ 16 (fun _ => 0)), (q60, aJ cJ 40 (fun _ => 0)), (q68, aI cI 40 (fun _ => 0)), (q77, aJ cJ 16384 (fun _ => 0)), (q86, aJ cJ 16384 (fun _ => 0)), (q94, aJ cJ 64 (fun _ => 0)), (q103, aJ cJ 256 (fun _ => 0)), (q111, aI cI 16 (fun _ => 0))]) H := hP
  have hD : va_D Aa ([(h0, .inr (8, [.int 0, .int 1, .int 0, .ref q12, .ref q20, .ref q28, .ref q36, .int 0, .ref q44, .ref q52, .int 0, .ref q60, .ref q68, .ref q77, .ref q86, .ref q94, .int 0, .ref q103, .ref q111, .null])), (q12, aI cI 40 (fun _ => 0)), (q20, aI cI 40 (fun _ => 0)), (q28, aI cI 40 (fun _ => 0)), (q36, aJ cJ 64 (fun _ => 0)), (q44, aI cI 16 (fun _ => 0)), (q52, aJ cJ 16 (fun _ => 0)), (q60, aJ cJ 40 (fun _ => 0)), (q68, aI cI 40 (fun _ => 0)), (q77, aJ cJ 16384 (fun _ => 0)), (q86, aJ cJ 16384 (fun _ => 0)), (q94, aJ cJ 64 (fun _ => 0)), (q103, aJ cJ 256 (fun _ => 0)), (q111, aI cI 16 (fun _ => 0))]) := hD
  refine lv_aload_n hx hb dX8_init_116 rfl (lv_at hl 0 rfl) ?_
  refine lv_bipush (v := 16) hx hb dX8_init_117 (by decide) ?_
  refine va_newa (atype := .boolean) (ty := .boolean) (N' := 16) (n := 16) (a0 := (16, .inl (fun _ => 0))) hx hb (hts (.arrayClass .boolean) (by decide +kernel)) rfl hK hP hD hS hA (fun _ => rfl) (by decide) (by decide) (by decide) (Nat.le_of_ble_eq_true rfl) (Nat.le_of_ble_eq_true rfl) dX8_init_119 (fun q119 cA H hK9 hP hD hS => ?_)
  have ec : cA = cZ := arr_same hK9 (k := 2) rfl (fun _ h => by cases h)
  rw [ec] at hP hD
  have hP : va_P (dC, dI) vwCl [(h0, .inr (8, [.int 0, .int 1, .int 0, .ref q12, .ref q20, .ref q28, .ref q36, .int 0, .ref q44, .ref q52, .int 0, .ref q60, .ref q68, .ref q77, .ref q86, .ref q94, .int 0, .ref q103, .ref q111, .null])), (q12, aI cI 40 (fun _ => 0)), (q20, aI cI 40 (fun _ => 0)), (q28, aI cI 40 (fun _ => 0)), (q36, aJ cJ 64 (fun _ => 0)), (q44, aI cI 16 (fun _ => 0)), (q52, aJ cJ 16 (fun _ => 0)), (q60, aJ cJ 40 (fun _ => 0)), (q68, aI cI 40 (fun _ => 0)), (q77, aJ cJ 16384 (fun _ => 0)), (q86, aJ cJ 16384 (fun _ => 0)), (q94, aJ cJ 64 (fun _ => 0)), (q103, aJ cJ 256 (fun _ => 0)), (q111, aI cI 16 (fun _ => 0)), (q119, aI cZ 16 (fun _ => 0))] H := hP
  have hD : va_D Aa [(h0, .inr (8, [.int 0, .int 1, .int 0, .ref q12, .ref q20, .ref q28, .ref q36, .int 0, .ref q44, .ref q52, .int 0, .ref q60, .ref q68, .ref q77, .ref q86, .ref q94, .int 0, .ref q103, .ref q111, .null])), (q12, aI cI 40 (fun _ => 0)), (q20, aI cI 40 (fun _ => 0)), (q28, aI cI 40 (fun _ => 0)), (q36, aJ cJ 64 (fun _ => 0)), (q44, aI cI 16 (fun _ => 0)), (q52, aJ cJ 16 (fun _ => 0)), (q60, aJ cJ 40 (fun _ => 0)), (q68, aI cI 40 (fun _ => 0)), (q77, aJ cJ 16384 (fun _ => 0)), (q86, aJ cJ 16384 (fun _ => 0)), (q94, aJ cJ 64 (fun _ => 0)), (q103, aJ cJ 256 (fun _ => 0)), (q111, aI cI 16 (fun _ => 0)), (q119, aI cZ 16 (fun _ => 0))] := hD
  refine va_putF (v := .ref q119) (ty := tyX8 19) (C := RX8) (T := TX8) (N := 20) (ci := 8) hx hb hts (by decide +kernel) tyX8 tyX8_ok nmX8 hown hK hP hD hS 0 rfl rfl 19 (by decide) (hts (.fieldLink RX8 54 "CycleHouseModel" "reached" "[Z") (by decide +kernel)) (fun _ h => h) rfl hnm rfl (by decide +kernel) rfl rfl (Nat.le_of_ble_eq_true rfl) dX8_init_121 (fun H locs hP hD hS => ?_)
  have hP : va_P (dC, dI) vwCl ([(h0, .inr (8, [.int 0, .int 1, .int 0, .ref q12, .ref q20, .ref q28, .ref q36, .int 0, .ref q44, .ref q52, .int 0, .ref q60, .ref q68, .ref q77, .ref q86, .ref q94, .int 0, .ref q103, .ref q111, .ref q119])), (q12, aI cI 40 (fun _ => 0)), (q20, aI cI 40 (fun _ => 0)), (q28, aI cI 40 (fun _ => 0)), (q36, aJ cJ 64 (fun _ => 0)), (q44, aI cI 16 (fun _ => 0)), (q52, aJ cJ 16 (fun _ => 0)), (q60, aJ cJ 40 (fun _ => 0)), (q68, aI cI 40 (fun _ => 0)), (q77, aJ cJ 16384 (fun _ => 0)), (q86, aJ cJ 16384 (fun _ => 0)), (q94, aJ cJ 64 (fun _ => 0)), (q103, aJ cJ 256 (fun _ => 0)), (q111, aI cI 16 (fun _ => 0)), (q119, aI cZ 16 (fun _ => 0))]) H := hP
  have hD : va_D Aa ([(h0, .inr (8, [.int 0, .int 1, .int 0, .ref q12, .ref q20, .ref q28, .ref q36, .int 0, .ref q44, .ref q52, .int 0, .ref q60, .ref q68, .ref q77, .ref q86, .ref q94, .int 0, .ref q103, .ref q111, .ref q119])), (q12, aI cI 40 (fun _ => 0)), (q20, aI cI 40 (fun _ => 0)), (q28, aI cI 40 (fun _ => 0)), (q36, aJ cJ 64 (fun _ => 0)), (q44, aI cI 16 (fun _ => 0)), (q52, aJ cJ 16 (fun _ => 0)), (q60, aJ cJ 40 (fun _ => 0)), (q68, aI cI 40 (fun _ => 0)), (q77, aJ cJ 16384 (fun _ => 0)), (q86, aJ cJ 16384 (fun _ => 0)), (q94, aJ cJ 64 (fun _ => 0)), (q103, aJ cJ 256 (fun _ => 0)), (q111, aI cI 16 (fun _ => 0)), (q119, aI cZ 16 (fun _ => 0))]) := hD
  exact hret 124 ls _ _ (fun k => ([q12, q20, q28, q36, q44, q52, q60, q68, q77, q86, q94, q103, q111, q119] : List Nat).getD k 0) _ _ (Nat.le_of_ble_eq_true rfl) (Nat.le_of_ble_eq_true rfl) dX8_init_124 hP hD hS
