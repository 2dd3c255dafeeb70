set_option maxHeartbeats 4000000 in
set_option maxRecDepth 100000 in
theorem k_X4_gather (l : Launch) (dC : Nat → ClassId) (dI : Nat → Nat → Nat) (cI cJ cZ cII cJJ : ClassId) (R : Nat → Nat) (I : Nat → Int32) (A : Nat → Nat → Int32) (B : Nat → Nat → Int64) (C : Nat → Nat → Int32) (T : Nat → Nat → Int64) (nv ne : Nat) (fr to wt : Nat → Nat) (k : Nat) (p2 : WSt) (s2 : GS) (g : gH nv ne fr to wt I A) (hk : k < ne) (hw : rWy nv p2 B) (hwl : ∀ v, p2.2 v < 2 ^ 40) (hc : rC s2 I B) (hs : s2.1 < 640) : ctV l (dC, dI) (tyL cI cJ cZ cII cJJ) (HW cI cJ cII cJJ R) yX4_gather wsX4_gather (1, 30) [.ref (R 13), .ref (R 1), .ref (R 10), .int (nI k)] (I, A, B, C, T) (fun u => rC (gat1 p2 (fr k) (to k) k (wt k) s2) u.1 u.2.2.1 ∧ (∀ k, k ≠ 7 → u.1 k = I k) ∧ u.2.1 = A ∧ (∀ k, k ≠ 16 → k ≠ 17 → u.2.2.1 k = B k) ∧ u.2.2.2.1 = C ∧ u.2.2.2.2 = T) := by
  refine ctV_intro (cc := cX4_gather) (maxL := 8) (by decide) rfl (Nat.le_of_ble_eq_true rfl) ?_
  intro p e s m below meth c ls Aa Q F hK hN hP hD hS hA hl hret
  have hx := F.1
  have hb := F.2.1
  have hown : s.vm.findClass RX4 = some m.cls := F.2.2.2.1
  have hts := F.2.2.2.2
  have hinX2 : ∀ w ∈ wsX20, w ∈ wsX4_gather := by decide +kernel
  have hinX4 : ∀ w ∈ wsX40, w ∈ wsX4_gather := by decide +kernel
  have hinX6 : ∀ w ∈ wsX60, w ∈ wsX4_gather := by decide +kernel
  have hf18 := hts (.fieldLink RX4 18 "CycleHouse$LightBasis" "left" "[J") (by decide +kernel)
  have hf44 := hts (.fieldLink RX4 44 "CycleHouse$LightBasis" "candidates" "I") (by decide +kernel)
  have hf21 := hts (.fieldLink RX4 21 "CycleHouse$LightBasis" "leftWeight" "[J") (by decide +kernel)
  have hl : lv_has ls 8 [(0, .ref (R 13)), (1, .ref (R 1)), (2, .ref (R 10)), (3, .int (nI k))] := hl
  obtain ⟨g1, g2, g3, g4, g5, g6⟩ := id g
  obtain ⟨⟨ga, ha⟩, ⟨gb, hb2⟩, gwt, gwl⟩ := g6 k hk
  have kcl : (nI k).toNatClampNeg = k := nI_clamp (by omega)
  have kin : vp_in (nI k) 40 := vp_in_nI (by omega) (by omega)
  have acl : (nI (fr k)).toNatClampNeg = fr k := nI_clamp (by omega)
  have bcl : (nI (to k)).toNatClampNeg = to k := nI_clamp (by omega)
  have l1 := (hw _ ha).2.1
  have l2 := (hw _ hb2).2.1
  have hgl : gcl p2 (fr k) (to k) k < 2 ^ 40 := Nat.xor_lt_two_pow (Nat.xor_lt_two_pow (hwl _) (hwl _)) (Nat.pow_lt_pow_right (by omega) (by omega))
  have dcl : (I 7).toNatClampNeg = s2.1 := by rw [hc.1]; exact nI_clamp (by omega)
  have din : vp_in (I 7) 640 := by rw [hc.1]; exact vp_in_nI hs (by omega)
  refine lv_aload_n hx hb dX4_gather_0 rfl (lv_at hl 1 rfl) ?_
  refine va_getN (D := (dC, dI)) (ci := 2) (v := .ref (R 2)) (C := RX2) (T := TX2) (N := 5) hx hb hts hinX2 hown hK hP 1 rfl rfl 2 (by decide) (nwOK.f hN RX4 65 "CycleHouse$Graph" "from" "[I" "CycleHouse" (by decide +kernel)) (fun _ h9 => h9) rfl dX4_gather_1 ?_
  refine lv_iload_n hx hb dX4_gather_4 rfl (lv_at hl 3 rfl) ?_
  have h5 : vp_in (nI k) 40 := vp_in_nI (by omega) (by omega)
  refine va_iald hx hb hK hP 2 0 rfl rfl h5 dX4_gather_5 ?_
  refine lv_topi (fun x5 ex5 => ?_)
  have ex5 : x5 = A 2 (nI k).toNatClampNeg := ex5
  have ex5 : x5 = nI (fr k) := by rw [ex5, kcl]; exact ga
  subst ex5
  refine lv_istore (lv' := [(4, .int (nI (fr k))), (0, .ref (R 13)), (1, .ref (R 1)), (2, .ref (R 10)), (3, .int (nI k))]) hx hb dX4_gather_6 hl (by decide) rfl (fun ls hl => ?_)
  refine lv_aload_n hx hb dX4_gather_8 rfl (lv_at hl 2 rfl) ?_
  refine va_getN (D := (dC, dI)) (ci := 2) (v := .ref (R 3)) (C := RX2) (T := TX2) (N := 5) hx hb hts hinX2 hown hK hP 1 rfl rfl 3 (by decide) (nwOK.f hN RX4 69 "CycleHouse$Graph" "to" "[I" "CycleHouse" (by decide +kernel)) (fun _ h9 => h9) rfl dX4_gather_9 ?_
  refine lv_iload_n hx hb dX4_gather_12 rfl (lv_at hl 4 rfl) ?_
  have h13 : vp_in (nI k) 40 := vp_in_nI (by omega) (by omega)
  refine va_iald hx hb hK hP 3 0 rfl rfl h13 dX4_gather_13 ?_
  refine lv_topi (fun x13 ex13 => ?_)
  have ex13 : x13 = A 3 (nI k).toNatClampNeg := ex13
  have ex13 : x13 = nI (to k) := by rw [ex13, kcl]; exact gb
  subst ex13
  refine lv_istore (lv' := [(5, .int (nI (to k))), (4, .int (nI (fr k))), (0, .ref (R 13)), (1, .ref (R 1)), (2, .ref (R 10)), (3, .int (nI k))]) hx hb dX4_gather_14 hl (by decide) rfl (fun ls hl => ?_)
  refine lv_aload_n hx hb dX4_gather_16 rfl (lv_at hl 4 rfl) ?_
  refine va_getN (D := (dC, dI)) (ci := 6) (v := .ref (R 12)) (C := RX6) (T := TX6) (N := 2) hx hb hts hinX6 hown hK hP 10 rfl rfl 1 (by decide) (nwOK.f hN RX4 72 "CycleHouse$Ways" "way" "[J" "CycleHouse" (by decide +kernel)) (fun _ h9 => h9) rfl dX4_gather_17 ?_
  refine lv_iload hx hb dX4_gather_20 (lv_at hl 1 rfl) ?_
  have h22 : vp_in (nI (fr k)) 16 := vp_in_nI (by omega) (by omega)
  refine va_lald hx hb hK hP 12 1 rfl rfl h22 dX4_gather_22 ?_
  refine lv_topl (fun x22 ex22 => ?_)
  have ex22 : x22 = B 12 (nI (fr k)).toNatClampNeg := ex22
  have ex22 : x22 = lN (p2.2 (fr k)) := by rw [ex22, acl]; exact (hw _ ha).2.2
  subst ex22
  refine lv_aload_n hx hb dX4_gather_23 rfl (lv_at hl 4 rfl) ?_
  refine va_getN (D := (dC, dI)) (ci := 6) (v := .ref (R 12)) (C := RX6) (T := TX6) (N := 2) hx hb hts hinX6 hown hK hP 10 rfl rfl 1 (by decide) (nwOK.f hN RX4 72 "CycleHouse$Ways" "way" "[J" "CycleHouse" (by decide +kernel)) (fun _ h9 => h9) rfl dX4_gather_24 ?_
  refine lv_iload hx hb dX4_gather_27 (lv_at hl 0 rfl) ?_
  have h29 : vp_in (nI (to k)) 16 := vp_in_nI (by omega) (by omega)
  refine va_lald hx hb hK hP 12 1 rfl rfl h29 dX4_gather_29 ?_
  refine lv_topl (fun x29 ex29 => ?_)
  have ex29 : x29 = B 12 (nI (to k)).toNatClampNeg := ex29
  have ex29 : x29 = lN (p2.2 (to k)) := by rw [ex29, bcl]; exact (hw _ hb2).2.2
  subst ex29
  refine lv_lxor hx hb dX4_gather_30 ?_
  refine lv_topl (fun x30 ex30 => ?_)
  refine lv_lconst (v := 1) hx hb dX4_gather_31 (by decide) ?_
  refine lv_iload_n hx hb dX4_gather_32 rfl (lv_at hl 5 rfl) ?_
  refine lv_lshl hx hb dX4_gather_33 rfl ?_
  refine lv_topl (fun x33 ex33 => ?_)
  have ex33 : x33 = lN (2 ^ k) := by rw [ex33]; exact nm_pow (by omega)
  subst ex33
  refine lv_lxor hx hb dX4_gather_34 ?_
  refine lv_topl (fun x34 ex34 => ?_)
  have ex34 : x34 = lN (gcl p2 (fr k) (to k) k) := by rw [ex34, ex30, lN_xor, lN_xor]
  subst ex34
  refine lv_lstore (lv' := [(6, .long (lN (gcl p2 (fr k) (to k) k))), (5, .int (nI (to k))), (4, .int (nI (fr k))), (0, .ref (R 13)), (1, .ref (R 1)), (2, .ref (R 10)), (3, .int (nI k))]) hx hb dX4_gather_35 hl (by decide) rfl (fun ls hl => ?_)
  refine lv_aload_n hx hb dX4_gather_37 rfl (lv_at hl 5 rfl) ?_
  refine lv_iload hx hb dX4_gather_38 (lv_at hl 2 rfl) ?_
  refine ct_calli hD hS hA (va_runV (As := [.int (nI (fr k))]) (rest := []) F ((k_X6_reaches l dC dI cI cJ cZ cII cJJ R I A B C T nv p2 (fr k) g2 hw ha) _) (cwV 1 hts gX4_gather_X6_reaches rfl rfl rfl (by decide +kernel) ⟨(Nat.le_of_ble_eq_true rfl), (Nat.le_of_ble_eq_true rfl)⟩) (ct_preV 10 6 hK hN hP hD rfl rfl) rfl rfl hl.1 rfl (lv_room (Nat.le_of_ble_eq_true rfl)) dX4_gather_40 ⟨(Nat.le_of_ble_eq_true rfl), (Nat.le_of_ble_eq_true rfl)⟩) (fun r40 u40 H locs w40 hP hD hS => ?_)
  obtain ⟨w40, rfl⟩ := w40
  refine lv_if_eq (tgt := 106) hx hb dX4_gather_43 (by decide) (fun c43 => ?_) (fun c43 => ?_)
  · -- 43 taken
    have c43 : ¬ p2.1 (fr k) < 2 ^ 60 := fun h => by rw [w40, if_pos h] at c43; exact absurd c43 (by decide)
    refine hret 106 ls _ _ (I, A, B, C, T) dX4_gather_106 ?_ hP hD hS
    try dsimp only
    exact ⟨by rw [gat1_no (fun h => c43 h.1)]; exact hc, fun _ _ => rfl, rfl, fun _ _ _ => rfl, rfl, rfl⟩
  · -- 43 not
    have c43 : p2.1 (fr k) < 2 ^ 60 := Classical.byContradiction (fun h => by rw [w40, if_neg h] at c43; exact c43 rfl)
    refine lv_lload hx hb dX4_gather_46 (lv_at hl 0 rfl) ?_
    refine lv_lconst (v := 0) hx hb dX4_gather_48 (by decide) ?_
    refine W.lcmp hx hb dX4_gather_49 ?_
    refine lv_if_eq (tgt := 106) hx hb dX4_gather_50 (by decide) (fun c50 => ?_) (fun c50 => ?_)
    · -- 50 taken
      rw [lg_cmp_eq] at c50
      have c50 : gcl p2 (fr k) (to k) k = 0 := (pk_lEQ (b := 0) (pwb hgl (by omega)) (by decide)).mp c50
      refine hret 106 ls _ _ (I, A, B, C, T) dX4_gather_106 ?_ hP hD hS
      try dsimp only
      exact ⟨by rw [gat1_no (fun h => h.2 c50)]; exact hc, fun _ _ => rfl, rfl, fun _ _ _ => rfl, rfl, rfl⟩
    · -- 50 not
      rw [lg_cmp_eq] at c50
      have c50 : gcl p2 (fr k) (to k) k ≠ 0 := fun h => c50 (by rw [h]; rfl)
      refine lv_aload_n hx hb dX4_gather_53 rfl (lv_at hl 3 rfl) ?_
      refine va_get (D := (dC, dI)) (ci := 4) (v := .ref (R 16)) (C := RX4) (T := TX4) (N := 6) hx hb hts hinX4 hown hK hP 13 rfl rfl 4 (by decide) hf18 (fun _ h9 => h9) rfl dX4_gather_54 ?_
      refine lv_aload_n hx hb dX4_gather_57 rfl (lv_at hl 3 rfl) ?_
      refine va_get (D := (dC, dI)) (ci := 4) (v := .int (I 7)) (C := RX4) (T := TX4) (N := 6) hx hb hts hinX4 hown hK hP 13 rfl rfl 3 (by decide) hf44 (fun _ h9 => h9) rfl dX4_gather_58 ?_
      refine lv_lload hx hb dX4_gather_61 (lv_at hl 0 rfl) ?_
      have h63 : vp_in (I 7) 640 := din
      refine va_last hx hb hK hP hD hS 16 1 rfl rfl h63 dX4_gather_63 (fun H locs hP hD hS => ?_)
      obtain ⟨B63, eB63⟩ : ∃ zz : Nat → Nat → Int64, zz = va_up B 16 (vp_updL (B 16) (I 7).toNatClampNeg (lN (gcl p2 (fr k) (to k) k))) := ⟨_, rfl⟩
      have hP : va_P (dC, dI) vwCl (HW cI cJ cII cJJ R (I, A, B63, C, T)) H := by rw [eB63]; exact hP
      have hD : va_D Aa (HW cI cJ cII cJJ R (I, A, B63, C, T)) := by rw [eB63]; exact hD
      refine lv_aload_n hx hb dX4_gather_64 rfl (lv_at hl 3 rfl) ?_
      refine va_get (D := (dC, dI)) (ci := 4) (v := .ref (R 17)) (C := RX4) (T := TX4) (N := 6) hx hb hts hinX4 hown hK hP 13 rfl rfl 5 (by decide) hf21 (fun _ h9 => h9) rfl dX4_gather_65 ?_
      refine lv_aload_n hx hb dX4_gather_68 rfl (lv_at hl 3 rfl) ?_
      refine va_get (D := (dC, dI)) (ci := 4) (v := .int (I 7)) (C := RX4) (T := TX4) (N := 6) hx hb hts hinX4 hown hK hP 13 rfl rfl 3 (by decide) hf44 (fun _ h9 => h9) rfl dX4_gather_69 ?_
      refine lv_aload_n hx hb dX4_gather_72 rfl (lv_at hl 5 rfl) ?_
      refine va_getN (D := (dC, dI)) (ci := 6) (v := .ref (R 11)) (C := RX6) (T := TX6) (N := 2) hx hb hts hinX6 hown hK hP 10 rfl rfl 0 (by decide) (nwOK.f hN RX4 79 "CycleHouse$Ways" "length" "[J" "CycleHouse" (by decide +kernel)) (fun _ h9 => h9) rfl dX4_gather_73 ?_
      refine lv_iload hx hb dX4_gather_76 (lv_at hl 2 rfl) ?_
      have h78 : vp_in (nI (fr k)) 16 := vp_in_nI (by omega) (by omega)
      refine va_lald hx hb hK hP 11 1 rfl rfl h78 dX4_gather_78 ?_
      refine lv_topl (fun x78 ex78 => ?_)
      have ex78 : x78 = B63 11 (nI (fr k)).toNatClampNeg := ex78
      have ex78 : x78 = lN (p2.1 (fr k)) := by rw [ex78, acl, eB63, up_ne (by decide)]; exact (hw _ ha).1
      subst ex78
      refine lv_aload_n hx hb dX4_gather_79 rfl (lv_at hl 5 rfl) ?_
      refine va_getN (D := (dC, dI)) (ci := 6) (v := .ref (R 11)) (C := RX6) (T := TX6) (N := 2) hx hb hts hinX6 hown hK hP 10 rfl rfl 0 (by decide) (nwOK.f hN RX4 79 "CycleHouse$Ways" "length" "[J" "CycleHouse" (by decide +kernel)) (fun _ h9 => h9) rfl dX4_gather_80 ?_
      refine lv_iload hx hb dX4_gather_83 (lv_at hl 1 rfl) ?_
      have h85 : vp_in (nI (to k)) 16 := vp_in_nI (by omega) (by omega)
      refine va_lald hx hb hK hP 11 1 rfl rfl h85 dX4_gather_85 ?_
      refine lv_topl (fun x85 ex85 => ?_)
      have ex85 : x85 = B63 11 (nI (to k)).toNatClampNeg := ex85
      have ex85 : x85 = lN (p2.1 (to k)) := by rw [ex85, bcl, eB63, up_ne (by decide)]; exact (hw _ hb2).1
      subst ex85
      refine lv_ladd hx hb dX4_gather_86 ?_
      refine lv_topl (fun x86 ex86 => ?_)
      refine lv_aload_n hx hb dX4_gather_87 rfl (lv_at hl 4 rfl) ?_
      refine va_getN (D := (dC, dI)) (ci := 2) (v := .ref (R 4)) (C := RX2) (T := TX2) (N := 5) hx hb hts hinX2 hown hK hP 1 rfl rfl 4 (by decide) (nwOK.f hN RX4 82 "CycleHouse$Graph" "weight" "[I" "CycleHouse" (by decide +kernel)) (fun _ h9 => h9) rfl dX4_gather_88 ?_
      refine lv_iload_n hx hb dX4_gather_91 rfl (lv_at hl 6 rfl) ?_
      have h92 : vp_in (nI k) 40 := vp_in_nI (by omega) (by omega)
      refine va_iald hx hb hK hP 4 0 rfl rfl h92 dX4_gather_92 ?_
      refine lv_topi (fun x92 ex92 => ?_)
      have ex92 : x92 = A 4 (nI k).toNatClampNeg := ex92
      have ex92 : x92 = nI (wt k) := by rw [ex92, kcl]; exact gwt
      subst ex92
      refine lv_i2l hx hb dX4_gather_93 rfl ?_
      refine lv_topl (fun x93 ex93 => ?_)
      have ex93 : x93 = lN (wt k) := by rw [ex93]; exact nm_il (by omega)
      subst ex93
      refine lv_ladd hx hb dX4_gather_94 ?_
      refine lv_topl (fun x94 ex94 => ?_)
      have ex94 : x94 = lN (p2.1 (fr k) + p2.1 (to k) + wt k) := by rw [ex94, ex86, lN_add, lN_add]
      subst ex94
      have h95 : vp_in (I 7) 640 := din
      refine va_last hx hb hK hP hD hS 17 1 rfl rfl h95 dX4_gather_95 (fun H locs hP hD hS => ?_)
      obtain ⟨B95, eB95⟩ : ∃ zz : Nat → Nat → Int64, zz = va_up B63 17 (vp_updL (B63 17) (I 7).toNatClampNeg (lN (p2.1 (fr k) + p2.1 (to k) + wt k))) := ⟨_, rfl⟩
      have hP : va_P (dC, dI) vwCl (HW cI cJ cII cJJ R (I, A, B95, C, T)) H := by rw [eB95]; exact hP
      have hD : va_D Aa (HW cI cJ cII cJJ R (I, A, B95, C, T)) := by rw [eB95]; exact hD
      refine lv_aload_n hx hb dX4_gather_96 rfl (lv_at hl 3 rfl) ?_
      refine lv_dup hx hb dX4_gather_97 rfl ?_
      refine va_get (D := (dC, dI)) (ci := 4) (v := .int (I 7)) (C := RX4) (T := TX4) (N := 6) hx hb hts hinX4 hown hK hP 13 rfl rfl 3 (by decide) hf44 (fun _ h9 => h9) rfl dX4_gather_98 ?_
      refine lv_iconst (v := 1) hx hb dX4_gather_101 (by decide) ?_
      refine lv_iadd hx hb dX4_gather_102 ?_
      refine lv_topi (fun x102 ex102 => ?_)
      refine va_put (D := (dC, dI)) (ci := 4) (v := .int x102) (ty := .int) (C := RX4) (T := TX4) (N := 6) hx hb hts hinX4 tyX4 tyX4_ok nmX4 hown hK hP hD hS 13 rfl rfl 3 (by decide) hf44 (fun _ h9 => h9) rfl (by decide +kernel) rfl rfl (Nat.le_of_ble_eq_true rfl) dX4_gather_103 (fun H locs hP hD hS => ?_)
      obtain ⟨I103, eI103⟩ : ∃ zz : Nat → Int32, zz = va_up I 7 x102 := ⟨_, rfl⟩
      have hP : va_P (dC, dI) vwCl (HW cI cJ cII cJJ R (I103, A, B95, C, T)) H := by rw [eI103]; exact hP
      have hD : va_D Aa (HW cI cJ cII cJJ R (I103, A, B95, C, T)) := by rw [eI103]; exact hD
      refine hret 106 ls _ _ (I103, A, B95, C, T) dX4_gather_106 ?_ hP hD hS
      try dsimp only
      exact ⟨by rw [gat1_yes c43 c50]; exact rC_add hc hs hgl (by omega) (by rw [eI103, up_self, ex102, hc.1]; exact nI_1 _) (by rw [eB95, up_ne (by decide), eB63, up_self, dcl]) (by rw [eB95, up_self, eB63, up_ne (by decide), dcl]), fun k hk => by rw [eI103, up_ne hk], rfl, fun k h1 h2 => by rw [eB95, up_ne h2, eB63, up_ne h1], rfl, rfl⟩
set_option maxHeartbeats 4000000 in
set_option maxRecDepth 100000 in
theorem k_X4_gatherAll (l : Launch) (dC : Nat → ClassId) (dI : Nat → Nat → Nat) (cI cJ cZ cII cJJ : ClassId) (R : Nat → Nat) (I : Nat → Int32) (A : Nat → Nat → Int32) (B : Nat → Nat → Int64) (C : Nat → Nat → Int32) (T : Nat → Nat → Int64) (nv ne : Nat) (fr to wt : Nat → Nat) (g : gH nv ne fr to wt I A) : ctV l (dC, dI) (tyL cI cJ cZ cII cJJ) (HW cI cJ cII cJJ R) yX4_gatherAll wsX4_gatherAll (3, 90) [.ref (R 13), .ref (R 1), .ref (R 10)] (I, A, B, C, T) (fun u => rC (gatA fr to wt nv ne nv) u.1 u.2.2.1 ∧ fL I A B C T u) := by
  refine ctV_intro (cc := cX4_gatherAll) (maxL := 5) (by decide) rfl (Nat.le_of_ble_eq_true rfl) ?_
  intro p e s m below meth c ls Aa Q F hK hN hP hD hS hA hl hret
  have hx := F.1
  have hb := F.2.1
  have hown : s.vm.findClass RX4 = some m.cls := F.2.2.2.1
  have hts := F.2.2.2.2
  have hinX2 : ∀ w ∈ wsX20, w ∈ wsX4_gatherAll := by decide +kernel
  have hinX4 : ∀ w ∈ wsX40, w ∈ wsX4_gatherAll := by decide +kernel
  have hinX6 : ∀ w ∈ wsX60, w ∈ wsX4_gatherAll := by decide +kernel
  have hf44 := hts (.fieldLink RX4 44 "CycleHouse$LightBasis" "candidates" "I") (by decide +kernel)
  have hl : lv_has ls 5 [(0, .ref (R 13)), (1, .ref (R 1)), (2, .ref (R 10))] := hl
  refine lv_aload_n hx hb dX4_gatherAll_0 rfl (lv_at hl 0 rfl) ?_
  refine lv_iconst (v := 0) hx hb dX4_gatherAll_1 (by decide) ?_
  refine va_put (D := (dC, dI)) (ci := 4) (v := .int 0) (ty := .int) (C := RX4) (T := TX4) (N := 6) hx hb hts hinX4 tyX4 tyX4_ok nmX4 hown hK hP hD hS 13 rfl rfl 3 (by decide) hf44 (fun _ h9 => h9) rfl (by decide +kernel) rfl rfl (Nat.le_of_ble_eq_true rfl) dX4_gatherAll_2 (fun H locs hP hD hS => ?_)
  obtain ⟨I2, eI2⟩ : ∃ zz : Nat → Int32, zz = va_up I 7 0 := ⟨_, rfl⟩
  have hP : va_P (dC, dI) vwCl (HW cI cJ cII cJJ R (I2, A, B, C, T)) H := by rw [eI2]; exact hP
  have hD : va_D Aa (HW cI cJ cII cJJ R (I2, A, B, C, T)) := by rw [eI2]; exact hD
  refine lv_iconst (v := 0) hx hb dX4_gatherAll_5 (by decide) ?_
  refine lv_istore_n (lv' := [(3, .int 0), (0, .ref (R 13)), (1, .ref (R 1)), (2, .ref (R 10))]) hx hb dX4_gatherAll_6 rfl hl (by decide) rfl (fun ls hl => ?_)
  have K7 : ∀ (kn : Nat) (v : Nat) (I_7 : Nat → Int32) (B_7 : Nat → Nat → Int64) (ls : Array Slot) (H : Heap) (locs : List Loc), nv - v < kn → (v ≤ nv ∧ rC (gatA fr to wt nv ne v) I_7 B_7 ∧ fL I A B C T (I_7, A, B_7, C, T)) → va_P (dC, dI) vwCl (HW cI cJ cII cJJ R (I_7, A, B_7, C, T)) H → va_D Aa (HW cI cJ cII cJJ R (I_7, A, B_7, C, T)) → va_S Aa s.heap H locs → lv_has ls 5 [(0, .ref (R 13)), (1, .ref (R 1)), (2, .ref (R 10)), (3, .int (nI v))] → W p l e (ctR (3, 90)) s m #[.ref (R 13), .ref (R 1), .ref (R 10)] below meth c H locs 0 0 Q (F0 m 7 ls []) := by
    intro kn
    induction kn with
    | zero => intro v I_7 B_7 ls H locs hmu; exact absurd hmu (Nat.not_lt_zero _)
    | succ kn ih7 =>
      intro v I_7 B_7 ls H locs mu7 inv7 hP hD hS hl
      obtain ⟨hv, hc, hf⟩ := inv7
      have gg := g.fl hf
      have g3 := g.2.2.1
      have g2 := g.2.1
      refine lv_iload_n hx hb dX4_gatherAll_7 rfl (lv_at hl 3 rfl) ?_
      refine lv_aload_n hx hb dX4_gatherAll_8 rfl (lv_at hl 1 rfl) ?_
      refine va_getN (D := (dC, dI)) (ci := 2) (v := .int (I_7 0)) (C := RX2) (T := TX2) (N := 5) hx hb hts hinX2 hown hK hP 1 rfl rfl 0 (by decide) (nwOK.f hN RX4 47 "CycleHouse$Graph" "vertices" "I" "CycleHouse" (by decide +kernel)) (fun _ h9 => h9) rfl dX4_gatherAll_9 ?_
      refine lv_icmp_ge (tgt := 54) hx hb dX4_gatherAll_12 (by decide) (fun c12 => ?_) (fun c12 => ?_)
      · -- 12 taken
        rw [show I_7 0 = nI nv from gg.2.2.2.1, nI_leI (by omega) (by omega)] at c12
        have hge : v = nv := by omega
        rw [hge] at hc
        refine hret 54 ls _ _ (I_7, A, B_7, C, T) dX4_gatherAll_54 ?_ hP hD hS
        try dsimp only
        exact ⟨hc, hf⟩
      · -- 12 not
        rw [show I_7 0 = nI nv from gg.2.2.2.1, nI_leI (by omega) (by omega)] at c12
        refine lv_aload_n hx hb dX4_gatherAll_15 rfl (lv_at hl 2 rfl) ?_
        refine lv_aload_n hx hb dX4_gatherAll_16 rfl (lv_at hl 1 rfl) ?_
        refine lv_iload_n hx hb dX4_gatherAll_17 rfl (lv_at hl 3 rfl) ?_
        refine lv_iconst (v := (-1)) hx hb dX4_gatherAll_18 (by decide) ?_
        refine ct_callv hD hS hA (va_runV (As := [.ref (R 1), .int (nI v), .int ((-1))]) (rest := []) F ((k_X6_seek l dC dI cI cJ cZ cII cJJ R I_7 A B_7 C T nv ne fr to wt v ne (-1) gg (by omega) (fun e he => ⟨fun h => absurd (show nI e < 0 by rw [h]; decide) (nI_pos (by omega)), fun h => by omega⟩)) _) (cwV 3 hts gX4_gatherAll_X6_seek rfl rfl rfl (by decide +kernel) ⟨(Nat.le_of_ble_eq_true rfl), (Nat.le_of_ble_eq_true rfl)⟩) (ct_preV 10 6 hK hN hP hD rfl rfl) rfl rfl hl.1 rfl (lv_room (Nat.le_of_ble_eq_true rfl)) dX4_gatherAll_19 ⟨(Nat.le_of_ble_eq_true rfl), (Nat.le_of_ble_eq_true rfl)⟩) (fun u19 H locs w19 hP hD hS => ?_)
        obtain ⟨I19, A19, B19, C19, T19⟩ := u19
        have eI19 : I_7 = I19 := w19.2.1.symm
        subst eI19
        have eA19 : A = A19 := w19.2.2.1.symm
        subst eA19
        have eC19 : C = C19 := w19.2.2.2.2.1.symm
        subst eC19
        have eT19 : T = T19 := w19.2.2.2.2.2.symm
        subst eT19
        refine lv_iconst (v := 0) hx hb dX4_gatherAll_22 (by decide) ?_
        refine lv_istore (lv' := [(4, .int 0), (0, .ref (R 13)), (1, .ref (R 1)), (2, .ref (R 10)), (3, .int (nI v))]) hx hb dX4_gatherAll_23 hl (by decide) rfl (fun ls hl => ?_)
        have K25 : ∀ (kn : Nat) (i : Nat) (I_25 : Nat → Int32) (B_25 : Nat → Nat → Int64) (ls : Array Slot) (H : Heap) (locs : List Loc), ne - i < kn → (i ≤ ne ∧ rC (gatV fr to wt (sek fr to wt ne ne nv v) i (gatA fr to wt nv ne v)) I_25 B_25 ∧ rWy nv (sek fr to wt ne ne nv v) B_25 ∧ fL I A B C T (I_25, A, B_25, C, T)) → va_P (dC, dI) vwCl (HW cI cJ cII cJJ R (I_25, A, B_25, C, T)) H → va_D Aa (HW cI cJ cII cJJ R (I_25, A, B_25, C, T)) → va_S Aa s.heap H locs → lv_has ls 5 [(0, .ref (R 13)), (1, .ref (R 1)), (2, .ref (R 10)), (3, .int (nI v)), (4, .int (nI i))] → W p l e (ctR (3, 90)) s m #[.ref (R 13), .ref (R 1), .ref (R 10)] below meth c H locs 0 0 Q (F0 m 25 ls []) := by
          intro kn
          induction kn with
          | zero => intro i I_25 B_25 ls H locs hmu; exact absurd hmu (Nat.not_lt_zero _)
          | succ kn ih25 =>
            intro i I_25 B_25 ls H locs mu25 inv25 hP hD hS hl
            obtain ⟨hi, hc2, hw2, hf2⟩ := inv25
            have gg2 := g.fl hf2
            refine lv_iload hx hb dX4_gatherAll_25 (lv_at hl 4 rfl) ?_
            refine lv_aload_n hx hb dX4_gatherAll_27 rfl (lv_at hl 1 rfl) ?_
            refine va_getN (D := (dC, dI)) (ci := 2) (v := .int (I_25 1)) (C := RX2) (T := TX2) (N := 5) hx hb hts hinX2 hown hK hP 1 rfl rfl 1 (by decide) (nwOK.f hN RX4 58 "CycleHouse$Graph" "edges" "I" "CycleHouse" (by decide +kernel)) (fun _ h9 => h9) rfl dX4_gatherAll_28 ?_
            refine lv_icmp_ge (tgt := 48) hx hb dX4_gatherAll_31 (by decide) (fun c31 => ?_) (fun c31 => ?_)
            · -- 31 taken
              rw [show I_25 1 = nI ne from gg2.2.2.2.2.1, nI_leI (by omega) (by omega)] at c31
              have hge : i = ne := by omega
              obtain ⟨x48, ex48⟩ : ∃ zz : Int32, zz = nI v + (1) := ⟨_, rfl⟩
              refine lv_iinc (v := x48) (lv' := [(3, .int x48), (0, .ref (R 13)), (1, .ref (R 1)), (2, .ref (R 10)), (4, .int (nI i))]) hx hb dX4_gatherAll_48 hl (k := 3) rfl (by rw [ex48]; rfl) (by decide) rfl (fun ls hl => ?_)
              have ex48 : x48 = nI (v + 1) := by rw [ex48]; exact nI_1 v
              subst ex48
              refine lv_goto (tgt := 7) hx hb dX4_gatherAll_51 (by decide) ?_
              exact ih7 (v + 1) I_25 B_25 ls _ _ (by omega) ⟨by omega, by rw [hge] at hc2; exact hc2, hf2⟩ hP hD hS (lv_sub hl [1, 2, 3, 0] rfl)
            · -- 31 not
              rw [show I_25 1 = nI ne from gg2.2.2.2.2.1, nI_leI (by omega) (by omega)] at c31
              have hcl := gatV_le fr to wt (sek fr to wt ne ne nv v) (gatA fr to wt nv ne v) i
              have hcl2 := gatA_le fr to wt nv ne v
              have hcl3 : v * ne ≤ 15 * 40 := Nat.mul_le_mul (by omega) g3
              refine lv_aload_n hx hb dX4_gatherAll_34 rfl (lv_at hl 0 rfl) ?_
              refine lv_aload_n hx hb dX4_gatherAll_35 rfl (lv_at hl 1 rfl) ?_
              refine lv_aload_n hx hb dX4_gatherAll_36 rfl (lv_at hl 2 rfl) ?_
              refine lv_iload hx hb dX4_gatherAll_37 (lv_at hl 4 rfl) ?_
              refine ct_callv hD hS hA (va_runV (As := [.ref (R 1), .ref (R 10), .int (nI i)]) (rest := []) F ((k_X4_gather l dC dI cI cJ cZ cII cJJ R I_25 A B_25 C T nv ne fr to wt i (sek fr to wt ne ne nv v) (gatV fr to wt (sek fr to wt ne ne nv v) i (gatA fr to wt nv ne v)) gg2 (by omega) hw2 (sek_lt g3) hc2 (by omega)) _) (cwV 3 hts gX4_gatherAll_X4_gather rfl rfl rfl (by decide +kernel) ⟨(Nat.le_of_ble_eq_true rfl), (Nat.le_of_ble_eq_true rfl)⟩) (ct_preV 13 4 hK hN hP hD rfl rfl) rfl rfl hl.1 rfl (lv_room (Nat.le_of_ble_eq_true rfl)) dX4_gatherAll_39 ⟨(Nat.le_of_ble_eq_true rfl), (Nat.le_of_ble_eq_true rfl)⟩) (fun u39 H locs w39 hP hD hS => ?_)
              obtain ⟨I39, A39, B39, C39, T39⟩ := u39
              have eA39 : A = A39 := w39.2.2.1.symm
              subst eA39
              have eC39 : C = C39 := w39.2.2.2.2.1.symm
              subst eC39
              have eT39 : T = T39 := w39.2.2.2.2.2.symm
              subst eT39
              obtain ⟨x42, ex42⟩ : ∃ zz : Int32, zz = nI i + (1) := ⟨_, rfl⟩
              refine lv_iinc (v := x42) (lv' := [(4, .int x42), (0, .ref (R 13)), (1, .ref (R 1)), (2, .ref (R 10)), (3, .int (nI v))]) hx hb dX4_gatherAll_42 hl (k := 4) rfl (by rw [ex42]; rfl) (by decide) rfl (fun ls hl => ?_)
              have ex42 : x42 = nI (i + 1) := by rw [ex42]; exact nI_1 i
              subst ex42
              refine lv_goto (tgt := 25) hx hb dX4_gatherAll_45 (by decide) ?_
              exact ih25 (i + 1) I39 B39 ls _ _ (by omega) ⟨by omega, w39.1, by intro v2 hv2; rw [show B39 11 = B_25 11 from w39.2.2.2.1 11 (by decide) (by decide), show B39 12 = B_25 12 from w39.2.2.2.1 12 (by decide) (by decide)]; exact hw2 v2 hv2, hf2.tr (fL.of (fun k _ h => w39.2.1 k h) rfl (fun k _ _ _ _ a b => w39.2.2.2.1 k a b) rfl rfl)⟩ hP hD hS (lv_sub hl [1, 2, 3, 4, 0] rfl)
        exact K25 _ 0 I_7 B19 ls _ _ (Nat.lt_succ_self _) ⟨Nat.zero_le _, ⟨hc.1, hc.2.1, by rw [show B19 16 = B_7 16 from w19.2.2.2.1 16 (by decide) (by decide), show B19 17 = B_7 17 from w19.2.2.2.1 17 (by decide) (by decide)]; exact hc.2.2⟩, w19.1, hf.tr w19.2.fl⟩ hP hD hS (lv_sub hl [1, 2, 3, 4, 0] rfl)
  exact K7 _ 0 I2 B ls _ _ (Nat.lt_succ_self _) ⟨Nat.zero_le _, ⟨by rw [eI2, up_self]; rfl, Nat.zero_le _, fun i h => absurd h (Nat.not_lt_zero _)⟩, fL.of (fun k _ h => by rw [eI2, up_ne h]) rfl (fun _ _ _ _ _ _ _ => rfl) rfl rfl⟩ hP hD hS (lv_sub hl [1, 2, 3, 0] rfl)
