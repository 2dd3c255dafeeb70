set_option maxHeartbeats 4000000 in
set_option maxRecDepth 100000 in
theorem k_X3_join (l : Launch) (dC : Nat → ClassId) (dI : Nat → Nat → Nat) (cI cJ cZ cII cJJ : ClassId) (R : Nat → Nat) (I : Nat → Int32) (A : Nat → Nat → Int32) (B : Nat → Nat → Int64) (C : Nat → Nat → Int32) (T : Nat → Nat → Int64) (nv ne : Nat) (fr to wt : Nat → Nat) (k : Nat) (q : JS) (g : gH nv ne fr to wt I A) (hk : k < ne) (hq : rQ nv q I A B) (hj : jI nv q) : ctL l (dC, dI) (tyL cI cJ cZ cII cJJ) (HW cI cJ cII cJJ R) yX3_join wsX3_join (1, 30) [.ref (R 7), .ref (R 1), .int (nI k)] (I, A, B, C, T) (fun r u => r = (if q.1 (fr k) = q.1 (to k) then lN (jr q (fr k) (to k) k) else 0) ∧ rQ nv (jStep (fr k) (to k) k q) u.1 u.2.1 u.2.2.1 ∧ fG I A B C T u) := by
  refine ctL_intro (cc := cX3_join) (maxL := 7) (by decide) rfl (Nat.le_of_ble_eq_true rfl) ?_
  intro p e s m below meth c ls Aa Q F hK hN hP hD hS hA hl hret
  have hx := F.1
  have hb := F.2.1
  have hown : s.vm.findClass RX3 = some m.cls := F.2.2.2.1
  have hts := F.2.2.2.2
  have hinX2 : ∀ w ∈ wsX20, w ∈ wsX3_join := by decide +kernel
  have hinX3 : ∀ w ∈ wsX30, w ∈ wsX3_join := by decide +kernel
  have hf15 := hts (.fieldLink RX3 15 "CycleHouse$Groups" "way" "[J") (by decide +kernel)
  have hf9 := hts (.fieldLink RX3 9 "CycleHouse$Groups" "name" "[I") (by decide +kernel)
  have hl : lv_has ls 7 [(0, .ref (R 7)), (1, .ref (R 1)), (2, .int (nI k))] := hl
  obtain ⟨g1, g2, g3, g4, g5, g6⟩ := id g
  obtain ⟨q1, q2, q3, q4⟩ := id hq
  obtain ⟨⟨ga, ha⟩, ⟨gb, hb2⟩, -, -⟩ := g6 k hk
  have kcl : (nI k).toNatClampNeg = k := nI_clamp (by omega)
  have kin : vp_in (nI k) 40 := vp_in_nI (by omega) (by omega)
  have acl : (nI (fr k)).toNatClampNeg = fr k := nI_clamp (by omega)
  have bcl : (nI (to k)).toNatClampNeg = to k := nI_clamp (by omega)
  refine lv_aload_n hx hb dX3_join_0 rfl (lv_at hl 1 rfl) ?_
  refine va_getN (D := (dC, dI)) (ci := 2) (v := .ref (R 2)) (C := RX2) (T := TX2) (N := 5) hx hb hts hinX2 hown hK hP 1 rfl rfl 2 (by decide) (nwOK.f hN RX3 26 "CycleHouse$Graph" "from" "[I" "CycleHouse" (by decide +kernel)) (fun _ h9 => h9) rfl dX3_join_1 ?_
  refine lv_iload_n hx hb dX3_join_4 rfl (lv_at hl 2 rfl) ?_
  have h5 : vp_in (nI k) 40 := kin
  refine va_iald hx hb hK hP 2 0 rfl rfl h5 dX3_join_5 ?_
  refine lv_topi (fun x5 ex5 => ?_)
  have ex5 : x5 = A 2 (nI k).toNatClampNeg := ex5
  have ex5 : x5 = nI (fr k) := by rw [ex5, kcl]; exact ga
  subst ex5
  refine lv_istore_n (lv' := [(3, .int (nI (fr k))), (0, .ref (R 7)), (1, .ref (R 1)), (2, .int (nI k))]) hx hb dX3_join_6 rfl hl (by decide) rfl (fun ls hl => ?_)
  refine lv_aload_n hx hb dX3_join_7 rfl (lv_at hl 2 rfl) ?_
  refine va_getN (D := (dC, dI)) (ci := 2) (v := .ref (R 3)) (C := RX2) (T := TX2) (N := 5) hx hb hts hinX2 hown hK hP 1 rfl rfl 3 (by decide) (nwOK.f hN RX3 31 "CycleHouse$Graph" "to" "[I" "CycleHouse" (by decide +kernel)) (fun _ h9 => h9) rfl dX3_join_8 ?_
  refine lv_iload_n hx hb dX3_join_11 rfl (lv_at hl 3 rfl) ?_
  have h12 : vp_in (nI k) 40 := kin
  refine va_iald hx hb hK hP 3 0 rfl rfl h12 dX3_join_12 ?_
  refine lv_topi (fun x12 ex12 => ?_)
  have ex12 : x12 = A 3 (nI k).toNatClampNeg := ex12
  have ex12 : x12 = nI (to k) := by rw [ex12, kcl]; exact gb
  subst ex12
  refine lv_istore (lv' := [(4, .int (nI (to k))), (3, .int (nI (fr k))), (0, .ref (R 7)), (1, .ref (R 1)), (2, .int (nI k))]) hx hb dX3_join_13 hl (by decide) rfl (fun ls hl => ?_)
  refine lv_aload_n hx hb dX3_join_15 rfl (lv_at hl 2 rfl) ?_
  refine va_get (D := (dC, dI)) (ci := 3) (v := .ref (R 9)) (C := RX3) (T := TX3) (N := 4) hx hb hts hinX3 hown hK hP 7 rfl rfl 3 (by decide) hf15 (fun _ h9 => h9) rfl dX3_join_16 ?_
  refine lv_iload_n hx hb dX3_join_19 rfl (lv_at hl 1 rfl) ?_
  have h20 : vp_in (nI (fr k)) 16 := vp_in_nI (by omega) (by omega)
  refine va_lald hx hb hK hP 9 1 rfl rfl h20 dX3_join_20 ?_
  refine lv_topl (fun x20 ex20 => ?_)
  have ex20 : x20 = B 9 (nI (fr k)).toNatClampNeg := ex20
  have ex20 : x20 = lN (q.2.1 (fr k)) := by rw [ex20, acl]; exact q2 _ ha
  subst ex20
  refine lv_aload_n hx hb dX3_join_21 rfl (lv_at hl 2 rfl) ?_
  refine va_get (D := (dC, dI)) (ci := 3) (v := .ref (R 9)) (C := RX3) (T := TX3) (N := 4) hx hb hts hinX3 hown hK hP 7 rfl rfl 3 (by decide) hf15 (fun _ h9 => h9) rfl dX3_join_22 ?_
  refine lv_iload hx hb dX3_join_25 (lv_at hl 0 rfl) ?_
  have h27 : vp_in (nI (to k)) 16 := vp_in_nI (by omega) (by omega)
  refine va_lald hx hb hK hP 9 1 rfl rfl h27 dX3_join_27 ?_
  refine lv_topl (fun x27 ex27 => ?_)
  have ex27 : x27 = B 9 (nI (to k)).toNatClampNeg := ex27
  have ex27 : x27 = lN (q.2.1 (to k)) := by rw [ex27, bcl]; exact q2 _ hb2
  subst ex27
  refine lv_lxor hx hb dX3_join_28 ?_
  refine lv_topl (fun x28 ex28 => ?_)
  refine lv_lconst (v := 1) hx hb dX3_join_29 (by decide) ?_
  refine lv_iload_n hx hb dX3_join_30 rfl (lv_at hl 4 rfl) ?_
  refine lv_lshl hx hb dX3_join_31 rfl ?_
  refine lv_topl (fun x31 ex31 => ?_)
  have ex31 : x31 = lN (2 ^ k) := by rw [ex31]; exact nm_pow (by omega)
  subst ex31
  refine lv_lxor hx hb dX3_join_32 ?_
  refine lv_topl (fun x32 ex32 => ?_)
  have ex32 : x32 = lN (jr q (fr k) (to k) k) := by rw [ex32, ex28, lN_xor, lN_xor]; rfl
  subst ex32
  refine lv_lstore (lv' := [(5, .long (lN (jr q (fr k) (to k) k))), (4, .int (nI (to k))), (3, .int (nI (fr k))), (0, .ref (R 7)), (1, .ref (R 1)), (2, .int (nI k))]) hx hb dX3_join_33 hl (by decide) rfl (fun ls hl => ?_)
  refine lv_aload_n hx hb dX3_join_35 rfl (lv_at hl 3 rfl) ?_
  refine lv_iload_n hx hb dX3_join_36 rfl (lv_at hl 2 rfl) ?_
  refine lv_iload hx hb dX3_join_37 (lv_at hl 1 rfl) ?_
  refine ct_calli hD hS hA (va_runV (As := [.int (nI (fr k)), .int (nI (to k))]) (rest := []) F ((k_X3_together l dC dI cI cJ cZ cII cJJ R I A B C T nv q (fr k) (to k) g2 q1 ha hb2) _) (cwV 2 hts gX3_join_X3_together rfl rfl rfl (by decide +kernel) ⟨(Nat.le_of_ble_eq_true rfl), (Nat.le_of_ble_eq_true rfl)⟩) (ct_preV 7 3 hK hN hP hD rfl rfl) rfl rfl hl.1 rfl (lv_room (Nat.le_of_ble_eq_true rfl)) dX3_join_39 ⟨(Nat.le_of_ble_eq_true rfl), (Nat.le_of_ble_eq_true rfl)⟩) (fun r39 u39 H locs w39 hP hD hS => ?_)
  obtain ⟨w39, rfl⟩ := w39
  refine lv_if_eq (tgt := 48) hx hb dX3_join_42 (by decide) (fun c42 => ?_) (fun c42 => ?_)
  · -- 42 taken
    have c42 : q.1 (fr k) ≠ q.1 (to k) := fun h => by rw [w39, if_pos h] at c42; exact absurd c42 (by decide)
    have hgc := gc_join (e := k) hj ha hb2 c42
    refine lv_aload_n hx hb dX3_join_48 rfl (lv_at hl 3 rfl) ?_
    refine lv_aload_n hx hb dX3_join_49 rfl (lv_at hl 3 rfl) ?_
    refine va_get (D := (dC, dI)) (ci := 3) (v := .ref (R 8)) (C := RX3) (T := TX3) (N := 4) hx hb hts hinX3 hown hK hP 7 rfl rfl 2 (by decide) hf9 (fun _ h9 => h9) rfl dX3_join_50 ?_
    refine lv_iload_n hx hb dX3_join_53 rfl (lv_at hl 2 rfl) ?_
    have h54 : vp_in (nI (fr k)) 16 := vp_in_nI (by omega) (by omega)
    refine va_iald hx hb hK hP 8 0 rfl rfl h54 dX3_join_54 ?_
    refine lv_topi (fun x54 ex54 => ?_)
    have ex54 : x54 = A 8 (nI (fr k)).toNatClampNeg := ex54
    have ex54 : x54 = nI (q.1 (fr k)) := by rw [ex54, acl]; exact (q1 _ ha).1
    subst ex54
    refine lv_aload_n hx hb dX3_join_55 rfl (lv_at hl 3 rfl) ?_
    refine va_get (D := (dC, dI)) (ci := 3) (v := .ref (R 8)) (C := RX3) (T := TX3) (N := 4) hx hb hts hinX3 hown hK hP 7 rfl rfl 2 (by decide) hf9 (fun _ h9 => h9) rfl dX3_join_56 ?_
    refine lv_iload hx hb dX3_join_59 (lv_at hl 1 rfl) ?_
    have h61 : vp_in (nI (to k)) 16 := vp_in_nI (by omega) (by omega)
    refine va_iald hx hb hK hP 8 0 rfl rfl h61 dX3_join_61 ?_
    refine lv_topi (fun x61 ex61 => ?_)
    have ex61 : x61 = A 8 (nI (to k)).toNatClampNeg := ex61
    have ex61 : x61 = nI (q.1 (to k)) := by rw [ex61, bcl]; exact (q1 _ hb2).1
    subst ex61
    refine lv_lload hx hb dX3_join_62 (lv_at hl 0 rfl) ?_
    refine ct_callv hD hS hA (va_runV (As := [.int (nI (q.1 (fr k))), .int (nI (q.1 (to k))), .long (lN (jr q (fr k) (to k) k))]) (rest := []) F ((k_X3_merge l dC dI cI cJ cZ cII cJJ R I A B C T nv q.1 q.2.1 (q.1 (fr k)) (q.1 (to k)) (jr q (fr k) (to k) k) (gc nv (jStep (fr k) (to k) k q)) g2 q1 q2 (q1 _ ha).2 (q1 _ hb2).2 q3 (by rw [hgc]; exact q4)) _) (cwV 3 hts gX3_join_X3_merge rfl rfl rfl (by decide +kernel) ⟨(Nat.le_of_ble_eq_true rfl), (Nat.le_of_ble_eq_true rfl)⟩) (ct_preV 7 3 hK hN hP hD rfl rfl) rfl rfl hl.1 rfl (lv_room (Nat.le_of_ble_eq_true rfl)) dX3_join_64 ⟨(Nat.le_of_ble_eq_true rfl), (Nat.le_of_ble_eq_true rfl)⟩) (fun u64 H locs w64 hP hD hS => ?_)
    obtain ⟨I64, A64, B64, C64, T64⟩ := u64
    refine lv_lconst (v := 0) hx hb dX3_join_67 (by decide) ?_
    refine hret 68 ls _ _ 0 (I64, A64, B64, C64, T64) dX3_join_68 ?_ hP hD hS
    try dsimp only
    exact ⟨by rw [if_neg c42], ⟨fun v hv => ⟨by rw [jS_g c42]; exact w64.1 v hv, ((jI_step hj ha hb2) v hv).1⟩, fun v hv => by rw [jS_w c42]; exact w64.2.1 v hv, w64.2.2.1, w64.2.2.2.1⟩, w64.2.2.2.2⟩
  · -- 42 not
    have c42 : q.1 (fr k) = q.1 (to k) := Classical.byContradiction (fun h => by rw [w39, if_neg h] at c42; exact c42 rfl)
    refine lv_lload hx hb dX3_join_45 (lv_at hl 0 rfl) ?_
    refine hret 47 ls _ _ (lN (jr q (fr k) (to k) k)) (I, A, B, C, T) dX3_join_47 ?_ hP hD hS
    try dsimp only
    exact ⟨by rw [if_pos c42], by unfold jStep; rw [if_pos c42]; exact ⟨q1, q2, q3, q4⟩, fG.rf⟩
