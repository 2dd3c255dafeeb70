set_option maxHeartbeats 4000000 in
set_option maxRecDepth 100000 in
theorem k_X4_find (l : Launch) (dC : Nat → ClassId) (dI : Nat → Nat → Nat) (cI cJ cZ cII cJJ : ClassId) (R : Nat → Nat) (I : Nat → Int32) (A : Nat → Nat → Int32) (B : Nat → Nat → Int64) (C : Nat → Nat → Int32) (T : Nat → Nat → Int64) (nv ne : Nat) (fr to wt : Nat → Nat) (g : gH nv ne fr to wt I A) : ctV l (dC, dI) (tyL cI cJ cZ cII cJJ) (HW cI cJ cII cJJ R) yX4_find wsX4_find (4, 120) [.ref (R 13), .ref (R 1), .ref (R 10)] (I, A, B, C, T) (fun u => rB (fnd fr to wt nv ne) u.1 u.2.2.1 ∧ fL I A B C T u) := by
  refine ctV_intro (cc := cX4_find) (maxL := 4) (by decide) rfl (Nat.le_of_ble_eq_true rfl) ?_
  intro p e s m below meth c ls Aa Q F hK hN hP hD hS hA hl hret
  have hx := F.1
  have hb := F.2.1
  have hown : s.vm.findClass RX4 = some m.cls := F.2.2.2.1
  have hts := F.2.2.2.2
  have hinX2 : ∀ w ∈ wsX20, w ∈ wsX4_find := by decide +kernel
  have hinX4 : ∀ w ∈ wsX40, w ∈ wsX4_find := by decide +kernel
  have hinX6 : ∀ w ∈ wsX60, w ∈ wsX4_find := by decide +kernel
  have hf28 := hts (.fieldLink RX4 28 "CycleHouse$LightBasis" "size" "I") (by decide +kernel)
  have hf9 := hts (.fieldLink RX4 9 "CycleHouse$LightBasis" "ring" "[J") (by decide +kernel)
  have hf18 := hts (.fieldLink RX4 18 "CycleHouse$LightBasis" "left" "[J") (by decide +kernel)
  have hf15 := hts (.fieldLink RX4 15 "CycleHouse$LightBasis" "weight" "[J") (by decide +kernel)
  have hf21 := hts (.fieldLink RX4 21 "CycleHouse$LightBasis" "leftWeight" "[J") (by decide +kernel)
  have hl : lv_has ls 4 [(0, .ref (R 13)), (1, .ref (R 1)), (2, .ref (R 10))] := hl
  refine lv_aload_n hx hb dX4_find_0 rfl (lv_at hl 0 rfl) ?_
  refine lv_aload_n hx hb dX4_find_1 rfl (lv_at hl 1 rfl) ?_
  refine lv_aload_n hx hb dX4_find_2 rfl (lv_at hl 2 rfl) ?_
  refine ct_callv hD hS hA (va_runV (As := [.ref (R 1), .ref (R 10)]) (rest := []) F ((k_X4_gatherAll l dC dI cI cJ cZ cII cJJ R I A B C T nv ne fr to wt g) _) (cwV 2 hts gX4_find_X4_gatherAll rfl rfl rfl (by decide +kernel) ⟨(Nat.le_of_ble_eq_true rfl), (Nat.le_of_ble_eq_true rfl)⟩) (ct_preV 13 4 hK hN hP hD rfl rfl) rfl rfl hl.1 rfl (lv_room (Nat.le_of_ble_eq_true rfl)) dX4_find_3 ⟨(Nat.le_of_ble_eq_true rfl), (Nat.le_of_ble_eq_true rfl)⟩) (fun u3 H locs w3 hP hD hS => ?_)
  obtain ⟨I3, A3, B3, C3, T3⟩ := u3
  have eA3 : A = A3 := w3.2.2.1.symm
  subst eA3
  have eC3 : C = C3 := w3.2.2.2.2.1.symm
  subst eC3
  have eT3 : T = T3 := w3.2.2.2.2.2.symm
  subst eT3
  refine lv_aload_n hx hb dX4_find_6 rfl (lv_at hl 0 rfl) ?_
  refine lv_iconst (v := 0) hx hb dX4_find_7 (by decide) ?_
  refine va_put (D := (dC, dI)) (ci := 4) (v := .int 0) (ty := .int) (C := RX4) (T := TX4) (N := 6) hx hb hts hinX4 tyX4 tyX4_ok nmX4 hown hK hP hD hS 13 rfl rfl 0 (by decide) hf28 (fun _ h9 => h9) rfl (by decide +kernel) rfl rfl (Nat.le_of_ble_eq_true rfl) dX4_find_8 (fun H locs hP hD hS => ?_)
  obtain ⟨I8, eI8⟩ : ∃ zz : Nat → Int32, zz = va_up I3 6 0 := ⟨_, rfl⟩
  have hP : va_P (dC, dI) vwCl (HW cI cJ cII cJJ R (I8, A, B3, C, T)) H := by rw [eI8]; exact hP
  have hD : va_D Aa (HW cI cJ cII cJJ R (I8, A, B3, C, T)) := by rw [eI8]; exact hD
  have K11 : ∀ (kn : Nat) (q : FS) (I_11 : Nat → Int32) (B_11 : Nat → Nat → Int64) (ls : Array Slot) (H : Heap) (locs : List Loc), 14 - q.1 < kn → (rB q I_11 B_11 ∧ rC ((gatA fr to wt nv ne nv).1, q.2.2.2, (gatA fr to wt nv ne nv).2.2) I_11 B_11 ∧ fnd fr to wt nv ne = fndR (gatA fr to wt nv ne nv).2.2 (gatA fr to wt nv ne nv).1 (14 - q.1) q ∧ fL I A B C T (I_11, A, B_11, C, T)) → va_P (dC, dI) vwCl (HW cI cJ cII cJJ R (I_11, A, B_11, C, T)) H → va_D Aa (HW cI cJ cII cJJ R (I_11, A, B_11, C, T)) → va_S Aa s.heap H locs → lv_has ls 4 [(0, .ref (R 13)), (1, .ref (R 1)), (2, .ref (R 10))] → W p l e (ctR (4, 120)) s m #[.ref (R 13), .ref (R 1), .ref (R 10)] below meth c H locs 0 0 Q (F0 m 11 ls []) := by
    intro kn
    induction kn with
    | zero => intro q I_11 B_11 ls H locs hmu; exact absurd hmu (Nat.not_lt_zero _)
    | succ kn ih11 =>
      intro q I_11 B_11 ls H locs mu11 inv11 hP hD hS hl
      obtain ⟨hr, hc, hres, hf⟩ := inv11
      have hq14 := hr.2.1
      have dcl : (I_11 6).toNatClampNeg = q.1 := by rw [hr.1]; exact nI_clamp (by omega)
      refine lv_aload_n hx hb dX4_find_11 rfl (lv_at hl 0 rfl) ?_
      refine va_get (D := (dC, dI)) (ci := 4) (v := .int (I_11 6)) (C := RX4) (T := TX4) (N := 6) hx hb hts hinX4 hown hK hP 13 rfl rfl 0 (by decide) hf28 (fun _ h9 => h9) rfl dX4_find_12 ?_
      refine lv_bipush (v := 14) hx hb dX4_find_15 (by decide) ?_
      refine lv_icmp_ge (tgt := 84) hx hb dX4_find_17 (by decide) (fun c17 => ?_) (fun c17 => ?_)
      · -- 17 taken
        have hge : q.1 = 14 := by rw [hr.1] at c17; have := (nI_leI (a := 14) (by omega) (by omega)).mp c17; omega
        have hfin : fnd fr to wt nv ne = q := by rw [hres, hge]; rfl
        refine hret 84 ls _ _ (I_11, A, B_11, C, T) dX4_find_84 ?_ hP hD hS
        try dsimp only
        exact ⟨by rw [hfin]; exact hr, hf⟩
      · -- 17 not
        have hlt : q.1 < 14 := Nat.lt_of_not_le (fun h => c17 (by rw [hr.1]; exact nI_le (a := 14) h (by omega)))
        have din : vp_in (I_11 6) 14 := by rw [hr.1]; exact vp_in_nI hlt (by omega)
        refine lv_aload_n hx hb dX4_find_20 rfl (lv_at hl 0 rfl) ?_
        refine ct_calli hD hS hA (va_runV (As := []) (rest := []) F ((k_X4_lightestLeft l dC dI cI cJ cZ cII cJJ R I_11 A B_11 C T ((gatA fr to wt nv ne nv).1, q.2.2.2, (gatA fr to wt nv ne nv).2.2) hc) _) (cwV 0 hts gX4_find_X4_lightestLeft rfl rfl rfl (by decide +kernel) ⟨(Nat.le_of_ble_eq_true rfl), (Nat.le_of_ble_eq_true rfl)⟩) (ct_preV 13 4 hK hN hP hD rfl rfl) rfl rfl hl.1 rfl (lv_room (Nat.le_of_ble_eq_true rfl)) dX4_find_21 ⟨(Nat.le_of_ble_eq_true rfl), (Nat.le_of_ble_eq_true rfl)⟩) (fun r21 u21 H locs w21 hP hD hS => ?_)
        obtain ⟨w21, rfl⟩ := w21
        have er21 : r21 = oI (bL1 q.2.2.2 (gatA fr to wt nv ne nv).2.2 (gatA fr to wt nv ne nv).1) := w21
        subst er21
        refine lv_istore_n (lv' := [(3, .int (oI (bL1 q.2.2.2 (gatA fr to wt nv ne nv).2.2 (gatA fr to wt nv ne nv).1))), (0, .ref (R 13)), (1, .ref (R 1)), (2, .ref (R 10))]) hx hb dX4_find_24 rfl hl (by decide) rfl (fun ls hl => ?_)
        refine lv_iload_n hx hb dX4_find_25 rfl (lv_at hl 0 rfl) ?_
        refine lv_iconst (v := (-1)) hx hb dX4_find_26 (by decide) ?_
        refine lv_icmp_ne (tgt := 31) hx hb dX4_find_27 (by decide) (fun c27 => ?_) (fun c27 => ?_)
        · -- 27 taken
          obtain ⟨b0, hbs⟩ : ∃ b0, bL1 q.2.2.2 (gatA fr to wt nv ne nv).2.2 (gatA fr to wt nv ne nv).1 = some b0 := by
            cases h : bL1 q.2.2.2 (gatA fr to wt nv ne nv).2.2 (gatA fr to wt nv ne nv).1 with
            | some b1 => exact ⟨b1, rfl⟩
            | none => rw [h] at c27; exact absurd rfl c27
          have hb0 := (bL1_in hbs).1
          have hb1 := (bL1_in hbs).2
          have hcn : (gatA fr to wt nv ne nv).1 ≤ 640 := hc.2.1
          have ebb : oI (bL1 q.2.2.2 (gatA fr to wt nv ne nv).2.2 (gatA fr to wt nv ne nv).1) = nI b0 := by rw [hbs]; rfl
          have bcl : (oI (bL1 q.2.2.2 (gatA fr to wt nv ne nv).2.2 (gatA fr to wt nv ne nv).1)).toNatClampNeg = b0 := by rw [ebb]; exact nI_clamp (by omega)
          have bin : vp_in (oI (bL1 q.2.2.2 (gatA fr to wt nv ne nv).2.2 (gatA fr to wt nv ne nv).1)) 640 := by rw [ebb]; exact vp_in_nI (by omega) (by omega)
          have hcb := hc.2.2 b0 hb0
          refine lv_aload_n hx hb dX4_find_31 rfl (lv_at hl 1 rfl) ?_
          refine va_get (D := (dC, dI)) (ci := 4) (v := .ref (R 14)) (C := RX4) (T := TX4) (N := 6) hx hb hts hinX4 hown hK hP 13 rfl rfl 1 (by decide) hf9 (fun _ h9 => h9) rfl dX4_find_32 ?_
          refine lv_aload_n hx hb dX4_find_35 rfl (lv_at hl 1 rfl) ?_
          refine va_get (D := (dC, dI)) (ci := 4) (v := .int (I_11 6)) (C := RX4) (T := TX4) (N := 6) hx hb hts hinX4 hown hK hP 13 rfl rfl 0 (by decide) hf28 (fun _ h9 => h9) rfl dX4_find_36 ?_
          refine lv_aload_n hx hb dX4_find_39 rfl (lv_at hl 1 rfl) ?_
          refine va_get (D := (dC, dI)) (ci := 4) (v := .ref (R 16)) (C := RX4) (T := TX4) (N := 6) hx hb hts hinX4 hown hK hP 13 rfl rfl 4 (by decide) hf18 (fun _ h9 => h9) rfl dX4_find_40 ?_
          refine lv_iload_n hx hb dX4_find_43 rfl (lv_at hl 0 rfl) ?_
          have h44 : vp_in (oI (bL1 q.2.2.2 (gatA fr to wt nv ne nv).2.2 (gatA fr to wt nv ne nv).1)) 640 := bin
          refine va_lald hx hb hK hP 16 1 rfl rfl h44 dX4_find_44 ?_
          refine lv_topl (fun x44 ex44 => ?_)
          have ex44 : x44 = B_11 16 (oI (bL1 q.2.2.2 (gatA fr to wt nv ne nv).2.2 (gatA fr to wt nv ne nv).1)).toNatClampNeg := ex44
          have ex44 : x44 = lN (q.2.2.2 b0) := by rw [ex44, bcl]; exact hcb.1
          subst ex44
          have h45 : vp_in (I_11 6) 14 := din
          refine va_last hx hb hK hP hD hS 14 1 rfl rfl h45 dX4_find_45 (fun H locs hP hD hS => ?_)
          obtain ⟨B45, eB45⟩ : ∃ zz : Nat → Nat → Int64, zz = va_up B_11 14 (vp_updL (B_11 14) (I_11 6).toNatClampNeg (lN (q.2.2.2 b0))) := ⟨_, rfl⟩
          have hP : va_P (dC, dI) vwCl (HW cI cJ cII cJJ R (I_11, A, B45, C, T)) H := by rw [eB45]; exact hP
          have hD : va_D Aa (HW cI cJ cII cJJ R (I_11, A, B45, C, T)) := by rw [eB45]; exact hD
          refine lv_aload_n hx hb dX4_find_46 rfl (lv_at hl 1 rfl) ?_
          refine va_get (D := (dC, dI)) (ci := 4) (v := .ref (R 15)) (C := RX4) (T := TX4) (N := 6) hx hb hts hinX4 hown hK hP 13 rfl rfl 2 (by decide) hf15 (fun _ h9 => h9) rfl dX4_find_47 ?_
          refine lv_aload_n hx hb dX4_find_50 rfl (lv_at hl 1 rfl) ?_
          refine va_get (D := (dC, dI)) (ci := 4) (v := .int (I_11 6)) (C := RX4) (T := TX4) (N := 6) hx hb hts hinX4 hown hK hP 13 rfl rfl 0 (by decide) hf28 (fun _ h9 => h9) rfl dX4_find_51 ?_
          refine lv_aload_n hx hb dX4_find_54 rfl (lv_at hl 1 rfl) ?_
          refine va_get (D := (dC, dI)) (ci := 4) (v := .ref (R 17)) (C := RX4) (T := TX4) (N := 6) hx hb hts hinX4 hown hK hP 13 rfl rfl 5 (by decide) hf21 (fun _ h9 => h9) rfl dX4_find_55 ?_
          refine lv_iload_n hx hb dX4_find_58 rfl (lv_at hl 0 rfl) ?_
          have h59 : vp_in (oI (bL1 q.2.2.2 (gatA fr to wt nv ne nv).2.2 (gatA fr to wt nv ne nv).1)) 640 := bin
          refine va_lald hx hb hK hP 17 1 rfl rfl h59 dX4_find_59 ?_
          refine lv_topl (fun x59 ex59 => ?_)
          have ex59 : x59 = B45 17 (oI (bL1 q.2.2.2 (gatA fr to wt nv ne nv).2.2 (gatA fr to wt nv ne nv).1)).toNatClampNeg := ex59
          have ex59 : x59 = lN ((gatA fr to wt nv ne nv).2.2 b0) := by rw [ex59, bcl, eB45, up_ne (by decide)]; exact hcb.2.2.1
          subst ex59
          have h60 : vp_in (I_11 6) 14 := din
          refine va_last hx hb hK hP hD hS 15 1 rfl rfl h60 dX4_find_60 (fun H locs hP hD hS => ?_)
          obtain ⟨B60, eB60⟩ : ∃ zz : Nat → Nat → Int64, zz = va_up B45 15 (vp_updL (B45 15) (I_11 6).toNatClampNeg (lN ((gatA fr to wt nv ne nv).2.2 b0))) := ⟨_, rfl⟩
          have hP : va_P (dC, dI) vwCl (HW cI cJ cII cJJ R (I_11, A, B60, C, T)) H := by rw [eB60]; exact hP
          have hD : va_D Aa (HW cI cJ cII cJJ R (I_11, A, B60, C, T)) := by rw [eB60]; exact hD
          refine lv_aload_n hx hb dX4_find_61 rfl (lv_at hl 1 rfl) ?_
          refine lv_aload_n hx hb dX4_find_62 rfl (lv_at hl 1 rfl) ?_
          refine va_get (D := (dC, dI)) (ci := 4) (v := .ref (R 16)) (C := RX4) (T := TX4) (N := 6) hx hb hts hinX4 hown hK hP 13 rfl rfl 4 (by decide) hf18 (fun _ h9 => h9) rfl dX4_find_63 ?_
          refine lv_iload_n hx hb dX4_find_66 rfl (lv_at hl 0 rfl) ?_
          have h67 : vp_in (oI (bL1 q.2.2.2 (gatA fr to wt nv ne nv).2.2 (gatA fr to wt nv ne nv).1)) 640 := bin
          refine va_lald hx hb hK hP 16 1 rfl rfl h67 dX4_find_67 ?_
          refine lv_topl (fun x67 ex67 => ?_)
          have ex67 : x67 = B60 16 (oI (bL1 q.2.2.2 (gatA fr to wt nv ne nv).2.2 (gatA fr to wt nv ne nv).1)).toNatClampNeg := ex67
          have ex67 : x67 = lN (q.2.2.2 b0) := by rw [ex67, bcl, eB60, up_ne (by decide), eB45, up_ne (by decide)]; exact hcb.1
          subst ex67
          refine ct_callv hD hS hA (va_runV (As := [.long (lN (q.2.2.2 b0))]) (rest := []) F ((k_X4_strike l dC dI cI cJ cZ cII cJJ R I_11 A B60 C T (gatA fr to wt nv ne nv).1 q.2.2.2 (q.2.2.2 b0) hc.1 hcn (fun i hi => ⟨by rw [eB60, up_ne (by decide), eB45, up_ne (by decide)]; exact (hc.2.2 i hi).1, (hc.2.2 i hi).2.1⟩) hb1 hcb.2.1) _) (cwV 1 hts gX4_find_X4_strike rfl rfl rfl (by decide +kernel) ⟨(Nat.le_of_ble_eq_true rfl), (Nat.le_of_ble_eq_true rfl)⟩) (ct_preV 13 4 hK hN hP hD rfl rfl) rfl rfl hl.1 rfl (lv_room (Nat.le_of_ble_eq_true rfl)) dX4_find_68 ⟨(Nat.le_of_ble_eq_true rfl), (Nat.le_of_ble_eq_true rfl)⟩) (fun u68 H locs w68 hP hD hS => ?_)
          obtain ⟨I68, A68, B68, C68, T68⟩ := u68
          have eI68 : I_11 = I68 := w68.2.1.symm
          subst eI68
          have eA68 : A = A68 := w68.2.2.1.symm
          subst eA68
          have eC68 : C = C68 := w68.2.2.2.2.1.symm
          subst eC68
          have eT68 : T = T68 := w68.2.2.2.2.2.symm
          subst eT68
          have e6 : I_11 6 = nI q.1 := hr.1
          refine lv_aload_n hx hb dX4_find_71 rfl (lv_at hl 1 rfl) ?_
          refine lv_dup hx hb dX4_find_72 rfl ?_
          refine va_get (D := (dC, dI)) (ci := 4) (v := .int (I_11 6)) (C := RX4) (T := TX4) (N := 6) hx hb hts hinX4 hown hK hP 13 rfl rfl 0 (by decide) hf28 (fun _ h9 => h9) rfl dX4_find_73 ?_
          refine lv_iconst (v := 1) hx hb dX4_find_76 (by decide) ?_
          refine lv_iadd hx hb dX4_find_77 ?_
          refine lv_topi (fun x77 ex77 => ?_)
          refine va_put (D := (dC, dI)) (ci := 4) (v := .int x77) (ty := .int) (C := RX4) (T := TX4) (N := 6) hx hb hts hinX4 tyX4 tyX4_ok nmX4 hown hK hP hD hS 13 rfl rfl 0 (by decide) hf28 (fun _ h9 => h9) rfl (by decide +kernel) rfl rfl (Nat.le_of_ble_eq_true rfl) dX4_find_78 (fun H locs hP hD hS => ?_)
          obtain ⟨I78, eI78⟩ : ∃ zz : Nat → Int32, zz = va_up I_11 6 x77 := ⟨_, rfl⟩
          have hP : va_P (dC, dI) vwCl (HW cI cJ cII cJJ R (I78, A, B68, C, T)) H := by rw [eI78]; exact hP
          have hD : va_D Aa (HW cI cJ cII cJJ R (I78, A, B68, C, T)) := by rw [eI78]; exact hD
          refine lv_goto (tgt := 11) hx hb dX4_find_81 (by decide) ?_
          exact ih11 ((q.1 + 1, va_up q.2.1 q.1 (q.2.2.2 b0), va_up q.2.2.1 q.1 ((gatA fr to wt nv ne nv).2.2 b0), stk q.2.2.2 (q.2.2.2 b0))) I78 B68 ls _ _ (by show 14 - (q.1 + 1) < _; omega) ⟨rB_add hr hlt hcb.2.1 hb1 hcb.2.2.2 (by rw [eI78, up_self, ex77, e6]; exact nI_1 _) (by rw [show B68 14 = B60 14 from w68.2.2.2.1 14 (by decide), eB60, up_ne (by decide), eB45, up_self, dcl]) (by rw [show B68 15 = B60 15 from w68.2.2.2.1 15 (by decide), eB60, up_self, eB45, up_ne (by decide), dcl]), ⟨by rw [eI78, up_ne (by decide)]; exact hc.1, hc.2.1, fun i hi => ⟨w68.1 i hi, stk_lt (hc.2.2 i hi).2.1 hcb.2.1, by rw [show B68 17 = B60 17 from w68.2.2.2.1 17 (by decide), eB60, up_ne (by decide), eB45, up_ne (by decide)]; exact (hc.2.2 i hi).2.2.1, (hc.2.2 i hi).2.2.2⟩⟩, by rw [hres, show 14 - q.1 = (14 - (q.1 + 1)) + 1 by omega, fndR_some hbs], hf.tr (fL.of (fun k h _ => by rw [eI78, up_ne h]) rfl (fun k _ _ h14 h15 h16 _ => by rw [show B68 k = B60 k from w68.2.2.2.1 k h16, eB60, up_ne h15, eB45, up_ne h14]) rfl rfl)⟩ hP hD hS (lv_sub hl [1, 2, 3] rfl)
        · -- 27 not
          have hbn : bL1 q.2.2.2 (gatA fr to wt nv ne nv).2.2 (gatA fr to wt nv ne nv).1 = none := by
            cases h : bL1 q.2.2.2 (gatA fr to wt nv ne nv).2.2 (gatA fr to wt nv ne nv).1 with
            | none => rfl
            | some b1 => rw [h] at c27; exact absurd (show nI b1 < 0 by rw [show nI b1 = -1 from c27]; decide) (nI_pos (by have h1 := (bL1_in h).1; have h2 := hc.2.1; have h2 : (gatA fr to wt nv ne nv).1 ≤ 640 := h2; omega))
          have hfin : fnd fr to wt nv ne = q := by rw [hres, fndR_none hbn]
          refine hret 30 ls _ _ (I_11, A, B_11, C, T) dX4_find_30 ?_ hP hD hS
          try dsimp only
          exact ⟨by rw [hfin]; exact hr, hf⟩
  exact K11 _ ((0, fun _ => 0, fun _ => 0, (gatA fr to wt nv ne nv).2.1)) I8 B3 ls _ _ (Nat.lt_succ_self _) ⟨⟨by rw [eI8, up_self]; rfl, Nat.zero_le _, fun i h => absurd h (Nat.not_lt_zero _)⟩, ⟨by rw [eI8, up_ne (by decide)]; exact w3.1.1, w3.1.2.1, w3.1.2.2⟩, rfl, w3.2.tr (fL.of (fun k h _ => by rw [eI8, up_ne h]) rfl (fun _ _ _ _ _ _ _ => rfl) rfl rfl)⟩ hP hD hS (lv_sub hl [0, 1, 2] rfl)
