set_option maxHeartbeats 4000000 in
set_option maxRecDepth 100000 in
theorem k_X8_lay (l : Launch) (dC : Nat → ClassId) (dI : Nat → Nat → Nat) (cI cJ cZ cII cJJ : ClassId) (R : Nat → Nat) (I : Nat → Int32) (A : Nat → Nat → Int32) (B : Nat → Nat → Int64) (po qo : Option Nat) (p2 q2 : Int32) (M : Nat → Nat → Int) (hM : rM (B 17) M) (hp : p2 = oI po) (hq : q2 = oI qo) (hpo : ∀ a, po = some a → a < 16) (hqo : ∀ a, qo = some a → a < 16) : ctV l (dC, dI) (tyL cI cJ cZ cII cJJ) (MW cI cJ cZ R) yX8_lay wsX8_lay (0, 0) [.ref (R 0), .int p2, .int q2] (I, A, B) (fun u => rM (u.2.2 17) (layM po qo M) ∧ u.1 = I ∧ u.2.1 = A ∧ ∀ k, k ≠ 17 → u.2.2 k = B k) := by
  refine ctV_intro (cc := cX8_lay) (maxL := 3) (by decide) rfl (Nat.le_of_ble_eq_true rfl) ?_
  intro p e s m below meth c ls Aa Q F hK hN hP hD hS hA hl hret
  have hx := F.1
  have hb := F.2.1
  have hown : s.vm.findClass RX8 = some m.cls := F.2.2.2.1
  have hts := F.2.2.2.2
  have hinX8 : ∀ w ∈ wsX80, w ∈ wsX8_lay := by decide +kernel
  have hf48 := hts (.fieldLink RX8 48 "CycleHouseModel" "matrix" "[J") (by decide +kernel)
  have hl : lv_has ls 3 [(0, .ref (R 0)), (1, .int p2), (2, .int q2)] := hl
  refine lv_iload_n hx hb dX8_lay_0 rfl (lv_at hl 1 rfl) ?_
  refine lv_if_lt (tgt := 17) hx hb dX8_lay_1 (by decide) (fun c1 => ?_) (fun c1 => ?_)
  · -- 1 taken
    have epo : po = none := by cases h : po with | none => rfl | some a => rw [hp, h] at c1; exact absurd c1 (nI_pos (by have := hpo a h; omega))
    refine lv_iload_n hx hb dX8_lay_17 rfl (lv_at hl 2 rfl) ?_
    refine lv_if_lt (tgt := 34) hx hb dX8_lay_18 (by decide) (fun c18 => ?_) (fun c18 => ?_)
    · -- 18 taken
      have eqo : qo = none := by cases h : qo with | none => rfl | some a => rw [hq, h] at c18; exact absurd c18 (nI_pos (by have := hqo a h; omega))
      refine lv_iload_n hx hb dX8_lay_34 rfl (lv_at hl 1 rfl) ?_
      refine lv_if_lt (tgt := 42) hx hb dX8_lay_35 (by decide) (fun c35 => ?_) (fun c35 => ?_)
      · -- 35 taken
        refine hret 42 ls _ _ (I, A, B) dX8_lay_42 ?_ hP hD hS
        try dsimp only
        exact ⟨by rw [epo, eqo]; exact hM, rfl, rfl, fun _ _ => rfl⟩
      · exact absurd c35 (Classical.not_not.mpr c1)
    · -- 18 not
      obtain ⟨b, eqo⟩ : ∃ b, qo = some b := by cases h : qo with | some b => exact ⟨b, rfl⟩ | none => rw [hq, h] at c18; exact absurd (by decide) c18
      have hb2 := hqo b eqo
      have hq1 : q2 = nI b := by rw [hq, eqo]; rfl
      refine lv_aload_n hx hb dX8_lay_21 rfl (lv_at hl 0 rfl) ?_
      refine va_get (D := (dC, dI)) (ci := 8) (v := .ref (R 17)) (C := RX8) (T := TX8) (N := 20) hx hb hts hinX8 hown hK hP 0 rfl rfl 17 (by decide) hf48 (fun _ h9 => h9) rfl dX8_lay_22 ?_
      refine lv_bipush (v := 17) hx hb dX8_lay_25 (by decide) ?_
      refine lv_iload_n hx hb dX8_lay_27 rfl (lv_at hl 2 rfl) ?_
      refine lv_imul hx hb dX8_lay_28 ?_
      refine lv_topi (fun x28 ex28 => ?_)
      have ex28 : x28 = nI (16 * b + b) := by rw [ex28, hq1]; exact (pk_mul 17 b).trans (by congr 1; omega)
      subst ex28
      refine lv_dup2_11 hx hb dX8_lay_29 rfl rfl ?_
      have h30 : vp_in (nI (16 * b + b)) 256 := vp_in_nI (by omega) (by omega)
      refine va_lald hx hb hK hP 12 1 rfl rfl h30 dX8_lay_30 ?_
      refine lv_topl (fun x30 ex30 => ?_)
      have ex30 : x30 = B 17 (nI (16 * b + b)).toNatClampNeg := ex30
      refine lv_lconst (v := 1) hx hb dX8_lay_31 (by decide) ?_
      refine lv_ladd hx hb dX8_lay_32 ?_
      refine lv_topl (fun x32 ex32 => ?_)
      have ex32 : x32 = iL (M b b + 1) := by rw [ex32, ex30, nI_clamp (by omega), hM b b hb2 hb2]; exact iL_1 _
      subst ex32
      have h33 : vp_in (nI (16 * b + b)) 256 := vp_in_nI (by omega) (by omega)
      refine va_last hx hb hK hP hD hS 12 1 rfl rfl h33 dX8_lay_33 (fun H locs hP hD hS => ?_)
      obtain ⟨B33, eB33⟩ : ∃ zz : Nat → Nat → Int64, zz = va_up B 17 (vp_updL (B 17) (nI (16 * b + b)).toNatClampNeg (iL (M b b + 1))) := ⟨_, rfl⟩
      have hP : va_P (dC, dI) vwCl (MW cI cJ cZ R (I, A, B33)) H := by rw [eB33]; exact hP
      have hD : va_D Aa (MW cI cJ cZ R (I, A, B33)) := by rw [eB33]; exact hD
      refine lv_iload_n hx hb dX8_lay_34 rfl (lv_at hl 1 rfl) ?_
      refine lv_if_lt (tgt := 42) hx hb dX8_lay_35 (by decide) (fun c35 => ?_) (fun c35 => ?_)
      · -- 35 taken
        refine hret 42 ls _ _ (I, A, B33) dX8_lay_42 ?_ hP hD hS
        try dsimp only
        exact ⟨by rw [epo, eqo, eB33, up_self, nI_clamp (show 16 * b + b < 2 ^ 31 by omega)]; exact rM_up hM hb2 rfl _, rfl, rfl, fun k hk => by rw [eB33, up_ne hk]⟩
      · exact absurd c35 (Classical.not_not.mpr c1)
  · -- 1 not
    obtain ⟨a, epo⟩ : ∃ a, po = some a := by cases h : po with | some a => exact ⟨a, rfl⟩ | none => rw [hp, h] at c1; exact absurd (by decide) c1
    have ha := hpo a epo
    have hp1 : p2 = nI a := by rw [hp, epo]; rfl
    refine lv_aload_n hx hb dX8_lay_4 rfl (lv_at hl 0 rfl) ?_
    refine va_get (D := (dC, dI)) (ci := 8) (v := .ref (R 17)) (C := RX8) (T := TX8) (N := 20) hx hb hts hinX8 hown hK hP 0 rfl rfl 17 (by decide) hf48 (fun _ h9 => h9) rfl dX8_lay_5 ?_
    refine lv_bipush (v := 17) hx hb dX8_lay_8 (by decide) ?_
    refine lv_iload_n hx hb dX8_lay_10 rfl (lv_at hl 1 rfl) ?_
    refine lv_imul hx hb dX8_lay_11 ?_
    refine lv_topi (fun x11 ex11 => ?_)
    have ex11 : x11 = nI (16 * a + a) := by rw [ex11, hp1]; exact (pk_mul 17 a).trans (by congr 1; omega)
    subst ex11
    refine lv_dup2_11 hx hb dX8_lay_12 rfl rfl ?_
    have h13 : vp_in (nI (16 * a + a)) 256 := vp_in_nI (by omega) (by omega)
    refine va_lald hx hb hK hP 12 1 rfl rfl h13 dX8_lay_13 ?_
    refine lv_topl (fun x13 ex13 => ?_)
    have ex13 : x13 = B 17 (nI (16 * a + a)).toNatClampNeg := ex13
    refine lv_lconst (v := 1) hx hb dX8_lay_14 (by decide) ?_
    refine lv_ladd hx hb dX8_lay_15 ?_
    refine lv_topl (fun x15 ex15 => ?_)
    have ex15 : x15 = iL (M a a + 1) := by rw [ex15, ex13, nI_clamp (by omega), hM a a ha ha]; exact iL_1 _
    subst ex15
    have h16 : vp_in (nI (16 * a + a)) 256 := vp_in_nI (by omega) (by omega)
    refine va_last hx hb hK hP hD hS 12 1 rfl rfl h16 dX8_lay_16 (fun H locs hP hD hS => ?_)
    obtain ⟨B16, eB16⟩ : ∃ zz : Nat → Nat → Int64, zz = va_up B 17 (vp_updL (B 17) (nI (16 * a + a)).toNatClampNeg (iL (M a a + 1))) := ⟨_, rfl⟩
    have hP : va_P (dC, dI) vwCl (MW cI cJ cZ R (I, A, B16)) H := by rw [eB16]; exact hP
    have hD : va_D Aa (MW cI cJ cZ R (I, A, B16)) := by rw [eB16]; exact hD
    have hM1 : rM (B16 17) (mup M a a (M a a + 1)) := by rw [eB16, up_self, nI_clamp (show 16 * a + a < 2 ^ 31 by omega)]; exact rM_up hM ha rfl _
    refine lv_iload_n hx hb dX8_lay_17 rfl (lv_at hl 2 rfl) ?_
    refine lv_if_lt (tgt := 34) hx hb dX8_lay_18 (by decide) (fun c18 => ?_) (fun c18 => ?_)
    · -- 18 taken
      have eqo : qo = none := by cases h : qo with | none => rfl | some a => rw [hq, h] at c18; exact absurd c18 (nI_pos (by have := hqo a h; omega))
      refine lv_iload_n hx hb dX8_lay_34 rfl (lv_at hl 1 rfl) ?_
      refine lv_if_lt (tgt := 42) hx hb dX8_lay_35 (by decide) (fun c35 => ?_) (fun c35 => ?_)
      · exact absurd c35 c1
      · -- 35 not
        refine lv_iload_n hx hb dX8_lay_38 rfl (lv_at hl 2 rfl) ?_
        refine lv_if_ge (tgt := 43) hx hb dX8_lay_39 (by decide) (fun c39 => ?_) (fun c39 => ?_)
        · exact absurd c39 (Int32.not_le.mpr c18)
        · -- 39 not
          refine hret 42 ls _ _ (I, A, B16) dX8_lay_42 ?_ hP hD hS
          try dsimp only
          exact ⟨by rw [epo, eqo]; exact hM1, rfl, rfl, fun k hk => by rw [eB16, up_ne hk]⟩
    · -- 18 not
      obtain ⟨b, eqo⟩ : ∃ b, qo = some b := by cases h : qo with | some b => exact ⟨b, rfl⟩ | none => rw [hq, h] at c18; exact absurd (by decide) c18
      have hb2 := hqo b eqo
      have hq1 : q2 = nI b := by rw [hq, eqo]; rfl
      refine lv_aload_n hx hb dX8_lay_21 rfl (lv_at hl 0 rfl) ?_
      refine va_get (D := (dC, dI)) (ci := 8) (v := .ref (R 17)) (C := RX8) (T := TX8) (N := 20) hx hb hts hinX8 hown hK hP 0 rfl rfl 17 (by decide) hf48 (fun _ h9 => h9) rfl dX8_lay_22 ?_
      refine lv_bipush (v := 17) hx hb dX8_lay_25 (by decide) ?_
      refine lv_iload_n hx hb dX8_lay_27 rfl (lv_at hl 2 rfl) ?_
      refine lv_imul hx hb dX8_lay_28 ?_
      refine lv_topi (fun x28 ex28 => ?_)
      have ex28 : x28 = nI (16 * b + b) := by rw [ex28, hq1]; exact (pk_mul 17 b).trans (by congr 1; omega)
      subst ex28
      refine lv_dup2_11 hx hb dX8_lay_29 rfl rfl ?_
      have h30 : vp_in (nI (16 * b + b)) 256 := vp_in_nI (by omega) (by omega)
      refine va_lald hx hb hK hP 12 1 rfl rfl h30 dX8_lay_30 ?_
      refine lv_topl (fun x30 ex30 => ?_)
      have ex30 : x30 = B16 17 (nI (16 * b + b)).toNatClampNeg := ex30
      refine lv_lconst (v := 1) hx hb dX8_lay_31 (by decide) ?_
      refine lv_ladd hx hb dX8_lay_32 ?_
      refine lv_topl (fun x32 ex32 => ?_)
      have ex32 : x32 = iL (mup M a a (M a a + 1) b b + 1) := by rw [ex32, ex30, nI_clamp (by omega), hM1 b b hb2 hb2]; exact iL_1 _
      subst ex32
      have h33 : vp_in (nI (16 * b + b)) 256 := vp_in_nI (by omega) (by omega)
      refine va_last hx hb hK hP hD hS 12 1 rfl rfl h33 dX8_lay_33 (fun H locs hP hD hS => ?_)
      obtain ⟨B33, eB33⟩ : ∃ zz : Nat → Nat → Int64, zz = va_up B16 17 (vp_updL (B16 17) (nI (16 * b + b)).toNatClampNeg (iL (mup M a a (M a a + 1) b b + 1))) := ⟨_, rfl⟩
      have hP : va_P (dC, dI) vwCl (MW cI cJ cZ R (I, A, B33)) H := by rw [eB33]; exact hP
      have hD : va_D Aa (MW cI cJ cZ R (I, A, B33)) := by rw [eB33]; exact hD
      refine lv_iload_n hx hb dX8_lay_34 rfl (lv_at hl 1 rfl) ?_
      refine lv_if_lt (tgt := 42) hx hb dX8_lay_35 (by decide) (fun c35 => ?_) (fun c35 => ?_)
      · exact absurd c35 c1
      · -- 35 not
        refine lv_iload_n hx hb dX8_lay_38 rfl (lv_at hl 2 rfl) ?_
        refine lv_if_ge (tgt := 43) hx hb dX8_lay_39 (by decide) (fun c39 => ?_) (fun c39 => ?_)
        · -- 39 taken
          have hM2 : rM (B33 17) (mup (mup M a a (M a a + 1)) b b (mup M a a (M a a + 1) b b + 1)) := by rw [eB33, up_self, nI_clamp (show 16 * b + b < 2 ^ 31 by omega)]; exact rM_up hM1 hb2 rfl _
          refine lv_aload_n hx hb dX8_lay_43 rfl (lv_at hl 0 rfl) ?_
          refine va_get (D := (dC, dI)) (ci := 8) (v := .ref (R 17)) (C := RX8) (T := TX8) (N := 20) hx hb hts hinX8 hown hK hP 0 rfl rfl 17 (by decide) hf48 (fun _ h9 => h9) rfl dX8_lay_44 ?_
          refine lv_bipush (v := 16) hx hb dX8_lay_47 (by decide) ?_
          refine lv_iload_n hx hb dX8_lay_49 rfl (lv_at hl 1 rfl) ?_
          refine lv_imul hx hb dX8_lay_50 ?_
          refine lv_topi (fun x50 ex50 => ?_)
          have ex50 : x50 = nI (16 * a) := by rw [ex50, hp1]; exact pk_mul 16 a
          subst ex50
          refine lv_iload_n hx hb dX8_lay_51 rfl (lv_at hl 2 rfl) ?_
          refine lv_iadd hx hb dX8_lay_52 ?_
          refine lv_topi (fun x52 ex52 => ?_)
          have ex52 : x52 = nI (16 * a + b) := by rw [ex52, hq1]; exact nI_add _ _
          subst ex52
          refine lv_dup2_11 hx hb dX8_lay_53 rfl rfl ?_
          have h54 : vp_in (nI (16 * a + b)) 256 := vp_in_nI (by omega) (by omega)
          refine va_lald hx hb hK hP 12 1 rfl rfl h54 dX8_lay_54 ?_
          refine lv_topl (fun x54 ex54 => ?_)
          have ex54 : x54 = B33 17 (nI (16 * a + b)).toNatClampNeg := ex54
          refine lv_lconst (v := 1) hx hb dX8_lay_55 (by decide) ?_
          refine lv_lsub hx hb dX8_lay_56 ?_
          refine lv_topl (fun x56 ex56 => ?_)
          have ex56 : x56 = iL (mup (mup M a a (M a a + 1)) b b (mup M a a (M a a + 1) b b + 1) a b - 1) := by rw [ex56, ex54, nI_clamp (by omega), hM2 a b ha hb2]; exact iL_m1 _
          subst ex56
          have h57 : vp_in (nI (16 * a + b)) 256 := vp_in_nI (by omega) (by omega)
          refine va_last hx hb hK hP hD hS 12 1 rfl rfl h57 dX8_lay_57 (fun H locs hP hD hS => ?_)
          obtain ⟨B57, eB57⟩ : ∃ zz : Nat → Nat → Int64, zz = va_up B33 17 (vp_updL (B33 17) (nI (16 * a + b)).toNatClampNeg (iL (mup (mup M a a (M a a + 1)) b b (mup M a a (M a a + 1) b b + 1) a b - 1))) := ⟨_, rfl⟩
          have hP : va_P (dC, dI) vwCl (MW cI cJ cZ R (I, A, B57)) H := by rw [eB57]; exact hP
          have hD : va_D Aa (MW cI cJ cZ R (I, A, B57)) := by rw [eB57]; exact hD
          have hM3 := rM_up hM2 hb2 (k := 16 * a + b) (a := a) rfl (mup (mup M a a (M a a + 1)) b b (mup M a a (M a a + 1) b b + 1) a b - 1)
          have e57 : B57 17 = vp_updL (B33 17) (16 * a + b) (iL (mup (mup M a a (M a a + 1)) b b (mup M a a (M a a + 1) b b + 1) a b - 1)) := by rw [eB57, up_self, nI_clamp (show 16 * a + b < 2 ^ 31 by omega)]
          rw [← e57] at hM3
          refine lv_aload_n hx hb dX8_lay_58 rfl (lv_at hl 0 rfl) ?_
          refine va_get (D := (dC, dI)) (ci := 8) (v := .ref (R 17)) (C := RX8) (T := TX8) (N := 20) hx hb hts hinX8 hown hK hP 0 rfl rfl 17 (by decide) hf48 (fun _ h9 => h9) rfl dX8_lay_59 ?_
          refine lv_bipush (v := 16) hx hb dX8_lay_62 (by decide) ?_
          refine lv_iload_n hx hb dX8_lay_64 rfl (lv_at hl 2 rfl) ?_
          refine lv_imul hx hb dX8_lay_65 ?_
          refine lv_topi (fun x65 ex65 => ?_)
          have ex65 : x65 = nI (16 * b) := by rw [ex65, hq1]; exact pk_mul 16 b
          subst ex65
          refine lv_iload_n hx hb dX8_lay_66 rfl (lv_at hl 1 rfl) ?_
          refine lv_iadd hx hb dX8_lay_67 ?_
          refine lv_topi (fun x67 ex67 => ?_)
          have ex67 : x67 = nI (16 * b + a) := by rw [ex67, hp1]; exact nI_add _ _
          subst ex67
          refine lv_dup2_11 hx hb dX8_lay_68 rfl rfl ?_
          have h69 : vp_in (nI (16 * b + a)) 256 := vp_in_nI (by omega) (by omega)
          refine va_lald hx hb hK hP 12 1 rfl rfl h69 dX8_lay_69 ?_
          refine lv_topl (fun x69 ex69 => ?_)
          have ex69 : x69 = B57 17 (nI (16 * b + a)).toNatClampNeg := ex69
          refine lv_lconst (v := 1) hx hb dX8_lay_70 (by decide) ?_
          refine lv_lsub hx hb dX8_lay_71 ?_
          refine lv_topl (fun x71 ex71 => ?_)
          have ex71 : x71 = iL (mup (mup (mup M a a (M a a + 1)) b b (mup M a a (M a a + 1) b b + 1)) a b (mup (mup M a a (M a a + 1)) b b (mup M a a (M a a + 1) b b + 1) a b - 1) b a - 1) := by rw [ex71, ex69, nI_clamp (by omega), hM3 b a hb2 ha]; exact iL_m1 _
          subst ex71
          have h72 : vp_in (nI (16 * b + a)) 256 := vp_in_nI (by omega) (by omega)
          refine va_last hx hb hK hP hD hS 12 1 rfl rfl h72 dX8_lay_72 (fun H locs hP hD hS => ?_)
          obtain ⟨B72, eB72⟩ : ∃ zz : Nat → Nat → Int64, zz = va_up B57 17 (vp_updL (B57 17) (nI (16 * b + a)).toNatClampNeg (iL (mup (mup (mup M a a (M a a + 1)) b b (mup M a a (M a a + 1) b b + 1)) a b (mup (mup M a a (M a a + 1)) b b (mup M a a (M a a + 1) b b + 1) a b - 1) b a - 1))) := ⟨_, rfl⟩
          have hP : va_P (dC, dI) vwCl (MW cI cJ cZ R (I, A, B72)) H := by rw [eB72]; exact hP
          have hD : va_D Aa (MW cI cJ cZ R (I, A, B72)) := by rw [eB72]; exact hD
          refine hret 73 ls _ _ (I, A, B72) dX8_lay_73 ?_ hP hD hS
          try dsimp only
          exact ⟨by rw [epo, eqo, eB72, up_self, nI_clamp (show 16 * b + a < 2 ^ 31 by omega)]; exact rM_up hM3 ha rfl _, rfl, rfl, fun k hk => by rw [eB72, up_ne hk, eB57, up_ne hk, eB33, up_ne hk, eB16, up_ne hk]⟩
        · exact absurd c39 (Classical.not_not.mpr (Int32.not_lt.mp c18))
set_option maxHeartbeats 4000000 in
set_option maxRecDepth 100000 in
theorem k_X8_determinant (l : Launch) (dC : Nat → ClassId) (dI : Nat → Nat → Nat) (cI cJ cZ cII cJJ : ClassId) (R : Nat → Nat) (I : Nat → Int32) (A : Nat → Nat → Int32) (B : Nat → Nat → Int64) (n2 : Nat) (M : Nat → Nat → Int) (hn : n2 ≤ 16) (hM : rM (B 17) M) (hC : bC n2 M) : ctL l (dC, dI) (tyL cI cJ cZ cII cJJ) (MW cI cJ cZ R) yX8_determinant wsX8_determinant (0, 0) [.ref (R 0), .int (nI n2)] (I, A, B) (fun r u => r = iL (bs n2 M n2).2 ∧ u.1 = I ∧ u.2.1 = A ∧ ∀ k, k ≠ 17 → u.2.2 k = B k) := by
  refine ctL_intro (cc := cX8_determinant) (maxL := 9) (by decide) rfl (Nat.le_of_ble_eq_true rfl) ?_
  intro p e s m below meth c ls Aa Q F hK hN hP hD hS hA hl hret
  have hx := F.1
  have hb := F.2.1
  have hown : s.vm.findClass RX8 = some m.cls := F.2.2.2.1
  have hts := F.2.2.2.2
  have hinX8 : ∀ w ∈ wsX80, w ∈ wsX8_determinant := by decide +kernel
  have hf48 := hts (.fieldLink RX8 48 "CycleHouseModel" "matrix" "[J") (by decide +kernel)
  have hl : lv_has ls 9 [(0, .ref (R 0)), (1, .int (nI n2))] := hl
  refine lv_lconst (v := 1) hx hb dX8_determinant_0 (by decide) ?_
  refine lv_lstore_n (lv' := [(2, .long 1), (0, .ref (R 0)), (1, .int (nI n2))]) hx hb dX8_determinant_1 rfl hl (by decide) rfl (fun ls hl => ?_)
  refine lv_iconst (v := 0) hx hb dX8_determinant_2 (by decide) ?_
  refine lv_istore (lv' := [(4, .int 0), (2, .long 1), (0, .ref (R 0)), (1, .int (nI n2))]) hx hb dX8_determinant_3 hl (by decide) rfl (fun ls hl => ?_)
  have K5 : ∀ (kn : Nat) (k : Nat) (B_5 : Nat → Nat → Int64) (ls : Array Slot) (H : Heap) (locs : List Loc), n2 - k < kn → (k ≤ n2 ∧ rM (B_5 17) (bs n2 M k).1 ∧ ∀ x, x ≠ 17 → B_5 x = B x) → va_P (dC, dI) vwCl (MW cI cJ cZ R (I, A, B_5)) H → va_D Aa (MW cI cJ cZ R (I, A, B_5)) → va_S Aa s.heap H locs → lv_has ls 9 [(0, .ref (R 0)), (1, .int (nI n2)), (2, .long (iL (bs n2 M k).2)), (4, .int (nI k))] → W p l e (ctR (0, 0)) s m #[.ref (R 0), .int (nI n2)] below meth c H locs 0 0 Q (F0 m 5 ls []) := by
    intro kn
    induction kn with
    | zero => intro k B_5 ls H locs hmu; exact absurd hmu (Nat.not_lt_zero _)
    | succ kn ih5 =>
      intro k B_5 ls H locs mu5 inv5 hP hD hS hl
      obtain ⟨hk, hT, hB⟩ := inv5
      refine lv_iload hx hb dX8_determinant_5 (lv_at hl 3 rfl) ?_
      refine lv_iload_n hx hb dX8_determinant_7 rfl (lv_at hl 1 rfl) ?_
      refine lv_icmp_ge (tgt := 127) hx hb dX8_determinant_8 (by decide) (fun c8 => ?_) (fun c8 => ?_)
      · -- 8 taken
        rw [nI_leI (by omega) (by omega)] at c8
        have hge : k = n2 := by omega
        rw [hge] at hT
        refine lv_lload_n hx hb dX8_determinant_127 rfl (lv_at hl 2 rfl) ?_
        refine hret 128 ls _ _ (iL (bs n2 M k).2) (I, A, B_5) dX8_determinant_128 ?_ hP hD hS
        try dsimp only
        exact ⟨by rw [hge], rfl, rfl, hB⟩
      · -- 8 not
        rw [nI_leI (by omega) (by omega)] at c8
        obtain ⟨hc1, hc2⟩ := hC k (by omega)
        refine lv_aload_n hx hb dX8_determinant_11 rfl (lv_at hl 0 rfl) ?_
        refine va_get (D := (dC, dI)) (ci := 8) (v := .ref (R 17)) (C := RX8) (T := TX8) (N := 20) hx hb hts hinX8 hown hK hP 0 rfl rfl 17 (by decide) hf48 (fun _ h9 => h9) rfl dX8_determinant_12 ?_
        refine lv_bipush (v := 17) hx hb dX8_determinant_15 (by decide) ?_
        refine lv_iload hx hb dX8_determinant_17 (lv_at hl 3 rfl) ?_
        refine lv_imul hx hb dX8_determinant_19 ?_
        refine lv_topi (fun x19 ex19 => ?_)
        have ex19 : x19 = nI (16 * k + k) := by rw [ex19]; exact (pk_mul 17 k).trans (by congr 1; omega)
        subst ex19
        have h20 : vp_in (nI (16 * k + k)) 256 := vp_in_nI (by omega) (by omega)
        refine va_lald hx hb hK hP 12 1 rfl rfl h20 dX8_determinant_20 ?_
        refine lv_topl (fun x20 ex20 => ?_)
        have ex20 : x20 = B_5 17 (nI (16 * k + k)).toNatClampNeg := ex20
        have ex20 : x20 = iL ((bs n2 M k).1 k k) := by rw [ex20, nI_clamp (by omega)]; exact hT k k (by omega) (by omega)
        subst ex20
        refine lv_lstore (lv' := [(5, .long (iL ((bs n2 M k).1 k k))), (0, .ref (R 0)), (1, .int (nI n2)), (2, .long (iL (bs n2 M k).2)), (4, .int (nI k))]) hx hb dX8_determinant_21 hl (by decide) rfl (fun ls hl => ?_)
        refine lv_iload hx hb dX8_determinant_23 (lv_at hl 4 rfl) ?_
        refine lv_iconst (v := 1) hx hb dX8_determinant_25 (by decide) ?_
        refine lv_iadd hx hb dX8_determinant_26 ?_
        refine lv_topi (fun x26 ex26 => ?_)
        have ex26 : x26 = nI (k + 1) := by rw [ex26]; exact nI_1 k
        subst ex26
        refine lv_istore (lv' := [(7, .int (nI (k + 1))), (5, .long (iL ((bs n2 M k).1 k k))), (0, .ref (R 0)), (1, .int (nI n2)), (2, .long (iL (bs n2 M k).2)), (4, .int (nI k))]) hx hb dX8_determinant_27 hl (by decide) rfl (fun ls hl => ?_)
        have K29 : ∀ (kn : Nat) (i : Nat) (B_29 : Nat → Nat → Int64) (ls : Array Slot) (H : Heap) (locs : List Loc), n2 - i < kn → (k < i ∧ i ≤ n2 ∧ rM (B_29 17) (stM n2 (bs n2 M k).1 (bs n2 M k).2 k i (k + 1)) ∧ ∀ x, x ≠ 17 → B_29 x = B x) → va_P (dC, dI) vwCl (MW cI cJ cZ R (I, A, B_29)) H → va_D Aa (MW cI cJ cZ R (I, A, B_29)) → va_S Aa s.heap H locs → lv_has ls 9 [(0, .ref (R 0)), (1, .int (nI n2)), (2, .long (iL (bs n2 M k).2)), (4, .int (nI k)), (5, .long (iL ((bs n2 M k).1 k k))), (7, .int (nI i))] → W p l e (ctR (0, 0)) s m #[.ref (R 0), .int (nI n2)] below meth c H locs 0 0 Q (F0 m 29 ls []) := by
          intro kn
          induction kn with
          | zero => intro i B_29 ls H locs hmu; exact absurd hmu (Nat.not_lt_zero _)
          | succ kn ih29 =>
            intro i B_29 ls H locs mu29 inv29 hP hD hS hl
            obtain ⟨hki, hi, hT2, hB2⟩ := inv29
            refine lv_iload hx hb dX8_determinant_29 (lv_at hl 5 rfl) ?_
            refine lv_iload_n hx hb dX8_determinant_31 rfl (lv_at hl 1 rfl) ?_
            refine lv_icmp_ge (tgt := 118) hx hb dX8_determinant_32 (by decide) (fun c32 => ?_) (fun c32 => ?_)
            · -- 32 taken
              rw [nI_leI (by omega) (by omega)] at c32
              have hge : i = n2 := by omega
              rw [hge] at hT2
              refine lv_lload hx hb dX8_determinant_118 (lv_at hl 4 rfl) ?_
              refine lv_lstore_n (lv' := [(2, .long (iL ((bs n2 M k).1 k k))), (0, .ref (R 0)), (1, .int (nI n2)), (4, .int (nI k)), (5, .long (iL ((bs n2 M k).1 k k))), (7, .int (nI i))]) hx hb dX8_determinant_120 rfl hl (by decide) rfl (fun ls hl => ?_)
              obtain ⟨x121, ex121⟩ : ∃ zz : Int32, zz = nI k + (1) := ⟨_, rfl⟩
              refine lv_iinc (v := x121) (lv' := [(4, .int x121), (2, .long (iL ((bs n2 M k).1 k k))), (0, .ref (R 0)), (1, .int (nI n2)), (5, .long (iL ((bs n2 M k).1 k k))), (7, .int (nI i))]) hx hb dX8_determinant_121 hl (k := 3) rfl (by rw [ex121]; rfl) (by decide) rfl (fun ls hl => ?_)
              have ex121 : x121 = nI (k + 1) := by rw [ex121]; exact nI_1 k
              subst ex121
              refine lv_goto (tgt := 5) hx hb dX8_determinant_124 (by decide) ?_
              exact ih5 (k + 1) B_29 ls _ _ (by omega) ⟨by omega, by rw [← stM_end]; exact hT2, hB2⟩ hP hD hS (lv_sub hl [2, 3, 1, 0] rfl)
            · -- 32 not
              rw [nI_leI (by omega) (by omega)] at c32
              refine lv_iload hx hb dX8_determinant_35 (lv_at hl 3 rfl) ?_
              refine lv_iconst (v := 1) hx hb dX8_determinant_37 (by decide) ?_
              refine lv_iadd hx hb dX8_determinant_38 ?_
              refine lv_topi (fun x38 ex38 => ?_)
              have ex38 : x38 = nI (k + 1) := by rw [ex38]; exact nI_1 k
              subst ex38
              refine lv_istore (lv' := [(8, .int (nI (k + 1))), (0, .ref (R 0)), (1, .int (nI n2)), (2, .long (iL (bs n2 M k).2)), (4, .int (nI k)), (5, .long (iL ((bs n2 M k).1 k k))), (7, .int (nI i))]) hx hb dX8_determinant_39 hl (by decide) rfl (fun ls hl => ?_)
              have K41 : ∀ (kn : Nat) (j : Nat) (B_41 : Nat → Nat → Int64) (ls : Array Slot) (H : Heap) (locs : List Loc), n2 - j < kn → (k < j ∧ j ≤ n2 ∧ rM (B_41 17) (stM n2 (bs n2 M k).1 (bs n2 M k).2 k i j) ∧ ∀ x, x ≠ 17 → B_41 x = B x) → va_P (dC, dI) vwCl (MW cI cJ cZ R (I, A, B_41)) H → va_D Aa (MW cI cJ cZ R (I, A, B_41)) → va_S Aa s.heap H locs → lv_has ls 9 [(0, .ref (R 0)), (1, .int (nI n2)), (2, .long (iL (bs n2 M k).2)), (4, .int (nI k)), (5, .long (iL ((bs n2 M k).1 k k))), (7, .int (nI i)), (8, .int (nI j))] → W p l e (ctR (0, 0)) s m #[.ref (R 0), .int (nI n2)] below meth c H locs 0 0 Q (F0 m 41 ls []) := by
                intro kn
                induction kn with
                | zero => intro j B_41 ls H locs hmu; exact absurd hmu (Nat.not_lt_zero _)
                | succ kn ih41 =>
                  intro j B_41 ls H locs mu41 inv41 hP hD hS hl
                  obtain ⟨hkj, hj, hT3, hB3⟩ := inv41
                  refine lv_iload hx hb dX8_determinant_41 (lv_at hl 6 rfl) ?_
                  refine lv_iload_n hx hb dX8_determinant_43 rfl (lv_at hl 1 rfl) ?_
                  refine lv_icmp_ge (tgt := 112) hx hb dX8_determinant_44 (by decide) (fun c44 => ?_) (fun c44 => ?_)
                  · -- 44 taken
                    rw [nI_leI (by omega) (by omega)] at c44
                    have hge2 : j = n2 := by omega
                    rw [hge2] at hT3
                    obtain ⟨x112, ex112⟩ : ∃ zz : Int32, zz = nI i + (1) := ⟨_, rfl⟩
                    refine lv_iinc (v := x112) (lv' := [(7, .int x112), (0, .ref (R 0)), (1, .int (nI n2)), (2, .long (iL (bs n2 M k).2)), (4, .int (nI k)), (5, .long (iL ((bs n2 M k).1 k k))), (8, .int (nI j))]) hx hb dX8_determinant_112 hl (k := 5) rfl (by rw [ex112]; rfl) (by decide) rfl (fun ls hl => ?_)
                    have ex112 : x112 = nI (i + 1) := by rw [ex112]; exact nI_1 i
                    subst ex112
                    refine lv_goto (tgt := 29) hx hb dX8_determinant_115 (by decide) ?_
                    exact ih29 (i + 1) B_41 ls _ _ (by omega) ⟨by omega, by omega, by rw [← stM_row]; exact hT3, hB3⟩ hP hD hS (lv_sub hl [1, 2, 3, 4, 5, 0] rfl)
                  · -- 44 not
                    rw [nI_leI (by omega) (by omega)] at c44
                    have m1 := mul_b (hc2 i j (by omega) (by omega)).1 (hc2 i j (by omega) (by omega)).2 (hc2 k k (by omega) (by omega)).1 (hc2 k k (by omega) (by omega)).2
                    have m2 := mul_b (hc2 i k (by omega) (by omega)).1 (hc2 i k (by omega) (by omega)).2 (hc2 k j (by omega) (by omega)).1 (hc2 k j (by omega) (by omega)).2
                    refine lv_aload_n hx hb dX8_determinant_47 rfl (lv_at hl 0 rfl) ?_
                    refine va_get (D := (dC, dI)) (ci := 8) (v := .ref (R 17)) (C := RX8) (T := TX8) (N := 20) hx hb hts hinX8 hown hK hP 0 rfl rfl 17 (by decide) hf48 (fun _ h9 => h9) rfl dX8_determinant_48 ?_
                    refine lv_bipush (v := 16) hx hb dX8_determinant_51 (by decide) ?_
                    refine lv_iload hx hb dX8_determinant_53 (lv_at hl 5 rfl) ?_
                    refine lv_imul hx hb dX8_determinant_55 ?_
                    refine lv_topi (fun x55 ex55 => ?_)
                    have ex55 : x55 = nI (16 * i) := by rw [ex55]; exact pk_mul 16 i
                    subst ex55
                    refine lv_iload hx hb dX8_determinant_56 (lv_at hl 6 rfl) ?_
                    refine lv_iadd hx hb dX8_determinant_58 ?_
                    refine lv_topi (fun x58 ex58 => ?_)
                    have ex58 : x58 = nI (16 * i + j) := by rw [ex58]; exact nI_add _ _
                    subst ex58
                    refine lv_aload_n hx hb dX8_determinant_59 rfl (lv_at hl 0 rfl) ?_
                    refine va_get (D := (dC, dI)) (ci := 8) (v := .ref (R 17)) (C := RX8) (T := TX8) (N := 20) hx hb hts hinX8 hown hK hP 0 rfl rfl 17 (by decide) hf48 (fun _ h9 => h9) rfl dX8_determinant_60 ?_
                    refine lv_bipush (v := 16) hx hb dX8_determinant_63 (by decide) ?_
                    refine lv_iload hx hb dX8_determinant_65 (lv_at hl 5 rfl) ?_
                    refine lv_imul hx hb dX8_determinant_67 ?_
                    refine lv_topi (fun x67 ex67 => ?_)
                    have ex67 : x67 = nI (16 * i) := by rw [ex67]; exact pk_mul 16 i
                    subst ex67
                    refine lv_iload hx hb dX8_determinant_68 (lv_at hl 6 rfl) ?_
                    refine lv_iadd hx hb dX8_determinant_70 ?_
                    refine lv_topi (fun x70 ex70 => ?_)
                    have ex70 : x70 = nI (16 * i + j) := by rw [ex70]; exact nI_add _ _
                    subst ex70
                    have h71 : vp_in (nI (16 * i + j)) 256 := vp_in_nI (by omega) (by omega)
                    refine va_lald hx hb hK hP 12 1 rfl rfl h71 dX8_determinant_71 ?_
                    refine lv_topl (fun x71 ex71 => ?_)
                    have ex71 : x71 = B_41 17 (nI (16 * i + j)).toNatClampNeg := ex71
                    have ex71 : x71 = iL ((bs n2 M k).1 i j) := by rw [ex71, nI_clamp (by omega), hT3 i j (by omega) (by omega), stM_ij]
                    subst ex71
                    refine lv_lload hx hb dX8_determinant_72 (lv_at hl 4 rfl) ?_
                    refine lv_lmul hx hb dX8_determinant_74 ?_
                    refine lv_topl (fun x74 ex74 => ?_)
                    have ex74 : x74 = iL ((bs n2 M k).1 i j * (bs n2 M k).1 k k) := by rw [ex74, iL_mul]
                    subst ex74
                    refine lv_aload_n hx hb dX8_determinant_75 rfl (lv_at hl 0 rfl) ?_
                    refine va_get (D := (dC, dI)) (ci := 8) (v := .ref (R 17)) (C := RX8) (T := TX8) (N := 20) hx hb hts hinX8 hown hK hP 0 rfl rfl 17 (by decide) hf48 (fun _ h9 => h9) rfl dX8_determinant_76 ?_
                    refine lv_bipush (v := 16) hx hb dX8_determinant_79 (by decide) ?_
                    refine lv_iload hx hb dX8_determinant_81 (lv_at hl 5 rfl) ?_
                    refine lv_imul hx hb dX8_determinant_83 ?_
                    refine lv_topi (fun x83 ex83 => ?_)
                    have ex83 : x83 = nI (16 * i) := by rw [ex83]; exact pk_mul 16 i
                    subst ex83
                    refine lv_iload hx hb dX8_determinant_84 (lv_at hl 3 rfl) ?_
                    refine lv_iadd hx hb dX8_determinant_86 ?_
                    refine lv_topi (fun x86 ex86 => ?_)
                    have ex86 : x86 = nI (16 * i + k) := by rw [ex86]; exact nI_add _ _
                    subst ex86
                    have h87 : vp_in (nI (16 * i + k)) 256 := vp_in_nI (by omega) (by omega)
                    refine va_lald hx hb hK hP 12 1 rfl rfl h87 dX8_determinant_87 ?_
                    refine lv_topl (fun x87 ex87 => ?_)
                    have ex87 : x87 = B_41 17 (nI (16 * i + k)).toNatClampNeg := ex87
                    have ex87 : x87 = iL ((bs n2 M k).1 i k) := by rw [ex87, nI_clamp (by omega), hT3 i k (by omega) (by omega), stM_k1]
                    subst ex87
                    refine lv_aload_n hx hb dX8_determinant_88 rfl (lv_at hl 0 rfl) ?_
                    refine va_get (D := (dC, dI)) (ci := 8) (v := .ref (R 17)) (C := RX8) (T := TX8) (N := 20) hx hb hts hinX8 hown hK hP 0 rfl rfl 17 (by decide) hf48 (fun _ h9 => h9) rfl dX8_determinant_89 ?_
                    refine lv_bipush (v := 16) hx hb dX8_determinant_92 (by decide) ?_
                    refine lv_iload hx hb dX8_determinant_94 (lv_at hl 3 rfl) ?_
                    refine lv_imul hx hb dX8_determinant_96 ?_
                    refine lv_topi (fun x96 ex96 => ?_)
                    have ex96 : x96 = nI (16 * k) := by rw [ex96]; exact pk_mul 16 k
                    subst ex96
                    refine lv_iload hx hb dX8_determinant_97 (lv_at hl 6 rfl) ?_
                    refine lv_iadd hx hb dX8_determinant_99 ?_
                    refine lv_topi (fun x99 ex99 => ?_)
                    have ex99 : x99 = nI (16 * k + j) := by rw [ex99]; exact nI_add _ _
                    subst ex99
                    have h100 : vp_in (nI (16 * k + j)) 256 := vp_in_nI (by omega) (by omega)
                    refine va_lald hx hb hK hP 12 1 rfl rfl h100 dX8_determinant_100 ?_
                    refine lv_topl (fun x100 ex100 => ?_)
                    have ex100 : x100 = B_41 17 (nI (16 * k + j)).toNatClampNeg := ex100
                    have ex100 : x100 = iL ((bs n2 M k).1 k j) := by rw [ex100, nI_clamp (by omega), hT3 k j (by omega) (by omega), stM_k2]
                    subst ex100
                    refine lv_lmul hx hb dX8_determinant_101 ?_
                    refine lv_topl (fun x101 ex101 => ?_)
                    have ex101 : x101 = iL ((bs n2 M k).1 i k * (bs n2 M k).1 k j) := by rw [ex101, iL_mul]
                    subst ex101
                    refine lv_lsub hx hb dX8_determinant_102 ?_
                    refine lv_topl (fun x102 ex102 => ?_)
                    have ex102 : x102 = iL ((bs n2 M k).1 i j * (bs n2 M k).1 k k - (bs n2 M k).1 i k * (bs n2 M k).1 k j) := by rw [ex102, iL_sub]
                    subst ex102
                    refine lv_lload_n hx hb dX8_determinant_103 rfl (lv_at hl 2 rfl) ?_
                    refine lv_ldiv hx hb dX8_determinant_104 (iL_ne hc1.1 hc1.2.1 hc1.2.2) ?_
                    refine lv_topl (fun x104 ex104 => ?_)
                    have ex104 : x104 = iL (((bs n2 M k).1 i j * (bs n2 M k).1 k k - (bs n2 M k).1 i k * (bs n2 M k).1 k j).tdiv (bs n2 M k).2) := by rw [ex104]; exact iL_div (by omega) (by omega) hc1.1 hc1.2.1 hc1.2.2
                    subst ex104
                    have h105 : vp_in (nI (16 * i + j)) 256 := vp_in_nI (by omega) (by omega)
                    refine va_last hx hb hK hP hD hS 12 1 rfl rfl h105 dX8_determinant_105 (fun H locs hP hD hS => ?_)
                    obtain ⟨B105, eB105⟩ : ∃ zz : Nat → Nat → Int64, zz = va_up B_41 17 (vp_updL (B_41 17) (nI (16 * i + j)).toNatClampNeg (iL (((bs n2 M k).1 i j * (bs n2 M k).1 k k - (bs n2 M k).1 i k * (bs n2 M k).1 k j).tdiv (bs n2 M k).2))) := ⟨_, rfl⟩
                    have hP : va_P (dC, dI) vwCl (MW cI cJ cZ R (I, A, B105)) H := by rw [eB105]; exact hP
                    have hD : va_D Aa (MW cI cJ cZ R (I, A, B105)) := by rw [eB105]; exact hD
                    obtain ⟨x106, ex106⟩ : ∃ zz : Int32, zz = nI j + (1) := ⟨_, rfl⟩
                    refine lv_iinc (v := x106) (lv' := [(8, .int x106), (0, .ref (R 0)), (1, .int (nI n2)), (2, .long (iL (bs n2 M k).2)), (4, .int (nI k)), (5, .long (iL ((bs n2 M k).1 k k))), (7, .int (nI i))]) hx hb dX8_determinant_106 hl (k := 6) rfl (by rw [ex106]; rfl) (by decide) rfl (fun ls hl => ?_)
                    have ex106 : x106 = nI (j + 1) := by rw [ex106]; exact nI_1 j
                    subst ex106
                    refine lv_goto (tgt := 41) hx hb dX8_determinant_109 (by decide) ?_
                    exact ih41 (j + 1) B105 ls _ _ (by omega) ⟨by omega, by omega, by rw [← stM_up (by omega) (by omega) (by omega) (by omega), eB105, up_self, nI_clamp (by omega)]; exact rM_up hT3 (by omega) rfl _, fun x hx => by rw [eB105, up_ne hx]; exact hB3 x hx⟩ hP hD hS (lv_sub hl [1, 2, 3, 4, 5, 6, 0] rfl)
              exact K41 _ (k + 1) B_29 ls _ _ (Nat.lt_succ_self _) ⟨by omega, by omega, hT2, hB2⟩ hP hD hS (lv_sub hl [1, 2, 3, 4, 5, 6, 0] rfl)
        exact K29 _ (k + 1) B_5 ls _ _ (Nat.lt_succ_self _) ⟨by omega, by omega, by rw [stM_0]; exact hT, hB⟩ hP hD hS (lv_sub hl [2, 3, 4, 5, 1, 0] rfl)
  exact K5 _ 0 B ls _ _ (Nat.lt_succ_self _) ⟨Nat.zero_le _, hM, fun _ _ => rfl⟩ hP hD hS (lv_sub hl [2, 3, 1, 0] rfl)
