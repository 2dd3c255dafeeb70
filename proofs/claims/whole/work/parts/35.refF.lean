set_option maxHeartbeats 4000000 in
set_option maxRecDepth 100000 in
theorem k_X8_spread (l : Launch) (dC : Nat → ClassId) (dI : Nat → Nat → Nat) (cI cJ cZ cII cJJ : ClassId) (R : Nat → Nat) (I : Nat → Int32) (A : Nat → Nat → Int32) (B : Nat → Nat → Int64) (nv ne : Nat) (fr to wt : Nat → Nat) (g : gM nv ne fr to wt I A) (hd : dmA fr to ne ≤ 14) : ctI l (dC, dI) (tyL cI cJ cZ cII cJJ) (MW cI cJ cZ R) yX8_spread wsX8_spread (3, 80) [.ref (R 0)] (I, A, B) (fun r u => r = nI (2 ^ dmA fr to ne) ∧ (∀ c, c < 2 ^ dmA fr to ne → u.2.2 13 c = lN (elA fr to ne c) ∧ u.2.2 14 c = lN (wsum wt (elA fr to ne c) ne)) ∧ rJ nv (jRun fr to (fl ne) ne) u.1 u.2.1 u.2.2 ∧ fS I A B u) := by
  refine ctI_intro (cc := cX8_spread) (maxL := 4) (by decide) rfl (Nat.le_of_ble_eq_true rfl) ?_
  intro p e s m below meth c ls Aa Q F hK hN hP hD hS hA hl hret
  have hx := F.1
  have hb := F.2.1
  have hown : s.vm.findClass RX8 = some m.cls := F.2.2.2.1
  have hts := F.2.2.2.2
  have hinX8 : ∀ w ∈ wsX80, w ∈ wsX8_spread := by decide +kernel
  have hf39 := hts (.fieldLink RX8 39 "CycleHouseModel" "elements" "[J") (by decide +kernel)
  have hf64 := hts (.fieldLink RX8 64 "CycleHouseModel" "closed" "I") (by decide +kernel)
  have hf33 := hts (.fieldLink RX8 33 "CycleHouseModel" "closing" "[J") (by decide +kernel)
  have hf42 := hts (.fieldLink RX8 42 "CycleHouseModel" "weights" "[J") (by decide +kernel)
  have hl : lv_has ls 4 [(0, .ref (R 0))] := hl
  refine lv_iconst (v := 1) hx hb dX8_spread_0 (by decide) ?_
  refine lv_aload_n hx hb dX8_spread_1 rfl (lv_at hl 0 rfl) ?_
  refine ct_calli hD hS hA (va_runV (As := []) (rest := [.int 1]) F ((k_X8_dimension l dC dI cI cJ cZ cII cJJ R I A B nv ne fr to wt g) _) (cwV 0 hts gX8_spread_X8_dimension rfl rfl rfl (by decide +kernel) ⟨(Nat.le_of_ble_eq_true rfl), (Nat.le_of_ble_eq_true rfl)⟩) (ct_preV 0 8 hK hN hP hD rfl rfl) rfl rfl hl.1 rfl (lv_room (Nat.le_of_ble_eq_true rfl)) dX8_spread_2 ⟨(Nat.le_of_ble_eq_true rfl), (Nat.le_of_ble_eq_true rfl)⟩) (fun r2 u2 H locs w2 hP hD hS => ?_)
  obtain ⟨I2, A2, B2⟩ := u2
  have gg := g.fj w2.2.2
  have hq := w2.2.1
  have hpw := pw14 hd
  refine lv_ishl hx hb dX8_spread_5 ?_
  refine lv_topi (fun x5 ex5 => ?_)
  have ex5 : x5 = nI (2 ^ dmA fr to ne) := by rw [ex5, w2.1]; exact nm_ishl (Nat.lt_of_le_of_lt hd (by decide))
  subst ex5
  refine lv_istore_n (lv' := [(1, .int (nI (2 ^ dmA fr to ne))), (0, .ref (R 0))]) hx hb dX8_spread_6 rfl hl (by decide) rfl (fun ls hl => ?_)
  refine lv_iconst (v := 0) hx hb dX8_spread_7 (by decide) ?_
  refine lv_istore_n (lv' := [(2, .int 0), (1, .int (nI (2 ^ dmA fr to ne))), (0, .ref (R 0))]) hx hb dX8_spread_8 rfl hl (by decide) rfl (fun ls hl => ?_)
  have K9 : ∀ (kn : Nat) (k : Nat) (B_9 : Nat → Nat → Int64) (ls : Array Slot) (H : Heap) (locs : List Loc), 2 ^ (dmA fr to ne) - k < kn → (k ≤ 2 ^ (dmA fr to ne) ∧ (∀ c, c < k → B_9 13 c = lN (elA fr to ne c) ∧ B_9 14 c = lN (wsum wt (elA fr to ne c) ne)) ∧ (∀ j, j ≠ 13 → j ≠ 14 → B_9 j = B2 j)) → va_P (dC, dI) vwCl (MW cI cJ cZ R (I2, A2, B_9)) H → va_D Aa (MW cI cJ cZ R (I2, A2, B_9)) → va_S Aa s.heap H locs → lv_has ls 4 [(0, .ref (R 0)), (1, .int (nI (2 ^ dmA fr to ne))), (2, .int (nI k))] → W p l e (ctR (3, 80)) s m #[.ref (R 0)] below meth c H locs 0 0 Q (F0 m 9 ls []) := by
    intro kn
    induction kn with
    | zero => intro k B_9 ls H locs hmu; exact absurd hmu (Nat.not_lt_zero _)
    | succ kn ih9 =>
      intro k B_9 ls H locs mu9 inv9 hP hD hS hl
      obtain ⟨hk, b1, b2⟩ := inv9
      refine lv_iload_n hx hb dX8_spread_9 rfl (lv_at hl 2 rfl) ?_
      refine lv_iload_n hx hb dX8_spread_10 rfl (lv_at hl 1 rfl) ?_
      refine lv_icmp_ge (tgt := 83) hx hb dX8_spread_11 (by decide) (fun c11 => ?_) (fun c11 => ?_)
      · -- 11 taken
        rw [nI_leI (by omega) (by omega)] at c11
        have hge : k = 2 ^ (dmA fr to ne) := by omega
        refine lv_iload_n hx hb dX8_spread_83 rfl (lv_at hl 1 rfl) ?_
        refine hret 84 ls _ _ (nI (2 ^ dmA fr to ne)) (I2, A2, B_9) dX8_spread_84 rfl ?_ hP hD hS
        try dsimp only
        exact ⟨rfl, fun c hc => b1 c (by omega), ⟨hq.1, by rw [b2 9 (by decide) (by decide)]; exact hq.2.1, hq.2.2.1, by rw [b2 11 (by decide) (by decide)]; exact hq.2.2.2⟩, fS.of w2.2.2.1 w2.2.2.2.1 (fun j h1 h2 h3 h4 => (b2 j h3 h4).trans (w2.2.2.2.2 j h1 h2))⟩
      · -- 11 not
        rw [nI_leI (by omega) (by omega)] at c11
        have kcl : (nI k).toNatClampNeg = k := nI_clamp (by omega)
        have kin : vp_in (nI k) 16384 := vp_in_nI (by omega) (by omega)
        refine lv_aload_n hx hb dX8_spread_14 rfl (lv_at hl 0 rfl) ?_
        refine va_get (D := (dC, dI)) (ci := 8) (v := .ref (R 13)) (C := RX8) (T := TX8) (N := 20) hx hb hts hinX8 hown hK hP 0 rfl rfl 13 (by decide) hf39 (fun _ h9 => h9) rfl dX8_spread_15 ?_
        refine lv_iload_n hx hb dX8_spread_18 rfl (lv_at hl 2 rfl) ?_
        refine lv_lconst (v := 0) hx hb dX8_spread_19 (by decide) ?_
        have h20 : vp_in (nI k) 16384 := kin
        refine va_last hx hb hK hP hD hS 9 1 rfl rfl h20 dX8_spread_20 (fun H locs hP hD hS => ?_)
        obtain ⟨B20, eB20⟩ : ∃ z : Nat → Nat → Int64, z = va_up B_9 13 (vp_updL (B_9 13) (nI k).toNatClampNeg 0) := ⟨_, rfl⟩
        have hP : va_P (dC, dI) vwCl (MW cI cJ cZ R (I2, A2, B20)) H := by rw [eB20]; exact hP
        have hD : va_D Aa (MW cI cJ cZ R (I2, A2, B20)) := by rw [eB20]; exact hD
        refine lv_iconst (v := 0) hx hb dX8_spread_21 (by decide) ?_
        refine lv_istore_n (lv' := [(3, .int 0), (0, .ref (R 0)), (1, .int (nI (2 ^ dmA fr to ne))), (2, .int (nI k))]) hx hb dX8_spread_22 rfl hl (by decide) rfl (fun ls hl => ?_)
        have K23 : ∀ (kn : Nat) (i : Nat) (B_23 : Nat → Nat → Int64) (ls : Array Slot) (H : Heap) (locs : List Loc), dmA fr to ne - i < kn → (i ≤ dmA fr to ne ∧ B_23 13 k = lN (cb (rgA fr to ne) i k) ∧ (∀ c, c < k → B_23 13 c = lN (elA fr to ne c) ∧ B_23 14 c = lN (wsum wt (elA fr to ne c) ne)) ∧ (∀ j, j ≠ 13 → j ≠ 14 → B_23 j = B2 j)) → va_P (dC, dI) vwCl (MW cI cJ cZ R (I2, A2, B_23)) H → va_D Aa (MW cI cJ cZ R (I2, A2, B_23)) → va_S Aa s.heap H locs → lv_has ls 4 [(0, .ref (R 0)), (1, .int (nI (2 ^ dmA fr to ne))), (2, .int (nI k)), (3, .int (nI i))] → W p l e (ctR (3, 80)) s m #[.ref (R 0)] below meth c H locs 0 0 Q (F0 m 23 ls []) := by
          intro kn
          induction kn with
          | zero => intro i B_23 ls H locs hmu; exact absurd hmu (Nat.not_lt_zero _)
          | succ kn ih23 =>
            intro i B_23 ls H locs mu23 inv23 hP hD hS hl
            obtain ⟨hi, b3, b4, b5⟩ := inv23
            have b11 : B_23 11 = B2 11 := b5 11 (by decide) (by decide)
            refine lv_iload_n hx hb dX8_spread_23 rfl (lv_at hl 3 rfl) ?_
            refine lv_aload_n hx hb dX8_spread_24 rfl (lv_at hl 0 rfl) ?_
            refine va_get (D := (dC, dI)) (ci := 8) (v := .int (I2 10)) (C := RX8) (T := TX8) (N := 20) hx hb hts hinX8 hown hK hP 0 rfl rfl 10 (by decide) hf64 (fun _ h9 => h9) rfl dX8_spread_25 ?_
            refine lv_icmp_ge (tgt := 61) hx hb dX8_spread_28 (by decide) (fun c28 => ?_) (fun c28 => ?_)
            · -- 28 taken
              rw [show I2 10 = nI (dmA fr to ne) from hq.2.2.1, nI_leI (by omega) (by omega)] at c28
              have hge : i = dmA fr to ne := by omega
              rw [hge] at b3
              refine lv_aload_n hx hb dX8_spread_61 rfl (lv_at hl 0 rfl) ?_
              refine va_get (D := (dC, dI)) (ci := 8) (v := .ref (R 14)) (C := RX8) (T := TX8) (N := 20) hx hb hts hinX8 hown hK hP 0 rfl rfl 14 (by decide) hf42 (fun _ h9 => h9) rfl dX8_spread_62 ?_
              refine lv_iload_n hx hb dX8_spread_65 rfl (lv_at hl 2 rfl) ?_
              refine lv_aload_n hx hb dX8_spread_66 rfl (lv_at hl 0 rfl) ?_
              refine lv_aload_n hx hb dX8_spread_67 rfl (lv_at hl 0 rfl) ?_
              refine va_get (D := (dC, dI)) (ci := 8) (v := .ref (R 13)) (C := RX8) (T := TX8) (N := 20) hx hb hts hinX8 hown hK hP 0 rfl rfl 13 (by decide) hf39 (fun _ h9 => h9) rfl dX8_spread_68 ?_
              refine lv_iload_n hx hb dX8_spread_71 rfl (lv_at hl 2 rfl) ?_
              have h72 : vp_in (nI k) 16384 := kin
              refine va_lald hx hb hK hP 9 1 rfl rfl h72 dX8_spread_72 ?_
              refine lv_topl (fun x72 ex72 => ?_)
              have ex72 : x72 = B_23 13 (nI k).toNatClampNeg := ex72
              have ex72 : x72 = lN (elA fr to ne k) := by rw [ex72, kcl]; exact b3
              subst ex72
              refine ct_calll hD hS hA (va_runV (As := [.long (lN (elA fr to ne k))]) (rest := [.int (nI k), .ref (R 14)]) F ((k_X8_weightOf l dC dI cI cJ cZ cII cJJ R I2 A2 B_23 nv ne fr to wt (elA fr to ne k) gg (pw40 (elA_lt (by have := g.2.2.1; omega) g.en (Nat.le_refl _)) g.2.2.1)) _) (cwV 1 hts gX8_spread_X8_weightOf rfl rfl rfl (by decide +kernel) ⟨(Nat.le_of_ble_eq_true rfl), (Nat.le_of_ble_eq_true rfl)⟩) (ct_preV 0 8 hK hN hP hD rfl rfl) rfl rfl hl.1 rfl (lv_room (Nat.le_of_ble_eq_true rfl)) dX8_spread_73 ⟨(Nat.le_of_ble_eq_true rfl), (Nat.le_of_ble_eq_true rfl)⟩) (fun r73 u73 H locs w73 hP hD hS => ?_)
              obtain ⟨w73, rfl⟩ := w73
              have h76 : vp_in (nI k) 16384 := kin
              refine va_last hx hb hK hP hD hS 10 1 rfl rfl h76 dX8_spread_76 (fun H locs hP hD hS => ?_)
              obtain ⟨B76, eB76⟩ : ∃ z : Nat → Nat → Int64, z = va_up B_23 14 (vp_updL (B_23 14) (nI k).toNatClampNeg r73) := ⟨_, rfl⟩
              have hP : va_P (dC, dI) vwCl (MW cI cJ cZ R (I2, A2, B76)) H := by rw [eB76]; exact hP
              have hD : va_D Aa (MW cI cJ cZ R (I2, A2, B76)) := by rw [eB76]; exact hD
              obtain ⟨x77, ex77⟩ : ∃ y : Int32, y = nI k + (1) := ⟨_, rfl⟩
              refine lv_iinc (v := x77) (lv' := [(2, .int x77), (0, .ref (R 0)), (1, .int (nI (2 ^ dmA fr to ne))), (3, .int (nI i))]) hx hb dX8_spread_77 hl (k := 2) rfl (by rw [ex77]; rfl) (by decide) rfl (fun ls hl => ?_)
              have ex77 : x77 = nI (k + 1) := by rw [ex77]; exact nI_1 k
              subst ex77
              refine lv_goto (tgt := 9) hx hb dX8_spread_80 (by decide) ?_
              exact ih9 (k + 1) B76 ls _ _ (by omega) ⟨by omega, fun c hc => by
            rw [eB76, up_ne (by decide), up_self, kcl]
            by_cases hck : c = k
            · subst hck; rw [pk_uLs, w73]; exact ⟨b3, rfl⟩
            · rw [pk_uLn hck]; exact b4 c (by omega), fun j h1 h2 => by rw [eB76, up_ne h2]; exact b5 j h1 h2⟩ hP hD hS (lv_sub hl [1, 2, 0] rfl)
            · -- 28 not
              rw [show I2 10 = nI (dmA fr to ne) from hq.2.2.1, nI_leI (by omega) (by omega)] at c28
              have icl : (nI i).toNatClampNeg = i := nI_clamp (by omega)
              refine lv_iload_n hx hb dX8_spread_31 rfl (lv_at hl 2 rfl) ?_
              refine lv_iload_n hx hb dX8_spread_32 rfl (lv_at hl 3 rfl) ?_
              refine lv_ishr hx hb dX8_spread_33 ?_
              refine lv_topi (fun x33 ex33 => ?_)
              refine lv_iconst (v := 1) hx hb dX8_spread_34 (by decide) ?_
              refine lv_iand hx hb dX8_spread_35 ?_
              refine lv_topi (fun x35 ex35 => ?_)
              refine lv_iconst (v := 1) hx hb dX8_spread_36 (by decide) ?_
              refine lv_icmp_ne (tgt := 55) hx hb dX8_spread_37 (by decide) (fun c37 => ?_) (fun c37 => ?_)
              · -- 37 taken
                rw [ex35, ex33, nm_ibit1 (by omega) (by omega)] at c37
                obtain ⟨x55, ex55⟩ : ∃ y : Int32, y = nI i + (1) := ⟨_, rfl⟩
                refine lv_iinc (v := x55) (lv' := [(3, .int x55), (0, .ref (R 0)), (1, .int (nI (2 ^ dmA fr to ne))), (2, .int (nI k))]) hx hb dX8_spread_55 hl (k := 3) rfl (by rw [ex55]; rfl) (by decide) rfl (fun ls hl => ?_)
                have ex55 : x55 = nI (i + 1) := by rw [ex55]; exact nI_1 i
                subst ex55
                refine lv_goto (tgt := 23) hx hb dX8_spread_58 (by decide) ?_
                exact ih23 (i + 1) B_23 ls _ _ (by omega) ⟨by omega, by rw [cb, if_neg c37, Nat.xor_zero]; exact b3, b4, b5⟩ hP hD hS (lv_sub hl [1, 2, 3, 0] rfl)
              · -- 37 not
                rw [ex35, ex33, nm_ibit1 (by omega) (by omega)] at c37
                refine lv_aload_n hx hb dX8_spread_40 rfl (lv_at hl 0 rfl) ?_
                refine va_get (D := (dC, dI)) (ci := 8) (v := .ref (R 13)) (C := RX8) (T := TX8) (N := 20) hx hb hts hinX8 hown hK hP 0 rfl rfl 13 (by decide) hf39 (fun _ h9 => h9) rfl dX8_spread_41 ?_
                refine lv_iload_n hx hb dX8_spread_44 rfl (lv_at hl 2 rfl) ?_
                refine lv_dup2_11 hx hb dX8_spread_45 rfl rfl ?_
                have h46 : vp_in (nI k) 16384 := kin
                refine va_lald hx hb hK hP 9 1 rfl rfl h46 dX8_spread_46 ?_
                refine lv_topl (fun x46 ex46 => ?_)
                have ex46 : x46 = B_23 13 (nI k).toNatClampNeg := ex46
                refine lv_aload_n hx hb dX8_spread_47 rfl (lv_at hl 0 rfl) ?_
                refine va_get (D := (dC, dI)) (ci := 8) (v := .ref (R 11)) (C := RX8) (T := TX8) (N := 20) hx hb hts hinX8 hown hK hP 0 rfl rfl 11 (by decide) hf33 (fun _ h9 => h9) rfl dX8_spread_48 ?_
                refine lv_iload_n hx hb dX8_spread_51 rfl (lv_at hl 3 rfl) ?_
                have h52 : vp_in (nI i) 40 := vp_in_nI (by omega) (by omega)
                refine va_lald hx hb hK hP 7 1 rfl rfl h52 dX8_spread_52 ?_
                refine lv_topl (fun x52 ex52 => ?_)
                have ex52 : x52 = B_23 11 (nI i).toNatClampNeg := ex52
                refine lv_lxor hx hb dX8_spread_53 ?_
                refine lv_topl (fun x53 ex53 => ?_)
                have h54 : vp_in (nI k) 16384 := kin
                refine va_last hx hb hK hP hD hS 9 1 rfl rfl h54 dX8_spread_54 (fun H locs hP hD hS => ?_)
                obtain ⟨B54, eB54⟩ : ∃ z : Nat → Nat → Int64, z = va_up B_23 13 (vp_updL (B_23 13) (nI k).toNatClampNeg x53) := ⟨_, rfl⟩
                have hP : va_P (dC, dI) vwCl (MW cI cJ cZ R (I2, A2, B54)) H := by rw [eB54]; exact hP
                have hD : va_D Aa (MW cI cJ cZ R (I2, A2, B54)) := by rw [eB54]; exact hD
                obtain ⟨x55, ex55⟩ : ∃ y : Int32, y = nI i + (1) := ⟨_, rfl⟩
                refine lv_iinc (v := x55) (lv' := [(3, .int x55), (0, .ref (R 0)), (1, .int (nI (2 ^ dmA fr to ne))), (2, .int (nI k))]) hx hb dX8_spread_55 hl (k := 3) rfl (by rw [ex55]; rfl) (by decide) rfl (fun ls hl => ?_)
                have ex55 : x55 = nI (i + 1) := by rw [ex55]; exact nI_1 i
                subst ex55
                refine lv_goto (tgt := 23) hx hb dX8_spread_58 (by decide) ?_
                exact ih23 (i + 1) B54 ls _ _ (by omega) ⟨by omega, by rw [eB54, up_self, kcl, pk_uLs, ex53, ex46, ex52, kcl, icl, b3, b11, show B2 11 i = lN (rgA fr to ne i) from (hq.2.2.2 i (Nat.lt_of_not_le c28)).1, lN_xor, cb, if_pos c37], fun c hc => by rw [eB54, up_self, up_ne (by decide), kcl, pk_uLn (by omega)]; exact b4 c hc, fun j h1 h2 => by rw [eB54, up_ne h1]; exact b5 j h1 h2⟩ hP hD hS (lv_sub hl [1, 2, 3, 0] rfl)
        exact K23 _ 0 B20 ls _ _ (Nat.lt_succ_self _) ⟨by omega, by rw [eB20, up_self, kcl, pk_uLs]; rfl, fun c hc => by rw [eB20, up_self, up_ne (by decide), kcl, pk_uLn (by omega)]; exact b1 c hc, fun j h1 h2 => by rw [eB20, up_ne h1]; exact b2 j h1 h2⟩ hP hD hS (lv_sub hl [1, 2, 3, 0] rfl)
  exact K9 _ 0 B2 ls _ _ (Nat.lt_succ_self _) ⟨Nat.zero_le _, fun c h => absurd h (by omega), fun _ _ _ => rfl⟩ hP hD hS (lv_sub hl [2, 1, 0] rfl)
