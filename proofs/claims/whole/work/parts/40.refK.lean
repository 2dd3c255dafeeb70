set_option maxHeartbeats 4000000 in
set_option maxRecDepth 100000 in
theorem k_X8_rest (l : Launch) (dC : Nat → ClassId) (dI : Nat → Nat → Nat) (cI cJ cZ cII cJJ : ClassId) (R : Nat → Nat) (I : Nat → Int32) (A : Nat → Nat → Int32) (B : Nat → Nat → Int64) (b rd : Nat) (rows : Nat → Nat) (z : Nat) (hbb : b ≤ 40) (hr : rR b rd rows I B) (hk : rd ≤ 40) (hz : z < 2 ^ b) : ctL l (dC, dI) (tyL cI cJ cZ cII cJJ) (MW cI cJ cZ R) yX8_rest wsX8_rest (0, 0) [.ref (R 0), .long (lN z)] (I, A, B) (fun r u => r = lN (rsn rows rd z) ∧ u = (I, A, B)) := by
  refine ctL_intro (cc := cX8_rest) (maxL := 6) (by decide) rfl (Nat.le_of_ble_eq_true rfl) ?_
  intro p e s m below meth c ls Aa Q F hK hN hP hD hS hA hl hret
  have hx := F.1
  have hb := F.2.1
  have hown : s.vm.findClass RX8 = some m.cls := F.2.2.2.1
  have hts := F.2.2.2.2
  have hinX8 : ∀ w ∈ wsX80, w ∈ wsX8_rest := by decide +kernel
  have hf130 := hts (.fieldLink RX8 130 "CycleHouseModel" "rowed" "I") (by decide +kernel)
  have hf45 := hts (.fieldLink RX8 45 "CycleHouseModel" "rows" "[J") (by decide +kernel)
  have hl : lv_has ls 6 [(0, .ref (R 0)), (1, .long (lN z))] := hl
  refine lv_lload_n hx hb dX8_rest_0 rfl (lv_at hl 1 rfl) ?_
  refine lv_lstore_n (lv' := [(3, .long (lN z)), (0, .ref (R 0)), (1, .long (lN z))]) hx hb dX8_rest_1 rfl hl (by decide) rfl (fun ls hl => ?_)
  refine lv_iconst (v := 0) hx hb dX8_rest_2 (by decide) ?_
  refine lv_istore (lv' := [(5, .int 0), (3, .long (lN z)), (0, .ref (R 0)), (1, .long (lN z))]) hx hb dX8_rest_3 hl (by decide) rfl (fun ls hl => ?_)
  have K5 : ∀ (kn : Nat) (i : Nat) (y : Int64) (ls : Array Slot) (H : Heap) (locs : List Loc), rd - i < kn → (i ≤ rd ∧ y = lN (rsn rows i z)) → va_P (dC, dI) vwCl (MW cI cJ cZ R (I, A, B)) H → va_D Aa (MW cI cJ cZ R (I, A, B)) → va_S Aa s.heap H locs → lv_has ls 6 [(0, .ref (R 0)), (1, .long (lN z)), (3, .long y), (5, .int (nI i))] → W p l e (ctR (0, 0)) s m #[.ref (R 0), .long (lN z)] below meth c H locs 0 0 Q (F0 m 5 ls []) := by
    intro kn
    induction kn with
    | zero => intro i y ls H locs hmu; exact absurd hmu (Nat.not_lt_zero _)
    | succ kn ih5 =>
      intro i y ls H locs mu5 inv5 hP hD hS hl
      obtain ⟨hi, ey⟩ := inv5
      refine lv_iload hx hb dX8_rest_5 (lv_at hl 3 rfl) ?_
      refine lv_aload_n hx hb dX8_rest_7 rfl (lv_at hl 0 rfl) ?_
      refine va_get (D := (dC, dI)) (ci := 8) (v := .int (I 16)) (C := RX8) (T := TX8) (N := 20) hx hb hts hinX8 hown hK hP 0 rfl rfl 16 (by decide) hf130 (fun _ h9 => h9) rfl dX8_rest_8 ?_
      refine lv_icmp_ge (tgt := 44) hx hb dX8_rest_11 (by decide) (fun c11 => ?_) (fun c11 => ?_)
      · -- 11 taken
        rw [hr.1, nI_leI (by omega) (by omega)] at c11
        have hge : i = rd := by omega
        rw [hge] at ey
        refine lv_lload_n hx hb dX8_rest_44 rfl (lv_at hl 2 rfl) ?_
        refine hret 45 ls _ _ y (I, A, B) dX8_rest_45 ?_ hP hD hS
        try dsimp only
        exact ⟨ey, rfl⟩
      · -- 11 not
        rw [hr.1, nI_leI (by omega) (by omega)] at c11
        have icl : (nI i).toNatClampNeg = i := nI_clamp (by omega)
        have iin : vp_in (nI i) 64 := vp_in_nI (by omega) (by omega)
        have l1 := rsn_lt hz i (fun j hj => (hr.2 j (by omega)).2)
        have l2 := pwb (Nat.xor_lt_two_pow l1 (hr.2 i (by omega)).2) hbb
        have l1 := pwb l1 hbb
        refine lv_lload_n hx hb dX8_rest_14 rfl (lv_at hl 2 rfl) ?_
        refine lv_aload_n hx hb dX8_rest_15 rfl (lv_at hl 0 rfl) ?_
        refine va_get (D := (dC, dI)) (ci := 8) (v := .ref (R 15)) (C := RX8) (T := TX8) (N := 20) hx hb hts hinX8 hown hK hP 0 rfl rfl 15 (by decide) hf45 (fun _ h9 => h9) rfl dX8_rest_16 ?_
        refine lv_iload hx hb dX8_rest_19 (lv_at hl 3 rfl) ?_
        have h21 : vp_in (nI i) 64 := iin
        refine va_lald hx hb hK hP 11 1 rfl rfl h21 dX8_rest_21 ?_
        refine lv_topl (fun x21 ex21 => ?_)
        have ex21 : x21 = B 15 (nI i).toNatClampNeg := ex21
        refine lv_lxor hx hb dX8_rest_22 ?_
        refine lv_topl (fun x22 ex22 => ?_)
        have ex22 : x22 = lN (rsn rows i z ^^^ rows i) := by rw [ex22, ex21, icl, (hr.2 i (by omega)).1, ey, lN_xor]
        subst ex22
        refine lv_lload_n hx hb dX8_rest_23 rfl (lv_at hl 2 rfl) ?_
        refine W.lcmp hx hb dX8_rest_24 ?_
        refine lv_if_ge (tgt := 38) hx hb dX8_rest_25 (by decide) (fun c25 => ?_) (fun c25 => ?_)
        · -- 25 taken
          rw [lg_cmp_ge] at c25
          rw [ey, pk_lLE l1 l2] at c25
          obtain ⟨x38, ex38⟩ : ∃ zz : Int32, zz = nI i + (1) := ⟨_, rfl⟩
          refine lv_iinc (v := x38) (lv' := [(5, .int x38), (0, .ref (R 0)), (1, .long (lN z)), (3, .long y)]) hx hb dX8_rest_38 hl (k := 3) rfl (by rw [ex38]; rfl) (by decide) rfl (fun ls hl => ?_)
          have ex38 : x38 = nI (i + 1) := by rw [ex38]; exact nI_1 i
          subst ex38
          refine lv_goto (tgt := 5) hx hb dX8_rest_41 (by decide) ?_
          exact ih5 (i + 1) y ls _ _ (by omega) ⟨by omega, by rw [rsn, if_neg (by omega)]; exact ey⟩ hP hD hS (lv_sub hl [1, 2, 3, 0] rfl)
        · -- 25 not
          rw [lg_cmp_ge] at c25
          rw [ey, pk_lLE l1 l2] at c25
          refine lv_lload_n hx hb dX8_rest_28 rfl (lv_at hl 2 rfl) ?_
          refine lv_aload_n hx hb dX8_rest_29 rfl (lv_at hl 0 rfl) ?_
          refine va_get (D := (dC, dI)) (ci := 8) (v := .ref (R 15)) (C := RX8) (T := TX8) (N := 20) hx hb hts hinX8 hown hK hP 0 rfl rfl 15 (by decide) hf45 (fun _ h9 => h9) rfl dX8_rest_30 ?_
          refine lv_iload hx hb dX8_rest_33 (lv_at hl 3 rfl) ?_
          have h35 : vp_in (nI i) 64 := iin
          refine va_lald hx hb hK hP 11 1 rfl rfl h35 dX8_rest_35 ?_
          refine lv_topl (fun x35 ex35 => ?_)
          have ex35 : x35 = B 15 (nI i).toNatClampNeg := ex35
          refine lv_lxor hx hb dX8_rest_36 ?_
          refine lv_topl (fun x36 ex36 => ?_)
          have ex36 : x36 = lN (rsn rows i z ^^^ rows i) := by rw [ex36, ex35, icl, (hr.2 i (by omega)).1, ey, lN_xor]
          subst ex36
          refine lv_lstore_n (lv' := [(3, .long (lN (rsn rows i z ^^^ rows i))), (0, .ref (R 0)), (1, .long (lN z)), (5, .int (nI i))]) hx hb dX8_rest_37 rfl hl (by decide) rfl (fun ls hl => ?_)
          obtain ⟨x38, ex38⟩ : ∃ zz : Int32, zz = nI i + (1) := ⟨_, rfl⟩
          refine lv_iinc (v := x38) (lv' := [(5, .int x38), (3, .long (lN (rsn rows i z ^^^ rows i))), (0, .ref (R 0)), (1, .long (lN z))]) hx hb dX8_rest_38 hl (k := 3) rfl (by rw [ex38]; rfl) (by decide) rfl (fun ls hl => ?_)
          have ex38 : x38 = nI (i + 1) := by rw [ex38]; exact nI_1 i
          subst ex38
          refine lv_goto (tgt := 5) hx hb dX8_rest_41 (by decide) ?_
          exact ih5 (i + 1) (lN (rsn rows i z ^^^ rows i)) ls _ _ (by omega) ⟨by omega, by rw [rsn, if_pos (by omega)]⟩ hP hD hS (lv_sub hl [2, 3, 1, 0] rfl)
  exact K5 _ 0 (lN z) ls _ _ (Nat.lt_succ_self _) ⟨Nat.zero_le _, rfl⟩ hP hD hS (lv_sub hl [2, 3, 1, 0] rfl)
set_option maxHeartbeats 4000000 in
set_option maxRecDepth 100000 in
theorem k_X8_take (l : Launch) (dC : Nat → ClassId) (dI : Nat → Nat → Nat) (cI cJ cZ cII cJJ : ClassId) (R : Nat → Nat) (I : Nat → Int32) (A : Nat → Nat → Int32) (B : Nat → Nat → Int64) (b rd : Nat) (rows : Nat → Nat) (P : Nat → Prop) (z : Nat) (hbb : b ≤ 40) (hr : rR b rd rows I B) (hs : rowsS rd rows P) (hz : z < 2 ^ b) : ctI l (dC, dI) (tyL cI cJ cZ cII cJJ) (MW cI cJ cZ R) yX8_take wsX8_take (1, 30) [.ref (R 0), .long (lN z)] (I, A, B) (fun r u => ∃ rd2 rows2, rR b rd2 rows2 u.1 u.2.2 ∧ rowsS rd2 rows2 (fun a => P a ∨ a = z) ∧ ((spS P z ∧ r = 0 ∧ rd2 = rd) ∨ (¬ spS P z ∧ r = 1 ∧ rd2 = rd + 1)) ∧ (∀ k, k ≠ 16 → u.1 k = I k) ∧ u.2.1 = A ∧ ∀ k, k ≠ 15 → u.2.2 k = B k) := by
  refine ctI_intro (cc := cX8_take) (maxL := 6) (by decide) rfl (Nat.le_of_ble_eq_true rfl) ?_
  intro p e s m below meth c ls Aa Q F hK hN hP hD hS hA hl hret
  have hx := F.1
  have hb := F.2.1
  have hown : s.vm.findClass RX8 = some m.cls := F.2.2.2.1
  have hts := F.2.2.2.2
  have hinX8 : ∀ w ∈ wsX80, w ∈ wsX8_take := by decide +kernel
  have hf130 := hts (.fieldLink RX8 130 "CycleHouseModel" "rowed" "I") (by decide +kernel)
  have hf45 := hts (.fieldLink RX8 45 "CycleHouseModel" "rows" "[J") (by decide +kernel)
  have hl : lv_has ls 6 [(0, .ref (R 0)), (1, .long (lN z))] := hl
  have hk : rd ≤ 40 := Nat.le_trans (rowsOK_le hs.1 (fun i hi => (hr.2 i hi).2)) hbb
  have lz := rsn_lt hz rd (fun j hj => (hr.2 j hj).2)
  have lz2 := pwb lz hbb
  refine lv_aload_n hx hb dX8_take_0 rfl (lv_at hl 0 rfl) ?_
  refine lv_lload_n hx hb dX8_take_1 rfl (lv_at hl 1 rfl) ?_
  refine ct_calll hD hS hA (va_runV (As := [.long (lN z)]) (rest := []) F ((k_X8_rest l dC dI cI cJ cZ cII cJJ R I A B b rd rows z hbb hr hk hz) _) (cwV 1 hts gX8_take_X8_rest rfl rfl rfl (by decide +kernel) ⟨(Nat.le_of_ble_eq_true rfl), (Nat.le_of_ble_eq_true rfl)⟩) (ct_preV 0 8 hK hN hP hD rfl rfl) rfl rfl hl.1 rfl (lv_room (Nat.le_of_ble_eq_true rfl)) dX8_take_2 ⟨(Nat.le_of_ble_eq_true rfl), (Nat.le_of_ble_eq_true rfl)⟩) (fun r2 u2 H locs w2 hP hD hS => ?_)
  obtain ⟨w2, rfl⟩ := w2
  have er2 : r2 = lN (rsn rows rd z) := w2
  subst er2
  refine lv_lstore_n (lv' := [(3, .long (lN (rsn rows rd z))), (0, .ref (R 0)), (1, .long (lN z))]) hx hb dX8_take_5 rfl hl (by decide) rfl (fun ls hl => ?_)
  refine lv_lload_n hx hb dX8_take_6 rfl (lv_at hl 0 rfl) ?_
  refine lv_lconst (v := 0) hx hb dX8_take_7 (by decide) ?_
  refine W.lcmp hx hb dX8_take_8 ?_
  refine lv_if_ne (tgt := 14) hx hb dX8_take_9 (by decide) (fun c9 => ?_) (fun c9 => ?_)
  · -- 9 taken
    rw [lg_cmp_eq] at c9
    have hne : rsn rows rd z ≠ 0 := fun h => c9 (by rw [h]; rfl)
    refine lv_aload_n hx hb dX8_take_14 rfl (lv_at hl 1 rfl) ?_
    refine va_get (D := (dC, dI)) (ci := 8) (v := .int (I 16)) (C := RX8) (T := TX8) (N := 20) hx hb hts hinX8 hown hK hP 0 rfl rfl 16 (by decide) hf130 (fun _ h9 => h9) rfl dX8_take_15 ?_
    rw [show I 16 = nI rd from hr.1]
    refine lv_istore (lv' := [(5, .int (nI rd)), (3, .long (lN (rsn rows rd z))), (0, .ref (R 0)), (1, .long (lN z))]) hx hb dX8_take_18 hl (by decide) rfl (fun ls hl => ?_)
    have K20 : ∀ (kn : Nat) (p2 : Nat) (B_20 : Nat → Nat → Int64) (ls : Array Slot) (H : Heap) (locs : List Loc), p2 < kn → (p2 ≤ rd ∧ (∀ i, i < p2 → B_20 15 i = lN (rows i)) ∧ (∀ i, p2 ≤ i → i < rd → B_20 15 (i + 1) = lN (rows i) ∧ rows i < rsn rows rd z) ∧ ∀ k, k ≠ 15 → B_20 k = B k) → va_P (dC, dI) vwCl (MW cI cJ cZ R (I, A, B_20)) H → va_D Aa (MW cI cJ cZ R (I, A, B_20)) → va_S Aa s.heap H locs → lv_has ls 6 [(0, .ref (R 0)), (1, .long (lN z)), (3, .long (lN (rsn rows rd z))), (5, .int (nI p2))] → W p l e (ctR (1, 30)) s m #[.ref (R 0), .long (lN z)] below meth c H locs 0 0 Q (F0 m 20 ls []) := by
      intro kn
      induction kn with
      | zero => intro p2 B_20 ls H locs hmu; exact absurd hmu (Nat.not_lt_zero _)
      | succ kn ih20 =>
        intro p2 B_20 ls H locs mu20 inv20 hP hD hS hl
        obtain ⟨hp, b1, b2, b3⟩ := inv20
        have pcl : (nI p2).toNatClampNeg = p2 := nI_clamp (by omega)
        have pin : vp_in (nI p2) 64 := vp_in_nI (by omega) (by omega)
        refine lv_iload hx hb dX8_take_20 (lv_at hl 3 rfl) ?_
        refine lv_if_le (tgt := 61) hx hb dX8_take_22 (by decide) (fun c22 => ?_) (fun c22 => ?_)
        · -- 22 taken
          have hp0 : p2 = 0 := by have := (nI_leI (b := 0) (by omega) (by omega)).mp c22; omega
          refine lv_aload_n hx hb dX8_take_61 rfl (lv_at hl 0 rfl) ?_
          refine va_get (D := (dC, dI)) (ci := 8) (v := .ref (R 15)) (C := RX8) (T := TX8) (N := 20) hx hb hts hinX8 hown hK hP 0 rfl rfl 15 (by decide) hf45 (fun _ h9 => h9) rfl dX8_take_62 ?_
          refine lv_iload hx hb dX8_take_65 (lv_at hl 3 rfl) ?_
          refine lv_lload_n hx hb dX8_take_67 rfl (lv_at hl 2 rfl) ?_
          have h68 : vp_in (nI p2) 64 := pin
          refine va_last hx hb hK hP hD hS 11 1 rfl rfl h68 dX8_take_68 (fun H locs hP hD hS => ?_)
          obtain ⟨B68, eB68⟩ : ∃ zz : Nat → Nat → Int64, zz = va_up B_20 15 (vp_updL (B_20 15) (nI p2).toNatClampNeg (lN (rsn rows rd z))) := ⟨_, rfl⟩
          have hP : va_P (dC, dI) vwCl (MW cI cJ cZ R (I, A, B68)) H := by rw [eB68]; exact hP
          have hD : va_D Aa (MW cI cJ cZ R (I, A, B68)) := by rw [eB68]; exact hD
          refine lv_aload_n hx hb dX8_take_69 rfl (lv_at hl 0 rfl) ?_
          refine lv_dup hx hb dX8_take_70 rfl ?_
          refine va_get (D := (dC, dI)) (ci := 8) (v := .int (I 16)) (C := RX8) (T := TX8) (N := 20) hx hb hts hinX8 hown hK hP 0 rfl rfl 16 (by decide) hf130 (fun _ h9 => h9) rfl dX8_take_71 ?_
          refine lv_iconst (v := 1) hx hb dX8_take_74 (by decide) ?_
          refine lv_iadd hx hb dX8_take_75 ?_
          refine lv_topi (fun x75 ex75 => ?_)
          refine va_put (D := (dC, dI)) (ci := 8) (v := .int x75) (ty := .int) (C := RX8) (T := TX8) (N := 20) hx hb hts hinX8 tyX8 tyX8_ok nmX8 hown hK hP hD hS 0 rfl rfl 16 (by decide) hf130 (fun _ h9 => h9) rfl (by decide +kernel) rfl rfl (Nat.le_of_ble_eq_true rfl) dX8_take_76 (fun H locs hP hD hS => ?_)
          obtain ⟨I76, eI76⟩ : ∃ zz : Nat → Int32, zz = va_up I 16 x75 := ⟨_, rfl⟩
          have hP : va_P (dC, dI) vwCl (MW cI cJ cZ R (I76, A, B68)) H := by rw [eI76]; exact hP
          have hD : va_D Aa (MW cI cJ cZ R (I76, A, B68)) := by rw [eI76]; exact hD
          refine lv_iconst (v := 1) hx hb dX8_take_79 (by decide) ?_
          refine hret 80 ls _ _ 1 (I76, A, B68) dX8_take_80 rfl ?_ hP hD hS
          try dsimp only
          refine ?_
          have l1 : ∀ i, i < p2 → rsn rows rd z ≤ rows i := fun i h => absurd h (by omega)
          refine ⟨rd + 1, insR rows p2 (rsn rows rd z), ⟨by show I76 16 = _; rw [eI76, up_self, ex75, hr.1]; exact nI_1 rd, fun k hk => ?_⟩, hs.ins hp hne l1 (fun i a b => (b2 i a b).2), Or.inr ⟨fun h => hne ((hs.rest z).mpr h), rfl, rfl⟩, fun k hk => by show I76 k = _; rw [eI76, up_ne hk], rfl, fun k hk => by show B68 k = _; rw [eB68, up_ne hk]; exact b3 k hk⟩
          show B68 15 k = _ ∧ _
          rw [eB68, up_self, pcl]
          unfold insR
          by_cases k1 : k < p2
          · rw [if_pos k1, pk_uLn (by omega)]; exact ⟨b1 k k1, (hr.2 k (by omega)).2⟩
          · by_cases k2 : k = p2
            · rw [if_neg k1, if_pos k2, k2, pk_uLs]; exact ⟨rfl, lz⟩
            · rw [if_neg k1, if_neg k2, pk_uLn k2]
              have := b2 (k - 1) (by omega) (by omega)
              rw [show k - 1 + 1 = k by omega] at this
              exact ⟨this.1, (hr.2 (k - 1) (by omega)).2⟩
        · -- 22 not
          have hp0 : 0 < p2 := Nat.pos_of_ne_zero (fun h => c22 (by rw [h]; decide))
          have qcl : (nI (p2 - 1)).toNatClampNeg = p2 - 1 := nI_clamp (by omega)
          have qin : vp_in (nI (p2 - 1)) 64 := vp_in_nI (by omega) (by omega)
          refine lv_aload_n hx hb dX8_take_25 rfl (lv_at hl 0 rfl) ?_
          refine va_get (D := (dC, dI)) (ci := 8) (v := .ref (R 15)) (C := RX8) (T := TX8) (N := 20) hx hb hts hinX8 hown hK hP 0 rfl rfl 15 (by decide) hf45 (fun _ h9 => h9) rfl dX8_take_26 ?_
          refine lv_iload hx hb dX8_take_29 (lv_at hl 3 rfl) ?_
          refine lv_iconst (v := 1) hx hb dX8_take_31 (by decide) ?_
          refine lv_isub hx hb dX8_take_32 ?_
          refine lv_topi (fun x32 ex32 => ?_)
          have ex32 : x32 = nI (p2 - 1) := by rw [ex32]; exact pk_sub (b := 1) (by omega)
          subst ex32
          have h33 : vp_in (nI (p2 - 1)) 64 := qin
          refine va_lald hx hb hK hP 11 1 rfl rfl h33 dX8_take_33 ?_
          refine lv_topl (fun x33 ex33 => ?_)
          have ex33 : x33 = B_20 15 (nI (p2 - 1)).toNatClampNeg := ex33
          have ex33 : x33 = lN (rows (p2 - 1)) := by rw [ex33, qcl]; exact b1 _ (by omega)
          subst ex33
          refine lv_lload_n hx hb dX8_take_34 rfl (lv_at hl 2 rfl) ?_
          refine W.lcmp hx hb dX8_take_35 ?_
          refine lv_if_ge (tgt := 61) hx hb dX8_take_36 (by decide) (fun c36 => ?_) (fun c36 => ?_)
          · -- 36 taken
            rw [lg_cmp_ge] at c36
            rw [pk_lLE lz2 (pwb (hr.2 _ (by omega)).2 hbb)] at c36
            refine lv_aload_n hx hb dX8_take_61 rfl (lv_at hl 0 rfl) ?_
            refine va_get (D := (dC, dI)) (ci := 8) (v := .ref (R 15)) (C := RX8) (T := TX8) (N := 20) hx hb hts hinX8 hown hK hP 0 rfl rfl 15 (by decide) hf45 (fun _ h9 => h9) rfl dX8_take_62 ?_
            refine lv_iload hx hb dX8_take_65 (lv_at hl 3 rfl) ?_
            refine lv_lload_n hx hb dX8_take_67 rfl (lv_at hl 2 rfl) ?_
            have h68 : vp_in (nI p2) 64 := pin
            refine va_last hx hb hK hP hD hS 11 1 rfl rfl h68 dX8_take_68 (fun H locs hP hD hS => ?_)
            obtain ⟨B68, eB68⟩ : ∃ zz : Nat → Nat → Int64, zz = va_up B_20 15 (vp_updL (B_20 15) (nI p2).toNatClampNeg (lN (rsn rows rd z))) := ⟨_, rfl⟩
            have hP : va_P (dC, dI) vwCl (MW cI cJ cZ R (I, A, B68)) H := by rw [eB68]; exact hP
            have hD : va_D Aa (MW cI cJ cZ R (I, A, B68)) := by rw [eB68]; exact hD
            refine lv_aload_n hx hb dX8_take_69 rfl (lv_at hl 0 rfl) ?_
            refine lv_dup hx hb dX8_take_70 rfl ?_
            refine va_get (D := (dC, dI)) (ci := 8) (v := .int (I 16)) (C := RX8) (T := TX8) (N := 20) hx hb hts hinX8 hown hK hP 0 rfl rfl 16 (by decide) hf130 (fun _ h9 => h9) rfl dX8_take_71 ?_
            refine lv_iconst (v := 1) hx hb dX8_take_74 (by decide) ?_
            refine lv_iadd hx hb dX8_take_75 ?_
            refine lv_topi (fun x75 ex75 => ?_)
            refine va_put (D := (dC, dI)) (ci := 8) (v := .int x75) (ty := .int) (C := RX8) (T := TX8) (N := 20) hx hb hts hinX8 tyX8 tyX8_ok nmX8 hown hK hP hD hS 0 rfl rfl 16 (by decide) hf130 (fun _ h9 => h9) rfl (by decide +kernel) rfl rfl (Nat.le_of_ble_eq_true rfl) dX8_take_76 (fun H locs hP hD hS => ?_)
            obtain ⟨I76, eI76⟩ : ∃ zz : Nat → Int32, zz = va_up I 16 x75 := ⟨_, rfl⟩
            have hP : va_P (dC, dI) vwCl (MW cI cJ cZ R (I76, A, B68)) H := by rw [eI76]; exact hP
            have hD : va_D Aa (MW cI cJ cZ R (I76, A, B68)) := by rw [eI76]; exact hD
            refine lv_iconst (v := 1) hx hb dX8_take_79 (by decide) ?_
            refine hret 80 ls _ _ 1 (I76, A, B68) dX8_take_80 rfl ?_ hP hD hS
            try dsimp only
            refine ?_
            have l1 : ∀ i, i < p2 → rsn rows rd z ≤ rows i := fun i h => by by_cases e : i = p2 - 1; rw [e]; exact c36; exact Nat.le_trans c36 (Nat.le_of_lt (hs.1.mono (by omega) (by omega)))
            refine ⟨rd + 1, insR rows p2 (rsn rows rd z), ⟨by show I76 16 = _; rw [eI76, up_self, ex75, hr.1]; exact nI_1 rd, fun k hk => ?_⟩, hs.ins hp hne l1 (fun i a b => (b2 i a b).2), Or.inr ⟨fun h => hne ((hs.rest z).mpr h), rfl, rfl⟩, fun k hk => by show I76 k = _; rw [eI76, up_ne hk], rfl, fun k hk => by show B68 k = _; rw [eB68, up_ne hk]; exact b3 k hk⟩
            show B68 15 k = _ ∧ _
            rw [eB68, up_self, pcl]
            unfold insR
            by_cases k1 : k < p2
            · rw [if_pos k1, pk_uLn (by omega)]; exact ⟨b1 k k1, (hr.2 k (by omega)).2⟩
            · by_cases k2 : k = p2
              · rw [if_neg k1, if_pos k2, k2, pk_uLs]; exact ⟨rfl, lz⟩
              · rw [if_neg k1, if_neg k2, pk_uLn k2]
                have := b2 (k - 1) (by omega) (by omega)
                rw [show k - 1 + 1 = k by omega] at this
                exact ⟨this.1, (hr.2 (k - 1) (by omega)).2⟩
          · -- 36 not
            rw [lg_cmp_ge] at c36
            rw [pk_lLE lz2 (pwb (hr.2 _ (by omega)).2 hbb)] at c36
            have c36 := Nat.lt_of_not_le c36
            refine lv_aload_n hx hb dX8_take_39 rfl (lv_at hl 0 rfl) ?_
            refine va_get (D := (dC, dI)) (ci := 8) (v := .ref (R 15)) (C := RX8) (T := TX8) (N := 20) hx hb hts hinX8 hown hK hP 0 rfl rfl 15 (by decide) hf45 (fun _ h9 => h9) rfl dX8_take_40 ?_
            refine lv_iload hx hb dX8_take_43 (lv_at hl 3 rfl) ?_
            refine lv_aload_n hx hb dX8_take_45 rfl (lv_at hl 0 rfl) ?_
            refine va_get (D := (dC, dI)) (ci := 8) (v := .ref (R 15)) (C := RX8) (T := TX8) (N := 20) hx hb hts hinX8 hown hK hP 0 rfl rfl 15 (by decide) hf45 (fun _ h9 => h9) rfl dX8_take_46 ?_
            refine lv_iload hx hb dX8_take_49 (lv_at hl 3 rfl) ?_
            refine lv_iconst (v := 1) hx hb dX8_take_51 (by decide) ?_
            refine lv_isub hx hb dX8_take_52 ?_
            refine lv_topi (fun x52 ex52 => ?_)
            have ex52 : x52 = nI (p2 - 1) := by rw [ex52]; exact pk_sub (b := 1) (by omega)
            subst ex52
            have h53 : vp_in (nI (p2 - 1)) 64 := qin
            refine va_lald hx hb hK hP 11 1 rfl rfl h53 dX8_take_53 ?_
            refine lv_topl (fun x53 ex53 => ?_)
            have ex53 : x53 = B_20 15 (nI (p2 - 1)).toNatClampNeg := ex53
            have ex53 : x53 = lN (rows (p2 - 1)) := by rw [ex53, qcl]; exact b1 _ (by omega)
            subst ex53
            have h54 : vp_in (nI p2) 64 := pin
            refine va_last hx hb hK hP hD hS 11 1 rfl rfl h54 dX8_take_54 (fun H locs hP hD hS => ?_)
            obtain ⟨B54, eB54⟩ : ∃ zz : Nat → Nat → Int64, zz = va_up B_20 15 (vp_updL (B_20 15) (nI p2).toNatClampNeg (lN (rows (p2 - 1)))) := ⟨_, rfl⟩
            have hP : va_P (dC, dI) vwCl (MW cI cJ cZ R (I, A, B54)) H := by rw [eB54]; exact hP
            have hD : va_D Aa (MW cI cJ cZ R (I, A, B54)) := by rw [eB54]; exact hD
            obtain ⟨x55, ex55⟩ : ∃ zz : Int32, zz = nI p2 + (-1) := ⟨_, rfl⟩
            refine lv_iinc (v := x55) (lv' := [(5, .int x55), (0, .ref (R 0)), (1, .long (lN z)), (3, .long (lN (rsn rows rd z)))]) hx hb dX8_take_55 hl (k := 3) rfl (by rw [ex55]; rfl) (by decide) rfl (fun ls hl => ?_)
            have ex55 : x55 = nI (p2 - 1) := by rw [ex55, ← Int32.sub_eq_add_neg]; exact pk_sub (b := 1) (by omega)
            subst ex55
            refine lv_goto (tgt := 20) hx hb dX8_take_58 (by decide) ?_
            exact ih20 (p2 - 1) B54 ls _ _ (by omega) ⟨by omega, fun i hi => by rw [eB54, up_self, pcl, pk_uLn (by omega)]; exact b1 i (by omega), fun i a b => by
            rw [eB54, up_self, pcl]
            by_cases e : i = p2 - 1
            · rw [e, show p2 - 1 + 1 = p2 by omega, pk_uLs]; exact ⟨rfl, c36⟩
            · rw [pk_uLn (by omega)]; exact b2 i (by omega) b, fun k hk => by rw [eB54, up_ne hk]; exact b3 k hk⟩ hP hD hS (lv_sub hl [1, 2, 3, 0] rfl)
    exact K20 _ rd B ls _ _ (Nat.lt_succ_self _) ⟨Nat.le_refl _, fun i hi => (hr.2 i hi).1, fun i a b => absurd a (by omega), fun _ _ => rfl⟩ hP hD hS (lv_sub hl [2, 3, 1, 0] rfl)
  · -- 9 not
    rw [lg_cmp_eq] at c9
    have h0 : rsn rows rd z = 0 := (pk_lEQ (b := 0) lz2 (by decide)).mp c9
    refine lv_iconst (v := 0) hx hb dX8_take_12 (by decide) ?_
    refine hret 13 ls _ _ 0 (I, A, B) dX8_take_13 rfl ?_ hP hD hS
    try dsimp only
    exact ⟨rd, rows, hr, hs.same ((hs.rest z).mp h0), Or.inl ⟨(hs.rest z).mp h0, rfl, rfl⟩, fun _ _ => rfl, rfl, fun _ _ => rfl⟩
set_option maxHeartbeats 4000000 in
set_option maxRecDepth 100000 in
theorem k_X8_takeList (l : Launch) (dC : Nat → ClassId) (dI : Nat → Nat → Nat) (cI cJ cZ cII cJJ : ClassId) (R : Nat → Nat) (I : Nat → Int32) (A : Nat → Nat → Int32) (B : Nat → Nat → Int64) (L : Nat) (li : Nat → Nat) (hL : lM L li I B) : ctV l (dC, dI) (tyL cI cJ cZ cII cJJ) (MW cI cJ cZ R) yX8_takeList wsX8_takeList (2, 60) [.ref (R 0)] (I, A, B) (fun u => ∃ rows, rR 40 (rk li L) rows u.1 u.2.2 ∧ rowsS (rk li L) rows (fun a => ∃ jj, jj < L ∧ a = li jj) ∧ (∀ k, k ≠ 16 → u.1 k = I k) ∧ u.2.1 = A ∧ ∀ k, k ≠ 15 → u.2.2 k = B k) := by
  refine ctV_intro (cc := cX8_takeList) (maxL := 3) (by decide) rfl (Nat.le_of_ble_eq_true rfl) ?_
  intro p e s m below meth c ls Aa Q F hK hN hP hD hS hA hl hret
  have hx := F.1
  have hb := F.2.1
  have hown : s.vm.findClass RX8 = some m.cls := F.2.2.2.1
  have hts := F.2.2.2.2
  have hinX8 : ∀ w ∈ wsX80, w ∈ wsX8_takeList := by decide +kernel
  have hf130 := hts (.fieldLink RX8 130 "CycleHouseModel" "rowed" "I") (by decide +kernel)
  have hf143 := hts (.fieldLink RX8 143 "CycleHouseModel" "listed" "I") (by decide +kernel)
  have hf23 := hts (.fieldLink RX8 23 "CycleHouseModel" "list" "[J") (by decide +kernel)
  have hl : lv_has ls 3 [(0, .ref (R 0))] := hl
  refine lv_aload_n hx hb dX8_takeList_0 rfl (lv_at hl 0 rfl) ?_
  refine lv_iconst (v := 0) hx hb dX8_takeList_1 (by decide) ?_
  refine va_put (D := (dC, dI)) (ci := 8) (v := .int 0) (ty := .int) (C := RX8) (T := TX8) (N := 20) hx hb hts hinX8 tyX8 tyX8_ok nmX8 hown hK hP hD hS 0 rfl rfl 16 (by decide) hf130 (fun _ h9 => h9) rfl (by decide +kernel) rfl rfl (Nat.le_of_ble_eq_true rfl) dX8_takeList_2 (fun H locs hP hD hS => ?_)
  obtain ⟨I2, eI2⟩ : ∃ zz : Nat → Int32, zz = va_up I 16 0 := ⟨_, rfl⟩
  have hP : va_P (dC, dI) vwCl (MW cI cJ cZ R (I2, A, B)) H := by rw [eI2]; exact hP
  have hD : va_D Aa (MW cI cJ cZ R (I2, A, B)) := by rw [eI2]; exact hD
  refine lv_iconst (v := 0) hx hb dX8_takeList_5 (by decide) ?_
  refine lv_istore_n (lv' := [(1, .int 0), (0, .ref (R 0))]) hx hb dX8_takeList_6 rfl hl (by decide) rfl (fun ls hl => ?_)
  have K7 : ∀ (kn : Nat) (i : Nat) (I_7 : Nat → Int32) (A_7 : Nat → Nat → Int32) (B_7 : Nat → Nat → Int64) (ls : Array Slot) (H : Heap) (locs : List Loc), L - i < kn → (i ≤ L ∧ (∃ rows, rR 40 (rk li i) rows I_7 B_7 ∧ rowsS (rk li i) rows (fun a => ∃ jj, jj < i ∧ a = li jj)) ∧ (∀ k, k ≠ 16 → I_7 k = I k) ∧ A_7 = A ∧ ∀ k, k ≠ 15 → B_7 k = B k) → va_P (dC, dI) vwCl (MW cI cJ cZ R (I_7, A_7, B_7)) H → va_D Aa (MW cI cJ cZ R (I_7, A_7, B_7)) → va_S Aa s.heap H locs → lv_has ls 3 [(0, .ref (R 0)), (1, .int (nI i))] → W p l e (ctR (2, 60)) s m #[.ref (R 0)] below meth c H locs 0 0 Q (F0 m 7 ls []) := by
    intro kn
    induction kn with
    | zero => intro i I_7 A_7 B_7 ls H locs hmu; exact absurd hmu (Nat.not_lt_zero _)
    | succ kn ih7 =>
      intro i I_7 A_7 B_7 ls H locs mu7 inv7 hP hD hS hl
      obtain ⟨hi, ⟨rows, hr, hs⟩, hI, hA2, hB⟩ := inv7
      have hL2 := hL.2.1
      refine lv_iload_n hx hb dX8_takeList_7 rfl (lv_at hl 1 rfl) ?_
      refine lv_aload_n hx hb dX8_takeList_8 rfl (lv_at hl 0 rfl) ?_
      refine va_get (D := (dC, dI)) (ci := 8) (v := .int (I_7 7)) (C := RX8) (T := TX8) (N := 20) hx hb hts hinX8 hown hK hP 0 rfl rfl 7 (by decide) hf143 (fun _ h9 => h9) rfl dX8_takeList_9 ?_
      refine lv_icmp_ge (tgt := 32) hx hb dX8_takeList_12 (by decide) (fun c12 => ?_) (fun c12 => ?_)
      · -- 12 taken
        rw [show I_7 7 = nI L from (hI 7 (by decide)).trans hL.1, nI_leI (by omega) (by omega)] at c12
        have hge : i = L := by omega
        rw [hge] at hr hs
        refine hret 32 ls _ _ (I_7, A_7, B_7) dX8_takeList_32 ?_ hP hD hS
        try dsimp only
        exact ⟨rows, hr, hs, hI, hA2, hB⟩
      · -- 12 not
        rw [show I_7 7 = nI L from (hI 7 (by decide)).trans hL.1, nI_leI (by omega) (by omega)] at c12
        have icl : (nI i).toNatClampNeg = i := nI_clamp (by omega)
        refine lv_aload_n hx hb dX8_takeList_15 rfl (lv_at hl 0 rfl) ?_
        refine lv_aload_n hx hb dX8_takeList_16 rfl (lv_at hl 0 rfl) ?_
        refine va_get (D := (dC, dI)) (ci := 8) (v := .ref (R 6)) (C := RX8) (T := TX8) (N := 20) hx hb hts hinX8 hown hK hP 0 rfl rfl 6 (by decide) hf23 (fun _ h9 => h9) rfl dX8_takeList_17 ?_
        refine lv_iload_n hx hb dX8_takeList_20 rfl (lv_at hl 1 rfl) ?_
        have h21 : vp_in (nI i) 64 := vp_in_nI (by omega) (by omega)
        refine va_lald hx hb hK hP 4 1 rfl rfl h21 dX8_takeList_21 ?_
        refine lv_topl (fun x21 ex21 => ?_)
        have ex21 : x21 = B_7 6 (nI i).toNatClampNeg := ex21
        have ex21 : x21 = lN (li i) := by rw [ex21, icl, show B_7 6 = B 6 from hB 6 (by decide)]; exact (hL.2.2 i (by omega)).1
        subst ex21
        refine ct_calli hD hS hA (va_runV (As := [.long (lN (li i))]) (rest := []) F ((k_X8_take l dC dI cI cJ cZ cII cJJ R I_7 A_7 B_7 40 (rk li i) rows (fun a => ∃ jj, jj < i ∧ a = li jj) (li i) (Nat.le_refl 40) hr hs (hL.2.2 i (by omega)).2) _) (cwV 1 hts gX8_takeList_X8_take rfl rfl rfl (by decide +kernel) ⟨(Nat.le_of_ble_eq_true rfl), (Nat.le_of_ble_eq_true rfl)⟩) (ct_preV 0 8 hK hN hP hD rfl rfl) rfl rfl hl.1 rfl (lv_room (Nat.le_of_ble_eq_true rfl)) dX8_takeList_22 ⟨(Nat.le_of_ble_eq_true rfl), (Nat.le_of_ble_eq_true rfl)⟩) (fun r22 u22 H locs w22 hP hD hS => ?_)
        obtain ⟨I22, A22, B22⟩ := u22
        obtain ⟨rd2, rows2, t1, t2, t3, t4, t5, t6⟩ := w22
        have erk : rk li (i + 1) = rd2 := t3.elim (fun h => by rw [rk_in h.1, h.2.2]) (fun h => by rw [rk_out h.1, h.2.2])
        refine lv_istore_n (lv' := [(2, .int r22), (0, .ref (R 0)), (1, .int (nI i))]) hx hb dX8_takeList_25 rfl hl (by decide) rfl (fun ls hl => ?_)
        obtain ⟨x26, ex26⟩ : ∃ zz : Int32, zz = nI i + (1) := ⟨_, rfl⟩
        refine lv_iinc (v := x26) (lv' := [(1, .int x26), (2, .int r22), (0, .ref (R 0))]) hx hb dX8_takeList_26 hl (k := 2) rfl (by rw [ex26]; rfl) (by decide) rfl (fun ls hl => ?_)
        have ex26 : x26 = nI (i + 1) := by rw [ex26]; exact nI_1 i
        subst ex26
        refine lv_goto (tgt := 7) hx hb dX8_takeList_29 (by decide) ?_
        exact ih7 (i + 1) I22 A22 B22 ls _ _ (by omega) ⟨by omega, ⟨rows2, by rw [erk]; exact t1, by rw [erk]; exact t2.cong (fun a => lt_split)⟩, fun k hk => (t4 k hk).trans (hI k hk), t5.trans hA2, fun k hk => (t6 k hk).trans (hB k hk)⟩ hP hD hS (lv_sub hl [2, 0] rfl)
  exact K7 _ 0 I2 A B ls _ _ (Nat.lt_succ_self _) ⟨Nat.zero_le _, ⟨fun _ => 0, ⟨by rw [eI2, up_self]; rfl, fun k h => absurd h (Nat.not_lt_zero _)⟩, rowsS_0 _ (fun a ⟨i, h, _⟩ => absurd h (Nat.not_lt_zero _))⟩, fun k hk => by rw [eI2, up_ne hk], rfl, fun _ _ => rfl⟩ hP hD hS (lv_sub hl [1, 0] rfl)
set_option maxHeartbeats 4000000 in
set_option maxRecDepth 100000 in
theorem k_X8_rank (l : Launch) (dC : Nat → ClassId) (dI : Nat → Nat → Nat) (cI cJ cZ cII cJJ : ClassId) (R : Nat → Nat) (I : Nat → Int32) (A : Nat → Nat → Int32) (B : Nat → Nat → Int64) (L : Nat) (li : Nat → Nat) (hL : lM L li I B) : ctI l (dC, dI) (tyL cI cJ cZ cII cJJ) (MW cI cJ cZ R) yX8_rank wsX8_rank (3, 90) [.ref (R 0)] (I, A, B) (fun r u => r = nI (rk li L) ∧ (∀ k, k ≠ 16 → u.1 k = I k) ∧ u.2.1 = A ∧ ∀ k, k ≠ 15 → u.2.2 k = B k) := by
  refine ctI_intro (cc := cX8_rank) (maxL := 1) (by decide) rfl (Nat.le_of_ble_eq_true rfl) ?_
  intro p e s m below meth c ls Aa Q F hK hN hP hD hS hA hl hret
  have hx := F.1
  have hb := F.2.1
  have hown : s.vm.findClass RX8 = some m.cls := F.2.2.2.1
  have hts := F.2.2.2.2
  have hinX8 : ∀ w ∈ wsX80, w ∈ wsX8_rank := by decide +kernel
  have hf130 := hts (.fieldLink RX8 130 "CycleHouseModel" "rowed" "I") (by decide +kernel)
  have hl : lv_has ls 1 [(0, .ref (R 0))] := hl
  refine lv_aload_n hx hb dX8_rank_0 rfl (lv_at hl 0 rfl) ?_
  refine ct_callv hD hS hA (va_runV (As := []) (rest := []) F ((k_X8_takeList l dC dI cI cJ cZ cII cJJ R I A B L li hL) _) (cwV 0 hts gX8_rank_X8_takeList rfl rfl rfl (by decide +kernel) ⟨(Nat.le_of_ble_eq_true rfl), (Nat.le_of_ble_eq_true rfl)⟩) (ct_preV 0 8 hK hN hP hD rfl rfl) rfl rfl hl.1 rfl (lv_room (Nat.le_of_ble_eq_true rfl)) dX8_rank_1 ⟨(Nat.le_of_ble_eq_true rfl), (Nat.le_of_ble_eq_true rfl)⟩) (fun u1 H locs w1 hP hD hS => ?_)
  obtain ⟨I1, A1, B1⟩ := u1
  refine lv_aload_n hx hb dX8_rank_4 rfl (lv_at hl 0 rfl) ?_
  refine va_get (D := (dC, dI)) (ci := 8) (v := .int (I1 16)) (C := RX8) (T := TX8) (N := 20) hx hb hts hinX8 hown hK hP 0 rfl rfl 16 (by decide) hf130 (fun _ h9 => h9) rfl dX8_rank_5 ?_
  refine hret 8 ls _ _ (I1 16) (I1, A1, B1) dX8_rank_8 rfl ?_ hP hD hS
  try dsimp only
  exact (by obtain ⟨rows, a, b, c⟩ := w1; exact ⟨a.1, c⟩)
set_option maxHeartbeats 4000000 in
set_option maxRecDepth 100000 in
theorem k_X8_spans (l : Launch) (dC : Nat → ClassId) (dI : Nat → Nat → Nat) (cI cJ cZ cII cJJ : ClassId) (R : Nat → Nat) (I : Nat → Int32) (A : Nat → Nat → Int32) (B : Nat → Nat → Int64) (L : Nat) (li : Nat → Nat) (z : Nat) (hL : lM L li I B) (hz : z < 2 ^ 64) : ctI l (dC, dI) (tyL cI cJ cZ cII cJJ) (MW cI cJ cZ R) yX8_spans wsX8_spans (3, 90) [.ref (R 0), .long (lN z)] (I, A, B) (fun r u => (z < 2 ^ 40 → u.1 0 = 0 ∧ fP I A B u ∧ ((r = 1 ∧ spS (fun a => ∃ jj, jj < L ∧ a = li jj) z) ∨ (r = 0 ∧ ¬ spS (fun a => ∃ jj, jj < L ∧ a = li jj) z))) ∧ (¬ z < 2 ^ 40 → u.1 0 = 1 ∧ fP I A B u)) := by
  refine ctI_intro (cc := cX8_spans) (maxL := 3) (by decide) rfl (Nat.le_of_ble_eq_true rfl) ?_
  intro p e s m below meth c ls Aa Q F hK hN hP hD hS hA hl hret
  have hx := F.1
  have hb := F.2.1
  have hown : s.vm.findClass RX8 = some m.cls := F.2.2.2.1
  have hts := F.2.2.2.2
  have hinX8 : ∀ w ∈ wsX80, w ∈ wsX8_spans := by decide +kernel
  have hl : lv_has ls 3 [(0, .ref (R 0)), (1, .long (lN z))] := hl
  refine lv_aload_n hx hb dX8_spans_0 rfl (lv_at hl 0 rfl) ?_
  have K15 : ∀ (o : Int32) (ls : Array Slot) (H : Heap) (locs : List Loc), (o = (if z < 2 ^ 40 then 0 else 1)) → va_P (dC, dI) vwCl (MW cI cJ cZ R (I, A, B)) H → va_D Aa (MW cI cJ cZ R (I, A, B)) → va_S Aa s.heap H locs → lv_has ls 3 [(0, .ref (R 0)), (1, .long (lN z))] → W p l e (ctR (3, 90)) s m #[.ref (R 0), .long (lN z)] below meth c H locs 0 0 Q (F0 m 15 ls [.int o, .ref (R 0)]) := by
    intro o ls H locs inv15 hP hD hS hl
    refine lv_iconst (v := 0) hx hb dX8_spans_15 (by decide) ?_
    refine ct_calli hD hS hA (va_runV (As := [.int o, .int 0]) (rest := []) F ((k_X8_throwing l dC dI cI cJ cZ cII cJJ R I A B o 0) _) (cwV 2 hts gX8_spans_X8_throwing rfl rfl rfl (by decide +kernel) ⟨(Nat.le_of_ble_eq_true rfl), (Nat.le_of_ble_eq_true rfl)⟩) (ct_preV 0 8 hK hN hP hD rfl rfl) rfl rfl hl.1 rfl (lv_room (Nat.le_of_ble_eq_true rfl)) dX8_spans_16 ⟨(Nat.le_of_ble_eq_true rfl), (Nat.le_of_ble_eq_true rfl)⟩) (fun r16 u16 H locs w16 hP hD hS => ?_)
    obtain ⟨w16, hu16⟩ := w16
    obtain ⟨I16, A16, B16⟩ := u16
    have eI16 := congrArg (fun z => z.1) hu16
    dsimp only at eI16
    have eA16 : A = A16 := (congrArg (fun z => z.2.1) hu16).symm
    subst eA16
    have eB16 : B = B16 := (congrArg (fun z => z.2.2) hu16).symm
    subst eB16
    clear hu16
    refine lv_if_eq (tgt := 24) hx hb dX8_spans_19 (by decide) (fun c19 => ?_) (fun c19 => ?_)
    · -- 19 taken
      rw [w16, inv15] at c19
      have hv : z < 2 ^ 40 := Classical.byContradiction (fun h => by rw [if_neg h] at c19; exact absurd c19 (by decide))
      have eT : I16 = va_up I 0 0 := by rw [eI16, inv15, if_pos hv]; rfl
      have hLT : lM L li I16 B := ⟨by rw [eT, up_ne (by decide)]; exact hL.1, hL.2⟩
      refine lv_aload_n hx hb dX8_spans_24 rfl (lv_at hl 0 rfl) ?_
      refine ct_callv hD hS hA (va_runV (As := []) (rest := []) F ((k_X8_takeList l dC dI cI cJ cZ cII cJJ R I16 A B L li hLT) _) (cwV 0 hts gX8_spans_X8_takeList rfl rfl rfl (by decide +kernel) ⟨(Nat.le_of_ble_eq_true rfl), (Nat.le_of_ble_eq_true rfl)⟩) (ct_preV 0 8 hK hN hP hD rfl rfl) rfl rfl hl.1 rfl (lv_room (Nat.le_of_ble_eq_true rfl)) dX8_spans_25 ⟨(Nat.le_of_ble_eq_true rfl), (Nat.le_of_ble_eq_true rfl)⟩) (fun u25 H locs w25 hP hD hS => ?_)
      obtain ⟨I25, A25, B25⟩ := u25
      obtain ⟨rows, a1, a2, a3, a4, a5⟩ := w25
      have hk : rk li L ≤ 40 := rowsOK_le a2.1 (fun i hi => (a1.2 i hi).2)
      have e0 : I25 0 = 0 := (a3 0 (by decide)).trans (by rw [eT]; exact up_self)
      have hf : fP I A B (I25, A25, B25) := fP.of (fun k h0 _ h2 => (a3 k h2).trans (by rw [eT, up_ne h0])) (fun k _ _ _ _ => by rw [show A25 = A from a4]) (fun k _ _ _ _ h _ => a5 k h)
      have l1 := pwb (rsn_lt hv (rk li L) (fun j hj => (a1.2 j hj).2)) (Nat.le_refl 40)
      refine lv_aload_n hx hb dX8_spans_28 rfl (lv_at hl 0 rfl) ?_
      refine lv_lload_n hx hb dX8_spans_29 rfl (lv_at hl 1 rfl) ?_
      refine ct_calll hD hS hA (va_runV (As := [.long (lN z)]) (rest := []) F ((k_X8_rest l dC dI cI cJ cZ cII cJJ R I25 A25 B25 40 (rk li L) rows z (Nat.le_refl 40) a1 hk hv) _) (cwV 1 hts gX8_spans_X8_rest rfl rfl rfl (by decide +kernel) ⟨(Nat.le_of_ble_eq_true rfl), (Nat.le_of_ble_eq_true rfl)⟩) (ct_preV 0 8 hK hN hP hD rfl rfl) rfl rfl hl.1 rfl (lv_room (Nat.le_of_ble_eq_true rfl)) dX8_spans_30 ⟨(Nat.le_of_ble_eq_true rfl), (Nat.le_of_ble_eq_true rfl)⟩) (fun r30 u30 H locs w30 hP hD hS => ?_)
      obtain ⟨w30, rfl⟩ := w30
      refine lv_lconst (v := 0) hx hb dX8_spans_33 (by decide) ?_
      refine W.lcmp hx hb dX8_spans_34 ?_
      refine lv_if_ne (tgt := 42) hx hb dX8_spans_35 (by decide) (fun c35 => ?_) (fun c35 => ?_)
      · -- 35 taken
        rw [lg_cmp_eq] at c35
        have c35 : ¬ spS (fun a => ∃ jj, jj < L ∧ a = li jj) z := fun h => c35 (by rw [w30, (a2.rest z).mpr h]; rfl)
        refine lv_iconst (v := 0) hx hb dX8_spans_42 (by decide) ?_
        refine hret 43 ls _ _ 0 (I25, A25, B25) dX8_spans_43 rfl ?_ hP hD hS
        try dsimp only
        exact ⟨fun _ => ⟨e0, hf, Or.inr ⟨rfl, c35⟩⟩, fun h => absurd hv h⟩
      · -- 35 not
        rw [lg_cmp_eq] at c35
        rw [w30] at c35
        have c35 : spS (fun a => ∃ jj, jj < L ∧ a = li jj) z := (a2.rest z).mp ((pk_lEQ (b := 0) l1 (by decide)).mp c35)
        refine lv_iconst (v := 1) hx hb dX8_spans_38 (by decide) ?_
        refine lv_goto (tgt := 43) hx hb dX8_spans_39 (by decide) ?_
        refine hret 43 ls _ _ 1 (I25, A25, B25) dX8_spans_43 rfl ?_ hP hD hS
        try dsimp only
        exact ⟨fun _ => ⟨e0, hf, Or.inl ⟨rfl, c35⟩⟩, fun h => absurd hv h⟩
    · -- 19 not
      rw [w16, inv15] at c19
      have hv : ¬ z < 2 ^ 40 := fun h => by rw [if_pos h] at c19; exact c19 rfl
      have eT : I16 = va_up I 0 1 := by rw [eI16, inv15, if_neg hv]; rfl
      refine lv_iconst (v := 0) hx hb dX8_spans_22 (by decide) ?_
      refine hret 23 ls _ _ 0 (I16, A, B) dX8_spans_23 rfl ?_ hP hD hS
      try dsimp only
      exact ⟨fun h => absurd h hv, fun _ => ⟨by rw [eT]; exact up_self, fP.rf0 eT⟩⟩
  refine lv_lload_n hx hb dX8_spans_1 rfl (lv_at hl 1 rfl) ?_
  refine lv_bipush (v := 40) hx hb dX8_spans_2 (by decide) ?_
  refine lv_lushr hx hb dX8_spans_4 rfl ?_
  refine lv_topl (fun x4 ex4 => ?_)
  refine lv_lconst (v := 0) hx hb dX8_spans_5 (by decide) ?_
  refine W.lcmp hx hb dX8_spans_6 ?_
  refine lv_if_eq (tgt := 14) hx hb dX8_spans_7 (by decide) (fun c7 => ?_) (fun c7 => ?_)
  · -- 7 taken
    rw [lg_cmp_eq] at c7
    rw [ex4] at c7
    have c7 : z < 2 ^ 40 := (nm_set hz (Nat.le_refl 40)).mp c7
    refine lv_iconst (v := 0) hx hb dX8_spans_14 (by decide) ?_
    exact K15 0 ls _ _  (by rw [if_pos c7]) hP hD hS (lv_sub hl [0, 1] rfl)
  · -- 7 not
    rw [lg_cmp_eq] at c7
    rw [ex4] at c7
    have c7 : ¬ z < 2 ^ 40 := fun h => c7 ((nm_set hz (Nat.le_refl 40)).mpr h)
    refine lv_iconst (v := 1) hx hb dX8_spans_10 (by decide) ?_
    refine lv_goto (tgt := 15) hx hb dX8_spans_11 (by decide) ?_
    exact K15 1 ls _ _  (by rw [if_neg c7]) hP hD hS (lv_sub hl [0, 1] rfl)
set_option maxHeartbeats 4000000 in
set_option maxRecDepth 100000 in
theorem k_X8_clear (l : Launch) (dC : Nat → ClassId) (dI : Nat → Nat → Nat) (cI cJ cZ cII cJJ : ClassId) (R : Nat → Nat) (I : Nat → Int32) (A : Nat → Nat → Int32) (B : Nat → Nat → Int64)   : ctI l (dC, dI) (tyL cI cJ cZ cII cJJ) (MW cI cJ cZ R) yX8_clear wsX8_clear (0, 0) [.ref (R 0)] (I, A, B) (fun r u => r = I 7 ∧ u = (va_up (va_up I 0 0) 7 0, A, B)) := by
  refine ctI_intro (cc := cX8_clear) (maxL := 2) (by decide) rfl (Nat.le_of_ble_eq_true rfl) ?_
  intro p e s m below meth c ls Aa Q F hK hN hP hD hS hA hl hret
  have hx := F.1
  have hb := F.2.1
  have hown : s.vm.findClass RX8 = some m.cls := F.2.2.2.1
  have hts := F.2.2.2.2
  have hinX8 : ∀ w ∈ wsX80, w ∈ wsX8_clear := by decide +kernel
  have hf58 := hts (.fieldLink RX8 58 "CycleHouseModel" "thrown" "I") (by decide +kernel)
  have hf143 := hts (.fieldLink RX8 143 "CycleHouseModel" "listed" "I") (by decide +kernel)
  have hl : lv_has ls 2 [(0, .ref (R 0))] := hl
  refine lv_aload_n hx hb dX8_clear_0 rfl (lv_at hl 0 rfl) ?_
  refine lv_iconst (v := 0) hx hb dX8_clear_1 (by decide) ?_
  refine va_put (D := (dC, dI)) (ci := 8) (v := .int 0) (ty := .int) (C := RX8) (T := TX8) (N := 20) hx hb hts hinX8 tyX8 tyX8_ok nmX8 hown hK hP hD hS 0 rfl rfl 0 (by decide) hf58 (fun _ h9 => h9) rfl (by decide +kernel) rfl rfl (Nat.le_of_ble_eq_true rfl) dX8_clear_2 (fun H locs hP hD hS => ?_)
  obtain ⟨I2, eI2⟩ : ∃ zz : Nat → Int32, zz = va_up I 0 0 := ⟨_, rfl⟩
  have hP : va_P (dC, dI) vwCl (MW cI cJ cZ R (I2, A, B)) H := by rw [eI2]; exact hP
  have hD : va_D Aa (MW cI cJ cZ R (I2, A, B)) := by rw [eI2]; exact hD
  refine lv_aload_n hx hb dX8_clear_5 rfl (lv_at hl 0 rfl) ?_
  refine va_get (D := (dC, dI)) (ci := 8) (v := .int (I2 7)) (C := RX8) (T := TX8) (N := 20) hx hb hts hinX8 hown hK hP 0 rfl rfl 7 (by decide) hf143 (fun _ h9 => h9) rfl dX8_clear_6 ?_
  refine lv_istore_n (lv' := [(1, .int (I2 7)), (0, .ref (R 0))]) hx hb dX8_clear_9 rfl hl (by decide) rfl (fun ls hl => ?_)
  refine lv_aload_n hx hb dX8_clear_10 rfl (lv_at hl 1 rfl) ?_
  refine lv_iconst (v := 0) hx hb dX8_clear_11 (by decide) ?_
  refine va_put (D := (dC, dI)) (ci := 8) (v := .int 0) (ty := .int) (C := RX8) (T := TX8) (N := 20) hx hb hts hinX8 tyX8 tyX8_ok nmX8 hown hK hP hD hS 0 rfl rfl 7 (by decide) hf143 (fun _ h9 => h9) rfl (by decide +kernel) rfl rfl (Nat.le_of_ble_eq_true rfl) dX8_clear_12 (fun H locs hP hD hS => ?_)
  obtain ⟨I12, eI12⟩ : ∃ zz : Nat → Int32, zz = va_up I2 7 0 := ⟨_, rfl⟩
  have hP : va_P (dC, dI) vwCl (MW cI cJ cZ R (I12, A, B)) H := by rw [eI12]; exact hP
  have hD : va_D Aa (MW cI cJ cZ R (I12, A, B)) := by rw [eI12]; exact hD
  refine lv_iload_n hx hb dX8_clear_15 rfl (lv_at hl 0 rfl) ?_
  refine hret 16 ls _ _ (I2 7) (I12, A, B) dX8_clear_16 rfl ?_ hP hD hS
  try dsimp only
  exact ⟨by rw [eI2, up_ne (by decide)], by rw [eI12, eI2]⟩
set_option maxHeartbeats 4000000 in
set_option maxRecDepth 100000 in
theorem k_X8_add (l : Launch) (dC : Nat → ClassId) (dI : Nat → Nat → Nat) (cI cJ cZ cII cJJ : ClassId) (R : Nat → Nat) (I : Nat → Int32) (A : Nat → Nat → Int32) (B : Nat → Nat → Int64) (L : Nat) (li : Nat → Nat) (z : Nat) (hL : lM L li I B) (hz : z < 2 ^ 64) : ctI l (dC, dI) (tyL cI cJ cZ cII cJJ) (MW cI cJ cZ R) yX8_add wsX8_add (1, 30) [.ref (R 0), .long (lN z)] (I, A, B) (fun r u => (¬ z < 2 ^ 40 → u = (va_up I 0 1, A, B)) ∧ (z < 2 ^ 40 → L = 64 → u = (va_up I 0 2, A, B)) ∧ (z < 2 ^ 40 → L ≠ 64 → r = nI (L + 1) ∧ u = (va_up (va_up I 0 0) 7 (nI (L + 1)), A, va_up B 6 (vp_updL (B 6) L (lN z))))) := by
  refine ctI_intro (cc := cX8_add) (maxL := 3) (by decide) rfl (Nat.le_of_ble_eq_true rfl) ?_
  intro p e s m below meth c ls Aa Q F hK hN hP hD hS hA hl hret
  have hx := F.1
  have hb := F.2.1
  have hown : s.vm.findClass RX8 = some m.cls := F.2.2.2.1
  have hts := F.2.2.2.2
  have hinX8 : ∀ w ∈ wsX80, w ∈ wsX8_add := by decide +kernel
  have hf143 := hts (.fieldLink RX8 143 "CycleHouseModel" "listed" "I") (by decide +kernel)
  have hf23 := hts (.fieldLink RX8 23 "CycleHouseModel" "list" "[J") (by decide +kernel)
  have hl : lv_has ls 3 [(0, .ref (R 0)), (1, .long (lN z))] := hl
  have hL2 := hL.2.1
  refine lv_aload_n hx hb dX8_add_0 rfl (lv_at hl 0 rfl) ?_
  have K15 : ∀ (o : Int32) (ls : Array Slot) (H : Heap) (locs : List Loc), (o = (if z < 2 ^ 40 then 0 else 1)) → va_P (dC, dI) vwCl (MW cI cJ cZ R (I, A, B)) H → va_D Aa (MW cI cJ cZ R (I, A, B)) → va_S Aa s.heap H locs → lv_has ls 3 [(0, .ref (R 0)), (1, .long (lN z))] → W p l e (ctR (1, 30)) s m #[.ref (R 0), .long (lN z)] below meth c H locs 0 0 Q (F0 m 15 ls [.int o, .ref (R 0)]) := by
    intro o ls H locs inv15 hP hD hS hl
    have K29 : ∀ (t2 : Int32) (ls : Array Slot) (H : Heap) (locs : List Loc), (t2 = (if L = 64 then 1 else 0)) → va_P (dC, dI) vwCl (MW cI cJ cZ R (I, A, B)) H → va_D Aa (MW cI cJ cZ R (I, A, B)) → va_S Aa s.heap H locs → lv_has ls 3 [(0, .ref (R 0)), (1, .long (lN z))] → W p l e (ctR (1, 30)) s m #[.ref (R 0), .long (lN z)] below meth c H locs 0 0 Q (F0 m 29 ls [.int t2, .int o, .ref (R 0)]) := by
      intro t2 ls H locs inv29 hP hD hS hl
      refine ct_calli hD hS hA (va_runV (As := [.int o, .int t2]) (rest := []) F ((k_X8_throwing l dC dI cI cJ cZ cII cJJ R I A B o t2) _) (cwV 2 hts gX8_add_X8_throwing rfl rfl rfl (by decide +kernel) ⟨(Nat.le_of_ble_eq_true rfl), (Nat.le_of_ble_eq_true rfl)⟩) (ct_preV 0 8 hK hN hP hD rfl rfl) rfl rfl hl.1 rfl (lv_room (Nat.le_of_ble_eq_true rfl)) dX8_add_29 ⟨(Nat.le_of_ble_eq_true rfl), (Nat.le_of_ble_eq_true rfl)⟩) (fun r29 u29 H locs w29 hP hD hS => ?_)
      obtain ⟨w29, hu29⟩ := w29
      obtain ⟨I29, A29, B29⟩ := u29
      have eI29 := congrArg (fun z => z.1) hu29
      dsimp only at eI29
      have eA29 : A = A29 := (congrArg (fun z => z.2.1) hu29).symm
      subst eA29
      have eB29 : B = B29 := (congrArg (fun z => z.2.2) hu29).symm
      subst eB29
      clear hu29
      refine lv_if_eq (tgt := 37) hx hb dX8_add_32 (by decide) (fun c32 => ?_) (fun c32 => ?_)
      · -- 32 taken
        rw [w29, inv15, inv29] at c32
        have hv : z < 2 ^ 40 := Classical.byContradiction (fun h => by rw [if_neg h] at c32; simp at c32)
        have hv2 : ¬ L = 64 := fun h => by rw [if_pos hv, if_pos h] at c32; simp at c32
        have eT : I29 = va_up I 0 0 := by rw [eI29, inv15, inv29, if_pos hv, if_neg hv2]; rfl
        have e7 : I29 7 = nI L := by rw [eT, up_ne (by decide)]; exact hL.1
        refine lv_aload_n hx hb dX8_add_37 rfl (lv_at hl 0 rfl) ?_
        refine va_get (D := (dC, dI)) (ci := 8) (v := .ref (R 6)) (C := RX8) (T := TX8) (N := 20) hx hb hts hinX8 hown hK hP 0 rfl rfl 6 (by decide) hf23 (fun _ h9 => h9) rfl dX8_add_38 ?_
        refine lv_aload_n hx hb dX8_add_41 rfl (lv_at hl 0 rfl) ?_
        refine va_get (D := (dC, dI)) (ci := 8) (v := .int (I29 7)) (C := RX8) (T := TX8) (N := 20) hx hb hts hinX8 hown hK hP 0 rfl rfl 7 (by decide) hf143 (fun _ h9 => h9) rfl dX8_add_42 ?_
        refine lv_lload_n hx hb dX8_add_45 rfl (lv_at hl 1 rfl) ?_
        have h46 : vp_in (I29 7) 64 := by rw [e7]; exact vp_in_nI (by omega) (by omega)
        refine va_last hx hb hK hP hD hS 4 1 rfl rfl h46 dX8_add_46 (fun H locs hP hD hS => ?_)
        obtain ⟨B46, eB46⟩ : ∃ zz : Nat → Nat → Int64, zz = va_up B 6 (vp_updL (B 6) (I29 7).toNatClampNeg (lN z)) := ⟨_, rfl⟩
        have hP : va_P (dC, dI) vwCl (MW cI cJ cZ R (I29, A, B46)) H := by rw [eB46]; exact hP
        have hD : va_D Aa (MW cI cJ cZ R (I29, A, B46)) := by rw [eB46]; exact hD
        refine lv_aload_n hx hb dX8_add_47 rfl (lv_at hl 0 rfl) ?_
        refine lv_dup hx hb dX8_add_48 rfl ?_
        refine va_get (D := (dC, dI)) (ci := 8) (v := .int (I29 7)) (C := RX8) (T := TX8) (N := 20) hx hb hts hinX8 hown hK hP 0 rfl rfl 7 (by decide) hf143 (fun _ h9 => h9) rfl dX8_add_49 ?_
        refine lv_iconst (v := 1) hx hb dX8_add_52 (by decide) ?_
        refine lv_iadd hx hb dX8_add_53 ?_
        refine lv_topi (fun x53 ex53 => ?_)
        refine va_put (D := (dC, dI)) (ci := 8) (v := .int x53) (ty := .int) (C := RX8) (T := TX8) (N := 20) hx hb hts hinX8 tyX8 tyX8_ok nmX8 hown hK hP hD hS 0 rfl rfl 7 (by decide) hf143 (fun _ h9 => h9) rfl (by decide +kernel) rfl rfl (Nat.le_of_ble_eq_true rfl) dX8_add_54 (fun H locs hP hD hS => ?_)
        obtain ⟨I54, eI54⟩ : ∃ zz : Nat → Int32, zz = va_up I29 7 x53 := ⟨_, rfl⟩
        have hP : va_P (dC, dI) vwCl (MW cI cJ cZ R (I54, A, B46)) H := by rw [eI54]; exact hP
        have hD : va_D Aa (MW cI cJ cZ R (I54, A, B46)) := by rw [eI54]; exact hD
        refine lv_aload_n hx hb dX8_add_57 rfl (lv_at hl 0 rfl) ?_
        refine va_get (D := (dC, dI)) (ci := 8) (v := .int (I54 7)) (C := RX8) (T := TX8) (N := 20) hx hb hts hinX8 hown hK hP 0 rfl rfl 7 (by decide) hf143 (fun _ h9 => h9) rfl dX8_add_58 ?_
        refine hret 61 ls _ _ (I54 7) (I54, A, B46) dX8_add_61 rfl ?_ hP hD hS
        try dsimp only
        exact ⟨fun h => absurd hv h, fun _ h => absurd h hv2, fun _ _ => ⟨by rw [eI54, up_self, ex53, e7]; exact nI_1 L, by rw [eI54, ex53, e7, nI_1, eT, eB46, e7, nI_clamp (show L < 2 ^ 31 by omega)]⟩⟩
      · -- 32 not
        rw [w29, inv15, inv29] at c32
        refine lv_iconst (v := 0) hx hb dX8_add_35 (by decide) ?_
        refine hret 36 ls _ _ 0 (I29, A, B) dX8_add_36 rfl ?_ hP hD hS
        try dsimp only
        exact ⟨fun h => by rw [eI29, inv15, if_neg h]; rfl, fun h h2 => by rw [eI29, inv15, inv29, if_pos h, if_pos h2]; rfl, fun h h2 => by rw [if_pos h, if_neg h2] at c32; exact absurd rfl c32⟩
    refine lv_aload_n hx hb dX8_add_15 rfl (lv_at hl 0 rfl) ?_
    refine va_get (D := (dC, dI)) (ci := 8) (v := .int (I 7)) (C := RX8) (T := TX8) (N := 20) hx hb hts hinX8 hown hK hP 0 rfl rfl 7 (by decide) hf143 (fun _ h9 => h9) rfl dX8_add_16 ?_
    refine lv_bipush (v := 64) hx hb dX8_add_19 (by decide) ?_
    refine lv_icmp_ne (tgt := 28) hx hb dX8_add_21 (by decide) (fun c21 => ?_) (fun c21 => ?_)
    · -- 21 taken
      have c21 : ¬ L = 64 := fun h => c21 (by rw [hL.1, h]; rfl)
      refine lv_iconst (v := 0) hx hb dX8_add_28 (by decide) ?_
      exact K29 0 ls _ _  (by rw [if_neg c21]) hP hD hS (lv_sub hl [0, 1] rfl)
    · -- 21 not
      have c21 : L = 64 := (nI_eq (by omega) (by omega)).mp (by rw [← hL.1]; exact c21)
      refine lv_iconst (v := 1) hx hb dX8_add_24 (by decide) ?_
      refine lv_goto (tgt := 29) hx hb dX8_add_25 (by decide) ?_
      exact K29 1 ls _ _  (by rw [if_pos c21]) hP hD hS (lv_sub hl [0, 1] rfl)
  refine lv_lload_n hx hb dX8_add_1 rfl (lv_at hl 1 rfl) ?_
  refine lv_bipush (v := 40) hx hb dX8_add_2 (by decide) ?_
  refine lv_lushr hx hb dX8_add_4 rfl ?_
  refine lv_topl (fun x4 ex4 => ?_)
  refine lv_lconst (v := 0) hx hb dX8_add_5 (by decide) ?_
  refine W.lcmp hx hb dX8_add_6 ?_
  refine lv_if_eq (tgt := 14) hx hb dX8_add_7 (by decide) (fun c7 => ?_) (fun c7 => ?_)
  · -- 7 taken
    rw [lg_cmp_eq] at c7
    rw [ex4] at c7
    have c7 : z < 2 ^ 40 := (nm_set hz (Nat.le_refl 40)).mp c7
    refine lv_iconst (v := 0) hx hb dX8_add_14 (by decide) ?_
    exact K15 0 ls _ _  (by rw [if_pos c7]) hP hD hS (lv_sub hl [0, 1] rfl)
  · -- 7 not
    rw [lg_cmp_eq] at c7
    rw [ex4] at c7
    have c7 : ¬ z < 2 ^ 40 := fun h => c7 ((nm_set hz (Nat.le_refl 40)).mpr h)
    refine lv_iconst (v := 1) hx hb dX8_add_10 (by decide) ?_
    refine lv_goto (tgt := 15) hx hb dX8_add_11 (by decide) ?_
    exact K15 1 ls _ _  (by rw [if_neg c7]) hP hD hS (lv_sub hl [0, 1] rfl)
