set_option maxHeartbeats 4000000 in
set_option maxRecDepth 100000 in
theorem k_X8_isCycle (l : Launch) (dC : Nat → ClassId) (dI : Nat → Nat → Nat) (cI cJ cZ cII cJJ : ClassId) (R : Nat → Nat) (I : Nat → Int32) (A : Nat → Nat → Int32) (B : Nat → Nat → Int64) (nv ne : Nat) (fr to wt : Nat → Nat) (z : Nat) (g : gM nv ne fr to wt I A) (hz : z < 2 ^ 64) : ctI l (dC, dI) (tyL cI cJ cZ cII cJJ) (MW cI cJ cZ R) yX8_isCycle wsX8_isCycle (2, 60) [.ref (R 0), .long (lN z)] (I, A, B) (fun r u => (z < 2 ^ ne → u.1 0 = 0 ∧ fP I A B u ∧ r = (if evn fr to nv ne z then (if rng fr to nv ne z then 2 else 1) else 0)) ∧ (¬ z < 2 ^ ne → u.1 0 = 1 ∧ fP I A B u)) := by
  refine ctI_intro (cc := cX8_isCycle) (maxL := 3) (by decide) rfl (Nat.le_of_ble_eq_true rfl) ?_
  intro p e s m below meth c ls Aa Q F hK hN hP hD hS hA hl hret
  have hx := F.1
  have hb := F.2.1
  have hown : s.vm.findClass RX8 = some m.cls := F.2.2.2.1
  have hts := F.2.2.2.2
  have hinX8 : ∀ w ∈ wsX80, w ∈ wsX8_isCycle := by decide +kernel
  have hl : lv_has ls 3 [(0, .ref (R 0)), (1, .long (lN z))] := hl
  refine lv_aload_n hx hb dX8_isCycle_0 rfl (lv_at hl 0 rfl) ?_
  refine lv_aload_n hx hb dX8_isCycle_1 rfl (lv_at hl 0 rfl) ?_
  refine lv_lload_n hx hb dX8_isCycle_2 rfl (lv_at hl 1 rfl) ?_
  have K14 : ∀ (o : Int32) (ls : Array Slot) (H : Heap) (locs : List Loc), (o = (if z < 2 ^ ne then 0 else 1)) → va_P (dC, dI) vwCl (MW cI cJ cZ R (I, A, B)) H → va_D Aa (MW cI cJ cZ R (I, A, B)) → va_S Aa s.heap H locs → lv_has ls 3 [(0, .ref (R 0)), (1, .long (lN z))] → W p l e (ctR (2, 60)) s m #[.ref (R 0), .long (lN z)] below meth c H locs 0 0 Q (F0 m 14 ls [.int o, .ref (R 0)]) := by
    intro o ls H locs inv14 hP hD hS hl
    refine lv_iconst (v := 0) hx hb dX8_isCycle_14 (by decide) ?_
    refine ct_calli hD hS hA (va_runV (As := [.int o, .int 0]) (rest := []) F ((k_X8_throwing l dC dI cI cJ cZ cII cJJ R I A B o 0) _) (cwV 2 hts gX8_isCycle_X8_throwing rfl rfl rfl (by decide +kernel) ⟨(Nat.le_of_ble_eq_true rfl), (Nat.le_of_ble_eq_true rfl)⟩) (ct_preV 0 8 hK hN hP hD rfl rfl) rfl rfl hl.1 rfl (lv_room (Nat.le_of_ble_eq_true rfl)) dX8_isCycle_15 ⟨(Nat.le_of_ble_eq_true rfl), (Nat.le_of_ble_eq_true rfl)⟩) (fun r15 u15 H locs w15 hP hD hS => ?_)
    obtain ⟨w15, hu15⟩ := w15
    obtain ⟨I15, A15, B15⟩ := u15
    have eI15 := congrArg (fun z => z.1) hu15
    dsimp only at eI15
    have eA15 : A = A15 := (congrArg (fun z => z.2.1) hu15).symm
    subst eA15
    have eB15 : B = B15 := (congrArg (fun z => z.2.2) hu15).symm
    subst eB15
    clear hu15
    refine lv_if_eq (tgt := 23) hx hb dX8_isCycle_18 (by decide) (fun c18 => ?_) (fun c18 => ?_)
    · -- 18 taken
      rw [w15, inv14] at c18
      have hv : z < 2 ^ ne := Classical.byContradiction (fun h => by rw [if_neg h] at c18; exact absurd c18 (by decide))
      have hz2 : z < 2 ^ 62 := pw40 hv g.2.2.1
      have eT : I15 = va_up I 0 0 := by rw [eI15, inv14, if_pos hv]; rfl
      have hfT : fP I A B (I15, A, B) := fP.rf0 eT
      have gT := g.fp hfT
      have e0 : I15 0 = 0 := by rw [eT]; exact up_self
      refine lv_aload_n hx hb dX8_isCycle_23 rfl (lv_at hl 0 rfl) ?_
      refine lv_lload_n hx hb dX8_isCycle_24 rfl (lv_at hl 1 rfl) ?_
      refine ct_calli hD hS hA (va_runV (As := [.long (lN z)]) (rest := []) F ((k_X8_isEven l dC dI cI cJ cZ cII cJJ R I15 A B nv ne fr to wt z gT hz2) _) (cwV 1 hts gX8_isCycle_X8_isEven rfl rfl rfl (by decide +kernel) ⟨(Nat.le_of_ble_eq_true rfl), (Nat.le_of_ble_eq_true rfl)⟩) (ct_preV 0 8 hK hN hP hD rfl rfl) rfl rfl hl.1 rfl (lv_room (Nat.le_of_ble_eq_true rfl)) dX8_isCycle_25 ⟨(Nat.le_of_ble_eq_true rfl), (Nat.le_of_ble_eq_true rfl)⟩) (fun r25 u25 H locs w25 hP hD hS => ?_)
      obtain ⟨w25, rfl⟩ := w25
      refine lv_if_ne (tgt := 35) hx hb dX8_isCycle_28 (by decide) (fun c28 => ?_) (fun c28 => ?_)
      · -- 28 taken
        have c28 : evn fr to nv ne z := Classical.byContradiction (fun h => by rw [w25, if_neg h] at c28; exact c28 rfl)
        refine lv_aload_n hx hb dX8_isCycle_35 rfl (lv_at hl 0 rfl) ?_
        refine lv_lload_n hx hb dX8_isCycle_36 rfl (lv_at hl 1 rfl) ?_
        refine ct_calli hD hS hA (va_runV (As := [.long (lN z)]) (rest := []) F ((k_X8_isRing l dC dI cI cJ cZ cII cJJ R I15 A B nv ne fr to wt z gT hz2) _) (cwV 1 hts gX8_isCycle_X8_isRing rfl rfl rfl (by decide +kernel) ⟨(Nat.le_of_ble_eq_true rfl), (Nat.le_of_ble_eq_true rfl)⟩) (ct_preV 0 8 hK hN hP hD rfl rfl) rfl rfl hl.1 rfl (lv_room (Nat.le_of_ble_eq_true rfl)) dX8_isCycle_37 ⟨(Nat.le_of_ble_eq_true rfl), (Nat.le_of_ble_eq_true rfl)⟩) (fun r37 u37 H locs w37 hP hD hS => ?_)
        obtain ⟨I37, A37, B37⟩ := u37
        refine lv_if_eq (tgt := 47) hx hb dX8_isCycle_40 (by decide) (fun c40 => ?_) (fun c40 => ?_)
        · -- 40 taken
          have c40 : ¬ rng fr to nv ne z := fun h => by rw [w37.1, if_pos h] at c40; exact absurd c40 (by decide)
          have e1 : I37 0 = 0 := by rw [← e0]; exact w37.2.1 0 (by decide)
          refine lv_iconst (v := 1) hx hb dX8_isCycle_47 (by decide) ?_
          refine hret 48 ls _ _ 1 (I37, A37, B37) dX8_isCycle_48 rfl ?_ hP hD hS
          try dsimp only
          exact ⟨fun _ => ⟨e1, hfT.tr w37.2.fp, by rw [if_pos c28, if_neg c40]⟩, fun h => absurd hv h⟩
        · -- 40 not
          have c40 : rng fr to nv ne z := Classical.byContradiction (fun h => by rw [w37.1, if_neg h] at c40; exact c40 rfl)
          have e1 : I37 0 = 0 := by rw [← e0]; exact w37.2.1 0 (by decide)
          refine lv_iconst (v := 2) hx hb dX8_isCycle_43 (by decide) ?_
          refine lv_goto (tgt := 48) hx hb dX8_isCycle_44 (by decide) ?_
          refine hret 48 ls _ _ 2 (I37, A37, B37) dX8_isCycle_48 rfl ?_ hP hD hS
          try dsimp only
          exact ⟨fun _ => ⟨e1, hfT.tr w37.2.fp, by rw [if_pos c28, if_pos c40]⟩, fun h => absurd hv h⟩
      · -- 28 not
        have c28 : ¬ evn fr to nv ne z := fun h => by rw [w25, if_pos h] at c28; exact absurd c28 (by decide)
        refine lv_iconst (v := 0) hx hb dX8_isCycle_31 (by decide) ?_
        refine lv_goto (tgt := 48) hx hb dX8_isCycle_32 (by decide) ?_
        refine hret 48 ls _ _ 0 (I15, A, B) dX8_isCycle_48 rfl ?_ hP hD hS
        try dsimp only
        exact ⟨fun _ => ⟨e0, hfT, by rw [if_neg c28]⟩, fun h => absurd hv h⟩
    · -- 18 not
      rw [w15, inv14] at c18
      have hv : ¬ z < 2 ^ ne := fun h => by rw [if_pos h] at c18; exact c18 rfl
      have eT : I15 = va_up I 0 1 := by rw [eI15, inv14, if_neg hv]; rfl
      refine lv_iconst (v := 0) hx hb dX8_isCycle_21 (by decide) ?_
      refine hret 22 ls _ _ 0 (I15, A, B) dX8_isCycle_22 rfl ?_ hP hD hS
      try dsimp only
      exact ⟨fun h => absurd h hv, fun _ => ⟨by rw [eT]; exact up_self, fP.rf0 eT⟩⟩
  refine ct_calli hD hS hA (va_runV (As := [.long (lN z)]) (rest := [.ref (R 0)]) F ((k_X8_isSet l dC dI cI cJ cZ cII cJJ R I A B (lN z)) _) (cwV 1 hts gX8_isCycle_X8_isSet rfl rfl rfl (by decide +kernel) ⟨(Nat.le_of_ble_eq_true rfl), (Nat.le_of_ble_eq_true rfl)⟩) (ct_preV 0 8 hK hN hP hD rfl rfl) rfl rfl hl.1 rfl (lv_room (Nat.le_of_ble_eq_true rfl)) dX8_isCycle_3 ⟨(Nat.le_of_ble_eq_true rfl), (Nat.le_of_ble_eq_true rfl)⟩) (fun r3 u3 H locs w3 hP hD hS => ?_)
  obtain ⟨w3, rfl⟩ := w3
  refine lv_if_ne (tgt := 13) hx hb dX8_isCycle_6 (by decide) (fun c6 => ?_) (fun c6 => ?_)
  · -- 6 taken
    rw [w3, g.2.2.2.2.1] at c6
    have c6 : z < 2 ^ ne := (nm_set hz g.2.2.1).mp (Classical.byContradiction (fun h => by rw [if_neg h] at c6; exact c6 rfl))
    refine lv_iconst (v := 0) hx hb dX8_isCycle_13 (by decide) ?_
    exact K14 0 ls _ _  (by rw [if_pos c6]) hP hD hS (lv_sub hl [0, 1] rfl)
  · -- 6 not
    rw [w3, g.2.2.2.2.1] at c6
    have c6 : ¬ z < 2 ^ ne := fun h => by rw [if_pos ((nm_set hz g.2.2.1).mpr h)] at c6; exact absurd c6 (by decide)
    refine lv_iconst (v := 1) hx hb dX8_isCycle_9 (by decide) ?_
    refine lv_goto (tgt := 14) hx hb dX8_isCycle_10 (by decide) ?_
    exact K14 1 ls _ _  (by rw [if_neg c6]) hP hD hS (lv_sub hl [0, 1] rfl)
set_option maxHeartbeats 4000000 in
set_option maxRecDepth 100000 in
theorem k_X8_light (l : Launch) (dC : Nat → ClassId) (dI : Nat → Nat → Nat) (cI cJ cZ cII cJJ : ClassId) (R : Nat → Nat) (I : Nat → Int32) (A : Nat → Nat → Int32) (B : Nat → Nat → Int64) (nv ne : Nat) (fr to wt : Nat → Nat) (w : Int64) (g : gM nv ne fr to wt I A) (hd : dmA fr to ne ≤ 14) : ctI l (dC, dI) (tyL cI cJ cZ cII cJJ) (MW cI cJ cZ R) yX8_light wsX8_light (4, 110) [.ref (R 0), .long w] (I, A, B) (fun r u => u.1 0 = 0 ∧ fP I A B u ∧ r = nI (ct0 (2 ^ dmA fr to ne) (fun c => decide (lN (wsum wt (elA fr to ne c) ne) ≤ w)))) := by
  refine ctI_intro (cc := cX8_light) (maxL := 6) (by decide) rfl (Nat.le_of_ble_eq_true rfl) ?_
  intro p e s m below meth c ls Aa Q F hK hN hP hD hS hA hl hret
  have hx := F.1
  have hb := F.2.1
  have hown : s.vm.findClass RX8 = some m.cls := F.2.2.2.1
  have hts := F.2.2.2.2
  have hinX8 : ∀ w ∈ wsX80, w ∈ wsX8_light := by decide +kernel
  have hf58 := hts (.fieldLink RX8 58 "CycleHouseModel" "thrown" "I") (by decide +kernel)
  have hf42 := hts (.fieldLink RX8 42 "CycleHouseModel" "weights" "[J") (by decide +kernel)
  have hl : lv_has ls 6 [(0, .ref (R 0)), (1, .long w)] := hl
  refine lv_aload_n hx hb dX8_light_0 rfl (lv_at hl 0 rfl) ?_
  refine lv_iconst (v := 0) hx hb dX8_light_1 (by decide) ?_
  refine va_put (D := (dC, dI)) (ci := 8) (v := .int 0) (ty := .int) (C := RX8) (T := TX8) (N := 20) hx hb hts hinX8 tyX8 tyX8_ok nmX8 hown hK hP hD hS 0 rfl rfl 0 (by decide) hf58 (fun _ h9 => h9) rfl (by decide +kernel) rfl rfl (Nat.le_of_ble_eq_true rfl) dX8_light_2 (fun H locs hP hD hS => ?_)
  obtain ⟨I2, eI2⟩ : ∃ z : Nat → Int32, z = va_up I 0 0 := ⟨_, rfl⟩
  have hP : va_P (dC, dI) vwCl (MW cI cJ cZ R (I2, A, B)) H := by rw [eI2]; exact hP
  have hD : va_D Aa (MW cI cJ cZ R (I2, A, B)) := by rw [eI2]; exact hD
  have hf2 : fP I A B (I2, A, B) := fP.rf0 eI2
  have e0 : I2 0 = 0 := by rw [eI2]; exact up_self
  refine lv_aload_n hx hb dX8_light_5 rfl (lv_at hl 0 rfl) ?_
  refine ct_calli hD hS hA (va_runV (As := []) (rest := []) F ((k_X8_spread l dC dI cI cJ cZ cII cJJ R I2 A B nv ne fr to wt (g.fp hf2) hd) _) (cwV 0 hts gX8_light_X8_spread rfl rfl rfl (by decide +kernel) ⟨(Nat.le_of_ble_eq_true rfl), (Nat.le_of_ble_eq_true rfl)⟩) (ct_preV 0 8 hK hN hP hD rfl rfl) rfl rfl hl.1 rfl (lv_room (Nat.le_of_ble_eq_true rfl)) dX8_light_6 ⟨(Nat.le_of_ble_eq_true rfl), (Nat.le_of_ble_eq_true rfl)⟩) (fun r6 u6 H locs w6 hP hD hS => ?_)
  obtain ⟨I6, A6, B6⟩ := u6
  have er6 : r6 = nI (2 ^ dmA fr to ne) := w6.1
  subst er6
  have hpw := pw14 hd
  have e1 : I6 0 = 0 := by rw [← e0]; exact w6.2.2.2.1 0 (by decide)
  refine lv_istore_n (lv' := [(3, .int (nI (2 ^ dmA fr to ne))), (0, .ref (R 0)), (1, .long w)]) hx hb dX8_light_9 rfl hl (by decide) rfl (fun ls hl => ?_)
  refine lv_iconst (v := 0) hx hb dX8_light_10 (by decide) ?_
  refine lv_istore (lv' := [(4, .int 0), (3, .int (nI (2 ^ dmA fr to ne))), (0, .ref (R 0)), (1, .long w)]) hx hb dX8_light_11 hl (by decide) rfl (fun ls hl => ?_)
  refine lv_iconst (v := 0) hx hb dX8_light_13 (by decide) ?_
  refine lv_istore (lv' := [(5, .int 0), (4, .int 0), (3, .int (nI (2 ^ dmA fr to ne))), (0, .ref (R 0)), (1, .long w)]) hx hb dX8_light_14 hl (by decide) rfl (fun ls hl => ?_)
  have K16 : ∀ (kn : Nat) (i : Nat) (x : Int32) (ls : Array Slot) (H : Heap) (locs : List Loc), 2 ^ (dmA fr to ne) - i < kn → (i ≤ 2 ^ dmA fr to ne ∧ x = nI (ct0 i (fun c => decide (lN (wsum wt (elA fr to ne c) ne) ≤ w)))) → va_P (dC, dI) vwCl (MW cI cJ cZ R (I6, A6, B6)) H → va_D Aa (MW cI cJ cZ R (I6, A6, B6)) → va_S Aa s.heap H locs → lv_has ls 6 [(0, .ref (R 0)), (1, .long w), (3, .int (nI (2 ^ dmA fr to ne))), (4, .int x), (5, .int (nI i))] → W p l e (ctR (4, 110)) s m #[.ref (R 0), .long w] below meth c H locs 0 0 Q (F0 m 16 ls []) := by
    intro kn
    induction kn with
    | zero => intro i x ls H locs hmu; exact absurd hmu (Nat.not_lt_zero _)
    | succ kn ih16 =>
      intro i x ls H locs mu16 inv16 hP hD hS hl
      obtain ⟨hi, ex⟩ := inv16
      refine lv_iload hx hb dX8_light_16 (lv_at hl 4 rfl) ?_
      refine lv_iload_n hx hb dX8_light_18 rfl (lv_at hl 2 rfl) ?_
      refine lv_icmp_ge (tgt := 50) hx hb dX8_light_19 (by decide) (fun c19 => ?_) (fun c19 => ?_)
      · -- 19 taken
        rw [nI_leI (by omega) (by omega)] at c19
        have hge : i = 2 ^ dmA fr to ne := by omega
        rw [hge] at ex
        refine lv_iload hx hb dX8_light_50 (lv_at hl 3 rfl) ?_
        refine hret 52 ls _ _ x (I6, A6, B6) dX8_light_52 rfl ?_ hP hD hS
        try dsimp only
        exact ⟨e1, hf2.tr w6.2.2.2.fp, ex⟩
      · -- 19 not
        rw [nI_leI (by omega) (by omega)] at c19
        have icl : (nI i).toNatClampNeg = i := nI_clamp (by omega)
        refine lv_iload hx hb dX8_light_22 (lv_at hl 3 rfl) ?_
        refine lv_aload_n hx hb dX8_light_24 rfl (lv_at hl 0 rfl) ?_
        refine va_get (D := (dC, dI)) (ci := 8) (v := .ref (R 14)) (C := RX8) (T := TX8) (N := 20) hx hb hts hinX8 hown hK hP 0 rfl rfl 14 (by decide) hf42 (fun _ h9 => h9) rfl dX8_light_25 ?_
        refine lv_iload hx hb dX8_light_28 (lv_at hl 4 rfl) ?_
        have h30 : vp_in (nI i) 16384 := vp_in_nI (by omega) (by omega)
        refine va_lald hx hb hK hP 10 1 rfl rfl h30 dX8_light_30 ?_
        refine lv_topl (fun x30 ex30 => ?_)
        have ex30 : x30 = B6 14 (nI i).toNatClampNeg := ex30
        have ex30 : x30 = lN (wsum wt (elA fr to ne i) ne) := by rw [ex30, icl]; exact (w6.2.1 i (by omega)).2
        refine lv_lload_n hx hb dX8_light_31 rfl (lv_at hl 1 rfl) ?_
        refine W.lcmp hx hb dX8_light_32 ?_
        refine lv_if_gt (tgt := 40) hx hb dX8_light_33 (by decide) (fun c33 => ?_) (fun c33 => ?_)
        · -- 33 taken
          rw [lg_cmp_gt] at c33
          rw [ex30] at c33
          refine lv_iconst (v := 0) hx hb dX8_light_40 (by decide) ?_
          refine lv_iadd hx hb dX8_light_41 ?_
          refine lv_topi (fun x41 ex41 => ?_)
          refine lv_istore (lv' := [(4, .int x41), (0, .ref (R 0)), (1, .long w), (3, .int (nI (2 ^ dmA fr to ne))), (5, .int (nI i))]) hx hb dX8_light_42 hl (by decide) rfl (fun ls hl => ?_)
          obtain ⟨x44, ex44⟩ : ∃ y : Int32, y = nI i + (1) := ⟨_, rfl⟩
          refine lv_iinc (v := x44) (lv' := [(5, .int x44), (4, .int x41), (0, .ref (R 0)), (1, .long w), (3, .int (nI (2 ^ dmA fr to ne)))]) hx hb dX8_light_44 hl (k := 4) rfl (by rw [ex44]; rfl) (by decide) rfl (fun ls hl => ?_)
          have ex44 : x44 = nI (i + 1) := by rw [ex44]; exact nI_1 i
          subst ex44
          refine lv_goto (tgt := 16) hx hb dX8_light_47 (by decide) ?_
          exact ih16 (i + 1) x41 ls _ _ (by omega) ⟨by omega, by rw [ex41, ex, ct0_f (decide_eq_false (Int64.not_le.mpr c33))]; exact Int32.add_zero _⟩ hP hD hS (lv_sub hl [2, 3, 4, 1, 0] rfl)
        · -- 33 not
          rw [lg_cmp_gt] at c33
          rw [ex30] at c33
          refine lv_iconst (v := 1) hx hb dX8_light_36 (by decide) ?_
          refine lv_goto (tgt := 41) hx hb dX8_light_37 (by decide) ?_
          refine lv_iadd hx hb dX8_light_41 ?_
          refine lv_topi (fun x41 ex41 => ?_)
          refine lv_istore (lv' := [(4, .int x41), (0, .ref (R 0)), (1, .long w), (3, .int (nI (2 ^ dmA fr to ne))), (5, .int (nI i))]) hx hb dX8_light_42 hl (by decide) rfl (fun ls hl => ?_)
          obtain ⟨x44, ex44⟩ : ∃ y : Int32, y = nI i + (1) := ⟨_, rfl⟩
          refine lv_iinc (v := x44) (lv' := [(5, .int x44), (4, .int x41), (0, .ref (R 0)), (1, .long w), (3, .int (nI (2 ^ dmA fr to ne)))]) hx hb dX8_light_44 hl (k := 4) rfl (by rw [ex44]; rfl) (by decide) rfl (fun ls hl => ?_)
          have ex44 : x44 = nI (i + 1) := by rw [ex44]; exact nI_1 i
          subst ex44
          refine lv_goto (tgt := 16) hx hb dX8_light_47 (by decide) ?_
          exact ih16 (i + 1) x41 ls _ _ (by omega) ⟨by omega, by rw [ex41, ex, ct0_t (decide_eq_true (Int64.not_lt.mp c33))]; exact nI_1 _⟩ hP hD hS (lv_sub hl [2, 3, 4, 1, 0] rfl)
  exact K16 _ 0 0 ls _ _ (Nat.lt_succ_self _) ⟨Nat.zero_le _, rfl⟩ hP hD hS (lv_sub hl [3, 4, 2, 1, 0] rfl)
set_option maxHeartbeats 4000000 in
set_option maxRecDepth 100000 in
theorem k_X8_cycles (l : Launch) (dC : Nat → ClassId) (dI : Nat → Nat → Nat) (cI cJ cZ cII cJJ : ClassId) (R : Nat → Nat) (I : Nat → Int32) (A : Nat → Nat → Int32) (B : Nat → Nat → Int64) (nv ne : Nat) (fr to wt : Nat → Nat) (g : gM nv ne fr to wt I A) (hd : dmA fr to ne ≤ 14) : ctI l (dC, dI) (tyL cI cJ cZ cII cJJ) (MW cI cJ cZ R) yX8_cycles wsX8_cycles (4, 110) [.ref (R 0)] (I, A, B) (fun r u => u.1 0 = 0 ∧ fP I A B u ∧ r = nI (ct0 (2 ^ dmA fr to ne) (fun c => decide (rng fr to nv ne (elA fr to ne c))))) := by
  refine ctI_intro (cc := cX8_cycles) (maxL := 4) (by decide) rfl (Nat.le_of_ble_eq_true rfl) ?_
  intro p e s m below meth c ls Aa Q F hK hN hP hD hS hA hl hret
  have hx := F.1
  have hb := F.2.1
  have hown : s.vm.findClass RX8 = some m.cls := F.2.2.2.1
  have hts := F.2.2.2.2
  have hinX8 : ∀ w ∈ wsX80, w ∈ wsX8_cycles := by decide +kernel
  have hf58 := hts (.fieldLink RX8 58 "CycleHouseModel" "thrown" "I") (by decide +kernel)
  have hf39 := hts (.fieldLink RX8 39 "CycleHouseModel" "elements" "[J") (by decide +kernel)
  have hl : lv_has ls 4 [(0, .ref (R 0))] := hl
  refine lv_aload_n hx hb dX8_cycles_0 rfl (lv_at hl 0 rfl) ?_
  refine lv_iconst (v := 0) hx hb dX8_cycles_1 (by decide) ?_
  refine va_put (D := (dC, dI)) (ci := 8) (v := .int 0) (ty := .int) (C := RX8) (T := TX8) (N := 20) hx hb hts hinX8 tyX8 tyX8_ok nmX8 hown hK hP hD hS 0 rfl rfl 0 (by decide) hf58 (fun _ h9 => h9) rfl (by decide +kernel) rfl rfl (Nat.le_of_ble_eq_true rfl) dX8_cycles_2 (fun H locs hP hD hS => ?_)
  obtain ⟨I2, eI2⟩ : ∃ z : Nat → Int32, z = va_up I 0 0 := ⟨_, rfl⟩
  have hP : va_P (dC, dI) vwCl (MW cI cJ cZ R (I2, A, B)) H := by rw [eI2]; exact hP
  have hD : va_D Aa (MW cI cJ cZ R (I2, A, B)) := by rw [eI2]; exact hD
  have hf2 : fP I A B (I2, A, B) := fP.rf0 eI2
  have e0 : I2 0 = 0 := by rw [eI2]; exact up_self
  refine lv_aload_n hx hb dX8_cycles_5 rfl (lv_at hl 0 rfl) ?_
  refine ct_calli hD hS hA (va_runV (As := []) (rest := []) F ((k_X8_spread l dC dI cI cJ cZ cII cJJ R I2 A B nv ne fr to wt (g.fp hf2) hd) _) (cwV 0 hts gX8_cycles_X8_spread rfl rfl rfl (by decide +kernel) ⟨(Nat.le_of_ble_eq_true rfl), (Nat.le_of_ble_eq_true rfl)⟩) (ct_preV 0 8 hK hN hP hD rfl rfl) rfl rfl hl.1 rfl (lv_room (Nat.le_of_ble_eq_true rfl)) dX8_cycles_6 ⟨(Nat.le_of_ble_eq_true rfl), (Nat.le_of_ble_eq_true rfl)⟩) (fun r6 u6 H locs w6 hP hD hS => ?_)
  obtain ⟨I6, A6, B6⟩ := u6
  have er6 : r6 = nI (2 ^ dmA fr to ne) := w6.1
  subst er6
  have hpw := pw14 hd
  have e1 : I6 0 = 0 := by rw [← e0]; exact w6.2.2.2.1 0 (by decide)
  refine lv_istore_n (lv' := [(1, .int (nI (2 ^ dmA fr to ne))), (0, .ref (R 0))]) hx hb dX8_cycles_9 rfl hl (by decide) rfl (fun ls hl => ?_)
  refine lv_iconst (v := 0) hx hb dX8_cycles_10 (by decide) ?_
  refine lv_istore_n (lv' := [(2, .int 0), (1, .int (nI (2 ^ dmA fr to ne))), (0, .ref (R 0))]) hx hb dX8_cycles_11 rfl hl (by decide) rfl (fun ls hl => ?_)
  refine lv_iconst (v := 1) hx hb dX8_cycles_12 (by decide) ?_
  refine lv_istore_n (lv' := [(3, .int 1), (2, .int 0), (1, .int (nI (2 ^ dmA fr to ne))), (0, .ref (R 0))]) hx hb dX8_cycles_13 rfl hl (by decide) rfl (fun ls hl => ?_)
  have K14 : ∀ (kn : Nat) (i : Nat) (x : Int32) (I_14 : Nat → Int32) (A_14 : Nat → Nat → Int32) (B_14 : Nat → Nat → Int64) (ls : Array Slot) (H : Heap) (locs : List Loc), 2 ^ (dmA fr to ne) - i < kn → (1 ≤ i ∧ i ≤ 2 ^ dmA fr to ne ∧ x = nI (ct0 i (fun c => decide (rng fr to nv ne (elA fr to ne c)))) ∧ fP I A B (I_14, A_14, B_14) ∧ I_14 0 = 0 ∧ ∀ c, c < 2 ^ dmA fr to ne → B_14 13 c = lN (elA fr to ne c) ∧ B_14 14 c = lN (wsum wt (elA fr to ne c) ne)) → va_P (dC, dI) vwCl (MW cI cJ cZ R (I_14, A_14, B_14)) H → va_D Aa (MW cI cJ cZ R (I_14, A_14, B_14)) → va_S Aa s.heap H locs → lv_has ls 4 [(0, .ref (R 0)), (1, .int (nI (2 ^ dmA fr to ne))), (2, .int x), (3, .int (nI i))] → W p l e (ctR (4, 110)) s m #[.ref (R 0)] below meth c H locs 0 0 Q (F0 m 14 ls []) := by
    intro kn
    induction kn with
    | zero => intro i x I_14 A_14 B_14 ls H locs hmu; exact absurd hmu (Nat.not_lt_zero _)
    | succ kn ih14 =>
      intro i x I_14 A_14 B_14 ls H locs mu14 inv14 hP hD hS hl
      obtain ⟨h1, hi, ex, hf, e0, hel⟩ := inv14
      refine lv_iload_n hx hb dX8_cycles_14 rfl (lv_at hl 3 rfl) ?_
      refine lv_iload_n hx hb dX8_cycles_15 rfl (lv_at hl 1 rfl) ?_
      refine lv_icmp_ge (tgt := 46) hx hb dX8_cycles_16 (by decide) (fun c16 => ?_) (fun c16 => ?_)
      · -- 16 taken
        rw [nI_leI (by omega) (by omega)] at c16
        have hge : i = 2 ^ dmA fr to ne := by omega
        rw [hge] at ex
        refine lv_iload_n hx hb dX8_cycles_46 rfl (lv_at hl 2 rfl) ?_
        refine hret 47 ls _ _ x (I_14, A_14, B_14) dX8_cycles_47 rfl ?_ hP hD hS
        try dsimp only
        exact ⟨e0, hf, ex⟩
      · -- 16 not
        rw [nI_leI (by omega) (by omega)] at c16
        have icl : (nI i).toNatClampNeg = i := nI_clamp (by omega)
        refine lv_iload_n hx hb dX8_cycles_19 rfl (lv_at hl 2 rfl) ?_
        refine lv_aload_n hx hb dX8_cycles_20 rfl (lv_at hl 0 rfl) ?_
        refine lv_aload_n hx hb dX8_cycles_21 rfl (lv_at hl 0 rfl) ?_
        refine va_get (D := (dC, dI)) (ci := 8) (v := .ref (R 13)) (C := RX8) (T := TX8) (N := 20) hx hb hts hinX8 hown hK hP 0 rfl rfl 13 (by decide) hf39 (fun _ h9 => h9) rfl dX8_cycles_22 ?_
        refine lv_iload_n hx hb dX8_cycles_25 rfl (lv_at hl 3 rfl) ?_
        have h26 : vp_in (nI i) 16384 := vp_in_nI (by omega) (by omega)
        refine va_lald hx hb hK hP 9 1 rfl rfl h26 dX8_cycles_26 ?_
        refine lv_topl (fun x26 ex26 => ?_)
        have ex26 : x26 = B_14 13 (nI i).toNatClampNeg := ex26
        have ex26 : x26 = lN (elA fr to ne i) := by rw [ex26, icl]; exact (hel i (by omega)).1
        subst ex26
        refine ct_calli hD hS hA (va_runV (As := [.long (lN (elA fr to ne i))]) (rest := [.int x]) F ((k_X8_isRing l dC dI cI cJ cZ cII cJJ R I_14 A_14 B_14 nv ne fr to wt (elA fr to ne i) (g.fp hf) (pw40 (elA_lt (by have := g.2.2.1; omega) g.en (Nat.le_refl _)) g.2.2.1)) _) (cwV 1 hts gX8_cycles_X8_isRing rfl rfl rfl (by decide +kernel) ⟨(Nat.le_of_ble_eq_true rfl), (Nat.le_of_ble_eq_true rfl)⟩) (ct_preV 0 8 hK hN hP hD rfl rfl) rfl rfl hl.1 rfl (lv_room (Nat.le_of_ble_eq_true rfl)) dX8_cycles_27 ⟨(Nat.le_of_ble_eq_true rfl), (Nat.le_of_ble_eq_true rfl)⟩) (fun r27 u27 H locs w27 hP hD hS => ?_)
        obtain ⟨I27, A27, B27⟩ := u27
        refine lv_if_eq (tgt := 37) hx hb dX8_cycles_30 (by decide) (fun c30 => ?_) (fun c30 => ?_)
        · -- 30 taken
          have c30 : ¬ rng fr to nv ne (elA fr to ne i) := fun h => by rw [w27.1, if_pos h] at c30; exact absurd c30 (by decide)
          refine lv_iconst (v := 0) hx hb dX8_cycles_37 (by decide) ?_
          refine lv_iadd hx hb dX8_cycles_38 ?_
          refine lv_topi (fun x38 ex38 => ?_)
          refine lv_istore_n (lv' := [(2, .int x38), (0, .ref (R 0)), (1, .int (nI (2 ^ dmA fr to ne))), (3, .int (nI i))]) hx hb dX8_cycles_39 rfl hl (by decide) rfl (fun ls hl => ?_)
          obtain ⟨x40, ex40⟩ : ∃ y : Int32, y = nI i + (1) := ⟨_, rfl⟩
          refine lv_iinc (v := x40) (lv' := [(3, .int x40), (2, .int x38), (0, .ref (R 0)), (1, .int (nI (2 ^ dmA fr to ne)))]) hx hb dX8_cycles_40 hl (k := 3) rfl (by rw [ex40]; rfl) (by decide) rfl (fun ls hl => ?_)
          have ex40 : x40 = nI (i + 1) := by rw [ex40]; exact nI_1 i
          subst ex40
          refine lv_goto (tgt := 14) hx hb dX8_cycles_43 (by decide) ?_
          exact ih14 (i + 1) x38 I27 A27 B27 ls _ _ (by omega) ⟨by omega, by omega, by rw [ex38, ex, ct0_f (decide_eq_false c30)]; exact Int32.add_zero _, hf.tr w27.2.fp, (w27.2.1 0 (by decide)).trans e0, by rw [show B27 13 = B_14 13 from w27.2.2.2 13 (by decide) (by decide), show B27 14 = B_14 14 from w27.2.2.2 14 (by decide) (by decide)]; exact hel⟩ hP hD hS (lv_sub hl [2, 3, 1, 0] rfl)
        · -- 30 not
          have c30 : rng fr to nv ne (elA fr to ne i) := Classical.byContradiction (fun h => by rw [w27.1, if_neg h] at c30; exact c30 rfl)
          refine lv_iconst (v := 1) hx hb dX8_cycles_33 (by decide) ?_
          refine lv_goto (tgt := 38) hx hb dX8_cycles_34 (by decide) ?_
          refine lv_iadd hx hb dX8_cycles_38 ?_
          refine lv_topi (fun x38 ex38 => ?_)
          refine lv_istore_n (lv' := [(2, .int x38), (0, .ref (R 0)), (1, .int (nI (2 ^ dmA fr to ne))), (3, .int (nI i))]) hx hb dX8_cycles_39 rfl hl (by decide) rfl (fun ls hl => ?_)
          obtain ⟨x40, ex40⟩ : ∃ y : Int32, y = nI i + (1) := ⟨_, rfl⟩
          refine lv_iinc (v := x40) (lv' := [(3, .int x40), (2, .int x38), (0, .ref (R 0)), (1, .int (nI (2 ^ dmA fr to ne)))]) hx hb dX8_cycles_40 hl (k := 3) rfl (by rw [ex40]; rfl) (by decide) rfl (fun ls hl => ?_)
          have ex40 : x40 = nI (i + 1) := by rw [ex40]; exact nI_1 i
          subst ex40
          refine lv_goto (tgt := 14) hx hb dX8_cycles_43 (by decide) ?_
          exact ih14 (i + 1) x38 I27 A27 B27 ls _ _ (by omega) ⟨by omega, by omega, by rw [ex38, ex, ct0_t (decide_eq_true c30)]; exact nI_1 _, hf.tr w27.2.fp, (w27.2.1 0 (by decide)).trans e0, by rw [show B27 13 = B_14 13 from w27.2.2.2 13 (by decide) (by decide), show B27 14 = B_14 14 from w27.2.2.2 14 (by decide) (by decide)]; exact hel⟩ hP hD hS (lv_sub hl [2, 3, 1, 0] rfl)
  exact K14 _ 1 0 I6 A6 B6 ls _ _ (Nat.lt_succ_self _) ⟨Nat.le_refl 1, Nat.two_pow_pos _, by rw [ct0_f (decide_eq_false (fun h => h.1 (cb_0 _ _)))]; rfl, hf2.tr w6.2.2.2.fp, e1, w6.2.1⟩ hP hD hS (lv_sub hl [3, 2, 1, 0] rfl)
