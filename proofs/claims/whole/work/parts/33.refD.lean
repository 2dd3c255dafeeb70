set_option maxHeartbeats 4000000 in
set_option maxRecDepth 100000 in
theorem k_X8_thrown (l : Launch) (dC : Nat → ClassId) (dI : Nat → Nat → Nat) (cI cJ cZ cII cJJ : ClassId) (R : Nat → Nat) (I : Nat → Int32) (A : Nat → Nat → Int32) (B : Nat → Nat → Int64)   : ctI l (dC, dI) (tyL cI cJ cZ cII cJJ) (MW cI cJ cZ R) yX8_thrown wsX8_thrown (0, 0) [.ref (R 0)] (I, A, B) (fun r u => r = I 0 ∧ u = (I, A, B)) := by
  refine ctI_intro (cc := cX8_thrown) (maxL := 1) (by decide) rfl (Nat.le_of_ble_eq_true rfl) ?_
  intro p e s m below meth c ls Aa Q F hK hN hP hD hS hA hl hret
  have hx := F.1
  have hb := F.2.1
  have hown : s.vm.findClass RX8 = some m.cls := F.2.2.2.1
  have hts := F.2.2.2.2
  have hinX8 : ∀ w ∈ wsX80, w ∈ wsX8_thrown := by decide +kernel
  have hf58 := hts (.fieldLink RX8 58 "CycleHouseModel" "thrown" "I") (by decide +kernel)
  have hl : lv_has ls 1 [(0, .ref (R 0))] := hl
  refine lv_aload_n hx hb dX8_thrown_0 rfl (lv_at hl 0 rfl) ?_
  refine va_get (D := (dC, dI)) (ci := 8) (v := .int (I 0)) (C := RX8) (T := TX8) (N := 20) hx hb hts hinX8 hown hK hP 0 rfl rfl 0 (by decide) hf58 (fun _ h9 => h9) rfl dX8_thrown_1 ?_
  refine hret 4 ls _ _ (I 0) (I, A, B) dX8_thrown_4 rfl ?_ hP hD hS
  try dsimp only
  exact ⟨rfl, rfl⟩
set_option maxHeartbeats 4000000 in
set_option maxRecDepth 100000 in
theorem k_X8_reset (l : Launch) (dC : Nat → ClassId) (dI : Nat → Nat → Nat) (cI cJ cZ cII cJJ : ClassId) (R : Nat → Nat) (I : Nat → Int32) (A : Nat → Nat → Int32) (B : Nat → Nat → Int64) (v : Int32)  : ctI l (dC, dI) (tyL cI cJ cZ cII cJJ) (MW cI cJ cZ R) yX8_reset wsX8_reset (1, 22) [.ref (R 0), .int v] (I, A, B) (fun r u => (¬ (v < 1 ∨ 16 < v) → r = I 2 ∧ u = (va_up (va_up (va_up I 0 0) 1 v) 2 0, A, B)) ∧ ((v < 1 ∨ 16 < v) → u = (va_up I 0 1, A, B))) := by
  refine ctI_intro (cc := cX8_reset) (maxL := 3) (by decide) rfl (Nat.le_of_ble_eq_true rfl) ?_
  intro p e s m below meth c ls Aa Q F hK hN hP hD hS hA hl hret
  have hx := F.1
  have hb := F.2.1
  have hown : s.vm.findClass RX8 = some m.cls := F.2.2.2.1
  have hts := F.2.2.2.2
  have hinX8 : ∀ w ∈ wsX80, w ∈ wsX8_reset := by decide +kernel
  have hf61 := hts (.fieldLink RX8 61 "CycleHouseModel" "m" "I") (by decide +kernel)
  have hf7 := hts (.fieldLink RX8 7 "CycleHouseModel" "n" "I") (by decide +kernel)
  have hl : lv_has ls 3 [(0, .ref (R 0)), (1, .int v)] := hl
  refine lv_aload_n hx hb dX8_reset_0 rfl (lv_at hl 0 rfl) ?_
  have K17 : ∀ (o : Int32) (ls : Array Slot) (H : Heap) (locs : List Loc), (o = (if v < 1 ∨ 16 < v then 1 else 0)) → va_P (dC, dI) vwCl (MW cI cJ cZ R (I, A, B)) H → va_D Aa (MW cI cJ cZ R (I, A, B)) → va_S Aa s.heap H locs → lv_has ls 3 [(0, .ref (R 0)), (1, .int v)] → W p l e (ctR (1, 22)) s m #[.ref (R 0), .int v] below meth c H locs 0 0 Q (F0 m 17 ls [.int o, .ref (R 0)]) := by
    intro o ls H locs inv17 hP hD hS hl
    refine lv_iconst (v := 0) hx hb dX8_reset_17 (by decide) ?_
    refine ct_calli hD hS hA (va_runV (As := [.int o, .int 0]) (rest := []) F ((k_X8_throwing l dC dI cI cJ cZ cII cJJ R I A B o 0) _) (cwV 2 hts gX8_reset_X8_throwing rfl rfl rfl (by decide +kernel) ⟨(Nat.le_of_ble_eq_true rfl), (Nat.le_of_ble_eq_true rfl)⟩) (ct_preV 0 8 hK hN hP hD rfl rfl) rfl rfl hl.1 rfl (lv_room (Nat.le_of_ble_eq_true rfl)) dX8_reset_18 ⟨(Nat.le_of_ble_eq_true rfl), (Nat.le_of_ble_eq_true rfl)⟩) (fun r18 u18 H locs w18 hP hD hS => ?_)
    obtain ⟨w18, hu18⟩ := w18
    obtain ⟨I18, A18, B18⟩ := u18
    have eI18 := congrArg (fun z => z.1) hu18
    dsimp only at eI18
    have eA18 : A = A18 := (congrArg (fun z => z.2.1) hu18).symm
    subst eA18
    have eB18 : B = B18 := (congrArg (fun z => z.2.2) hu18).symm
    subst eB18
    clear hu18
    refine lv_if_eq (tgt := 26) hx hb dX8_reset_21 (by decide) (fun c21 => ?_) (fun c21 => ?_)
    · -- 21 taken
      rw [w18, inv17] at c21
      have hv : ¬ (v < 1 ∨ 16 < v) := fun h => by rw [if_pos h] at c21; exact absurd c21 (by decide)
      refine lv_aload_n hx hb dX8_reset_26 rfl (lv_at hl 0 rfl) ?_
      refine va_get (D := (dC, dI)) (ci := 8) (v := .int (I18 2)) (C := RX8) (T := TX8) (N := 20) hx hb hts hinX8 hown hK hP 0 rfl rfl 2 (by decide) hf61 (fun _ h9 => h9) rfl dX8_reset_27 ?_
      refine lv_istore_n (lv' := [(2, .int (I18 2)), (0, .ref (R 0)), (1, .int v)]) hx hb dX8_reset_30 rfl hl (by decide) rfl (fun ls hl => ?_)
      refine lv_aload_n hx hb dX8_reset_31 rfl (lv_at hl 1 rfl) ?_
      refine lv_iload_n hx hb dX8_reset_32 rfl (lv_at hl 2 rfl) ?_
      refine va_put (D := (dC, dI)) (ci := 8) (v := .int v) (ty := .int) (C := RX8) (T := TX8) (N := 20) hx hb hts hinX8 tyX8 tyX8_ok nmX8 hown hK hP hD hS 0 rfl rfl 1 (by decide) hf7 (fun _ h9 => h9) rfl (by decide +kernel) rfl rfl (Nat.le_of_ble_eq_true rfl) dX8_reset_33 (fun H locs hP hD hS => ?_)
      obtain ⟨I33, eI33⟩ : ∃ z : Nat → Int32, z = va_up I18 1 v := ⟨_, rfl⟩
      have hP : va_P (dC, dI) vwCl (MW cI cJ cZ R (I33, A, B)) H := by rw [eI33]; exact hP
      have hD : va_D Aa (MW cI cJ cZ R (I33, A, B)) := by rw [eI33]; exact hD
      refine lv_aload_n hx hb dX8_reset_36 rfl (lv_at hl 1 rfl) ?_
      refine lv_iconst (v := 0) hx hb dX8_reset_37 (by decide) ?_
      refine va_put (D := (dC, dI)) (ci := 8) (v := .int 0) (ty := .int) (C := RX8) (T := TX8) (N := 20) hx hb hts hinX8 tyX8 tyX8_ok nmX8 hown hK hP hD hS 0 rfl rfl 2 (by decide) hf61 (fun _ h9 => h9) rfl (by decide +kernel) rfl rfl (Nat.le_of_ble_eq_true rfl) dX8_reset_38 (fun H locs hP hD hS => ?_)
      obtain ⟨I38, eI38⟩ : ∃ z : Nat → Int32, z = va_up I33 2 0 := ⟨_, rfl⟩
      have hP : va_P (dC, dI) vwCl (MW cI cJ cZ R (I38, A, B)) H := by rw [eI38]; exact hP
      have hD : va_D Aa (MW cI cJ cZ R (I38, A, B)) := by rw [eI38]; exact hD
      refine lv_iload_n hx hb dX8_reset_41 rfl (lv_at hl 0 rfl) ?_
      refine hret 42 ls _ _ (I18 2) (I38, A, B) dX8_reset_42 rfl ?_ hP hD hS
      try dsimp only
      exact ⟨fun h => ⟨by rw [eI18, up_ne (by decide)], by rw [eI38, eI33, eI18, inv17, if_neg h]; rfl⟩, fun h => absurd h hv⟩
    · -- 21 not
      rw [w18, inv17] at c21
      have hv : v < 1 ∨ 16 < v := Classical.byContradiction (fun h => by rw [if_neg h] at c21; exact absurd rfl c21)
      refine lv_iconst (v := 0) hx hb dX8_reset_24 (by decide) ?_
      refine hret 25 ls _ _ 0 (I18, A, B) dX8_reset_25 rfl ?_ hP hD hS
      try dsimp only
      exact ⟨fun h => absurd hv h, fun _ => by rw [eI18, inv17, if_pos hv]; rfl⟩
  refine lv_iload_n hx hb dX8_reset_1 rfl (lv_at hl 1 rfl) ?_
  refine lv_iconst (v := 1) hx hb dX8_reset_2 (by decide) ?_
  refine lv_icmp_lt (tgt := 12) hx hb dX8_reset_3 (by decide) (fun c3 => ?_) (fun c3 => ?_)
  · -- 3 taken
    refine lv_iconst (v := 1) hx hb dX8_reset_12 (by decide) ?_
    refine lv_goto (tgt := 17) hx hb dX8_reset_13 (by decide) ?_
    exact K17 1 ls _ _  (by rw [if_pos (Or.inl c3)]) hP hD hS (lv_sub hl [0, 1] rfl)
  · -- 3 not
    refine lv_iload_n hx hb dX8_reset_6 rfl (lv_at hl 1 rfl) ?_
    refine lv_bipush (v := 16) hx hb dX8_reset_7 (by decide) ?_
    refine lv_icmp_le (tgt := 16) hx hb dX8_reset_9 (by decide) (fun c9 => ?_) (fun c9 => ?_)
    · -- 9 taken
      refine lv_iconst (v := 0) hx hb dX8_reset_16 (by decide) ?_
      exact K17 0 ls _ _  (by rw [if_neg (fun h => h.elim c3 (Int32.not_lt.mpr c9))]) hP hD hS (lv_sub hl [0, 1] rfl)
    · -- 9 not
      refine lv_iconst (v := 1) hx hb dX8_reset_12 (by decide) ?_
      refine lv_goto (tgt := 17) hx hb dX8_reset_13 (by decide) ?_
      exact K17 1 ls _ _  (by rw [if_pos (Or.inr (Int32.not_le.mp c9))]) hP hD hS (lv_sub hl [0, 1] rfl)
set_option maxHeartbeats 4000000 in
set_option maxRecDepth 100000 in
theorem k_X8_drop (l : Launch) (dC : Nat → ClassId) (dI : Nat → Nat → Nat) (cI cJ cZ cII cJJ : ClassId) (R : Nat → Nat) (I : Nat → Int32) (A : Nat → Nat → Int32) (B : Nat → Nat → Int64)   : ctI l (dC, dI) (tyL cI cJ cZ cII cJJ) (MW cI cJ cZ R) yX8_drop wsX8_drop (1, 22) [.ref (R 0)] (I, A, B) (fun r u => (I 2 ≠ 0 → r = I 2 - 1 ∧ u = (va_up (va_up I 0 0) 2 (I 2 - 1), A, B)) ∧ (I 2 = 0 → u = (va_up I 0 1, A, B))) := by
  refine ctI_intro (cc := cX8_drop) (maxL := 1) (by decide) rfl (Nat.le_of_ble_eq_true rfl) ?_
  intro p e s m below meth c ls Aa Q F hK hN hP hD hS hA hl hret
  have hx := F.1
  have hb := F.2.1
  have hown : s.vm.findClass RX8 = some m.cls := F.2.2.2.1
  have hts := F.2.2.2.2
  have hinX8 : ∀ w ∈ wsX80, w ∈ wsX8_drop := by decide +kernel
  have hf61 := hts (.fieldLink RX8 61 "CycleHouseModel" "m" "I") (by decide +kernel)
  have hl : lv_has ls 1 [(0, .ref (R 0))] := hl
  refine lv_aload_n hx hb dX8_drop_0 rfl (lv_at hl 0 rfl) ?_
  have K13 : ∀ (o : Int32) (ls : Array Slot) (H : Heap) (locs : List Loc), (o = (if I 2 = 0 then 1 else 0)) → va_P (dC, dI) vwCl (MW cI cJ cZ R (I, A, B)) H → va_D Aa (MW cI cJ cZ R (I, A, B)) → va_S Aa s.heap H locs → lv_has ls 1 [(0, .ref (R 0))] → W p l e (ctR (1, 22)) s m #[.ref (R 0)] below meth c H locs 0 0 Q (F0 m 13 ls [.int o, .ref (R 0)]) := by
    intro o ls H locs inv13 hP hD hS hl
    refine lv_iconst (v := 0) hx hb dX8_drop_13 (by decide) ?_
    refine ct_calli hD hS hA (va_runV (As := [.int o, .int 0]) (rest := []) F ((k_X8_throwing l dC dI cI cJ cZ cII cJJ R I A B o 0) _) (cwV 2 hts gX8_drop_X8_throwing rfl rfl rfl (by decide +kernel) ⟨(Nat.le_of_ble_eq_true rfl), (Nat.le_of_ble_eq_true rfl)⟩) (ct_preV 0 8 hK hN hP hD rfl rfl) rfl rfl hl.1 rfl (lv_room (Nat.le_of_ble_eq_true rfl)) dX8_drop_14 ⟨(Nat.le_of_ble_eq_true rfl), (Nat.le_of_ble_eq_true rfl)⟩) (fun r14 u14 H locs w14 hP hD hS => ?_)
    obtain ⟨w14, hu14⟩ := w14
    obtain ⟨I14, A14, B14⟩ := u14
    have eI14 := congrArg (fun z => z.1) hu14
    dsimp only at eI14
    have eA14 : A = A14 := (congrArg (fun z => z.2.1) hu14).symm
    subst eA14
    have eB14 : B = B14 := (congrArg (fun z => z.2.2) hu14).symm
    subst eB14
    clear hu14
    refine lv_if_eq (tgt := 22) hx hb dX8_drop_17 (by decide) (fun c17 => ?_) (fun c17 => ?_)
    · -- 17 taken
      rw [w14, inv13] at c17
      have hv : I 2 ≠ 0 := fun h => by rw [if_pos h] at c17; exact absurd c17 (by decide)
      refine lv_aload_n hx hb dX8_drop_22 rfl (lv_at hl 0 rfl) ?_
      refine lv_dup hx hb dX8_drop_23 rfl ?_
      refine va_get (D := (dC, dI)) (ci := 8) (v := .int (I14 2)) (C := RX8) (T := TX8) (N := 20) hx hb hts hinX8 hown hK hP 0 rfl rfl 2 (by decide) hf61 (fun _ h9 => h9) rfl dX8_drop_24 ?_
      refine lv_iconst (v := 1) hx hb dX8_drop_27 (by decide) ?_
      refine lv_isub hx hb dX8_drop_28 ?_
      refine lv_topi (fun x28 ex28 => ?_)
      refine va_put (D := (dC, dI)) (ci := 8) (v := .int x28) (ty := .int) (C := RX8) (T := TX8) (N := 20) hx hb hts hinX8 tyX8 tyX8_ok nmX8 hown hK hP hD hS 0 rfl rfl 2 (by decide) hf61 (fun _ h9 => h9) rfl (by decide +kernel) rfl rfl (Nat.le_of_ble_eq_true rfl) dX8_drop_29 (fun H locs hP hD hS => ?_)
      obtain ⟨I29, eI29⟩ : ∃ z : Nat → Int32, z = va_up I14 2 x28 := ⟨_, rfl⟩
      have hP : va_P (dC, dI) vwCl (MW cI cJ cZ R (I29, A, B)) H := by rw [eI29]; exact hP
      have hD : va_D Aa (MW cI cJ cZ R (I29, A, B)) := by rw [eI29]; exact hD
      refine lv_aload_n hx hb dX8_drop_32 rfl (lv_at hl 0 rfl) ?_
      refine va_get (D := (dC, dI)) (ci := 8) (v := .int (I29 2)) (C := RX8) (T := TX8) (N := 20) hx hb hts hinX8 hown hK hP 0 rfl rfl 2 (by decide) hf61 (fun _ h9 => h9) rfl dX8_drop_33 ?_
      refine hret 36 ls _ _ (I29 2) (I29, A, B) dX8_drop_36 rfl ?_ hP hD hS
      try dsimp only
      exact ⟨fun h => ⟨by rw [eI29, up_self, ex28, eI14, up_ne (by decide)], by rw [eI29, ex28, eI14, up_ne (by decide), inv13, if_neg h]; rfl⟩, fun h => absurd h hv⟩
    · -- 17 not
      rw [w14, inv13] at c17
      have hv : I 2 = 0 := Classical.byContradiction (fun h => by rw [if_neg h] at c17; exact absurd rfl c17)
      refine lv_iconst (v := 0) hx hb dX8_drop_20 (by decide) ?_
      refine hret 21 ls _ _ 0 (I14, A, B) dX8_drop_21 rfl ?_ hP hD hS
      try dsimp only
      exact ⟨fun h => absurd hv h, fun _ => by rw [eI14, inv13, if_pos hv]; rfl⟩
  refine lv_aload_n hx hb dX8_drop_1 rfl (lv_at hl 0 rfl) ?_
  refine va_get (D := (dC, dI)) (ci := 8) (v := .int (I 2)) (C := RX8) (T := TX8) (N := 20) hx hb hts hinX8 hown hK hP 0 rfl rfl 2 (by decide) hf61 (fun _ h9 => h9) rfl dX8_drop_2 ?_
  refine lv_if_ne (tgt := 12) hx hb dX8_drop_5 (by decide) (fun c5 => ?_) (fun c5 => ?_)
  · -- 5 taken
    refine lv_iconst (v := 0) hx hb dX8_drop_12 (by decide) ?_
    exact K13 0 ls _ _  (by rw [if_neg c5]) hP hD hS (lv_sub hl [0] rfl)
  · -- 5 not
    refine lv_iconst (v := 1) hx hb dX8_drop_8 (by decide) ?_
    refine lv_goto (tgt := 13) hx hb dX8_drop_9 (by decide) ?_
    exact K13 1 ls _ _  (by rw [if_pos c5]) hP hD hS (lv_sub hl [0] rfl)
