set_option maxHeartbeats 4000000 in
set_option maxRecDepth 100000 in
theorem k_X8_isVertex (l : Launch) (dC : Nat → ClassId) (dI : Nat → Nat → Nat) (cI cJ cZ cII cJJ : ClassId) (R : Nat → Nat) (I : Nat → Int32) (A : Nat → Nat → Int32) (B : Nat → Nat → Int64) (v : Int32)  : ctI l (dC, dI) (tyL cI cJ cZ cII cJJ) (MW cI cJ cZ R) yX8_isVertex wsX8_isVertex (0, 0) [.ref (R 0), .int v] (I, A, B) (fun r u => r = (if v < 0 then 0 else if I 1 ≤ v then 0 else 1) ∧ u = (I, A, B)) := by
  refine ctI_intro (cc := cX8_isVertex) (maxL := 2) (by decide) rfl (Nat.le_of_ble_eq_true rfl) ?_
  intro p e s m below meth c ls Aa Q F hK hN hP hD hS hA hl hret
  have hx := F.1
  have hb := F.2.1
  have hown : s.vm.findClass RX8 = some m.cls := F.2.2.2.1
  have hts := F.2.2.2.2
  have hinX8 : ∀ w ∈ wsX80, w ∈ wsX8_isVertex := by decide +kernel
  have hf7 := hts (.fieldLink RX8 7 "CycleHouseModel" "n" "I") (by decide +kernel)
  have hl : lv_has ls 2 [(0, .ref (R 0)), (1, .int v)] := hl
  refine lv_iload_n hx hb dX8_isVertex_0 rfl (lv_at hl 1 rfl) ?_
  refine lv_if_lt (tgt := 16) hx hb dX8_isVertex_1 (by decide) (fun c1 => ?_) (fun c1 => ?_)
  · -- 1 taken
    refine lv_iconst (v := 0) hx hb dX8_isVertex_16 (by decide) ?_
    refine hret 17 ls _ _ 0 (I, A, B) dX8_isVertex_17 rfl ?_ hP hD hS
    try dsimp only
    exact ⟨by simp [*], rfl⟩
  · -- 1 not
    refine lv_iload_n hx hb dX8_isVertex_4 rfl (lv_at hl 1 rfl) ?_
    refine lv_aload_n hx hb dX8_isVertex_5 rfl (lv_at hl 0 rfl) ?_
    refine va_get (D := (dC, dI)) (ci := 8) (v := .int (I 1)) (C := RX8) (T := TX8) (N := 20) hx hb hts hinX8 hown hK hP 0 rfl rfl 1 (by decide) hf7 (fun _ h9 => h9) rfl dX8_isVertex_6 ?_
    refine lv_icmp_ge (tgt := 16) hx hb dX8_isVertex_9 (by decide) (fun c9 => ?_) (fun c9 => ?_)
    · -- 9 taken
      refine lv_iconst (v := 0) hx hb dX8_isVertex_16 (by decide) ?_
      refine hret 17 ls _ _ 0 (I, A, B) dX8_isVertex_17 rfl ?_ hP hD hS
      try dsimp only
      exact ⟨by simp [*], rfl⟩
    · -- 9 not
      refine lv_iconst (v := 1) hx hb dX8_isVertex_12 (by decide) ?_
      refine lv_goto (tgt := 17) hx hb dX8_isVertex_13 (by decide) ?_
      refine hret 17 ls _ _ 1 (I, A, B) dX8_isVertex_17 rfl ?_ hP hD hS
      try dsimp only
      exact ⟨by simp [*], rfl⟩
set_option maxHeartbeats 4000000 in
set_option maxRecDepth 100000 in
theorem k_X8_isSet (l : Launch) (dC : Nat → ClassId) (dI : Nat → Nat → Nat) (cI cJ cZ cII cJJ : ClassId) (R : Nat → Nat) (I : Nat → Int32) (A : Nat → Nat → Int32) (B : Nat → Nat → Int64) (z : Int64)  : ctI l (dC, dI) (tyL cI cJ cZ cII cJJ) (MW cI cJ cZ R) yX8_isSet wsX8_isSet (0, 0) [.ref (R 0), .long z] (I, A, B) (fun r u => r = (if (z.toUInt64 >>> ((I 2).toInt64.toUInt64 &&& Int64.toUInt64 63)).toInt64 = 0 then 1 else 0) ∧ u = (I, A, B)) := by
  refine ctI_intro (cc := cX8_isSet) (maxL := 3) (by decide) rfl (Nat.le_of_ble_eq_true rfl) ?_
  intro p e s m below meth c ls Aa Q F hK hN hP hD hS hA hl hret
  have hx := F.1
  have hb := F.2.1
  have hown : s.vm.findClass RX8 = some m.cls := F.2.2.2.1
  have hts := F.2.2.2.2
  have hinX8 : ∀ w ∈ wsX80, w ∈ wsX8_isSet := by decide +kernel
  have hf61 := hts (.fieldLink RX8 61 "CycleHouseModel" "m" "I") (by decide +kernel)
  have hl : lv_has ls 3 [(0, .ref (R 0)), (1, .long z)] := hl
  refine lv_lload_n hx hb dX8_isSet_0 rfl (lv_at hl 1 rfl) ?_
  refine lv_aload_n hx hb dX8_isSet_1 rfl (lv_at hl 0 rfl) ?_
  refine va_get (D := (dC, dI)) (ci := 8) (v := .int (I 2)) (C := RX8) (T := TX8) (N := 20) hx hb hts hinX8 hown hK hP 0 rfl rfl 2 (by decide) hf61 (fun _ h9 => h9) rfl dX8_isSet_2 ?_
  refine lv_lushr hx hb dX8_isSet_5 rfl ?_
  refine lv_topl (fun x5 ex5 => ?_)
  refine lv_lconst (v := 0) hx hb dX8_isSet_6 (by decide) ?_
  refine W.lcmp hx hb dX8_isSet_7 ?_
  refine lv_if_ne (tgt := 15) hx hb dX8_isSet_8 (by decide) (fun c8 => ?_) (fun c8 => ?_)
  · -- 8 taken
    rw [lg_cmp_eq] at c8
    refine lv_iconst (v := 0) hx hb dX8_isSet_15 (by decide) ?_
    refine hret 16 ls _ _ 0 (I, A, B) dX8_isSet_16 rfl ?_ hP hD hS
    try dsimp only
    exact ⟨by rw [ex5] at c8; simp [c8], rfl⟩
  · -- 8 not
    rw [lg_cmp_eq] at c8
    refine lv_iconst (v := 1) hx hb dX8_isSet_11 (by decide) ?_
    refine lv_goto (tgt := 16) hx hb dX8_isSet_12 (by decide) ?_
    refine hret 16 ls _ _ 1 (I, A, B) dX8_isSet_16 rfl ?_ hP hD hS
    try dsimp only
    exact ⟨by rw [ex5] at c8; simp [c8], rfl⟩
set_option maxHeartbeats 4000000 in
set_option maxRecDepth 100000 in
theorem k_X8_throwing (l : Launch) (dC : Nat → ClassId) (dI : Nat → Nat → Nat) (cI cJ cZ cII cJJ : ClassId) (R : Nat → Nat) (I : Nat → Int32) (A : Nat → Nat → Int32) (B : Nat → Nat → Int64) (o t : Int32)  : ctI l (dC, dI) (tyL cI cJ cZ cII cJJ) (MW cI cJ cZ R) yX8_throwing wsX8_throwing (0, 0) [.ref (R 0), .int o, .int t] (I, A, B) (fun r u => r = (if o = 0 then (if t = 0 then 0 else 1) else 1) ∧ u = (va_up I 0 (if o = 0 then (if t = 0 then 0 else 2) else 1), A, B)) := by
  refine ctI_intro (cc := cX8_throwing) (maxL := 3) (by decide) rfl (Nat.le_of_ble_eq_true rfl) ?_
  intro p e s m below meth c ls Aa Q F hK hN hP hD hS hA hl hret
  have hx := F.1
  have hb := F.2.1
  have hown : s.vm.findClass RX8 = some m.cls := F.2.2.2.1
  have hts := F.2.2.2.2
  have hinX8 : ∀ w ∈ wsX80, w ∈ wsX8_throwing := by decide +kernel
  have hf58 := hts (.fieldLink RX8 58 "CycleHouseModel" "thrown" "I") (by decide +kernel)
  have hl : lv_has ls 3 [(0, .ref (R 0)), (1, .int o), (2, .int t)] := hl
  refine lv_aload_n hx hb dX8_throwing_0 rfl (lv_at hl 0 rfl) ?_
  have K18 : ∀ (tv : Int32) (ls : Array Slot) (H : Heap) (locs : List Loc), (tv = (if o = 0 then (if t = 0 then 0 else 2) else 1)) → va_P (dC, dI) vwCl (MW cI cJ cZ R (I, A, B)) H → va_D Aa (MW cI cJ cZ R (I, A, B)) → va_S Aa s.heap H locs → lv_has ls 3 [(0, .ref (R 0)), (1, .int o), (2, .int t)] → W p l e (ctR (0, 0)) s m #[.ref (R 0), .int o, .int t] below meth c H locs 0 0 Q (F0 m 18 ls [.int tv, .ref (R 0)]) := by
    intro tv ls H locs inv18 hP hD hS hl
    refine va_put (D := (dC, dI)) (ci := 8) (v := .int tv) (ty := .int) (C := RX8) (T := TX8) (N := 20) hx hb hts hinX8 tyX8 tyX8_ok nmX8 hown hK hP hD hS 0 rfl rfl 0 (by decide) hf58 (fun _ h9 => h9) rfl (by decide +kernel) rfl rfl (Nat.le_of_ble_eq_true rfl) dX8_throwing_18 (fun H locs hP hD hS => ?_)
    obtain ⟨I18, eI18⟩ : ∃ z : Nat → Int32, z = va_up I 0 tv := ⟨_, rfl⟩
    have hP : va_P (dC, dI) vwCl (MW cI cJ cZ R (I18, A, B)) H := by rw [eI18]; exact hP
    have hD : va_D Aa (MW cI cJ cZ R (I18, A, B)) := by rw [eI18]; exact hD
    refine lv_aload_n hx hb dX8_throwing_21 rfl (lv_at hl 0 rfl) ?_
    refine va_get (D := (dC, dI)) (ci := 8) (v := .int (I18 0)) (C := RX8) (T := TX8) (N := 20) hx hb hts hinX8 hown hK hP 0 rfl rfl 0 (by decide) hf58 (fun _ h9 => h9) rfl dX8_throwing_22 ?_
    refine lv_if_le (tgt := 32) hx hb dX8_throwing_25 (by decide) (fun c25 => ?_) (fun c25 => ?_)
    · -- 25 taken
      refine lv_iconst (v := 0) hx hb dX8_throwing_32 (by decide) ?_
      refine hret 33 ls _ _ 0 (I18, A, B) dX8_throwing_33 rfl ?_ hP hD hS
      try dsimp only
      exact ⟨by rw [eI18, up_self, inv18] at c25; split at c25 <;> (try split at c25) <;> simp_all, by rw [eI18, inv18]⟩
    · -- 25 not
      refine lv_iconst (v := 1) hx hb dX8_throwing_28 (by decide) ?_
      refine lv_goto (tgt := 33) hx hb dX8_throwing_29 (by decide) ?_
      refine hret 33 ls _ _ 1 (I18, A, B) dX8_throwing_33 rfl ?_ hP hD hS
      try dsimp only
      exact ⟨by rw [eI18, up_self, inv18] at c25; split at c25 <;> (try split at c25) <;> simp_all, by rw [eI18, inv18]⟩
  refine lv_iload_n hx hb dX8_throwing_1 rfl (lv_at hl 1 rfl) ?_
  refine lv_if_eq (tgt := 9) hx hb dX8_throwing_2 (by decide) (fun c2 => ?_) (fun c2 => ?_)
  · -- 2 taken
    refine lv_iload_n hx hb dX8_throwing_9 rfl (lv_at hl 2 rfl) ?_
    refine lv_if_eq (tgt := 17) hx hb dX8_throwing_10 (by decide) (fun c10 => ?_) (fun c10 => ?_)
    · -- 10 taken
      refine lv_iconst (v := 0) hx hb dX8_throwing_17 (by decide) ?_
      exact K18 0 ls _ _  (by simp [*]) hP hD hS (lv_sub hl [0, 1, 2] rfl)
    · -- 10 not
      refine lv_iconst (v := 2) hx hb dX8_throwing_13 (by decide) ?_
      refine lv_goto (tgt := 18) hx hb dX8_throwing_14 (by decide) ?_
      exact K18 2 ls _ _  (by simp [*]) hP hD hS (lv_sub hl [0, 1, 2] rfl)
  · -- 2 not
    refine lv_iconst (v := 1) hx hb dX8_throwing_5 (by decide) ?_
    refine lv_goto (tgt := 18) hx hb dX8_throwing_6 (by decide) ?_
    exact K18 1 ls _ _  (by simp [*]) hP hD hS (lv_sub hl [0, 1, 2] rfl)
set_option maxHeartbeats 4000000 in
set_option maxRecDepth 100000 in
theorem k_X8_beginGroups (l : Launch) (dC : Nat → ClassId) (dI : Nat → Nat → Nat) (cI cJ cZ cII cJJ : ClassId) (R : Nat → Nat) (I : Nat → Int32) (A : Nat → Nat → Int32) (B : Nat → Nat → Int64)   : ctV l (dC, dI) (tyL cI cJ cZ cII cJJ) (MW cI cJ cZ R) yX8_beginGroups wsX8_beginGroups (0, 0) [.ref (R 0)] (I, A, B) (fun u => (∀ N, N ≤ 16 → rJ N j0 u.1 u.2.1 u.2.2) ∧ fJ I A B u) := by
  refine ctV_intro (cc := cX8_beginGroups) (maxL := 2) (by decide) rfl (Nat.le_of_ble_eq_true rfl) ?_
  intro p e s m below meth c ls Aa Q F hK hN hP hD hS hA hl hret
  have hx := F.1
  have hb := F.2.1
  have hown : s.vm.findClass RX8 = some m.cls := F.2.2.2.1
  have hts := F.2.2.2.2
  have hinX8 : ∀ w ∈ wsX80, w ∈ wsX8_beginGroups := by decide +kernel
  have hf64 := hts (.fieldLink RX8 64 "CycleHouseModel" "closed" "I") (by decide +kernel)
  have hf27 := hts (.fieldLink RX8 27 "CycleHouseModel" "group" "[I") (by decide +kernel)
  have hf30 := hts (.fieldLink RX8 30 "CycleHouseModel" "ways" "[J") (by decide +kernel)
  have hl : lv_has ls 2 [(0, .ref (R 0))] := hl
  refine lv_aload_n hx hb dX8_beginGroups_0 rfl (lv_at hl 0 rfl) ?_
  refine lv_iconst (v := 0) hx hb dX8_beginGroups_1 (by decide) ?_
  refine va_put (D := (dC, dI)) (ci := 8) (v := .int 0) (ty := .int) (C := RX8) (T := TX8) (N := 20) hx hb hts hinX8 tyX8 tyX8_ok nmX8 hown hK hP hD hS 0 rfl rfl 10 (by decide) hf64 (fun _ h9 => h9) rfl (by decide +kernel) rfl rfl (Nat.le_of_ble_eq_true rfl) dX8_beginGroups_2 (fun H locs hP hD hS => ?_)
  obtain ⟨I2, eI2⟩ : ∃ z : Nat → Int32, z = va_up I 10 0 := ⟨_, rfl⟩
  have hP : va_P (dC, dI) vwCl (MW cI cJ cZ R (I2, A, B)) H := by rw [eI2]; exact hP
  have hD : va_D Aa (MW cI cJ cZ R (I2, A, B)) := by rw [eI2]; exact hD
  refine lv_iconst (v := 0) hx hb dX8_beginGroups_5 (by decide) ?_
  refine lv_istore_n (lv' := [(1, .int 0), (0, .ref (R 0))]) hx hb dX8_beginGroups_6 rfl hl (by decide) rfl (fun ls hl => ?_)
  have K7 : ∀ (kn : Nat) (i : Nat) (x : Int32) (A_7 : Nat → Nat → Int32) (B_7 : Nat → Nat → Int64) (ls : Array Slot) (H : Heap) (locs : List Loc), 16 - i < kn → (x = nI i ∧ i ≤ 16 ∧ (∀ k, k ≠ 8 → A_7 k = A k) ∧ (∀ v, v < i → A_7 8 v = nI v) ∧ (∀ k, k ≠ 9 → B_7 k = B k) ∧ ∀ v, v < i → B_7 9 v = 0) → va_P (dC, dI) vwCl (MW cI cJ cZ R (I2, A_7, B_7)) H → va_D Aa (MW cI cJ cZ R (I2, A_7, B_7)) → va_S Aa s.heap H locs → lv_has ls 2 [(0, .ref (R 0)), (1, .int x)] → W p l e (ctR (0, 0)) s m #[.ref (R 0)] below meth c H locs 0 0 Q (F0 m 7 ls []) := by
    intro kn
    induction kn with
    | zero => intro i x A_7 B_7 ls H locs hmu; exact absurd hmu (Nat.not_lt_zero _)
    | succ kn ih7 =>
      intro i x A_7 B_7 ls H locs mu7 inv7 hP hD hS hl
      obtain ⟨ex, hi, a1, a2, b1, b2⟩ := inv7
      refine lv_iload_n hx hb dX8_beginGroups_7 rfl (lv_at hl 1 rfl) ?_
      refine lv_bipush (v := 16) hx hb dX8_beginGroups_8 (by decide) ?_
      refine lv_icmp_ge (tgt := 33) hx hb dX8_beginGroups_10 (by decide) (fun c10 => ?_) (fun c10 => ?_)
      · -- 10 taken
        have hge : i = 16 := Nat.le_antisymm hi (Nat.le_of_not_lt (fun h => nI_ge h (by omega) (by rw [← ex]; exact c10)))
        refine hret 33 ls _ _ (I2, A_7, B_7) dX8_beginGroups_33 ?_ hP hD hS
        try dsimp only
        exact ⟨fun N hN => ⟨fun v hv => ⟨a2 v (by omega), hv⟩, fun v hv => b2 v (by omega), by rw [eI2, up_self]; rfl, fun i hi => absurd hi (Nat.not_lt_zero _)⟩, fJ.of (fun k hk => by rw [eI2, up_ne hk]) (fun k hk _ => a1 k hk) (fun k hk _ => b1 k hk)⟩
      · -- 10 not
        have hlt : i < 16 := Nat.lt_of_not_le (fun h => c10 (by rw [ex]; exact nI_le (a := 16) h (by omega)))
        have ecl : x.toNatClampNeg = i := by rw [ex]; exact nI_clamp (by omega)
        have hin : vp_in x 16 := by rw [ex]; exact vp_in_nI hlt (by omega)
        refine lv_aload_n hx hb dX8_beginGroups_13 rfl (lv_at hl 0 rfl) ?_
        refine va_get (D := (dC, dI)) (ci := 8) (v := .ref (R 8)) (C := RX8) (T := TX8) (N := 20) hx hb hts hinX8 hown hK hP 0 rfl rfl 8 (by decide) hf27 (fun _ h9 => h9) rfl dX8_beginGroups_14 ?_
        refine lv_iload_n hx hb dX8_beginGroups_17 rfl (lv_at hl 1 rfl) ?_
        refine lv_iload_n hx hb dX8_beginGroups_18 rfl (lv_at hl 1 rfl) ?_
        have h19 : vp_in x 16 := hin
        refine va_iast hx hb hK hP hD hS 5 0 rfl rfl h19 dX8_beginGroups_19 (fun H locs hP hD hS => ?_)
        obtain ⟨A19, eA19⟩ : ∃ z : Nat → Nat → Int32, z = va_up A_7 8 (upd (A_7 8) x.toNatClampNeg x) := ⟨_, rfl⟩
        have hP : va_P (dC, dI) vwCl (MW cI cJ cZ R (I2, A19, B_7)) H := by rw [eA19]; exact hP
        have hD : va_D Aa (MW cI cJ cZ R (I2, A19, B_7)) := by rw [eA19]; exact hD
        refine lv_aload_n hx hb dX8_beginGroups_20 rfl (lv_at hl 0 rfl) ?_
        refine va_get (D := (dC, dI)) (ci := 8) (v := .ref (R 9)) (C := RX8) (T := TX8) (N := 20) hx hb hts hinX8 hown hK hP 0 rfl rfl 9 (by decide) hf30 (fun _ h9 => h9) rfl dX8_beginGroups_21 ?_
        refine lv_iload_n hx hb dX8_beginGroups_24 rfl (lv_at hl 1 rfl) ?_
        refine lv_lconst (v := 0) hx hb dX8_beginGroups_25 (by decide) ?_
        have h26 : vp_in x 16 := hin
        refine va_last hx hb hK hP hD hS 6 1 rfl rfl h26 dX8_beginGroups_26 (fun H locs hP hD hS => ?_)
        obtain ⟨B26, eB26⟩ : ∃ z : Nat → Nat → Int64, z = va_up B_7 9 (vp_updL (B_7 9) x.toNatClampNeg 0) := ⟨_, rfl⟩
        have hP : va_P (dC, dI) vwCl (MW cI cJ cZ R (I2, A19, B26)) H := by rw [eB26]; exact hP
        have hD : va_D Aa (MW cI cJ cZ R (I2, A19, B26)) := by rw [eB26]; exact hD
        obtain ⟨x27, ex27⟩ : ∃ y : Int32, y = x + (1) := ⟨_, rfl⟩
        refine lv_iinc (v := x27) (lv' := [(1, .int x27), (0, .ref (R 0))]) hx hb dX8_beginGroups_27 hl (k := 1) rfl (by rw [ex27]; rfl) (by decide) rfl (fun ls hl => ?_)
        refine lv_goto (tgt := 7) hx hb dX8_beginGroups_30 (by decide) ?_
        exact ih7 (i + 1) x27 A19 B26 ls _ _ (by omega) ⟨by rw [ex27, ex]; exact nI_1 i, by omega, fun k hk => by rw [eA19, up_ne hk]; exact a1 k hk, fun v hv => by
            rw [eA19, up_self, ecl]
            by_cases hvi : v = i
            · rw [hvi, pk_us, ex]
            · rw [pk_un hvi]; exact a2 v (by omega), fun k hk => by rw [eB26, up_ne hk]; exact b1 k hk, fun v hv => by
            rw [eB26, up_self, ecl]
            by_cases hvi : v = i
            · rw [hvi, pk_uLs]
            · rw [pk_uLn hvi]; exact b2 v (by omega)⟩ hP hD hS (lv_sub hl [1, 0] rfl)
  exact K7 _ 0 0 A B ls _ _ (Nat.lt_succ_self _) ⟨rfl, by omega, fun _ _ => rfl, fun v h => absurd h (by omega), fun _ _ => rfl, fun v h => absurd h (by omega)⟩ hP hD hS (lv_sub hl [1, 0] rfl)
set_option maxHeartbeats 4000000 in
set_option maxRecDepth 100000 in
theorem k_X8_weightOf (l : Launch) (dC : Nat → ClassId) (dI : Nat → Nat → Nat) (cI cJ cZ cII cJJ : ClassId) (R : Nat → Nat) (I : Nat → Int32) (A : Nat → Nat → Int32) (B : Nat → Nat → Int64) (nv ne : Nat) (fr to wt : Nat → Nat) (z : Nat) (g : gM nv ne fr to wt I A) (hz : z < 2 ^ 62) : ctL l (dC, dI) (tyL cI cJ cZ cII cJJ) (MW cI cJ cZ R) yX8_weightOf wsX8_weightOf (0, 0) [.ref (R 0), .long (lN z)] (I, A, B) (fun r u => r = lN (wsum wt z ne) ∧ u = (I, A, B)) := by
  refine ctL_intro (cc := cX8_weightOf) (maxL := 6) (by decide) rfl (Nat.le_of_ble_eq_true rfl) ?_
  intro p e s m below meth c ls Aa Q F hK hN hP hD hS hA hl hret
  have hx := F.1
  have hb := F.2.1
  have hown : s.vm.findClass RX8 = some m.cls := F.2.2.2.1
  have hts := F.2.2.2.2
  have hinX8 : ∀ w ∈ wsX80, w ∈ wsX8_weightOf := by decide +kernel
  have hf61 := hts (.fieldLink RX8 61 "CycleHouseModel" "m" "I") (by decide +kernel)
  have hf20 := hts (.fieldLink RX8 20 "CycleHouseModel" "weight" "[I") (by decide +kernel)
  have hl : lv_has ls 6 [(0, .ref (R 0)), (1, .long (lN z))] := hl
  obtain ⟨g1, g2, g3, g4, g5, g6⟩ := g
  refine lv_lconst (v := 0) hx hb dX8_weightOf_0 (by decide) ?_
  refine lv_lstore_n (lv' := [(3, .long 0), (0, .ref (R 0)), (1, .long (lN z))]) hx hb dX8_weightOf_1 rfl hl (by decide) rfl (fun ls hl => ?_)
  refine lv_iconst (v := 0) hx hb dX8_weightOf_2 (by decide) ?_
  refine lv_istore (lv' := [(5, .int 0), (3, .long 0), (0, .ref (R 0)), (1, .long (lN z))]) hx hb dX8_weightOf_3 hl (by decide) rfl (fun ls hl => ?_)
  have K5 : ∀ (kn : Nat) (i : Nat) (y : Int64) (x : Int32) (ls : Array Slot) (H : Heap) (locs : List Loc), ne - i < kn → (x = nI i ∧ i ≤ ne ∧ y = lN (wsum wt z i)) → va_P (dC, dI) vwCl (MW cI cJ cZ R (I, A, B)) H → va_D Aa (MW cI cJ cZ R (I, A, B)) → va_S Aa s.heap H locs → lv_has ls 6 [(0, .ref (R 0)), (1, .long (lN z)), (3, .long y), (5, .int x)] → W p l e (ctR (0, 0)) s m #[.ref (R 0), .long (lN z)] below meth c H locs 0 0 Q (F0 m 5 ls []) := by
    intro kn
    induction kn with
    | zero => intro i y x ls H locs hmu; exact absurd hmu (Nat.not_lt_zero _)
    | succ kn ih5 =>
      intro i y x ls H locs mu5 inv5 hP hD hS hl
      obtain ⟨ex, hi, ey⟩ := inv5
      refine lv_iload hx hb dX8_weightOf_5 (lv_at hl 3 rfl) ?_
      refine lv_aload_n hx hb dX8_weightOf_7 rfl (lv_at hl 0 rfl) ?_
      refine va_get (D := (dC, dI)) (ci := 8) (v := .int (I 2)) (C := RX8) (T := TX8) (N := 20) hx hb hts hinX8 hown hK hP 0 rfl rfl 2 (by decide) hf61 (fun _ h9 => h9) rfl dX8_weightOf_8 ?_
      refine lv_icmp_ge (tgt := 42) hx hb dX8_weightOf_11 (by decide) (fun c11 => ?_) (fun c11 => ?_)
      · -- 11 taken
        rw [ex, g5, nI_leI (by omega) (by omega)] at c11
        have hge : i = ne := by omega
        refine lv_lload_n hx hb dX8_weightOf_42 rfl (lv_at hl 2 rfl) ?_
        refine hret 43 ls _ _ y (I, A, B) dX8_weightOf_43 ?_ hP hD hS
        try dsimp only
        exact ⟨by rw [ey, hge], rfl⟩
      · -- 11 not
        rw [ex, g5, nI_leI (by omega) (by omega)] at c11
        have ecl : x.toNatClampNeg = i := by rw [ex]; exact nI_clamp (by omega)
        have hin : vp_in x 40 := by rw [ex]; exact vp_in_nI (by omega) (by omega)
        have gw := g6 i (by omega)
        refine lv_lload_n hx hb dX8_weightOf_14 rfl (lv_at hl 1 rfl) ?_
        refine lv_iload hx hb dX8_weightOf_15 (lv_at hl 3 rfl) ?_
        refine lv_lshr hx hb dX8_weightOf_17 rfl ?_
        refine lv_topl (fun x17 ex17 => ?_)
        refine lv_lconst (v := 1) hx hb dX8_weightOf_18 (by decide) ?_
        refine lv_land hx hb dX8_weightOf_19 ?_
        refine lv_topl (fun x19 ex19 => ?_)
        refine lv_lconst (v := 1) hx hb dX8_weightOf_20 (by decide) ?_
        refine W.lcmp hx hb dX8_weightOf_21 ?_
        refine lv_if_ne (tgt := 36) hx hb dX8_weightOf_22 (by decide) (fun c22 => ?_) (fun c22 => ?_)
        · -- 22 taken
          rw [lg_cmp_eq] at c22
          rw [ex19, ex17, ex, nm_bit1 hz (by omega)] at c22
          obtain ⟨x36, ex36⟩ : ∃ y : Int32, y = x + (1) := ⟨_, rfl⟩
          refine lv_iinc (v := x36) (lv' := [(5, .int x36), (0, .ref (R 0)), (1, .long (lN z)), (3, .long y)]) hx hb dX8_weightOf_36 hl (k := 3) rfl (by rw [ex36]; rfl) (by decide) rfl (fun ls hl => ?_)
          refine lv_goto (tgt := 5) hx hb dX8_weightOf_39 (by decide) ?_
          exact ih5 (i + 1) y x36 ls _ _ (by omega) ⟨by rw [ex36, ex]; exact nI_1 i, by omega, by rw [ey, wsum, if_neg c22, Nat.add_zero]⟩ hP hD hS (lv_sub hl [1, 2, 3, 0] rfl)
        · -- 22 not
          rw [lg_cmp_eq] at c22
          rw [ex19, ex17, ex, nm_bit1 hz (by omega)] at c22
          refine lv_lload_n hx hb dX8_weightOf_25 rfl (lv_at hl 2 rfl) ?_
          refine lv_aload_n hx hb dX8_weightOf_26 rfl (lv_at hl 0 rfl) ?_
          refine va_get (D := (dC, dI)) (ci := 8) (v := .ref (R 5)) (C := RX8) (T := TX8) (N := 20) hx hb hts hinX8 hown hK hP 0 rfl rfl 5 (by decide) hf20 (fun _ h9 => h9) rfl dX8_weightOf_27 ?_
          refine lv_iload hx hb dX8_weightOf_30 (lv_at hl 3 rfl) ?_
          have h32 : vp_in x 40 := hin
          refine va_iald hx hb hK hP 3 0 rfl rfl h32 dX8_weightOf_32 ?_
          refine lv_topi (fun x32 ex32 => ?_)
          have ex32 : x32 = A 5 x.toNatClampNeg := ex32
          refine lv_i2l hx hb dX8_weightOf_33 rfl ?_
          refine lv_topl (fun x33 ex33 => ?_)
          refine lv_ladd hx hb dX8_weightOf_34 ?_
          refine lv_topl (fun x34 ex34 => ?_)
          refine lv_lstore_n (lv' := [(3, .long x34), (0, .ref (R 0)), (1, .long (lN z)), (5, .int x)]) hx hb dX8_weightOf_35 rfl hl (by decide) rfl (fun ls hl => ?_)
          obtain ⟨x36, ex36⟩ : ∃ y : Int32, y = x + (1) := ⟨_, rfl⟩
          refine lv_iinc (v := x36) (lv' := [(5, .int x36), (3, .long x34), (0, .ref (R 0)), (1, .long (lN z))]) hx hb dX8_weightOf_36 hl (k := 3) rfl (by rw [ex36]; rfl) (by decide) rfl (fun ls hl => ?_)
          refine lv_goto (tgt := 5) hx hb dX8_weightOf_39 (by decide) ?_
          exact ih5 (i + 1) x34 x36 ls _ _ (by omega) ⟨by rw [ex36, ex]; exact nI_1 i, by omega, by rw [ex34, ey, ex33, ex32, ecl, gw.2.2.1, nm_il (by have := gw.2.2.2; omega), lN_add, wsum, if_pos c22]⟩ hP hD hS (lv_sub hl [2, 3, 1, 0] rfl)
  exact K5 _ 0 0 0 ls _ _ (Nat.lt_succ_self _) ⟨rfl, by omega, rfl⟩ hP hD hS (lv_sub hl [2, 3, 1, 0] rfl)
