set_option maxHeartbeats 4000000 in
set_option maxRecDepth 100000 in
theorem k_J6_numberOfTrailingZeros_0f7a4 (l : Launch) (dC : Nat → ClassId) (dI : Nat → Nat → Nat) (cI cJ cZ cII cJJ : ClassId) (R : Nat → Nat) (I : Nat → Int32) (A : Nat → Nat → Int32) (B : Nat → Nat → Int64) (C : Nat → Nat → Int32) (T : Nat → Nat → Int64) (z t : Nat) (ht : t < 32) (hz1 : z.testBit t = true) (hz0 : ∀ j, j < t → z.testBit j = false) : ctI l (dC, dI) (tyL cI cJ cZ cII cJJ) (HW cI cJ cII cJJ R) yJ6_numberOfTrailingZeros_0f7a4 wsJ6_numberOfTrailingZeros_0f7a4 (0, 0) [.int (nI z)] (I, A, B, C, T) (fun r u => r = nI t ∧ u = (I, A, B, C, T)) := by
  refine ctI_intro (cc := cJ6_numberOfTrailingZeros_0f7a4) (maxL := 2) (by decide) rfl (Nat.le_of_ble_eq_true rfl) ?_
  intro p e s m below meth c ls Aa Q F hK hN hP hD hS hA hl hret
  have hx := F.1
  have hb := F.2.1
  have hown : s.vm.findClass RJ6 = some m.cls := F.2.2.2.1
  have hts := F.2.2.2.2
  have hl : lv_has ls 2 [(0, .int (nI z))] := hl
  refine lv_iload_n hx hb dJ6_numberOfTrailingZeros_0f7a4_0 rfl (lv_at hl 0 rfl) ?_
  refine lv_iconst (v := (-1)) hx hb dJ6_numberOfTrailingZeros_0f7a4_1 (by decide) ?_
  refine lv_ixor hx hb dJ6_numberOfTrailingZeros_0f7a4_2 ?_
  refine lv_topi (fun x2 ex2 => ?_)
  refine lv_iload_n hx hb dJ6_numberOfTrailingZeros_0f7a4_3 rfl (lv_at hl 0 rfl) ?_
  refine lv_iconst (v := 1) hx hb dJ6_numberOfTrailingZeros_0f7a4_4 (by decide) ?_
  refine lv_isub hx hb dJ6_numberOfTrailingZeros_0f7a4_5 ?_
  refine lv_topi (fun x5 ex5 => ?_)
  refine lv_iand hx hb dJ6_numberOfTrailingZeros_0f7a4_6 ?_
  refine lv_topi (fun x6 ex6 => ?_)
  have ex6 : x6 = nI (2 ^ t - 1) := by rw [ex6, ex2, ex5]; exact nz1 ht hz1 hz0
  subst ex6
  refine lv_istore_n (lv' := [(0, .int (nI (2 ^ t - 1)))]) hx hb dJ6_numberOfTrailingZeros_0f7a4_7 rfl hl (by decide) rfl (fun ls hl => ?_)
  refine lv_iload_n hx hb dJ6_numberOfTrailingZeros_0f7a4_8 rfl (lv_at hl 0 rfl) ?_
  refine lv_if_gt (tgt := 17) hx hb dJ6_numberOfTrailingZeros_0f7a4_9 (by decide) (fun c9 => ?_) (fun c9 => ?_)
  · -- 9 taken
    have ht1 : 1 ≤ t := by
      rcases Nat.eq_zero_or_pos t with h | h
      · rw [h] at c9; exact absurd c9 (by decide)
      · exact h
    have ml := mk_le t (by omega)
    have mb := mk_lt (j := t) (by omega)
    refine lv_iconst (v := 1) hx hb dJ6_numberOfTrailingZeros_0f7a4_17 (by decide) ?_
    refine lv_istore_n (lv' := [(1, .int 1), (0, .int (nI (2 ^ t - 1)))]) hx hb dJ6_numberOfTrailingZeros_0f7a4_18 rfl hl (by decide) rfl (fun ls hl => ?_)
    have K34 : ∀ (j34 : Nat) (c1034 : Nat) (ls : Array Slot) (H : Heap) (locs : List Loc), (1 ≤ j34 ∧ j34 ≤ 16 ∧ j34 + c1034 = t + 1) → va_P (dC, dI) vwCl (HW cI cJ cII cJJ R (I, A, B, C, T)) H → va_D Aa (HW cI cJ cII cJJ R (I, A, B, C, T)) → va_S Aa s.heap H locs → lv_has ls 2 [(0, .int (nI (2 ^ j34 - 1))), (1, .int (nI c1034))] → W p l e (ctR (0, 0)) s m #[.int (nI z)] below meth c H locs 0 0 Q (F0 m 34 ls []) := by
      intro j34 c1034 ls H locs inv34 hP hD hS hl
      obtain ⟨hj1, hj2, hjc⟩ := inv34
      have ml := mk_le j34 (by omega)
      have mb := mk_lt (j := j34) (by omega)
      have K49 : ∀ (j49 : Nat) (c1049 : Nat) (ls : Array Slot) (H : Heap) (locs : List Loc), (1 ≤ j49 ∧ j49 ≤ 8 ∧ j49 + c1049 = t + 1) → va_P (dC, dI) vwCl (HW cI cJ cII cJJ R (I, A, B, C, T)) H → va_D Aa (HW cI cJ cII cJJ R (I, A, B, C, T)) → va_S Aa s.heap H locs → lv_has ls 2 [(0, .int (nI (2 ^ j49 - 1))), (1, .int (nI c1049))] → W p l e (ctR (0, 0)) s m #[.int (nI z)] below meth c H locs 0 0 Q (F0 m 49 ls []) := by
        intro j49 c1049 ls H locs inv49 hP hD hS hl
        obtain ⟨hj1, hj2, hjc⟩ := inv49
        have ml := mk_le j49 (by omega)
        have mb := mk_lt (j := j49) (by omega)
        have K62 : ∀ (j62 : Nat) (c1062 : Nat) (ls : Array Slot) (H : Heap) (locs : List Loc), (1 ≤ j62 ∧ j62 ≤ 4 ∧ j62 + c1062 = t + 1) → va_P (dC, dI) vwCl (HW cI cJ cII cJJ R (I, A, B, C, T)) H → va_D Aa (HW cI cJ cII cJJ R (I, A, B, C, T)) → va_S Aa s.heap H locs → lv_has ls 2 [(0, .int (nI (2 ^ j62 - 1))), (1, .int (nI c1062))] → W p l e (ctR (0, 0)) s m #[.int (nI z)] below meth c H locs 0 0 Q (F0 m 62 ls []) := by
          intro j62 c1062 ls H locs inv62 hP hD hS hl
          obtain ⟨hj1, hj2, hjc⟩ := inv62
          have ml := mk_le j62 (by omega)
          have mb := mk_lt (j := j62) (by omega)
          have K74 : ∀ (j74 : Nat) (c1074 : Nat) (ls : Array Slot) (H : Heap) (locs : List Loc), (1 ≤ j74 ∧ j74 ≤ 2 ∧ j74 + c1074 = t + 1) → va_P (dC, dI) vwCl (HW cI cJ cII cJJ R (I, A, B, C, T)) H → va_D Aa (HW cI cJ cII cJJ R (I, A, B, C, T)) → va_S Aa s.heap H locs → lv_has ls 2 [(0, .int (nI (2 ^ j74 - 1))), (1, .int (nI c1074))] → W p l e (ctR (0, 0)) s m #[.int (nI z)] below meth c H locs 0 0 Q (F0 m 74 ls []) := by
            intro j74 c1074 ls H locs inv74 hP hD hS hl
            obtain ⟨hj1, hj2, hjc⟩ := inv74
            have ml := mk_le j74 (by omega)
            have mb := mk_lt (j := j74) (by omega)
            refine lv_iload_n hx hb dJ6_numberOfTrailingZeros_0f7a4_74 rfl (lv_at hl 1 rfl) ?_
            refine lv_iload_n hx hb dJ6_numberOfTrailingZeros_0f7a4_75 rfl (lv_at hl 0 rfl) ?_
            refine lv_iconst (v := 1) hx hb dJ6_numberOfTrailingZeros_0f7a4_76 (by decide) ?_
            refine lv_iushr hx hb dJ6_numberOfTrailingZeros_0f7a4_77 rfl ?_
            refine lv_topi (fun x77 ex77 => ?_)
            have ex77 : x77 = nI (j74 - 1) := by rw [ex77]; exact (nm_iushr (k := 1) mb (by decide)).trans (by rw [Nat.pow_one, ml.2.2.2.2 hj1 hj2])
            subst ex77
            refine lv_iadd hx hb dJ6_numberOfTrailingZeros_0f7a4_78 ?_
            refine lv_topi (fun x78 ex78 => ?_)
            refine hret 79 ls _ _ x78 (I, A, B, C, T) dJ6_numberOfTrailingZeros_0f7a4_79 rfl ?_ hP hD hS
            try dsimp only
            exact ⟨by rw [ex78, nI_add]; congr 1; omega, rfl⟩
          refine lv_iload_n hx hb dJ6_numberOfTrailingZeros_0f7a4_62 rfl (lv_at hl 0 rfl) ?_
          refine lv_iconst (v := 4) hx hb dJ6_numberOfTrailingZeros_0f7a4_63 (by decide) ?_
          refine lv_icmp_le (tgt := 74) hx hb dJ6_numberOfTrailingZeros_0f7a4_64 (by decide) (fun c64 => ?_) (fun c64 => ?_)
          · -- 64 taken
            have h64 := (nI_leI (b := 4) mb (by decide)).mp c64
            rw [ml.2.2.2.1] at h64
            exact K74 j62 c1062 ls _ _  ⟨by omega, by omega, by omega⟩ hP hD hS (lv_sub hl [0, 1] rfl)
          · -- 64 not
            have h64 : ¬ 2 ^ j62 - 1 ≤ 4 := fun h => c64 ((nI_leI (b := 4) mb (by decide)).mpr h)
            rw [ml.2.2.2.1] at h64
            obtain ⟨x67, ex67⟩ : ∃ zz : Int32, zz = nI c1062 + (2) := ⟨_, rfl⟩
            refine lv_iinc (v := x67) (lv' := [(1, .int x67), (0, .int (nI (2 ^ j62 - 1)))]) hx hb dJ6_numberOfTrailingZeros_0f7a4_67 hl (k := 1) rfl (by rw [ex67]; rfl) (by decide) rfl (fun ls hl => ?_)
            have ex67 : x67 = nI (c1062 + 2) := by rw [ex67]; exact nI_add _ 2
            subst ex67
            refine lv_iload_n hx hb dJ6_numberOfTrailingZeros_0f7a4_70 rfl (lv_at hl 1 rfl) ?_
            refine lv_iconst (v := 2) hx hb dJ6_numberOfTrailingZeros_0f7a4_71 (by decide) ?_
            refine lv_iushr hx hb dJ6_numberOfTrailingZeros_0f7a4_72 rfl ?_
            refine lv_topi (fun x72 ex72 => ?_)
            have ex72 : x72 = nI (2 ^ (j62 - 2) - 1) := by rw [ex72]; exact (nm_iushr (k := 2) mb (by decide)).trans (by rw [mk_div (by omega)])
            subst ex72
            refine lv_istore_n (lv' := [(0, .int (nI (2 ^ (j62 - 2) - 1))), (1, .int (nI (c1062 + 2)))]) hx hb dJ6_numberOfTrailingZeros_0f7a4_73 rfl hl (by decide) rfl (fun ls hl => ?_)
            exact K74 (j62 - 2) (c1062 + 2) ls _ _  ⟨by omega, by omega, by omega⟩ hP hD hS (lv_sub hl [0, 1] rfl)
        refine lv_iload_n hx hb dJ6_numberOfTrailingZeros_0f7a4_49 rfl (lv_at hl 0 rfl) ?_
        refine lv_bipush (v := 16) hx hb dJ6_numberOfTrailingZeros_0f7a4_50 (by decide) ?_
        refine lv_icmp_le (tgt := 62) hx hb dJ6_numberOfTrailingZeros_0f7a4_52 (by decide) (fun c52 => ?_) (fun c52 => ?_)
        · -- 52 taken
          have h52 := (nI_leI (b := 16) mb (by decide)).mp c52
          rw [ml.2.2.1] at h52
          exact K62 j49 c1049 ls _ _  ⟨by omega, by omega, by omega⟩ hP hD hS (lv_sub hl [0, 1] rfl)
        · -- 52 not
          have h52 : ¬ 2 ^ j49 - 1 ≤ 16 := fun h => c52 ((nI_leI (b := 16) mb (by decide)).mpr h)
          rw [ml.2.2.1] at h52
          obtain ⟨x55, ex55⟩ : ∃ zz : Int32, zz = nI c1049 + (4) := ⟨_, rfl⟩
          refine lv_iinc (v := x55) (lv' := [(1, .int x55), (0, .int (nI (2 ^ j49 - 1)))]) hx hb dJ6_numberOfTrailingZeros_0f7a4_55 hl (k := 1) rfl (by rw [ex55]; rfl) (by decide) rfl (fun ls hl => ?_)
          have ex55 : x55 = nI (c1049 + 4) := by rw [ex55]; exact nI_add _ 4
          subst ex55
          refine lv_iload_n hx hb dJ6_numberOfTrailingZeros_0f7a4_58 rfl (lv_at hl 1 rfl) ?_
          refine lv_iconst (v := 4) hx hb dJ6_numberOfTrailingZeros_0f7a4_59 (by decide) ?_
          refine lv_iushr hx hb dJ6_numberOfTrailingZeros_0f7a4_60 rfl ?_
          refine lv_topi (fun x60 ex60 => ?_)
          have ex60 : x60 = nI (2 ^ (j49 - 4) - 1) := by rw [ex60]; exact (nm_iushr (k := 4) mb (by decide)).trans (by rw [mk_div (by omega)])
          subst ex60
          refine lv_istore_n (lv' := [(0, .int (nI (2 ^ (j49 - 4) - 1))), (1, .int (nI (c1049 + 4)))]) hx hb dJ6_numberOfTrailingZeros_0f7a4_61 rfl hl (by decide) rfl (fun ls hl => ?_)
          exact K62 (j49 - 4) (c1049 + 4) ls _ _  ⟨by omega, by omega, by omega⟩ hP hD hS (lv_sub hl [0, 1] rfl)
      refine lv_iload_n hx hb dJ6_numberOfTrailingZeros_0f7a4_34 rfl (lv_at hl 0 rfl) ?_
      refine lv_sipush (v := 256) hx hb dJ6_numberOfTrailingZeros_0f7a4_35 (by decide) ?_
      refine lv_icmp_le (tgt := 49) hx hb dJ6_numberOfTrailingZeros_0f7a4_38 (by decide) (fun c38 => ?_) (fun c38 => ?_)
      · -- 38 taken
        have h38 := (nI_leI (b := 256) mb (by decide)).mp c38
        rw [ml.2.1] at h38
        exact K49 j34 c1034 ls _ _  ⟨by omega, by omega, by omega⟩ hP hD hS (lv_sub hl [0, 1] rfl)
      · -- 38 not
        have h38 : ¬ 2 ^ j34 - 1 ≤ 256 := fun h => c38 ((nI_leI (b := 256) mb (by decide)).mpr h)
        rw [ml.2.1] at h38
        obtain ⟨x41, ex41⟩ : ∃ zz : Int32, zz = nI c1034 + (8) := ⟨_, rfl⟩
        refine lv_iinc (v := x41) (lv' := [(1, .int x41), (0, .int (nI (2 ^ j34 - 1)))]) hx hb dJ6_numberOfTrailingZeros_0f7a4_41 hl (k := 1) rfl (by rw [ex41]; rfl) (by decide) rfl (fun ls hl => ?_)
        have ex41 : x41 = nI (c1034 + 8) := by rw [ex41]; exact nI_add _ 8
        subst ex41
        refine lv_iload_n hx hb dJ6_numberOfTrailingZeros_0f7a4_44 rfl (lv_at hl 1 rfl) ?_
        refine lv_bipush (v := 8) hx hb dJ6_numberOfTrailingZeros_0f7a4_45 (by decide) ?_
        refine lv_iushr hx hb dJ6_numberOfTrailingZeros_0f7a4_47 rfl ?_
        refine lv_topi (fun x47 ex47 => ?_)
        have ex47 : x47 = nI (2 ^ (j34 - 8) - 1) := by rw [ex47]; exact (nm_iushr (k := 8) mb (by decide)).trans (by rw [mk_div (by omega)])
        subst ex47
        refine lv_istore_n (lv' := [(0, .int (nI (2 ^ (j34 - 8) - 1))), (1, .int (nI (c1034 + 8)))]) hx hb dJ6_numberOfTrailingZeros_0f7a4_48 rfl hl (by decide) rfl (fun ls hl => ?_)
        exact K49 (j34 - 8) (c1034 + 8) ls _ _  ⟨by omega, by omega, by omega⟩ hP hD hS (lv_sub hl [0, 1] rfl)
    refine lv_iload_n hx hb dJ6_numberOfTrailingZeros_0f7a4_19 rfl (lv_at hl 1 rfl) ?_
    refine lv_ldcw (v := 65536) hx hb hown (hts (.constant RJ6 264 65536) (by decide +kernel)) dJ6_numberOfTrailingZeros_0f7a4_20 ?_
    refine lv_icmp_le (tgt := 34) hx hb dJ6_numberOfTrailingZeros_0f7a4_23 (by decide) (fun c23 => ?_) (fun c23 => ?_)
    · -- 23 taken
      have h23 := (nI_leI (b := 65536) mb (by decide)).mp c23
      rw [ml.1] at h23
      exact K34 t 1 ls _ _  ⟨by omega, by omega, by omega⟩ hP hD hS (lv_sub hl [1, 0] rfl)
    · -- 23 not
      have h23 : ¬ 2 ^ t - 1 ≤ 65536 := fun h => c23 ((nI_leI (b := 65536) mb (by decide)).mpr h)
      rw [ml.1] at h23
      obtain ⟨x26, ex26⟩ : ∃ zz : Int32, zz = 1 + (16) := ⟨_, rfl⟩
      refine lv_iinc (v := x26) (lv' := [(1, .int x26), (0, .int (nI (2 ^ t - 1)))]) hx hb dJ6_numberOfTrailingZeros_0f7a4_26 hl (k := 0) rfl (by rw [ex26]; rfl) (by decide) rfl (fun ls hl => ?_)
      have ex26 : x26 = nI (1 + 16) := by rw [ex26]; exact nI_add _ 16
      subst ex26
      refine lv_iload_n hx hb dJ6_numberOfTrailingZeros_0f7a4_29 rfl (lv_at hl 1 rfl) ?_
      refine lv_bipush (v := 16) hx hb dJ6_numberOfTrailingZeros_0f7a4_30 (by decide) ?_
      refine lv_iushr hx hb dJ6_numberOfTrailingZeros_0f7a4_32 rfl ?_
      refine lv_topi (fun x32 ex32 => ?_)
      have ex32 : x32 = nI (2 ^ (t - 16) - 1) := by rw [ex32]; exact (nm_iushr (k := 16) mb (by decide)).trans (by rw [mk_div (by omega)])
      subst ex32
      refine lv_istore_n (lv' := [(0, .int (nI (2 ^ (t - 16) - 1))), (1, .int (nI (1 + 16)))]) hx hb dJ6_numberOfTrailingZeros_0f7a4_33 rfl hl (by decide) rfl (fun ls hl => ?_)
      exact K34 (t - 16) (1 + 16) ls _ _  ⟨by omega, by omega, by omega⟩ hP hD hS (lv_sub hl [0, 1] rfl)
  · -- 9 not
    have ht0 : t = 0 := by
      rcases Nat.eq_zero_or_pos t with h | h
      · exact h
      · have h2 : 2 ≤ 2 ^ t := Nat.pow_le_pow_right (n := 2) (by omega) h
        exact absurd (nI_lt (a := 0) (b := 2 ^ t - 1) (by omega) (mk_lt (by omega))) c9
    refine lv_iload_n hx hb dJ6_numberOfTrailingZeros_0f7a4_12 rfl (lv_at hl 0 rfl) ?_
    refine lv_bipush (v := 32) hx hb dJ6_numberOfTrailingZeros_0f7a4_13 (by decide) ?_
    refine lv_iand hx hb dJ6_numberOfTrailingZeros_0f7a4_15 ?_
    refine lv_topi (fun x15 ex15 => ?_)
    refine hret 16 ls _ _ x15 (I, A, B, C, T) dJ6_numberOfTrailingZeros_0f7a4_16 rfl ?_ hP hD hS
    try dsimp only
    exact ⟨by rw [ex15, ht0]; decide, rfl⟩
