set_option maxHeartbeats 4000000 in
set_option maxRecDepth 100000 in
theorem k_X2_gain (l : Launch) (dC : Nat → ClassId) (dI : Nat → Nat → Nat) (cI cJ cZ cII cJJ : ClassId) (R : Nat → Nat) (I : Nat → Int32) (A : Nat → Nat → Int32) (B : Nat → Nat → Int64) (C : Nat → Nat → Int32) (T : Nat → Nat → Int64) (nv ne : Nat) (fr to wt : Nat → Nat) (ch z : Nat) (g : gH nv ne fr to wt I A) (hch : ch < 2 ^ ne) (hz : z < 2 ^ 64) : ctL l (dC, dI) (tyL cI cJ cZ cII cJJ) (HW cI cJ cII cJJ R) yX2_gain wsX2_gain (2, 60) [.ref (R 1), .long (lN ch), .long (lN z)] (I, A, B, C, T) (fun r u => r = gn wt ch z ne ∧ u = (I, A, B, C, T)) := by
  refine ctL_intro (cc := cX2_gain) (maxL := 11) (by decide) rfl (Nat.le_of_ble_eq_true rfl) ?_
  intro p e s m below meth c ls Aa Q F hK hN hP hD hS hA hl hret
  have hx := F.1
  have hb := F.2.1
  have hown : s.vm.findClass RX2 = some m.cls := F.2.2.2.1
  have hts := F.2.2.2.2
  have hinX2 : ∀ w ∈ wsX20, w ∈ wsX2_gain := by decide +kernel
  have hf22 := hts (.fieldLink RX2 22 "CycleHouse$Graph" "weight" "[I") (by decide +kernel)
  have hl : lv_has ls 11 [(0, .ref (R 1)), (1, .long (lN ch)), (3, .long (lN z))] := hl
  have hch64 : ch < 2 ^ 64 := Nat.lt_of_lt_of_le hch (Nat.pow_le_pow_right (by omega) (by have := g.2.2.1; omega))
  refine lv_lconst (v := 0) hx hb dX2_gain_0 (by decide) ?_
  refine lv_lstore (lv' := [(5, .long 0), (0, .ref (R 1)), (1, .long (lN ch)), (3, .long (lN z))]) hx hb dX2_gain_1 hl (by decide) rfl (fun ls hl => ?_)
  refine lv_lload_n hx hb dX2_gain_3 rfl (lv_at hl 2 rfl) ?_
  refine lv_lstore (lv' := [(7, .long (lN ch)), (5, .long 0), (0, .ref (R 1)), (1, .long (lN ch)), (3, .long (lN z))]) hx hb dX2_gain_4 hl (by decide) rfl (fun ls hl => ?_)
  refine lv_lload_n hx hb dX2_gain_6 rfl (lv_at hl 3 rfl) ?_
  refine ct_calli hD hS hA (va_runS (As := [.long (lN ch)]) (rest := []) F ((k_J13_bitCount_95d88 l dC dI cI cJ cZ cII cJJ R I A B C T ch hch64) _) (va_cwS 1 hts gX2_gain_J13_bitCount_95d88 rfl rfl rfl (by decide +kernel) ⟨(Nat.le_of_ble_eq_true rfl), (Nat.le_of_ble_eq_true rfl)⟩) (ct_preS hK hN hP hD) rfl rfl hl.1 rfl (lv_room (Nat.le_of_ble_eq_true rfl)) dX2_gain_7 ⟨(Nat.le_of_ble_eq_true rfl), (Nat.le_of_ble_eq_true rfl)⟩) (fun r7 u7 H locs w7 hP hD hS => ?_)
  obtain ⟨w7, rfl⟩ := w7
  have er7 : r7 = nI (sz ch 64) := w7
  subst er7
  refine lv_istore (lv' := [(9, .int (nI (sz ch 64))), (7, .long (lN ch)), (5, .long 0), (0, .ref (R 1)), (1, .long (lN ch)), (3, .long (lN z))]) hx hb dX2_gain_10 hl (by decide) rfl (fun ls hl => ?_)
  have K12 : ∀ (kn : Nat) (P : Nat) (lf : Nat) (n2 : Nat) (y : Int64) (ls : Array Slot) (H : Heap) (locs : List Loc), n2 < kn → (lf < 2 ^ 64 ∧ n2 = sz lf 64 ∧ (∀ j, lf.testBit j = (decide (P ≤ j) && ch.testBit j)) ∧ y = gn wt ch z P ∧ P ≤ ne) → va_P (dC, dI) vwCl (HW cI cJ cII cJJ R (I, A, B, C, T)) H → va_D Aa (HW cI cJ cII cJJ R (I, A, B, C, T)) → va_S Aa s.heap H locs → lv_has ls 11 [(0, .ref (R 1)), (1, .long (lN ch)), (3, .long (lN z)), (5, .long y), (7, .long (lN lf)), (9, .int (nI n2))] → W p l e (ctR (2, 60)) s m #[.ref (R 1), .long (lN ch), .long (lN z)] below meth c H locs 0 0 Q (F0 m 12 ls []) := by
    intro kn
    induction kn with
    | zero => intro P lf n2 y ls H locs hmu; exact absurd hmu (Nat.not_lt_zero _)
    | succ kn ih12 =>
      intro P lf n2 y ls H locs mu12 inv12 hP hD hS hl
      obtain ⟨hlf, hn2, hbt, ey, hPn⟩ := inv12
      have hn64 : n2 ≤ 64 := by rw [hn2]; exact ct0_le _ _
      refine lv_iload hx hb dX2_gain_12 (lv_at hl 5 rfl) ?_
      refine lv_if_le (tgt := 73) hx hb dX2_gain_14 (by decide) (fun c14 => ?_) (fun c14 => ?_)
      · -- 14 taken
        have hn0 : n2 = 0 := by have := (nI_leI (b := 0) (by omega) (by omega)).mp c14; omega
        have hlf0 : lf = 0 := sz_pos0 hlf (by rw [← hn2]; exact hn0)
        have hfin : gn wt ch z ne = gn wt ch z P := gn_skip ne hPn (fun j h1 h2 => by have := hbt j; rw [hlf0, Nat.zero_testBit] at this; simp [h1] at this; exact this)
        refine lv_lload hx hb dX2_gain_73 (lv_at hl 3 rfl) ?_
        refine hret 75 ls _ _ y (I, A, B, C, T) dX2_gain_75 ?_ hP hD hS
        try dsimp only
        exact ⟨by rw [ey, hfin], rfl⟩
      · -- 14 not
        have hn0 : 0 < n2 := Nat.pos_of_ne_zero (fun h => c14 (by rw [h]; decide))
        have hlf0 : lf ≠ 0 := fun h => by rw [h, show sz 0 64 = 0 from ct0_zero (fun i _ => Nat.zero_testBit i)] at hn2; omega
        obtain ⟨lo1, lo2, lo3⟩ := low_ok hlf0 hlf
        have hld := low_drop hlf0 hlf
        have hb1 := hbt (low lf)
        rw [lo1] at hb1
        have hcb : ch.testBit (low lf) = true := by cases h : ch.testBit (low lf) with | true => rfl | false => rw [h] at hb1; simp at hb1
        have hPl : P ≤ low lf := by rw [hcb] at hb1; simpa using hb1
        have hel : low lf < ne := Classical.byContradiction (fun h => by rw [Nat.testBit_lt_two_pow (Nat.lt_of_lt_of_le hch (Nat.pow_le_pow_right (by omega) (by omega)))] at hcb; cases hcb)
        have ge := g.2.2.2.2.2 (low lf) hel
        have ecl : (nI (low lf)).toNatClampNeg = low lf := nI_clamp (by omega)
        have hgs : gn wt ch z (low lf) = gn wt ch z P := gn_skip (low lf) hPl (fun j h1 h2 => by have := hbt j; rw [lo3 j h2] at this; simp [h1] at this; exact this)
        have hnx : ∀ j, (lf ^^^ 2 ^ low lf).testBit j = (decide (low lf + 1 ≤ j) && ch.testBit j) := fun j => by
          rw [Nat.testBit_xor, pow_bit]
          by_cases h1 : j = low lf
          · subst h1; rw [lo1, show decide (low lf + 1 ≤ low lf) = false from decide_eq_false (by omega)]; simp
          · rw [bne_of (fun e => h1 e.symm)]
            rcases Nat.lt_or_ge j (low lf) with h2 | h2
            · rw [lo3 j h2]; simp; omega
            · rw [hbt j]; simp only [Bool.xor_false]; rw [show decide (P ≤ j) = true from decide_eq_true (by omega), show decide (low lf + 1 ≤ j) = true from decide_eq_true (by omega)]
        refine lv_lload hx hb dX2_gain_17 (lv_at hl 4 rfl) ?_
        refine ct_calli hD hS hA (va_runS (As := [.long (lN lf)]) (rest := []) F ((k_J13_numberOfTrailingZeros_95d88 l dC dI cI cJ cZ cII cJJ R I A B C T lf hlf0 hlf) _) (va_cwS 1 hts gX2_gain_J13_numberOfTrailingZeros_95d88 rfl rfl rfl (by decide +kernel) ⟨(Nat.le_of_ble_eq_true rfl), (Nat.le_of_ble_eq_true rfl)⟩) (ct_preS hK hN hP hD) rfl rfl hl.1 rfl (lv_room (Nat.le_of_ble_eq_true rfl)) dX2_gain_19 ⟨(Nat.le_of_ble_eq_true rfl), (Nat.le_of_ble_eq_true rfl)⟩) (fun r19 u19 H locs w19 hP hD hS => ?_)
        obtain ⟨w19, rfl⟩ := w19
        have er19 : r19 = nI (low lf) := w19
        subst er19
        refine lv_istore (lv' := [(10, .int (nI (low lf))), (0, .ref (R 1)), (1, .long (lN ch)), (3, .long (lN z)), (5, .long y), (7, .long (lN lf)), (9, .int (nI n2))]) hx hb dX2_gain_22 hl (by decide) rfl (fun ls hl => ?_)
        refine lv_lload hx hb dX2_gain_24 (lv_at hl 4 rfl) ?_
        refine lv_lload_n hx hb dX2_gain_26 rfl (lv_at hl 3 rfl) ?_
        refine lv_iload hx hb dX2_gain_27 (lv_at hl 0 rfl) ?_
        refine ct_calli hD hS hA (va_runSN (As := [.long (lN z), .int (nI (low lf))]) (rest := [.long y]) F ((k_X7_has l dC dI cI cJ cZ cII cJJ R I A B C T z (low lf) hz (by omega)) _) ⟨va_cnB 2 hts ggX2_gain_X7_has rfl rfl rfl (nwOK.m hN RX2 28 yX7_has "CycleHouse" (by decide +kernel)) (hts (.initialized RX7) (by decide +kernel)) (by decide +kernel) ⟨(Nat.le_of_ble_eq_true rfl), (Nat.le_of_ble_eq_true rfl)⟩, hts (.static yX7_has) (by decide +kernel), trivial⟩ (ct_preS hK hN hP hD) rfl rfl hl.1 rfl (lv_room (Nat.le_of_ble_eq_true rfl)) dX2_gain_29 ⟨(Nat.le_of_ble_eq_true rfl), (Nat.le_of_ble_eq_true rfl)⟩) (fun r29 u29 H locs w29 hP hD hS => ?_)
        obtain ⟨w29, rfl⟩ := w29
        refine lv_if_eq (tgt := 46) hx hb dX2_gain_32 (by decide) (fun c32 => ?_) (fun c32 => ?_)
        · -- 32 taken
          have c32 : z.testBit (low lf) = false := by cases h : z.testBit (low lf) with | false => rfl | true => rw [w29, h] at c32; exact absurd c32 (by decide)
          refine lv_aload_n hx hb dX2_gain_46 rfl (lv_at hl 1 rfl) ?_
          refine va_get (D := (dC, dI)) (ci := 2) (v := .ref (R 4)) (C := RX2) (T := TX2) (N := 5) hx hb hts hinX2 hown hK hP 1 rfl rfl 4 (by decide) hf22 (fun _ h9 => h9) rfl dX2_gain_47 ?_
          refine lv_iload hx hb dX2_gain_50 (lv_at hl 0 rfl) ?_
          have h52 : vp_in (nI (low lf)) 40 := vp_in_nI (by have := g.2.2.1; omega) (by decide)
          refine va_iald hx hb hK hP 4 0 rfl rfl h52 dX2_gain_52 ?_
          refine lv_topi (fun x52 ex52 => ?_)
          have ex52 : x52 = A 4 (nI (low lf)).toNatClampNeg := ex52
          have ex52 : x52 = nI (wt (low lf)) := by rw [ex52, ecl]; exact ge.2.2.1
          subst ex52
          refine lv_ineg hx hb dX2_gain_53 ?_
          refine lv_topi (fun x53 ex53 => ?_)
          refine lv_i2l hx hb dX2_gain_54 rfl ?_
          refine lv_topl (fun x54 ex54 => ?_)
          have ex54 : x54 = - lN (wt (low lf)) := by rw [ex54, ex53]; exact nm_ineg ge.2.2.2
          subst ex54
          refine lv_ladd hx hb dX2_gain_55 ?_
          refine lv_topl (fun x55 ex55 => ?_)
          refine lv_lstore (lv' := [(5, .long x55), (10, .int (nI (low lf))), (0, .ref (R 1)), (1, .long (lN ch)), (3, .long (lN z)), (7, .long (lN lf)), (9, .int (nI n2))]) hx hb dX2_gain_56 hl (by decide) rfl (fun ls hl => ?_)
          refine lv_lload hx hb dX2_gain_58 (lv_at hl 5 rfl) ?_
          refine lv_lload hx hb dX2_gain_60 (lv_at hl 5 rfl) ?_
          refine lv_lconst (v := 1) hx hb dX2_gain_62 (by decide) ?_
          refine lv_lsub hx hb dX2_gain_63 ?_
          refine lv_topl (fun x63 ex63 => ?_)
          refine lv_land hx hb dX2_gain_64 ?_
          refine lv_topl (fun x64 ex64 => ?_)
          have ex64 : x64 = lN (lf ^^^ 2 ^ low lf) := by rw [ex64, ex63]; exact and_low hlf0 hlf
          subst ex64
          refine lv_lstore (lv' := [(7, .long (lN (lf ^^^ 2 ^ low lf))), (5, .long x55), (10, .int (nI (low lf))), (0, .ref (R 1)), (1, .long (lN ch)), (3, .long (lN z)), (9, .int (nI n2))]) hx hb dX2_gain_65 hl (by decide) rfl (fun ls hl => ?_)
          obtain ⟨x67, ex67⟩ : ∃ zz : Int32, zz = nI n2 + (-1) := ⟨_, rfl⟩
          refine lv_iinc (v := x67) (lv' := [(9, .int x67), (7, .long (lN (lf ^^^ 2 ^ low lf))), (5, .long x55), (10, .int (nI (low lf))), (0, .ref (R 1)), (1, .long (lN ch)), (3, .long (lN z))]) hx hb dX2_gain_67 hl (k := 6) rfl (by rw [ex67]; rfl) (by decide) rfl (fun ls hl => ?_)
          have ex67 : x67 = nI (n2 - 1) := by rw [ex67]; exact (congrArg (fun q => nI q + (-1)) (show n2 = (n2 - 1) + 1 by omega)).trans (pk_m1 _)
          subst ex67
          refine lv_goto (tgt := 12) hx hb dX2_gain_70 (by decide) ?_
          exact ih12 (low lf + 1) (lf ^^^ 2 ^ low lf) (n2 - 1) x55 ls _ _ (by omega) ⟨Nat.xor_lt_two_pow hlf (Nat.pow_lt_pow_right (by omega) lo2), by omega, hnx, by rw [ex55, ey, ← hgs]; simp only [gn]; rw [if_pos hcb, if_neg (by rw [c32]; decide)], by omega⟩ hP hD hS (lv_sub hl [4, 5, 6, 2, 1, 0] rfl)
        · -- 32 not
          have c32 : z.testBit (low lf) = true := by cases h : z.testBit (low lf) with | true => rfl | false => rw [w29, h] at c32; exact absurd rfl c32
          refine lv_aload_n hx hb dX2_gain_35 rfl (lv_at hl 1 rfl) ?_
          refine va_get (D := (dC, dI)) (ci := 2) (v := .ref (R 4)) (C := RX2) (T := TX2) (N := 5) hx hb hts hinX2 hown hK hP 1 rfl rfl 4 (by decide) hf22 (fun _ h9 => h9) rfl dX2_gain_36 ?_
          refine lv_iload hx hb dX2_gain_39 (lv_at hl 0 rfl) ?_
          have h41 : vp_in (nI (low lf)) 40 := vp_in_nI (by have := g.2.2.1; omega) (by decide)
          refine va_iald hx hb hK hP 4 0 rfl rfl h41 dX2_gain_41 ?_
          refine lv_topi (fun x41 ex41 => ?_)
          have ex41 : x41 = A 4 (nI (low lf)).toNatClampNeg := ex41
          have ex41 : x41 = nI (wt (low lf)) := by rw [ex41, ecl]; exact ge.2.2.1
          subst ex41
          refine lv_i2l hx hb dX2_gain_42 rfl ?_
          refine lv_topl (fun x42 ex42 => ?_)
          have ex42 : x42 = lN (wt (low lf)) := by rw [ex42]; exact nm_il (by have := ge.2.2.2; omega)
          subst ex42
          refine lv_goto (tgt := 55) hx hb dX2_gain_43 (by decide) ?_
          refine lv_ladd hx hb dX2_gain_55 ?_
          refine lv_topl (fun x55 ex55 => ?_)
          refine lv_lstore (lv' := [(5, .long x55), (10, .int (nI (low lf))), (0, .ref (R 1)), (1, .long (lN ch)), (3, .long (lN z)), (7, .long (lN lf)), (9, .int (nI n2))]) hx hb dX2_gain_56 hl (by decide) rfl (fun ls hl => ?_)
          refine lv_lload hx hb dX2_gain_58 (lv_at hl 5 rfl) ?_
          refine lv_lload hx hb dX2_gain_60 (lv_at hl 5 rfl) ?_
          refine lv_lconst (v := 1) hx hb dX2_gain_62 (by decide) ?_
          refine lv_lsub hx hb dX2_gain_63 ?_
          refine lv_topl (fun x63 ex63 => ?_)
          refine lv_land hx hb dX2_gain_64 ?_
          refine lv_topl (fun x64 ex64 => ?_)
          have ex64 : x64 = lN (lf ^^^ 2 ^ low lf) := by rw [ex64, ex63]; exact and_low hlf0 hlf
          subst ex64
          refine lv_lstore (lv' := [(7, .long (lN (lf ^^^ 2 ^ low lf))), (5, .long x55), (10, .int (nI (low lf))), (0, .ref (R 1)), (1, .long (lN ch)), (3, .long (lN z)), (9, .int (nI n2))]) hx hb dX2_gain_65 hl (by decide) rfl (fun ls hl => ?_)
          obtain ⟨x67, ex67⟩ : ∃ zz : Int32, zz = nI n2 + (-1) := ⟨_, rfl⟩
          refine lv_iinc (v := x67) (lv' := [(9, .int x67), (7, .long (lN (lf ^^^ 2 ^ low lf))), (5, .long x55), (10, .int (nI (low lf))), (0, .ref (R 1)), (1, .long (lN ch)), (3, .long (lN z))]) hx hb dX2_gain_67 hl (k := 6) rfl (by rw [ex67]; rfl) (by decide) rfl (fun ls hl => ?_)
          have ex67 : x67 = nI (n2 - 1) := by rw [ex67]; exact (congrArg (fun q => nI q + (-1)) (show n2 = (n2 - 1) + 1 by omega)).trans (pk_m1 _)
          subst ex67
          refine lv_goto (tgt := 12) hx hb dX2_gain_70 (by decide) ?_
          exact ih12 (low lf + 1) (lf ^^^ 2 ^ low lf) (n2 - 1) x55 ls _ _ (by omega) ⟨Nat.xor_lt_two_pow hlf (Nat.pow_lt_pow_right (by omega) lo2), by omega, hnx, by rw [ex55, ey, ← hgs]; simp only [gn]; rw [if_pos hcb, if_pos c32], by omega⟩ hP hD hS (lv_sub hl [4, 5, 6, 2, 1, 0] rfl)
  exact K12 _ 0 ch (sz ch 64) 0 ls _ _ (Nat.lt_succ_self _) ⟨hch64, rfl, fun j => by simp, rfl, Nat.zero_le _⟩ hP hD hS (lv_sub hl [3, 4, 5, 2, 1, 0] rfl)
theorem gn_self {wt : Nat → Nat} {z : Nat} : ∀ k, gn wt z z k = lN (wsum wt z k)
  | 0 => rfl
  | k + 1 => by
    simp only [gn, wsum]
    rw [gn_self k]
    by_cases h : z.testBit k = true
    · rw [if_pos h, if_pos h, if_pos h, lN_add]
    · rw [if_neg h, if_neg h, Nat.add_zero]
set_option maxHeartbeats 4000000 in
set_option maxRecDepth 100000 in
theorem k_X2_weigh (l : Launch) (dC : Nat → ClassId) (dI : Nat → Nat → Nat) (cI cJ cZ cII cJJ : ClassId) (R : Nat → Nat) (I : Nat → Int32) (A : Nat → Nat → Int32) (B : Nat → Nat → Int64) (C : Nat → Nat → Int32) (T : Nat → Nat → Int64) (nv ne : Nat) (fr to wt : Nat → Nat) (z : Nat) (g : gH nv ne fr to wt I A) (hz : z < 2 ^ ne) : ctL l (dC, dI) (tyL cI cJ cZ cII cJJ) (HW cI cJ cII cJJ R) yX2_weigh wsX2_weigh (3, 90) [.ref (R 1), .long (lN z)] (I, A, B, C, T) (fun r u => r = lN (wsum wt z ne) ∧ u = (I, A, B, C, T)) := by
  refine ctL_intro (cc := cX2_weigh) (maxL := 3) (by decide) rfl (Nat.le_of_ble_eq_true rfl) ?_
  intro p e s m below meth c ls Aa Q F hK hN hP hD hS hA hl hret
  have hx := F.1
  have hb := F.2.1
  have hown : s.vm.findClass RX2 = some m.cls := F.2.2.2.1
  have hts := F.2.2.2.2
  have hinX2 : ∀ w ∈ wsX20, w ∈ wsX2_weigh := by decide +kernel
  have hl : lv_has ls 3 [(0, .ref (R 1)), (1, .long (lN z))] := hl
  refine lv_aload_n hx hb dX2_weigh_0 rfl (lv_at hl 0 rfl) ?_
  refine lv_lload_n hx hb dX2_weigh_1 rfl (lv_at hl 1 rfl) ?_
  refine lv_lload_n hx hb dX2_weigh_2 rfl (lv_at hl 1 rfl) ?_
  refine ct_calll hD hS hA (va_runV (As := [.long (lN z), .long (lN z)]) (rest := []) F ((k_X2_gain l dC dI cI cJ cZ cII cJJ R I A B C T nv ne fr to wt z z g hz (Nat.lt_of_lt_of_le hz (Nat.pow_le_pow_right (by omega) (by have := g.2.2.1; omega)))) _) (cwV 2 hts gX2_weigh_X2_gain rfl rfl rfl (by decide +kernel) ⟨(Nat.le_of_ble_eq_true rfl), (Nat.le_of_ble_eq_true rfl)⟩) (ct_preV 1 2 hK hN hP hD rfl rfl) rfl rfl hl.1 rfl (lv_room (Nat.le_of_ble_eq_true rfl)) dX2_weigh_3 ⟨(Nat.le_of_ble_eq_true rfl), (Nat.le_of_ble_eq_true rfl)⟩) (fun r3 u3 H locs w3 hP hD hS => ?_)
  obtain ⟨w3, rfl⟩ := w3
  refine hret 6 ls _ _ r3 (I, A, B, C, T) dX2_weigh_6 ?_ hP hD hS
  try dsimp only
  exact ⟨by rw [w3]; exact gn_self ne, rfl⟩
