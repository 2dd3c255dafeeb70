set_option maxHeartbeats 4000000 in
set_option maxRecDepth 100000 in
theorem k_X8_through (l : Launch) (dC : Nat → ClassId) (dI : Nat → Nat → Nat) (cI cJ cZ cII cJJ : ClassId) (R : Nat → Nat) (I : Nat → Int32) (A : Nat → Nat → Int32) (B : Nat → Nat → Int64) (nv ne : Nat) (fr to wt : Nat → Nat) (ed : Int32) (g : gM nv ne fr to wt I A) (hd : dmA fr to ne ≤ 14) : ctL l (dC, dI) (tyL cI cJ cZ cII cJJ) (MW cI cJ cZ R) yX8_through wsX8_through (4, 110) [.ref (R 0), .int ed] (I, A, B) (fun r u => ((ed < 0 ∨ nI ne ≤ ed) → u.1 0 = 1 ∧ fP I A B u) ∧ ∀ k, k < ne → ed = nI k → u.1 0 = 0 ∧ fP I A B u ∧ thI (fun c => (elA fr to ne c).testBit k) (fun c => wsum wt (elA fr to ne c) ne) (2 ^ dmA fr to ne) r) := by
  refine ctL_intro (cc := cX8_through) (maxL := 6) (by decide) rfl (Nat.le_of_ble_eq_true rfl) ?_
  intro p e s m below meth c ls Aa Q F hK hN hP hD hS hA hl hret
  have hx := F.1
  have hb := F.2.1
  have hown : s.vm.findClass RX8 = some m.cls := F.2.2.2.1
  have hts := F.2.2.2.2
  have hinX8 : ∀ w ∈ wsX80, w ∈ wsX8_through := by decide +kernel
  have hf61 := hts (.fieldLink RX8 61 "CycleHouseModel" "m" "I") (by decide +kernel)
  have hf39 := hts (.fieldLink RX8 39 "CycleHouseModel" "elements" "[J") (by decide +kernel)
  have hf42 := hts (.fieldLink RX8 42 "CycleHouseModel" "weights" "[J") (by decide +kernel)
  have hl : lv_has ls 6 [(0, .ref (R 0)), (1, .int ed)] := hl
  obtain ⟨g1, g2, g3, g4, g5, g6⟩ := id g
  refine lv_aload_n hx hb dX8_through_0 rfl (lv_at hl 0 rfl) ?_
  have K18 : ∀ (o : Int32) (ls : Array Slot) (H : Heap) (locs : List Loc), ((o = 1 ∧ (ed < 0 ∨ nI ne ≤ ed)) ∨ (o = 0 ∧ ∃ k, k < ne ∧ ed = nI k)) → va_P (dC, dI) vwCl (MW cI cJ cZ R (I, A, B)) H → va_D Aa (MW cI cJ cZ R (I, A, B)) → va_S Aa s.heap H locs → lv_has ls 6 [(0, .ref (R 0)), (1, .int ed)] → W p l e (ctR (4, 110)) s m #[.ref (R 0), .int ed] below meth c H locs 0 0 Q (F0 m 18 ls [.int o, .ref (R 0)]) := by
    intro o ls H locs inv18 hP hD hS hl
    refine lv_iconst (v := 0) hx hb dX8_through_18 (by decide) ?_
    refine ct_calli hD hS hA (va_runV (As := [.int o, .int 0]) (rest := []) F ((k_X8_throwing l dC dI cI cJ cZ cII cJJ R I A B o 0) _) (cwV 2 hts gX8_through_X8_throwing rfl rfl rfl (by decide +kernel) ⟨(Nat.le_of_ble_eq_true rfl), (Nat.le_of_ble_eq_true rfl)⟩) (ct_preV 0 8 hK hN hP hD rfl rfl) rfl rfl hl.1 rfl (lv_room (Nat.le_of_ble_eq_true rfl)) dX8_through_19 ⟨(Nat.le_of_ble_eq_true rfl), (Nat.le_of_ble_eq_true rfl)⟩) (fun r19 u19 H locs w19 hP hD hS => ?_)
    obtain ⟨w19, hu19⟩ := w19
    obtain ⟨I19, A19, B19⟩ := u19
    have eI19 := congrArg (fun z => z.1) hu19
    dsimp only at eI19
    have eA19 : A = A19 := (congrArg (fun z => z.2.1) hu19).symm
    subst eA19
    have eB19 : B = B19 := (congrArg (fun z => z.2.2) hu19).symm
    subst eB19
    clear hu19
    refine lv_if_eq (tgt := 27) hx hb dX8_through_22 (by decide) (fun c22 => ?_) (fun c22 => ?_)
    · -- 22 taken
      have hv : ∃ k, k < ne ∧ ed = nI k := inv18.elim (fun h => by rw [w19, h.1] at c22; exact absurd c22 (by decide)) (fun h => h.2)
      have eo : o = 0 := inv18.elim (fun h => by rw [w19, h.1] at c22; exact absurd c22 (by decide)) (fun h => h.1)
      obtain ⟨k, hk, eed⟩ := hv
      have eT : I19 = va_up I 0 0 := by rw [eI19, eo]; rfl
      have hfT : fP I A B (I19, A, B) := fP.rf0 eT
      have gT := g.fp hfT
      have e0 : I19 0 = 0 := by rw [eT]; exact up_self
      refine lv_aload_n hx hb dX8_through_27 rfl (lv_at hl 0 rfl) ?_
      refine ct_calli hD hS hA (va_runV (As := []) (rest := []) F ((k_X8_spread l dC dI cI cJ cZ cII cJJ R I19 A B nv ne fr to wt gT hd) _) (cwV 0 hts gX8_through_X8_spread rfl rfl rfl (by decide +kernel) ⟨(Nat.le_of_ble_eq_true rfl), (Nat.le_of_ble_eq_true rfl)⟩) (ct_preV 0 8 hK hN hP hD rfl rfl) rfl rfl hl.1 rfl (lv_room (Nat.le_of_ble_eq_true rfl)) dX8_through_28 ⟨(Nat.le_of_ble_eq_true rfl), (Nat.le_of_ble_eq_true rfl)⟩) (fun r28 u28 H locs w28 hP hD hS => ?_)
      obtain ⟨I28, A28, B28⟩ := u28
      have er28 : r28 = nI (2 ^ dmA fr to ne) := w28.1
      subst er28
      have hpw := pw14 hd
      have e1 : I28 0 = 0 := by rw [← e0]; exact w28.2.2.2.1 0 (by decide)
      have hel := w28.2.1
      have hwl : ∀ c, (fun c => wsum wt (elA fr to ne c) ne) c < 2 ^ 63 := fun c => Nat.lt_trans (g.wl _) (by decide)
      have hlt : ∀ c, elA fr to ne c < 2 ^ 62 := fun c => pw40 (elA_lt (by omega) g.en (Nat.le_refl _)) g3
      refine lv_istore_n (lv' := [(2, .int (nI (2 ^ dmA fr to ne))), (0, .ref (R 0)), (1, .int ed)]) hx hb dX8_through_31 rfl hl (by decide) rfl (fun ls hl => ?_)
      refine lv_ldc2 (v := (-1)) hx hb hown (hts (.constantLong RX8 111 (-1)) (by decide +kernel)) dX8_through_32 ?_
      refine lv_lstore_n (lv' := [(3, .long ((-1))), (2, .int (nI (2 ^ dmA fr to ne))), (0, .ref (R 0)), (1, .int ed)]) hx hb dX8_through_35 rfl hl (by decide) rfl (fun ls hl => ?_)
      refine lv_iconst (v := 1) hx hb dX8_through_36 (by decide) ?_
      refine lv_istore (lv' := [(5, .int 1), (3, .long ((-1))), (2, .int (nI (2 ^ dmA fr to ne))), (0, .ref (R 0)), (1, .int ed)]) hx hb dX8_through_37 hl (by decide) rfl (fun ls hl => ?_)
      have K39 : ∀ (kn : Nat) (i : Nat) (y : Int64) (ls : Array Slot) (H : Heap) (locs : List Loc), 2 ^ (dmA fr to ne) - i < kn → (1 ≤ i ∧ i ≤ 2 ^ dmA fr to ne ∧ thI (fun c => (elA fr to ne c).testBit k) (fun c => wsum wt (elA fr to ne c) ne) i y) → va_P (dC, dI) vwCl (MW cI cJ cZ R (I28, A28, B28)) H → va_D Aa (MW cI cJ cZ R (I28, A28, B28)) → va_S Aa s.heap H locs → lv_has ls 6 [(0, .ref (R 0)), (1, .int ed), (2, .int (nI (2 ^ dmA fr to ne))), (3, .long y), (5, .int (nI i))] → W p l e (ctR (4, 110)) s m #[.ref (R 0), .int ed] below meth c H locs 0 0 Q (F0 m 39 ls []) := by
        intro kn
        induction kn with
        | zero => intro i y ls H locs hmu; exact absurd hmu (Nat.not_lt_zero _)
        | succ kn ih39 =>
          intro i y ls H locs mu39 inv39 hP hD hS hl
          obtain ⟨h1, hi, hth⟩ := inv39
          refine lv_iload hx hb dX8_through_39 (lv_at hl 4 rfl) ?_
          refine lv_iload_n hx hb dX8_through_41 rfl (lv_at hl 2 rfl) ?_
          refine lv_icmp_ge (tgt := 93) hx hb dX8_through_42 (by decide) (fun c42 => ?_) (fun c42 => ?_)
          · -- 42 taken
            rw [nI_leI (by omega) (by omega)] at c42
            have hge : i = 2 ^ dmA fr to ne := by omega
            rw [hge] at hth
            refine lv_lload_n hx hb dX8_through_93 rfl (lv_at hl 3 rfl) ?_
            refine hret 94 ls _ _ y (I28, A28, B28) dX8_through_94 ?_ hP hD hS
            try dsimp only
            exact ⟨fun h => by rw [eed] at h; exact h.elim (fun h => absurd h (nI_pos (by omega))) (fun h => absurd ((nI_leI (by omega) (by omega)).mp h) (by omega)), fun k2 hk2 he => by rw [eed] at he; have he : k = k2 := (nI_eq (by omega) (by omega)).mp he; subst he; exact ⟨e1, hfT.tr w28.2.2.2.fp, hth⟩⟩
          · -- 42 not
            rw [nI_leI (by omega) (by omega)] at c42
            have icl : (nI i).toNatClampNeg = i := nI_clamp (by omega)
            have iin : vp_in (nI i) 16384 := vp_in_nI (by omega) (by omega)
            refine lv_aload_n hx hb dX8_through_45 rfl (lv_at hl 0 rfl) ?_
            refine va_get (D := (dC, dI)) (ci := 8) (v := .ref (R 13)) (C := RX8) (T := TX8) (N := 20) hx hb hts hinX8 hown hK hP 0 rfl rfl 13 (by decide) hf39 (fun _ h9 => h9) rfl dX8_through_46 ?_
            refine lv_iload hx hb dX8_through_49 (lv_at hl 4 rfl) ?_
            have h51 : vp_in (nI i) 16384 := iin
            refine va_lald hx hb hK hP 9 1 rfl rfl h51 dX8_through_51 ?_
            refine lv_topl (fun x51 ex51 => ?_)
            have ex51 : x51 = B28 13 (nI i).toNatClampNeg := ex51
            have ex51 : x51 = lN (elA fr to ne i) := by rw [ex51, icl]; exact (hel i (by omega)).1
            refine lv_iload_n hx hb dX8_through_52 rfl (lv_at hl 1 rfl) ?_
            refine lv_lshr hx hb dX8_through_53 rfl ?_
            refine lv_topl (fun x53 ex53 => ?_)
            refine lv_lconst (v := 1) hx hb dX8_through_54 (by decide) ?_
            refine lv_land hx hb dX8_through_55 ?_
            refine lv_topl (fun x55 ex55 => ?_)
            refine lv_lconst (v := 1) hx hb dX8_through_56 (by decide) ?_
            refine W.lcmp hx hb dX8_through_57 ?_
            refine lv_if_ne (tgt := 87) hx hb dX8_through_58 (by decide) (fun c58 => ?_) (fun c58 => ?_)
            · -- 58 taken
              rw [lg_cmp_eq] at c58
              rw [ex55, ex53, ex51, eed, nm_bit1 (hlt i) (by omega)] at c58
              obtain ⟨x87, ex87⟩ : ∃ y : Int32, y = nI i + (1) := ⟨_, rfl⟩
              refine lv_iinc (v := x87) (lv' := [(5, .int x87), (0, .ref (R 0)), (1, .int ed), (2, .int (nI (2 ^ dmA fr to ne))), (3, .long y)]) hx hb dX8_through_87 hl (k := 4) rfl (by rw [ex87]; rfl) (by decide) rfl (fun ls hl => ?_)
              have ex87 : x87 = nI (i + 1) := by rw [ex87]; exact nI_1 i
              subst ex87
              refine lv_goto (tgt := 39) hx hb dX8_through_90 (by decide) ?_
              exact ih39 (i + 1) y ls _ _ (by omega) ⟨by omega, by omega, thI_skip hth (bool_f c58)⟩ hP hD hS (lv_sub hl [1, 2, 3, 4, 0] rfl)
            · -- 58 not
              rw [lg_cmp_eq] at c58
              rw [ex55, ex53, ex51, eed, nm_bit1 (hlt i) (by omega)] at c58
              refine lv_lload_n hx hb dX8_through_61 rfl (lv_at hl 3 rfl) ?_
              refine lv_lconst (v := 0) hx hb dX8_through_62 (by decide) ?_
              refine W.lcmp hx hb dX8_through_63 ?_
              refine lv_if_lt (tgt := 79) hx hb dX8_through_64 (by decide) (fun c64 => ?_) (fun c64 => ?_)
              · -- 64 taken
                rw [lg_cmp_lt] at c64
                refine lv_aload_n hx hb dX8_through_79 rfl (lv_at hl 0 rfl) ?_
                refine va_get (D := (dC, dI)) (ci := 8) (v := .ref (R 14)) (C := RX8) (T := TX8) (N := 20) hx hb hts hinX8 hown hK hP 0 rfl rfl 14 (by decide) hf42 (fun _ h9 => h9) rfl dX8_through_80 ?_
                refine lv_iload hx hb dX8_through_83 (lv_at hl 4 rfl) ?_
                have h85 : vp_in (nI i) 16384 := iin
                refine va_lald hx hb hK hP 10 1 rfl rfl h85 dX8_through_85 ?_
                refine lv_topl (fun x85 ex85 => ?_)
                have ex85 : x85 = B28 14 (nI i).toNatClampNeg := ex85
                have ex85 : x85 = lN (wsum wt (elA fr to ne i) ne) := by rw [ex85, icl]; exact (hel i (by omega)).2
                subst ex85
                refine lv_lstore_n (lv' := [(3, .long (lN (wsum wt (elA fr to ne i) ne))), (0, .ref (R 0)), (1, .int ed), (2, .int (nI (2 ^ dmA fr to ne))), (5, .int (nI i))]) hx hb dX8_through_86 rfl hl (by decide) rfl (fun ls hl => ?_)
                obtain ⟨x87, ex87⟩ : ∃ y : Int32, y = nI i + (1) := ⟨_, rfl⟩
                refine lv_iinc (v := x87) (lv' := [(5, .int x87), (3, .long (lN (wsum wt (elA fr to ne i) ne))), (0, .ref (R 0)), (1, .int ed), (2, .int (nI (2 ^ dmA fr to ne)))]) hx hb dX8_through_87 hl (k := 4) rfl (by rw [ex87]; rfl) (by decide) rfl (fun ls hl => ?_)
                have ex87 : x87 = nI (i + 1) := by rw [ex87]; exact nI_1 i
                subst ex87
                refine lv_goto (tgt := 39) hx hb dX8_through_90 (by decide) ?_
                exact ih39 (i + 1) (lN (wsum wt (elA fr to ne i) ne)) ls _ _ (by omega) ⟨by omega, by omega, thI_neg hth hwl c58 c64⟩ hP hD hS (lv_sub hl [2, 3, 4, 1, 0] rfl)
              · -- 64 not
                rw [lg_cmp_lt] at c64
                refine lv_aload_n hx hb dX8_through_67 rfl (lv_at hl 0 rfl) ?_
                refine va_get (D := (dC, dI)) (ci := 8) (v := .ref (R 14)) (C := RX8) (T := TX8) (N := 20) hx hb hts hinX8 hown hK hP 0 rfl rfl 14 (by decide) hf42 (fun _ h9 => h9) rfl dX8_through_68 ?_
                refine lv_iload hx hb dX8_through_71 (lv_at hl 4 rfl) ?_
                have h73 : vp_in (nI i) 16384 := iin
                refine va_lald hx hb hK hP 10 1 rfl rfl h73 dX8_through_73 ?_
                refine lv_topl (fun x73 ex73 => ?_)
                have ex73 : x73 = B28 14 (nI i).toNatClampNeg := ex73
                have ex73 : x73 = lN (wsum wt (elA fr to ne i) ne) := by rw [ex73, icl]; exact (hel i (by omega)).2
                refine lv_lload_n hx hb dX8_through_74 rfl (lv_at hl 3 rfl) ?_
                refine W.lcmp hx hb dX8_through_75 ?_
                refine lv_if_ge (tgt := 87) hx hb dX8_through_76 (by decide) (fun c76 => ?_) (fun c76 => ?_)
                · -- 76 taken
                  rw [lg_cmp_ge] at c76
                  rw [ex73] at c76
                  obtain ⟨x87, ex87⟩ : ∃ y : Int32, y = nI i + (1) := ⟨_, rfl⟩
                  refine lv_iinc (v := x87) (lv' := [(5, .int x87), (0, .ref (R 0)), (1, .int ed), (2, .int (nI (2 ^ dmA fr to ne))), (3, .long y)]) hx hb dX8_through_87 hl (k := 4) rfl (by rw [ex87]; rfl) (by decide) rfl (fun ls hl => ?_)
                  have ex87 : x87 = nI (i + 1) := by rw [ex87]; exact nI_1 i
                  subst ex87
                  refine lv_goto (tgt := 39) hx hb dX8_through_90 (by decide) ?_
                  exact ih39 (i + 1) y ls _ _ (by omega) ⟨by omega, by omega, thI_keep hth hwl c64 c76⟩ hP hD hS (lv_sub hl [1, 2, 3, 4, 0] rfl)
                · -- 76 not
                  rw [lg_cmp_ge] at c76
                  rw [ex73] at c76
                  refine lv_aload_n hx hb dX8_through_79 rfl (lv_at hl 0 rfl) ?_
                  refine va_get (D := (dC, dI)) (ci := 8) (v := .ref (R 14)) (C := RX8) (T := TX8) (N := 20) hx hb hts hinX8 hown hK hP 0 rfl rfl 14 (by decide) hf42 (fun _ h9 => h9) rfl dX8_through_80 ?_
                  refine lv_iload hx hb dX8_through_83 (lv_at hl 4 rfl) ?_
                  have h85 : vp_in (nI i) 16384 := iin
                  refine va_lald hx hb hK hP 10 1 rfl rfl h85 dX8_through_85 ?_
                  refine lv_topl (fun x85 ex85 => ?_)
                  have ex85 : x85 = B28 14 (nI i).toNatClampNeg := ex85
                  have ex85 : x85 = lN (wsum wt (elA fr to ne i) ne) := by rw [ex85, icl]; exact (hel i (by omega)).2
                  subst ex85
                  refine lv_lstore_n (lv' := [(3, .long (lN (wsum wt (elA fr to ne i) ne))), (0, .ref (R 0)), (1, .int ed), (2, .int (nI (2 ^ dmA fr to ne))), (5, .int (nI i))]) hx hb dX8_through_86 rfl hl (by decide) rfl (fun ls hl => ?_)
                  obtain ⟨x87, ex87⟩ : ∃ y : Int32, y = nI i + (1) := ⟨_, rfl⟩
                  refine lv_iinc (v := x87) (lv' := [(5, .int x87), (3, .long (lN (wsum wt (elA fr to ne i) ne))), (0, .ref (R 0)), (1, .int ed), (2, .int (nI (2 ^ dmA fr to ne)))]) hx hb dX8_through_87 hl (k := 4) rfl (by rw [ex87]; rfl) (by decide) rfl (fun ls hl => ?_)
                  have ex87 : x87 = nI (i + 1) := by rw [ex87]; exact nI_1 i
                  subst ex87
                  refine lv_goto (tgt := 39) hx hb dX8_through_90 (by decide) ?_
                  exact ih39 (i + 1) (lN (wsum wt (elA fr to ne i) ne)) ls _ _ (by omega) ⟨by omega, by omega, thI_new hth hwl c58 c64 c76⟩ hP hD hS (lv_sub hl [2, 3, 4, 1, 0] rfl)
      exact K39 _ 1 ((-1)) ls _ _ (Nat.lt_succ_self _) ⟨Nat.le_refl 1, Nat.two_pow_pos _, thI_skip (i := 0) (Or.inl ⟨rfl, fun c h => absurd h (Nat.not_lt_zero _)⟩) (by show (elA fr to ne 0).testBit k = false; rw [show elA fr to ne 0 = 0 from cb_0 _ _]; exact Nat.zero_testBit k)⟩ hP hD hS (lv_sub hl [3, 4, 2, 1, 0] rfl)
    · -- 22 not
      have hv : o = 1 ∧ (ed < 0 ∨ nI ne ≤ ed) := inv18.elim id (fun h => by rw [w19, h.1] at c22; exact absurd rfl c22)
      have eT : I19 = va_up I 0 1 := by rw [eI19, hv.1]; rfl
      refine lv_lconst (v := 0) hx hb dX8_through_25 (by decide) ?_
      refine hret 26 ls _ _ 0 (I19, A, B) dX8_through_26 ?_ hP hD hS
      try dsimp only
      exact ⟨fun _ => ⟨by rw [eT]; exact up_self, fP.rf0 eT⟩, fun k hk he => by rw [he] at hv; exact hv.2.elim (fun h => absurd h (nI_pos (by omega))) (fun h => absurd ((nI_leI (by omega) (by omega)).mp h) (by omega))⟩
  refine lv_iload_n hx hb dX8_through_1 rfl (lv_at hl 1 rfl) ?_
  refine lv_if_lt (tgt := 13) hx hb dX8_through_2 (by decide) (fun c2 => ?_) (fun c2 => ?_)
  · -- 2 taken
    refine lv_iconst (v := 1) hx hb dX8_through_13 (by decide) ?_
    refine lv_goto (tgt := 18) hx hb dX8_through_14 (by decide) ?_
    exact K18 1 ls _ _  (Or.inl ⟨rfl, Or.inl c2⟩) hP hD hS (lv_sub hl [0, 1] rfl)
  · -- 2 not
    refine lv_iload_n hx hb dX8_through_5 rfl (lv_at hl 1 rfl) ?_
    refine lv_aload_n hx hb dX8_through_6 rfl (lv_at hl 0 rfl) ?_
    refine va_get (D := (dC, dI)) (ci := 8) (v := .int (I 2)) (C := RX8) (T := TX8) (N := 20) hx hb hts hinX8 hown hK hP 0 rfl rfl 2 (by decide) hf61 (fun _ h9 => h9) rfl dX8_through_7 ?_
    refine lv_icmp_lt (tgt := 17) hx hb dX8_through_10 (by decide) (fun c10 => ?_) (fun c10 => ?_)
    · -- 10 taken
      rw [g5] at c10
      refine lv_iconst (v := 0) hx hb dX8_through_17 (by decide) ?_
      exact K18 0 ls _ _  (Or.inr ⟨rfl, by obtain ⟨j, hj, rfl⟩ := nI_of c2; exact ⟨j, (nI_ltI hj (by omega)).mp c10, rfl⟩⟩) hP hD hS (lv_sub hl [0, 1] rfl)
    · -- 10 not
      rw [g5] at c10
      refine lv_iconst (v := 1) hx hb dX8_through_13 (by decide) ?_
      refine lv_goto (tgt := 18) hx hb dX8_through_14 (by decide) ?_
      exact K18 1 ls _ _  (Or.inl ⟨rfl, Or.inr (Int32.not_lt.mp c10)⟩) hP hD hS (lv_sub hl [0, 1] rfl)
set_option maxHeartbeats 4000000 in
set_option maxRecDepth 100000 in
theorem k_X8_numberOf (l : Launch) (dC : Nat → ClassId) (dI : Nat → Nat → Nat) (cI cJ cZ cII cJJ : ClassId) (R : Nat → Nat) (I : Nat → Int32) (A : Nat → Nat → Int32) (B : Nat → Nat → Int64) (nv ne : Nat) (fr to wt : Nat → Nat) (z : Nat) (g : gM nv ne fr to wt I A) (hz : z < 2 ^ 62) (hd : dmA fr to ne ≤ 14) (hq : rJ nv (jRun fr to (fl ne) ne) I A B) : ctI l (dC, dI) (tyL cI cJ cZ cII cJJ) (MW cI cJ cZ R) yX8_numberOf wsX8_numberOf (0, 0) [.ref (R 0), .long (lN z)] (I, A, B) (fun r u => r = nI (nb (fun i => z.testBit (czA fr to ne i)) (dmA fr to ne)) ∧ u = (I, A, B)) := by
  refine ctI_intro (cc := cX8_numberOf) (maxL := 5) (by decide) rfl (Nat.le_of_ble_eq_true rfl) ?_
  intro p e s m below meth c ls Aa Q F hK hN hP hD hS hA hl hret
  have hx := F.1
  have hb := F.2.1
  have hown : s.vm.findClass RX8 = some m.cls := F.2.2.2.1
  have hts := F.2.2.2.2
  have hinX8 : ∀ w ∈ wsX80, w ∈ wsX8_numberOf := by decide +kernel
  have hf64 := hts (.fieldLink RX8 64 "CycleHouseModel" "closed" "I") (by decide +kernel)
  have hf36 := hts (.fieldLink RX8 36 "CycleHouseModel" "closer" "[I") (by decide +kernel)
  have hl : lv_has ls 5 [(0, .ref (R 0)), (1, .long (lN z))] := hl
  obtain ⟨g1, g2, g3, g4, g5, g6⟩ := id g
  refine lv_iconst (v := 0) hx hb dX8_numberOf_0 (by decide) ?_
  refine lv_istore_n (lv' := [(3, .int 0), (0, .ref (R 0)), (1, .long (lN z))]) hx hb dX8_numberOf_1 rfl hl (by decide) rfl (fun ls hl => ?_)
  refine lv_iconst (v := 0) hx hb dX8_numberOf_2 (by decide) ?_
  refine lv_istore (lv' := [(4, .int 0), (3, .int 0), (0, .ref (R 0)), (1, .long (lN z))]) hx hb dX8_numberOf_3 hl (by decide) rfl (fun ls hl => ?_)
  have K5 : ∀ (kn : Nat) (i : Nat) (x : Int32) (ls : Array Slot) (H : Heap) (locs : List Loc), dmA fr to ne - i < kn → (i ≤ dmA fr to ne ∧ x = nI (nb (fun i => z.testBit (czA fr to ne i)) i)) → va_P (dC, dI) vwCl (MW cI cJ cZ R (I, A, B)) H → va_D Aa (MW cI cJ cZ R (I, A, B)) → va_S Aa s.heap H locs → lv_has ls 5 [(0, .ref (R 0)), (1, .long (lN z)), (3, .int x), (4, .int (nI i))] → W p l e (ctR (0, 0)) s m #[.ref (R 0), .long (lN z)] below meth c H locs 0 0 Q (F0 m 5 ls []) := by
    intro kn
    induction kn with
    | zero => intro i x ls H locs hmu; exact absurd hmu (Nat.not_lt_zero _)
    | succ kn ih5 =>
      intro i x ls H locs mu5 inv5 hP hD hS hl
      obtain ⟨hi, ex⟩ := inv5
      refine lv_iload hx hb dX8_numberOf_5 (lv_at hl 3 rfl) ?_
      refine lv_aload_n hx hb dX8_numberOf_7 rfl (lv_at hl 0 rfl) ?_
      refine va_get (D := (dC, dI)) (ci := 8) (v := .int (I 10)) (C := RX8) (T := TX8) (N := 20) hx hb hts hinX8 hown hK hP 0 rfl rfl 10 (by decide) hf64 (fun _ h9 => h9) rfl dX8_numberOf_8 ?_
      refine lv_icmp_ge (tgt := 47) hx hb dX8_numberOf_11 (by decide) (fun c11 => ?_) (fun c11 => ?_)
      · -- 11 taken
        rw [show I 10 = nI (dmA fr to ne) from hq.2.2.1, nI_leI (by omega) (by omega)] at c11
        have hge : i = dmA fr to ne := by omega
        rw [hge] at ex
        refine lv_iload_n hx hb dX8_numberOf_47 rfl (lv_at hl 2 rfl) ?_
        refine hret 48 ls _ _ x (I, A, B) dX8_numberOf_48 rfl ?_ hP hD hS
        try dsimp only
        exact ⟨ex, rfl⟩
      · -- 11 not
        rw [show I 10 = nI (dmA fr to ne) from hq.2.2.1, nI_leI (by omega) (by omega)] at c11
        have icl : (nI i).toNatClampNeg = i := nI_clamp (by omega)
        have hcz : czA fr to ne i < ne := ((jA (by omega) g.en).2.2.2.2.1 i (by show i < dmA fr to ne; omega)).1
        refine lv_iload_n hx hb dX8_numberOf_14 rfl (lv_at hl 2 rfl) ?_
        refine lv_lload_n hx hb dX8_numberOf_15 rfl (lv_at hl 1 rfl) ?_
        refine lv_aload_n hx hb dX8_numberOf_16 rfl (lv_at hl 0 rfl) ?_
        refine va_get (D := (dC, dI)) (ci := 8) (v := .ref (R 12)) (C := RX8) (T := TX8) (N := 20) hx hb hts hinX8 hown hK hP 0 rfl rfl 12 (by decide) hf36 (fun _ h9 => h9) rfl dX8_numberOf_17 ?_
        refine lv_iload hx hb dX8_numberOf_20 (lv_at hl 3 rfl) ?_
        have h22 : vp_in (nI i) 40 := vp_in_nI (by omega) (by omega)
        refine va_iald hx hb hK hP 8 0 rfl rfl h22 dX8_numberOf_22 ?_
        refine lv_topi (fun x22 ex22 => ?_)
        have ex22 : x22 = A 12 (nI i).toNatClampNeg := ex22
        have ex22 : x22 = nI (czA fr to ne i) := by rw [ex22, icl]; exact (hq.2.2.2 i (by show i < dmA fr to ne; omega)).2
        subst ex22
        refine lv_lshr hx hb dX8_numberOf_23 rfl ?_
        refine lv_topl (fun x23 ex23 => ?_)
        refine lv_lconst (v := 1) hx hb dX8_numberOf_24 (by decide) ?_
        refine lv_land hx hb dX8_numberOf_25 ?_
        refine lv_topl (fun x25 ex25 => ?_)
        refine lv_lconst (v := 1) hx hb dX8_numberOf_26 (by decide) ?_
        refine W.lcmp hx hb dX8_numberOf_27 ?_
        refine lv_if_ne (tgt := 38) hx hb dX8_numberOf_28 (by decide) (fun c28 => ?_) (fun c28 => ?_)
        · -- 28 taken
          rw [lg_cmp_eq] at c28
          rw [ex25, ex23, nm_bit1 hz (by omega)] at c28
          refine lv_iconst (v := 0) hx hb dX8_numberOf_38 (by decide) ?_
          refine lv_ior hx hb dX8_numberOf_39 ?_
          refine lv_topi (fun x39 ex39 => ?_)
          refine lv_istore_n (lv' := [(3, .int x39), (0, .ref (R 0)), (1, .long (lN z)), (4, .int (nI i))]) hx hb dX8_numberOf_40 rfl hl (by decide) rfl (fun ls hl => ?_)
          obtain ⟨x41, ex41⟩ : ∃ y : Int32, y = nI i + (1) := ⟨_, rfl⟩
          refine lv_iinc (v := x41) (lv' := [(4, .int x41), (3, .int x39), (0, .ref (R 0)), (1, .long (lN z))]) hx hb dX8_numberOf_41 hl (k := 3) rfl (by rw [ex41]; rfl) (by decide) rfl (fun ls hl => ?_)
          have ex41 : x41 = nI (i + 1) := by rw [ex41]; exact nI_1 i
          subst ex41
          refine lv_goto (tgt := 5) hx hb dX8_numberOf_44 (by decide) ?_
          exact ih5 (i + 1) x39 ls _ _ (by omega) ⟨by omega, by rw [ex39, ex, nb, if_neg c28, Nat.add_zero]; exact Int32.or_zero⟩ hP hD hS (lv_sub hl [2, 3, 1, 0] rfl)
        · -- 28 not
          rw [lg_cmp_eq] at c28
          rw [ex25, ex23, nm_bit1 hz (by omega)] at c28
          refine lv_iconst (v := 1) hx hb dX8_numberOf_31 (by decide) ?_
          refine lv_iload hx hb dX8_numberOf_32 (lv_at hl 3 rfl) ?_
          refine lv_ishl hx hb dX8_numberOf_34 ?_
          refine lv_topi (fun x34 ex34 => ?_)
          refine lv_goto (tgt := 39) hx hb dX8_numberOf_35 (by decide) ?_
          refine lv_ior hx hb dX8_numberOf_39 ?_
          refine lv_topi (fun x39 ex39 => ?_)
          refine lv_istore_n (lv' := [(3, .int x39), (0, .ref (R 0)), (1, .long (lN z)), (4, .int (nI i))]) hx hb dX8_numberOf_40 rfl hl (by decide) rfl (fun ls hl => ?_)
          obtain ⟨x41, ex41⟩ : ∃ y : Int32, y = nI i + (1) := ⟨_, rfl⟩
          refine lv_iinc (v := x41) (lv' := [(4, .int x41), (3, .int x39), (0, .ref (R 0)), (1, .long (lN z))]) hx hb dX8_numberOf_41 hl (k := 3) rfl (by rw [ex41]; rfl) (by decide) rfl (fun ls hl => ?_)
          have ex41 : x41 = nI (i + 1) := by rw [ex41]; exact nI_1 i
          subst ex41
          refine lv_goto (tgt := 5) hx hb dX8_numberOf_44 (by decide) ?_
          exact ih5 (i + 1) x39 ls _ _ (by omega) ⟨by omega, by rw [ex39, ex, ex34, nm_ishl (by omega), or_bit (nb_lt _ _) (by omega), nb, if_pos c28]⟩ hP hD hS (lv_sub hl [2, 3, 1, 0] rfl)
  exact K5 _ 0 0 ls _ _ (Nat.lt_succ_self _) ⟨Nat.zero_le _, rfl⟩ hP hD hS (lv_sub hl [2, 3, 1, 0] rfl)
