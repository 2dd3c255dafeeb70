set_option maxHeartbeats 4000000 in
set_option maxRecDepth 100000 in
theorem k_X8_alone (l : Launch) (dC : Nat → ClassId) (dI : Nat → Nat → Nat) (cI cJ cZ cII cJJ : ClassId) (R : Nat → Nat) (I : Nat → Int32) (A : Nat → Nat → Int32) (B : Nat → Nat → Int64) (nv ne : Nat) (fr to wt : Nat → Nat) (g : gM nv ne fr to wt I A) : ctI l (dC, dI) (tyL cI cJ cZ cII cJJ) (MW cI cJ cZ R) yX8_alone wsX8_alone (2, 60) [.ref (R 0)] (I, A, B) (fun r u => r = nI (alM fr to nv ne ne) ∧ fJ I A B u) := by
  refine ctI_intro (cc := cX8_alone) (maxL := 6) (by decide) rfl (Nat.le_of_ble_eq_true rfl) ?_
  intro p e s m below meth c ls Aa Q F hK hN hP hD hS hA hl hret
  have hx := F.1
  have hb := F.2.1
  have hown : s.vm.findClass RX8 = some m.cls := F.2.2.2.1
  have hts := F.2.2.2.2
  have hinX8 : ∀ w ∈ wsX80, w ∈ wsX8_alone := by decide +kernel
  have hf61 := hts (.fieldLink RX8 61 "CycleHouseModel" "m" "I") (by decide +kernel)
  have hf7 := hts (.fieldLink RX8 7 "CycleHouseModel" "n" "I") (by decide +kernel)
  have hl : lv_has ls 6 [(0, .ref (R 0))] := hl
  refine lv_iconst (v := 0) hx hb dX8_alone_0 (by decide) ?_
  refine lv_istore_n (lv' := [(1, .int 0), (0, .ref (R 0))]) hx hb dX8_alone_1 rfl hl (by decide) rfl (fun ls hl => ?_)
  refine lv_aload_n hx hb dX8_alone_2 rfl (lv_at hl 1 rfl) ?_
  refine ct_calli hD hS hA (va_runV (As := []) (rest := []) F ((k_X8_groups l dC dI cI cJ cZ cII cJJ R I A B nv ne fr to wt g) _) (cwV 0 hts gX8_alone_X8_groups rfl rfl rfl (by decide +kernel) ⟨(Nat.le_of_ble_eq_true rfl), (Nat.le_of_ble_eq_true rfl)⟩) (ct_preV 0 8 hK hN hP hD rfl rfl) rfl rfl hl.1 rfl (lv_room (Nat.le_of_ble_eq_true rfl)) dX8_alone_3 ⟨(Nat.le_of_ble_eq_true rfl), (Nat.le_of_ble_eq_true rfl)⟩) (fun r3 u3 H locs w3 hP hD hS => ?_)
  obtain ⟨I3, A3, B3⟩ := u3
  have er3 : r3 = nI (gc nv (jRun fr to (fl ne) ne)) := w3.1
  subst er3
  refine lv_istore_n (lv' := [(2, .int (nI (gc nv (jRun fr to (fl ne) ne)))), (1, .int 0), (0, .ref (R 0))]) hx hb dX8_alone_6 rfl hl (by decide) rfl (fun ls hl => ?_)
  refine lv_iconst (v := 0) hx hb dX8_alone_7 (by decide) ?_
  refine lv_istore_n (lv' := [(3, .int 0), (2, .int (nI (gc nv (jRun fr to (fl ne) ne)))), (1, .int 0), (0, .ref (R 0))]) hx hb dX8_alone_8 rfl hl (by decide) rfl (fun ls hl => ?_)
  have K9 : ∀ (kn : Nat) (x : Nat) (y : Int32) (I_9 : Nat → Int32) (A_9 : Nat → Nat → Int32) (B_9 : Nat → Nat → Int64) (ls : Array Slot) (H : Heap) (locs : List Loc), ne - x < kn → (x ≤ ne ∧ y = nI (alM fr to nv ne x) ∧ fJ I A B (I_9, A_9, B_9)) → va_P (dC, dI) vwCl (MW cI cJ cZ R (I_9, A_9, B_9)) H → va_D Aa (MW cI cJ cZ R (I_9, A_9, B_9)) → va_S Aa s.heap H locs → lv_has ls 6 [(0, .ref (R 0)), (1, .int y), (2, .int (nI (gc nv (jRun fr to (fl ne) ne)))), (3, .int (nI x))] → W p l e (ctR (2, 60)) s m #[.ref (R 0)] below meth c H locs 0 0 Q (F0 m 9 ls []) := by
    intro kn
    induction kn with
    | zero => intro x y I_9 A_9 B_9 ls H locs hmu; exact absurd hmu (Nat.not_lt_zero _)
    | succ kn ih9 =>
      intro x y I_9 A_9 B_9 ls H locs mu9 inv9 hP hD hS hl
      obtain ⟨hx2, ey, hf⟩ := inv9
      have gg := g.fj hf
      have g3 := g.2.2.1
      have g2 := g.2.1
      refine lv_iload_n hx hb dX8_alone_9 rfl (lv_at hl 3 rfl) ?_
      refine lv_aload_n hx hb dX8_alone_10 rfl (lv_at hl 0 rfl) ?_
      refine va_get (D := (dC, dI)) (ci := 8) (v := .int (I_9 2)) (C := RX8) (T := TX8) (N := 20) hx hb hts hinX8 hown hK hP 0 rfl rfl 2 (by decide) hf61 (fun _ h9 => h9) rfl dX8_alone_11 ?_
      refine lv_icmp_ge (tgt := 90) hx hb dX8_alone_14 (by decide) (fun c14 => ?_) (fun c14 => ?_)
      · -- 14 taken
        rw [show I_9 2 = nI ne from gg.2.2.2.2.1, nI_leI (by omega) (by omega)] at c14
        have hge : x = ne := by omega
        rw [hge] at ey
        refine lv_iload_n hx hb dX8_alone_90 rfl (lv_at hl 1 rfl) ?_
        refine hret 91 ls _ _ y (I_9, A_9, B_9) dX8_alone_91 rfl ?_ hP hD hS
        try dsimp only
        exact ⟨ey, hf⟩
      · -- 14 not
        rw [show I_9 2 = nI ne from gg.2.2.2.2.1, nI_leI (by omega) (by omega)] at c14
        refine lv_aload_n hx hb dX8_alone_17 rfl (lv_at hl 0 rfl) ?_
        refine ct_callv hD hS hA (va_runV (As := []) (rest := []) F ((k_X8_beginGroups l dC dI cI cJ cZ cII cJJ R I_9 A_9 B_9 ) _) (cwV 0 hts gX8_alone_X8_beginGroups rfl rfl rfl (by decide +kernel) ⟨(Nat.le_of_ble_eq_true rfl), (Nat.le_of_ble_eq_true rfl)⟩) (ct_preV 0 8 hK hN hP hD rfl rfl) rfl rfl hl.1 rfl (lv_room (Nat.le_of_ble_eq_true rfl)) dX8_alone_18 ⟨(Nat.le_of_ble_eq_true rfl), (Nat.le_of_ble_eq_true rfl)⟩) (fun u18 H locs w18 hP hD hS => ?_)
        obtain ⟨I18, A18, B18⟩ := u18
        refine lv_aload_n hx hb dX8_alone_21 rfl (lv_at hl 0 rfl) ?_
        refine va_get (D := (dC, dI)) (ci := 8) (v := .int (I18 1)) (C := RX8) (T := TX8) (N := 20) hx hb hts hinX8 hown hK hP 0 rfl rfl 1 (by decide) hf7 (fun _ h9 => h9) rfl dX8_alone_22 ?_
        refine lv_istore (lv' := [(4, .int (I18 1)), (0, .ref (R 0)), (1, .int y), (2, .int (nI (gc nv (jRun fr to (fl ne) ne)))), (3, .int (nI x))]) hx hb dX8_alone_25 hl (by decide) rfl (fun ls hl => ?_)
        refine lv_iconst (v := 0) hx hb dX8_alone_27 (by decide) ?_
        refine lv_istore (lv' := [(5, .int 0), (4, .int (I18 1)), (0, .ref (R 0)), (1, .int y), (2, .int (nI (gc nv (jRun fr to (fl ne) ne)))), (3, .int (nI x))]) hx hb dX8_alone_28 hl (by decide) rfl (fun ls hl => ?_)
        have K30 : ∀ (kn : Nat) (i : Nat) (w : Int32) (I_30 : Nat → Int32) (A_30 : Nat → Nat → Int32) (B_30 : Nat → Nat → Int64) (ls : Array Slot) (H : Heap) (locs : List Loc), ne - i < kn → (i ≤ ne ∧ w = nI (gc nv (jRun fr to (wo ne x) i)) ∧ rJ nv (jRun fr to (wo ne x) i) I_30 A_30 B_30 ∧ fJ I A B (I_30, A_30, B_30)) → va_P (dC, dI) vwCl (MW cI cJ cZ R (I_30, A_30, B_30)) H → va_D Aa (MW cI cJ cZ R (I_30, A_30, B_30)) → va_S Aa s.heap H locs → lv_has ls 6 [(0, .ref (R 0)), (1, .int y), (2, .int (nI (gc nv (jRun fr to (fl ne) ne)))), (3, .int (nI x)), (4, .int w), (5, .int (nI i))] → W p l e (ctR (2, 60)) s m #[.ref (R 0)] below meth c H locs 0 0 Q (F0 m 30 ls []) := by
          intro kn
          induction kn with
          | zero => intro i w I_30 A_30 B_30 ls H locs hmu; exact absurd hmu (Nat.not_lt_zero _)
          | succ kn ih30 =>
            intro i w I_30 A_30 B_30 ls H locs mu30 inv30 hP hD hS hl
            obtain ⟨hi, ew, hq, hf2⟩ := inv30
            have gg := g.fj hf2
            have hin := fun e (he : e < i) (_ : (wo ne x).testBit e = true) => (⟨(gg.2.2.2.2.2 e (by omega)).1.2, (gg.2.2.2.2.2 e (by omega)).2.1.2⟩ : fr e < nv ∧ to e < nv)
            have gl := gc_le nv (jRun fr to (wo ne x) ne)
            have gl2 := gc_le nv (jRun fr to (fl ne) ne)
            refine lv_iload hx hb dX8_alone_30 (lv_at hl 5 rfl) ?_
            refine lv_aload_n hx hb dX8_alone_32 rfl (lv_at hl 0 rfl) ?_
            refine va_get (D := (dC, dI)) (ci := 8) (v := .int (I_30 2)) (C := RX8) (T := TX8) (N := 20) hx hb hts hinX8 hown hK hP 0 rfl rfl 2 (by decide) hf61 (fun _ h9 => h9) rfl dX8_alone_33 ?_
            refine lv_icmp_ge (tgt := 70) hx hb dX8_alone_36 (by decide) (fun c36 => ?_) (fun c36 => ?_)
            · -- 36 taken
              rw [show I_30 2 = nI ne from gg.2.2.2.2.1, nI_leI (by omega) (by omega)] at c36
              have hge : i = ne := by omega
              rw [hge] at ew
              refine lv_iload_n hx hb dX8_alone_70 rfl (lv_at hl 1 rfl) ?_
              refine lv_iload hx hb dX8_alone_71 (lv_at hl 4 rfl) ?_
              refine lv_iload_n hx hb dX8_alone_73 rfl (lv_at hl 2 rfl) ?_
              refine lv_icmp_le (tgt := 81) hx hb dX8_alone_74 (by decide) (fun c74 => ?_) (fun c74 => ?_)
              · -- 74 taken
                rw [ew, nI_leI (by omega) (by omega)] at c74
                refine lv_iconst (v := 0) hx hb dX8_alone_81 (by decide) ?_
                refine lv_iadd hx hb dX8_alone_82 ?_
                refine lv_topi (fun x82 ex82 => ?_)
                refine lv_istore_n (lv' := [(1, .int x82), (0, .ref (R 0)), (2, .int (nI (gc nv (jRun fr to (fl ne) ne)))), (3, .int (nI x)), (4, .int w), (5, .int (nI i))]) hx hb dX8_alone_83 rfl hl (by decide) rfl (fun ls hl => ?_)
                obtain ⟨x84, ex84⟩ : ∃ zz : Int32, zz = nI x + (1) := ⟨_, rfl⟩
                refine lv_iinc (v := x84) (lv' := [(3, .int x84), (1, .int x82), (0, .ref (R 0)), (2, .int (nI (gc nv (jRun fr to (fl ne) ne)))), (4, .int w), (5, .int (nI i))]) hx hb dX8_alone_84 hl (k := 3) rfl (by rw [ex84]; rfl) (by decide) rfl (fun ls hl => ?_)
                have ex84 : x84 = nI (x + 1) := by rw [ex84]; exact nI_1 x
                subst ex84
                refine lv_goto (tgt := 9) hx hb dX8_alone_87 (by decide) ?_
                exact ih9 (x + 1) x82 I_30 A_30 B_30 ls _ _ (by omega) ⟨by omega, by rw [ex82, ey]; unfold alM; rw [ct0_f (decide_eq_false (by omega))]; exact Int32.add_zero _, hf2⟩ hP hD hS (lv_sub hl [2, 1, 3, 0] rfl)
              · -- 74 not
                rw [ew, nI_leI (by omega) (by omega)] at c74
                refine lv_iconst (v := 1) hx hb dX8_alone_77 (by decide) ?_
                refine lv_goto (tgt := 82) hx hb dX8_alone_78 (by decide) ?_
                refine lv_iadd hx hb dX8_alone_82 ?_
                refine lv_topi (fun x82 ex82 => ?_)
                refine lv_istore_n (lv' := [(1, .int x82), (0, .ref (R 0)), (2, .int (nI (gc nv (jRun fr to (fl ne) ne)))), (3, .int (nI x)), (4, .int w), (5, .int (nI i))]) hx hb dX8_alone_83 rfl hl (by decide) rfl (fun ls hl => ?_)
                obtain ⟨x84, ex84⟩ : ∃ zz : Int32, zz = nI x + (1) := ⟨_, rfl⟩
                refine lv_iinc (v := x84) (lv' := [(3, .int x84), (1, .int x82), (0, .ref (R 0)), (2, .int (nI (gc nv (jRun fr to (fl ne) ne)))), (4, .int w), (5, .int (nI i))]) hx hb dX8_alone_84 hl (k := 3) rfl (by rw [ex84]; rfl) (by decide) rfl (fun ls hl => ?_)
                have ex84 : x84 = nI (x + 1) := by rw [ex84]; exact nI_1 x
                subst ex84
                refine lv_goto (tgt := 9) hx hb dX8_alone_87 (by decide) ?_
                exact ih9 (x + 1) x82 I_30 A_30 B_30 ls _ _ (by omega) ⟨by omega, by rw [ex82, ey]; unfold alM; rw [ct0_t (decide_eq_true (by omega))]; exact nI_1 _, hf2⟩ hP hD hS (lv_sub hl [2, 1, 3, 0] rfl)
            · -- 36 not
              rw [show I_30 2 = nI ne from gg.2.2.2.2.1, nI_leI (by omega) (by omega)] at c36
              refine lv_iload hx hb dX8_alone_39 (lv_at hl 5 rfl) ?_
              refine lv_iload_n hx hb dX8_alone_41 rfl (lv_at hl 3 rfl) ?_
              refine lv_icmp_eq (tgt := 64) hx hb dX8_alone_42 (by decide) (fun c42 => ?_) (fun c42 => ?_)
              · -- 42 taken
                have c42 : i = x := (nI_eq (by omega) (by omega)).mp c42
                obtain ⟨x64, ex64⟩ : ∃ zz : Int32, zz = nI i + (1) := ⟨_, rfl⟩
                refine lv_iinc (v := x64) (lv' := [(5, .int x64), (0, .ref (R 0)), (1, .int y), (2, .int (nI (gc nv (jRun fr to (fl ne) ne)))), (3, .int (nI x)), (4, .int w)]) hx hb dX8_alone_64 hl (k := 5) rfl (by rw [ex64]; rfl) (by decide) rfl (fun ls hl => ?_)
                have ex64 : x64 = nI (i + 1) := by rw [ex64]; exact nI_1 i
                subst ex64
                refine lv_goto (tgt := 30) hx hb dX8_alone_67 (by decide) ?_
                exact ih30 (i + 1) w I_30 A_30 B_30 ls _ _ (by omega) ⟨by omega, by rw [jRun_out (fun h => (wo_bit (by omega)).mp h c42)]; exact ew, by rw [jRun_out (fun h => (wo_bit (by omega)).mp h c42)]; exact hq, hf2⟩ hP hD hS (lv_sub hl [1, 2, 3, 4, 5, 0] rfl)
              · -- 42 not
                have hbt : (wo ne x).testBit i = true := (wo_bit (by omega)).mpr (fun h => c42 (by rw [h]))
                refine lv_iload hx hb dX8_alone_45 (lv_at hl 4 rfl) ?_
                refine lv_aload_n hx hb dX8_alone_47 rfl (lv_at hl 0 rfl) ?_
                refine lv_iload hx hb dX8_alone_48 (lv_at hl 5 rfl) ?_
                refine ct_calli hD hS hA (va_runV (As := [.int (nI i)]) (rest := [.int w]) F ((k_X8_joins l dC dI cI cJ cZ cII cJJ R I_30 A_30 B_30 nv ne fr to wt i (jRun fr to (wo ne x) i) gg (by omega) hq (by have := jd_lt (fr := fr) (to := to) (s := (wo ne x)) (k := i); omega)) _) (cwV 1 hts gX8_alone_X8_joins rfl rfl rfl (by decide +kernel) ⟨(Nat.le_of_ble_eq_true rfl), (Nat.le_of_ble_eq_true rfl)⟩) (ct_preV 0 8 hK hN hP hD rfl rfl) rfl rfl hl.1 rfl (lv_room (Nat.le_of_ble_eq_true rfl)) dX8_alone_50 ⟨(Nat.le_of_ble_eq_true rfl), (Nat.le_of_ble_eq_true rfl)⟩) (fun r50 u50 H locs w50 hP hD hS => ?_)
                obtain ⟨I50, A50, B50⟩ := u50
                refine lv_if_eq (tgt := 60) hx hb dX8_alone_53 (by decide) (fun c53 => ?_) (fun c53 => ?_)
                · -- 53 taken
                  rw [w50.1] at c53
                  have c53 : (jRun fr to (wo ne x) i).1 (fr i) = (jRun fr to (wo ne x) i).1 (to i) := Classical.byContradiction (fun h => by rw [if_neg h] at c53; exact absurd c53 (by decide))
                  refine lv_iconst (v := 0) hx hb dX8_alone_60 (by decide) ?_
                  refine lv_isub hx hb dX8_alone_61 ?_
                  refine lv_topi (fun x61 ex61 => ?_)
                  refine lv_istore (lv' := [(4, .int x61), (0, .ref (R 0)), (1, .int y), (2, .int (nI (gc nv (jRun fr to (fl ne) ne)))), (3, .int (nI x)), (5, .int (nI i))]) hx hb dX8_alone_62 hl (by decide) rfl (fun ls hl => ?_)
                  obtain ⟨x64, ex64⟩ : ∃ zz : Int32, zz = nI i + (1) := ⟨_, rfl⟩
                  refine lv_iinc (v := x64) (lv' := [(5, .int x64), (4, .int x61), (0, .ref (R 0)), (1, .int y), (2, .int (nI (gc nv (jRun fr to (fl ne) ne)))), (3, .int (nI x))]) hx hb dX8_alone_64 hl (k := 5) rfl (by rw [ex64]; rfl) (by decide) rfl (fun ls hl => ?_)
                  have ex64 : x64 = nI (i + 1) := by rw [ex64]; exact nI_1 i
                  subst ex64
                  refine lv_goto (tgt := 30) hx hb dX8_alone_67 (by decide) ?_
                  exact ih30 (i + 1) x61 I50 A50 B50 ls _ _ (by omega) ⟨by omega, by rw [jRun_in hbt, gc_close c53, ex61, ew]; exact Int32.sub_zero _, by rw [jRun_in hbt]; exact w50.2.1, hf2.tr w50.2.2⟩ hP hD hS (lv_sub hl [2, 3, 4, 5, 1, 0] rfl)
                · -- 53 not
                  rw [w50.1] at c53
                  have c53 : (jRun fr to (wo ne x) i).1 (fr i) ≠ (jRun fr to (wo ne x) i).1 (to i) := fun h => c53 (if_pos h)
                  refine lv_iconst (v := 1) hx hb dX8_alone_56 (by decide) ?_
                  refine lv_goto (tgt := 61) hx hb dX8_alone_57 (by decide) ?_
                  refine lv_isub hx hb dX8_alone_61 ?_
                  refine lv_topi (fun x61 ex61 => ?_)
                  refine lv_istore (lv' := [(4, .int x61), (0, .ref (R 0)), (1, .int y), (2, .int (nI (gc nv (jRun fr to (fl ne) ne)))), (3, .int (nI x)), (5, .int (nI i))]) hx hb dX8_alone_62 hl (by decide) rfl (fun ls hl => ?_)
                  obtain ⟨x64, ex64⟩ : ∃ zz : Int32, zz = nI i + (1) := ⟨_, rfl⟩
                  refine lv_iinc (v := x64) (lv' := [(5, .int x64), (4, .int x61), (0, .ref (R 0)), (1, .int y), (2, .int (nI (gc nv (jRun fr to (fl ne) ne)))), (3, .int (nI x))]) hx hb dX8_alone_64 hl (k := 5) rfl (by rw [ex64]; rfl) (by decide) rfl (fun ls hl => ?_)
                  have ex64 : x64 = nI (i + 1) := by rw [ex64]; exact nI_1 i
                  subst ex64
                  refine lv_goto (tgt := 30) hx hb dX8_alone_67 (by decide) ?_
                  exact ih30 (i + 1) x61 I50 A50 B50 ls _ _ (by omega) ⟨by omega, by rw [jRun_in hbt, ex61, ew, ← gc_join (e := i) (jI_run i hin) (gg.2.2.2.2.2 i (by omega)).1.2 (gg.2.2.2.2.2 i (by omega)).2.1.2 c53]; exact nI_pred _, by rw [jRun_in hbt]; exact w50.2.1, hf2.tr w50.2.2⟩ hP hD hS (lv_sub hl [2, 3, 4, 5, 1, 0] rfl)
        exact K30 _ 0 (I18 1) I18 A18 B18 ls _ _ (Nat.lt_succ_self _) ⟨Nat.zero_le _, by rw [show I18 1 = nI nv from (g.fj (hf.tr w18.2)).2.2.2.1]; congr 1; exact (ct0_true nv (fun i _ => by show (i == i) = true; simp)).symm, w18.1 nv g2, hf.tr w18.2⟩ hP hD hS (lv_sub hl [2, 3, 4, 5, 1, 0] rfl)
  exact K9 _ 0 0 I3 A3 B3 ls _ _ (Nat.lt_succ_self _) ⟨Nat.zero_le _, rfl, w3.2.2⟩ hP hD hS (lv_sub hl [3, 2, 1, 0] rfl)
set_option maxHeartbeats 4000000 in
set_option maxRecDepth 100000 in
theorem k_X8_parting (l : Launch) (dC : Nat → ClassId) (dI : Nat → Nat → Nat) (cI cJ cZ cII cJJ : ClassId) (R : Nat → Nat) (I : Nat → Int32) (A : Nat → Nat → Int32) (B : Nat → Nat → Int64) (nv ne : Nat) (fr to wt : Nat → Nat) (g : gM nv ne fr to wt I A) : ctI l (dC, dI) (tyL cI cJ cZ cII cJJ) (MW cI cJ cZ R) yX8_parting wsX8_parting (2, 60) [.ref (R 0)] (I, A, B) (fun r u => r = nI (ptM fr to nv ne nv) ∧ fJ I A B u) := by
  refine ctI_intro (cc := cX8_parting) (maxL := 6) (by decide) rfl (Nat.le_of_ble_eq_true rfl) ?_
  intro p e s m below meth c ls Aa Q F hK hN hP hD hS hA hl hret
  have hx := F.1
  have hb := F.2.1
  have hown : s.vm.findClass RX8 = some m.cls := F.2.2.2.1
  have hts := F.2.2.2.2
  have hinX8 : ∀ w ∈ wsX80, w ∈ wsX8_parting := by decide +kernel
  have hf7 := hts (.fieldLink RX8 7 "CycleHouseModel" "n" "I") (by decide +kernel)
  have hf61 := hts (.fieldLink RX8 61 "CycleHouseModel" "m" "I") (by decide +kernel)
  have hf13 := hts (.fieldLink RX8 13 "CycleHouseModel" "from" "[I") (by decide +kernel)
  have hf17 := hts (.fieldLink RX8 17 "CycleHouseModel" "to" "[I") (by decide +kernel)
  have hl : lv_has ls 6 [(0, .ref (R 0))] := hl
  refine lv_iconst (v := 0) hx hb dX8_parting_0 (by decide) ?_
  refine lv_istore_n (lv' := [(1, .int 0), (0, .ref (R 0))]) hx hb dX8_parting_1 rfl hl (by decide) rfl (fun ls hl => ?_)
  refine lv_aload_n hx hb dX8_parting_2 rfl (lv_at hl 1 rfl) ?_
  refine ct_calli hD hS hA (va_runV (As := []) (rest := []) F ((k_X8_groups l dC dI cI cJ cZ cII cJJ R I A B nv ne fr to wt g) _) (cwV 0 hts gX8_parting_X8_groups rfl rfl rfl (by decide +kernel) ⟨(Nat.le_of_ble_eq_true rfl), (Nat.le_of_ble_eq_true rfl)⟩) (ct_preV 0 8 hK hN hP hD rfl rfl) rfl rfl hl.1 rfl (lv_room (Nat.le_of_ble_eq_true rfl)) dX8_parting_3 ⟨(Nat.le_of_ble_eq_true rfl), (Nat.le_of_ble_eq_true rfl)⟩) (fun r3 u3 H locs w3 hP hD hS => ?_)
  obtain ⟨I3, A3, B3⟩ := u3
  have er3 : r3 = nI (gc nv (jRun fr to (fl ne) ne)) := w3.1
  subst er3
  refine lv_istore_n (lv' := [(2, .int (nI (gc nv (jRun fr to (fl ne) ne)))), (1, .int 0), (0, .ref (R 0))]) hx hb dX8_parting_6 rfl hl (by decide) rfl (fun ls hl => ?_)
  refine lv_iconst (v := 0) hx hb dX8_parting_7 (by decide) ?_
  refine lv_istore_n (lv' := [(3, .int 0), (2, .int (nI (gc nv (jRun fr to (fl ne) ne)))), (1, .int 0), (0, .ref (R 0))]) hx hb dX8_parting_8 rfl hl (by decide) rfl (fun ls hl => ?_)
  have K9 : ∀ (kn : Nat) (x : Nat) (y : Int32) (I_9 : Nat → Int32) (A_9 : Nat → Nat → Int32) (B_9 : Nat → Nat → Int64) (ls : Array Slot) (H : Heap) (locs : List Loc), nv - x < kn → (x ≤ nv ∧ y = nI (ptM fr to nv ne x) ∧ fJ I A B (I_9, A_9, B_9)) → va_P (dC, dI) vwCl (MW cI cJ cZ R (I_9, A_9, B_9)) H → va_D Aa (MW cI cJ cZ R (I_9, A_9, B_9)) → va_S Aa s.heap H locs → lv_has ls 6 [(0, .ref (R 0)), (1, .int y), (2, .int (nI (gc nv (jRun fr to (fl ne) ne)))), (3, .int (nI x))] → W p l e (ctR (2, 60)) s m #[.ref (R 0)] below meth c H locs 0 0 Q (F0 m 9 ls []) := by
    intro kn
    induction kn with
    | zero => intro x y I_9 A_9 B_9 ls H locs hmu; exact absurd hmu (Nat.not_lt_zero _)
    | succ kn ih9 =>
      intro x y I_9 A_9 B_9 ls H locs mu9 inv9 hP hD hS hl
      obtain ⟨hx2, ey, hf⟩ := inv9
      have gg := g.fj hf
      have g3 := g.2.2.1
      have g2 := g.2.1
      refine lv_iload_n hx hb dX8_parting_9 rfl (lv_at hl 3 rfl) ?_
      refine lv_aload_n hx hb dX8_parting_10 rfl (lv_at hl 0 rfl) ?_
      refine va_get (D := (dC, dI)) (ci := 8) (v := .int (I_9 1)) (C := RX8) (T := TX8) (N := 20) hx hb hts hinX8 hown hK hP 0 rfl rfl 1 (by decide) hf7 (fun _ h9 => h9) rfl dX8_parting_11 ?_
      refine lv_icmp_ge (tgt := 108) hx hb dX8_parting_14 (by decide) (fun c14 => ?_) (fun c14 => ?_)
      · -- 14 taken
        rw [show I_9 1 = nI nv from gg.2.2.2.1, nI_leI (by omega) (by omega)] at c14
        have hge : x = nv := by omega
        rw [hge] at ey
        refine lv_iload_n hx hb dX8_parting_108 rfl (lv_at hl 1 rfl) ?_
        refine hret 109 ls _ _ y (I_9, A_9, B_9) dX8_parting_109 rfl ?_ hP hD hS
        try dsimp only
        exact ⟨ey, hf⟩
      · -- 14 not
        rw [show I_9 1 = nI nv from gg.2.2.2.1, nI_leI (by omega) (by omega)] at c14
        refine lv_aload_n hx hb dX8_parting_17 rfl (lv_at hl 0 rfl) ?_
        refine ct_callv hD hS hA (va_runV (As := []) (rest := []) F ((k_X8_beginGroups l dC dI cI cJ cZ cII cJJ R I_9 A_9 B_9 ) _) (cwV 0 hts gX8_parting_X8_beginGroups rfl rfl rfl (by decide +kernel) ⟨(Nat.le_of_ble_eq_true rfl), (Nat.le_of_ble_eq_true rfl)⟩) (ct_preV 0 8 hK hN hP hD rfl rfl) rfl rfl hl.1 rfl (lv_room (Nat.le_of_ble_eq_true rfl)) dX8_parting_18 ⟨(Nat.le_of_ble_eq_true rfl), (Nat.le_of_ble_eq_true rfl)⟩) (fun u18 H locs w18 hP hD hS => ?_)
        obtain ⟨I18, A18, B18⟩ := u18
        refine lv_aload_n hx hb dX8_parting_21 rfl (lv_at hl 0 rfl) ?_
        refine va_get (D := (dC, dI)) (ci := 8) (v := .int (I18 1)) (C := RX8) (T := TX8) (N := 20) hx hb hts hinX8 hown hK hP 0 rfl rfl 1 (by decide) hf7 (fun _ h9 => h9) rfl dX8_parting_22 ?_
        refine lv_iconst (v := 1) hx hb dX8_parting_25 (by decide) ?_
        refine lv_isub hx hb dX8_parting_26 ?_
        refine lv_topi (fun x26 ex26 => ?_)
        refine lv_istore (lv' := [(4, .int x26), (0, .ref (R 0)), (1, .int y), (2, .int (nI (gc nv (jRun fr to (fl ne) ne)))), (3, .int (nI x))]) hx hb dX8_parting_27 hl (by decide) rfl (fun ls hl => ?_)
        refine lv_iconst (v := 0) hx hb dX8_parting_29 (by decide) ?_
        refine lv_istore (lv' := [(5, .int 0), (4, .int x26), (0, .ref (R 0)), (1, .int y), (2, .int (nI (gc nv (jRun fr to (fl ne) ne)))), (3, .int (nI x))]) hx hb dX8_parting_30 hl (by decide) rfl (fun ls hl => ?_)
        have K32 : ∀ (kn : Nat) (i : Nat) (w : Int32) (I_32 : Nat → Int32) (A_32 : Nat → Nat → Int32) (B_32 : Nat → Nat → Int64) (ls : Array Slot) (H : Heap) (locs : List Loc), ne - i < kn → (i ≤ ne ∧ w = nI (gc nv (jRun fr to (ap fr to ne x) i)) - 1 ∧ rJ nv (jRun fr to (ap fr to ne x) i) I_32 A_32 B_32 ∧ fJ I A B (I_32, A_32, B_32)) → va_P (dC, dI) vwCl (MW cI cJ cZ R (I_32, A_32, B_32)) H → va_D Aa (MW cI cJ cZ R (I_32, A_32, B_32)) → va_S Aa s.heap H locs → lv_has ls 6 [(0, .ref (R 0)), (1, .int y), (2, .int (nI (gc nv (jRun fr to (fl ne) ne)))), (3, .int (nI x)), (4, .int w), (5, .int (nI i))] → W p l e (ctR (2, 60)) s m #[.ref (R 0)] below meth c H locs 0 0 Q (F0 m 32 ls []) := by
          intro kn
          induction kn with
          | zero => intro i w I_32 A_32 B_32 ls H locs hmu; exact absurd hmu (Nat.not_lt_zero _)
          | succ kn ih32 =>
            intro i w I_32 A_32 B_32 ls H locs mu32 inv32 hP hD hS hl
            obtain ⟨hi, ew, hq, hf2⟩ := inv32
            have gg := g.fj hf2
            have hin := fun e (he : e < i) (_ : (ap fr to ne x).testBit e = true) => (⟨(gg.2.2.2.2.2 e (by omega)).1.2, (gg.2.2.2.2.2 e (by omega)).2.1.2⟩ : fr e < nv ∧ to e < nv)
            have gl := gc_le nv (jRun fr to (ap fr to ne x) ne)
            have gl2 := gc_le nv (jRun fr to (fl ne) ne)
            refine lv_iload hx hb dX8_parting_32 (lv_at hl 5 rfl) ?_
            refine lv_aload_n hx hb dX8_parting_34 rfl (lv_at hl 0 rfl) ?_
            refine va_get (D := (dC, dI)) (ci := 8) (v := .int (I_32 2)) (C := RX8) (T := TX8) (N := 20) hx hb hts hinX8 hown hK hP 0 rfl rfl 2 (by decide) hf61 (fun _ h9 => h9) rfl dX8_parting_35 ?_
            refine lv_icmp_ge (tgt := 88) hx hb dX8_parting_38 (by decide) (fun c38 => ?_) (fun c38 => ?_)
            · -- 38 taken
              rw [show I_32 2 = nI ne from gg.2.2.2.2.1, nI_leI (by omega) (by omega)] at c38
              have hge : i = ne := by omega
              rw [hge] at ew
              have gp := gc_pos (fr := fr) (to := to) (N := nv) (s := ap fr to ne x) (k := ne) (by have := g.1; omega) (fun e he _ => g.en e he)
              have ew : w = nI (gc nv (jRun fr to (ap fr to ne x) ne) - 1) := by rw [ew]; exact pk_sub (b := 1) gp
              refine lv_iload_n hx hb dX8_parting_88 rfl (lv_at hl 1 rfl) ?_
              refine lv_iload hx hb dX8_parting_89 (lv_at hl 4 rfl) ?_
              refine lv_iload_n hx hb dX8_parting_91 rfl (lv_at hl 2 rfl) ?_
              refine lv_icmp_le (tgt := 99) hx hb dX8_parting_92 (by decide) (fun c92 => ?_) (fun c92 => ?_)
              · -- 92 taken
                rw [ew, nI_leI (by omega) (by omega)] at c92
                refine lv_iconst (v := 0) hx hb dX8_parting_99 (by decide) ?_
                refine lv_iadd hx hb dX8_parting_100 ?_
                refine lv_topi (fun x100 ex100 => ?_)
                refine lv_istore_n (lv' := [(1, .int x100), (0, .ref (R 0)), (2, .int (nI (gc nv (jRun fr to (fl ne) ne)))), (3, .int (nI x)), (4, .int w), (5, .int (nI i))]) hx hb dX8_parting_101 rfl hl (by decide) rfl (fun ls hl => ?_)
                obtain ⟨x102, ex102⟩ : ∃ zz : Int32, zz = nI x + (1) := ⟨_, rfl⟩
                refine lv_iinc (v := x102) (lv' := [(3, .int x102), (1, .int x100), (0, .ref (R 0)), (2, .int (nI (gc nv (jRun fr to (fl ne) ne)))), (4, .int w), (5, .int (nI i))]) hx hb dX8_parting_102 hl (k := 3) rfl (by rw [ex102]; rfl) (by decide) rfl (fun ls hl => ?_)
                have ex102 : x102 = nI (x + 1) := by rw [ex102]; exact nI_1 x
                subst ex102
                refine lv_goto (tgt := 9) hx hb dX8_parting_105 (by decide) ?_
                exact ih9 (x + 1) x100 I_32 A_32 B_32 ls _ _ (by omega) ⟨by omega, by rw [ex100, ey]; unfold ptM; rw [ct0_f (decide_eq_false (by omega))]; exact Int32.add_zero _, hf2⟩ hP hD hS (lv_sub hl [2, 1, 3, 0] rfl)
              · -- 92 not
                rw [ew, nI_leI (by omega) (by omega)] at c92
                refine lv_iconst (v := 1) hx hb dX8_parting_95 (by decide) ?_
                refine lv_goto (tgt := 100) hx hb dX8_parting_96 (by decide) ?_
                refine lv_iadd hx hb dX8_parting_100 ?_
                refine lv_topi (fun x100 ex100 => ?_)
                refine lv_istore_n (lv' := [(1, .int x100), (0, .ref (R 0)), (2, .int (nI (gc nv (jRun fr to (fl ne) ne)))), (3, .int (nI x)), (4, .int w), (5, .int (nI i))]) hx hb dX8_parting_101 rfl hl (by decide) rfl (fun ls hl => ?_)
                obtain ⟨x102, ex102⟩ : ∃ zz : Int32, zz = nI x + (1) := ⟨_, rfl⟩
                refine lv_iinc (v := x102) (lv' := [(3, .int x102), (1, .int x100), (0, .ref (R 0)), (2, .int (nI (gc nv (jRun fr to (fl ne) ne)))), (4, .int w), (5, .int (nI i))]) hx hb dX8_parting_102 hl (k := 3) rfl (by rw [ex102]; rfl) (by decide) rfl (fun ls hl => ?_)
                have ex102 : x102 = nI (x + 1) := by rw [ex102]; exact nI_1 x
                subst ex102
                refine lv_goto (tgt := 9) hx hb dX8_parting_105 (by decide) ?_
                exact ih9 (x + 1) x100 I_32 A_32 B_32 ls _ _ (by omega) ⟨by omega, by rw [ex100, ey]; unfold ptM; rw [ct0_t (decide_eq_true (by omega))]; exact nI_1 _, hf2⟩ hP hD hS (lv_sub hl [2, 1, 3, 0] rfl)
            · -- 38 not
              rw [show I_32 2 = nI ne from gg.2.2.2.2.1, nI_leI (by omega) (by omega)] at c38
              have icl : (nI i).toNatClampNeg = i := nI_clamp (by omega)
              have iin : vp_in (nI i) 40 := vp_in_nI (by omega) (by omega)
              have gi := gg.2.2.2.2.2 i (by omega)
              refine lv_aload_n hx hb dX8_parting_41 rfl (lv_at hl 0 rfl) ?_
              refine va_get (D := (dC, dI)) (ci := 8) (v := .ref (R 3)) (C := RX8) (T := TX8) (N := 20) hx hb hts hinX8 hown hK hP 0 rfl rfl 3 (by decide) hf13 (fun _ h9 => h9) rfl dX8_parting_42 ?_
              refine lv_iload hx hb dX8_parting_45 (lv_at hl 5 rfl) ?_
              have h47 : vp_in (nI i) 40 := iin
              refine va_iald hx hb hK hP 1 0 rfl rfl h47 dX8_parting_47 ?_
              refine lv_topi (fun x47 ex47 => ?_)
              have ex47 : x47 = A_32 3 (nI i).toNatClampNeg := ex47
              have ex47 : x47 = nI (fr i) := by rw [ex47, icl]; exact gi.1.1
              subst ex47
              refine lv_iload_n hx hb dX8_parting_48 rfl (lv_at hl 3 rfl) ?_
              refine lv_icmp_eq (tgt := 82) hx hb dX8_parting_49 (by decide) (fun c49 => ?_) (fun c49 => ?_)
              · -- 49 taken
                have c49 : fr i = x := (nI_eq (by omega) (by omega)).mp c49
                obtain ⟨x82, ex82⟩ : ∃ zz : Int32, zz = nI i + (1) := ⟨_, rfl⟩
                refine lv_iinc (v := x82) (lv' := [(5, .int x82), (0, .ref (R 0)), (1, .int y), (2, .int (nI (gc nv (jRun fr to (fl ne) ne)))), (3, .int (nI x)), (4, .int w)]) hx hb dX8_parting_82 hl (k := 5) rfl (by rw [ex82]; rfl) (by decide) rfl (fun ls hl => ?_)
                have ex82 : x82 = nI (i + 1) := by rw [ex82]; exact nI_1 i
                subst ex82
                refine lv_goto (tgt := 32) hx hb dX8_parting_85 (by decide) ?_
                exact ih32 (i + 1) w I_32 A_32 B_32 ls _ _ (by omega) ⟨by omega, by rw [jRun_out (fun h => ((ap_bit (by omega)).mp h).1 c49)]; exact ew, by rw [jRun_out (fun h => ((ap_bit (by omega)).mp h).1 c49)]; exact hq, hf2⟩ hP hD hS (lv_sub hl [1, 2, 3, 4, 5, 0] rfl)
              · -- 49 not
                have c49 : ¬ fr i = x := fun h => c49 (by rw [h])
                refine lv_aload_n hx hb dX8_parting_52 rfl (lv_at hl 0 rfl) ?_
                refine va_get (D := (dC, dI)) (ci := 8) (v := .ref (R 4)) (C := RX8) (T := TX8) (N := 20) hx hb hts hinX8 hown hK hP 0 rfl rfl 4 (by decide) hf17 (fun _ h9 => h9) rfl dX8_parting_53 ?_
                refine lv_iload hx hb dX8_parting_56 (lv_at hl 5 rfl) ?_
                have h58 : vp_in (nI i) 40 := iin
                refine va_iald hx hb hK hP 2 0 rfl rfl h58 dX8_parting_58 ?_
                refine lv_topi (fun x58 ex58 => ?_)
                have ex58 : x58 = A_32 4 (nI i).toNatClampNeg := ex58
                have ex58 : x58 = nI (to i) := by rw [ex58, icl]; exact gi.2.1.1
                subst ex58
                refine lv_iload_n hx hb dX8_parting_59 rfl (lv_at hl 3 rfl) ?_
                refine lv_icmp_eq (tgt := 82) hx hb dX8_parting_60 (by decide) (fun c60 => ?_) (fun c60 => ?_)
                · -- 60 taken
                  have c60 : to i = x := (nI_eq (by omega) (by omega)).mp c60
                  obtain ⟨x82, ex82⟩ : ∃ zz : Int32, zz = nI i + (1) := ⟨_, rfl⟩
                  refine lv_iinc (v := x82) (lv' := [(5, .int x82), (0, .ref (R 0)), (1, .int y), (2, .int (nI (gc nv (jRun fr to (fl ne) ne)))), (3, .int (nI x)), (4, .int w)]) hx hb dX8_parting_82 hl (k := 5) rfl (by rw [ex82]; rfl) (by decide) rfl (fun ls hl => ?_)
                  have ex82 : x82 = nI (i + 1) := by rw [ex82]; exact nI_1 i
                  subst ex82
                  refine lv_goto (tgt := 32) hx hb dX8_parting_85 (by decide) ?_
                  exact ih32 (i + 1) w I_32 A_32 B_32 ls _ _ (by omega) ⟨by omega, by rw [jRun_out (fun h => ((ap_bit (by omega)).mp h).2 c60)]; exact ew, by rw [jRun_out (fun h => ((ap_bit (by omega)).mp h).2 c60)]; exact hq, hf2⟩ hP hD hS (lv_sub hl [1, 2, 3, 4, 5, 0] rfl)
                · -- 60 not
                  have c60 : ¬ to i = x := fun h => c60 (by rw [h])
                  have hbt : (ap fr to ne x).testBit i = true := (ap_bit (by omega)).mpr ⟨c49, c60⟩
                  refine lv_iload hx hb dX8_parting_63 (lv_at hl 4 rfl) ?_
                  refine lv_aload_n hx hb dX8_parting_65 rfl (lv_at hl 0 rfl) ?_
                  refine lv_iload hx hb dX8_parting_66 (lv_at hl 5 rfl) ?_
                  refine ct_calli hD hS hA (va_runV (As := [.int (nI i)]) (rest := [.int w]) F ((k_X8_joins l dC dI cI cJ cZ cII cJJ R I_32 A_32 B_32 nv ne fr to wt i (jRun fr to (ap fr to ne x) i) gg (by omega) hq (by have := jd_lt (fr := fr) (to := to) (s := (ap fr to ne x)) (k := i); omega)) _) (cwV 1 hts gX8_parting_X8_joins rfl rfl rfl (by decide +kernel) ⟨(Nat.le_of_ble_eq_true rfl), (Nat.le_of_ble_eq_true rfl)⟩) (ct_preV 0 8 hK hN hP hD rfl rfl) rfl rfl hl.1 rfl (lv_room (Nat.le_of_ble_eq_true rfl)) dX8_parting_68 ⟨(Nat.le_of_ble_eq_true rfl), (Nat.le_of_ble_eq_true rfl)⟩) (fun r68 u68 H locs w68 hP hD hS => ?_)
                  obtain ⟨I68, A68, B68⟩ := u68
                  refine lv_if_eq (tgt := 78) hx hb dX8_parting_71 (by decide) (fun c71 => ?_) (fun c71 => ?_)
                  · -- 71 taken
                    rw [w68.1] at c71
                    have c71 : (jRun fr to (ap fr to ne x) i).1 (fr i) = (jRun fr to (ap fr to ne x) i).1 (to i) := Classical.byContradiction (fun h => by rw [if_neg h] at c71; exact absurd c71 (by decide))
                    refine lv_iconst (v := 0) hx hb dX8_parting_78 (by decide) ?_
                    refine lv_isub hx hb dX8_parting_79 ?_
                    refine lv_topi (fun x79 ex79 => ?_)
                    refine lv_istore (lv' := [(4, .int x79), (0, .ref (R 0)), (1, .int y), (2, .int (nI (gc nv (jRun fr to (fl ne) ne)))), (3, .int (nI x)), (5, .int (nI i))]) hx hb dX8_parting_80 hl (by decide) rfl (fun ls hl => ?_)
                    obtain ⟨x82, ex82⟩ : ∃ zz : Int32, zz = nI i + (1) := ⟨_, rfl⟩
                    refine lv_iinc (v := x82) (lv' := [(5, .int x82), (4, .int x79), (0, .ref (R 0)), (1, .int y), (2, .int (nI (gc nv (jRun fr to (fl ne) ne)))), (3, .int (nI x))]) hx hb dX8_parting_82 hl (k := 5) rfl (by rw [ex82]; rfl) (by decide) rfl (fun ls hl => ?_)
                    have ex82 : x82 = nI (i + 1) := by rw [ex82]; exact nI_1 i
                    subst ex82
                    refine lv_goto (tgt := 32) hx hb dX8_parting_85 (by decide) ?_
                    exact ih32 (i + 1) x79 I68 A68 B68 ls _ _ (by omega) ⟨by omega, by rw [jRun_in hbt, gc_close c71, ex79, ew]; exact Int32.sub_zero _, by rw [jRun_in hbt]; exact w68.2.1, hf2.tr w68.2.2⟩ hP hD hS (lv_sub hl [2, 3, 4, 5, 1, 0] rfl)
                  · -- 71 not
                    rw [w68.1] at c71
                    have c71 : (jRun fr to (ap fr to ne x) i).1 (fr i) ≠ (jRun fr to (ap fr to ne x) i).1 (to i) := fun h => c71 (if_pos h)
                    refine lv_iconst (v := 1) hx hb dX8_parting_74 (by decide) ?_
                    refine lv_goto (tgt := 79) hx hb dX8_parting_75 (by decide) ?_
                    refine lv_isub hx hb dX8_parting_79 ?_
                    refine lv_topi (fun x79 ex79 => ?_)
                    refine lv_istore (lv' := [(4, .int x79), (0, .ref (R 0)), (1, .int y), (2, .int (nI (gc nv (jRun fr to (fl ne) ne)))), (3, .int (nI x)), (5, .int (nI i))]) hx hb dX8_parting_80 hl (by decide) rfl (fun ls hl => ?_)
                    obtain ⟨x82, ex82⟩ : ∃ zz : Int32, zz = nI i + (1) := ⟨_, rfl⟩
                    refine lv_iinc (v := x82) (lv' := [(5, .int x82), (4, .int x79), (0, .ref (R 0)), (1, .int y), (2, .int (nI (gc nv (jRun fr to (fl ne) ne)))), (3, .int (nI x))]) hx hb dX8_parting_82 hl (k := 5) rfl (by rw [ex82]; rfl) (by decide) rfl (fun ls hl => ?_)
                    have ex82 : x82 = nI (i + 1) := by rw [ex82]; exact nI_1 i
                    subst ex82
                    refine lv_goto (tgt := 32) hx hb dX8_parting_85 (by decide) ?_
                    exact ih32 (i + 1) x79 I68 A68 B68 ls _ _ (by omega) ⟨by omega, by rw [jRun_in hbt, ex79, ew, ← gc_join (e := i) (jI_run i hin) gi.1.2 gi.2.1.2 c71, ← nI_1]; grind, by rw [jRun_in hbt]; exact w68.2.1, hf2.tr w68.2.2⟩ hP hD hS (lv_sub hl [2, 3, 4, 5, 1, 0] rfl)
        exact K32 _ 0 x26 I18 A18 B18 ls _ _ (Nat.lt_succ_self _) ⟨Nat.zero_le _, by rw [ex26, show I18 1 = nI nv from (g.fj (hf.tr w18.2)).2.2.2.1]; congr 2; exact (ct0_true nv (fun i _ => by show (i == i) = true; simp)).symm, w18.1 nv g2, hf.tr w18.2⟩ hP hD hS (lv_sub hl [2, 3, 4, 5, 1, 0] rfl)
  exact K9 _ 0 0 I3 A3 B3 ls _ _ (Nat.lt_succ_self _) ⟨Nat.zero_le _, rfl, w3.2.2⟩ hP hD hS (lv_sub hl [3, 2, 1, 0] rfl)
set_option maxHeartbeats 4000000 in
set_option maxRecDepth 100000 in
theorem k_X8_areEven (l : Launch) (dC : Nat → ClassId) (dI : Nat → Nat → Nat) (cI cJ cZ cII cJJ : ClassId) (R : Nat → Nat) (I : Nat → Int32) (A : Nat → Nat → Int32) (B : Nat → Nat → Int64) (nv ne : Nat) (fr to wt : Nat → Nat) (g : gM nv ne fr to wt I A) : ctI l (dC, dI) (tyL cI cJ cZ cII cJJ) (MW cI cJ cZ R) yX8_areEven wsX8_areEven (2, 60) [.ref (R 0)] (I, A, B) (fun r u => r = (if evM fr to ne (dmA fr to ne) then 1 else 0) ∧ fJ I A B u) := by
  refine ctI_intro (cc := cX8_areEven) (maxL := 6) (by decide) rfl (Nat.le_of_ble_eq_true rfl) ?_
  intro p e s m below meth c ls Aa Q F hK hN hP hD hS hA hl hret
  have hx := F.1
  have hb := F.2.1
  have hown : s.vm.findClass RX8 = some m.cls := F.2.2.2.1
  have hts := F.2.2.2.2
  have hinX8 : ∀ w ∈ wsX80, w ∈ wsX8_areEven := by decide +kernel
  have hf64 := hts (.fieldLink RX8 64 "CycleHouseModel" "closed" "I") (by decide +kernel)
  have hf61 := hts (.fieldLink RX8 61 "CycleHouseModel" "m" "I") (by decide +kernel)
  have hf33 := hts (.fieldLink RX8 33 "CycleHouseModel" "closing" "[J") (by decide +kernel)
  have hl : lv_has ls 6 [(0, .ref (R 0))] := hl
  refine lv_aload_n hx hb dX8_areEven_0 rfl (lv_at hl 0 rfl) ?_
  refine ct_calli hD hS hA (va_runV (As := []) (rest := []) F ((k_X8_groups l dC dI cI cJ cZ cII cJJ R I A B nv ne fr to wt g) _) (cwV 0 hts gX8_areEven_X8_groups rfl rfl rfl (by decide +kernel) ⟨(Nat.le_of_ble_eq_true rfl), (Nat.le_of_ble_eq_true rfl)⟩) (ct_preV 0 8 hK hN hP hD rfl rfl) rfl rfl hl.1 rfl (lv_room (Nat.le_of_ble_eq_true rfl)) dX8_areEven_1 ⟨(Nat.le_of_ble_eq_true rfl), (Nat.le_of_ble_eq_true rfl)⟩) (fun r1 u1 H locs w1 hP hD hS => ?_)
  obtain ⟨I1, A1, B1⟩ := u1
  have er1 : r1 = nI (gc nv (jRun fr to (fl ne) ne)) := w1.1
  subst er1
  have gg := g.fj w1.2.2
  have g3 := g.2.2.1
  have g2 := g.2.1
  have gp := gc_pos (fr := fr) (to := to) (N := nv) (s := fl ne) (k := ne) (by have := g.1; omega) (fun e he _ => g.en e he)
  have gl := gc_le nv (jRun fr to (fl ne) ne)
  have hdd : dmA fr to ne ≤ ne := jd_lt
  refine lv_istore_n (lv' := [(1, .int (nI (gc nv (jRun fr to (fl ne) ne)))), (0, .ref (R 0))]) hx hb dX8_areEven_4 rfl hl (by decide) rfl (fun ls hl => ?_)
  refine lv_iload_n hx hb dX8_areEven_5 rfl (lv_at hl 0 rfl) ?_
  refine lv_if_le (tgt := 13) hx hb dX8_areEven_6 (by decide) (fun c6 => ?_) (fun c6 => ?_)
  · exact absurd c6 (fun h => absurd ((nI_leI (b := 0) (by omega) (by omega)).mp h) (by omega))
  · -- 6 not
    refine lv_iconst (v := 1) hx hb dX8_areEven_9 (by decide) ?_
    refine lv_goto (tgt := 14) hx hb dX8_areEven_10 (by decide) ?_
    refine lv_istore_n (lv' := [(2, .int 1), (1, .int (nI (gc nv (jRun fr to (fl ne) ne)))), (0, .ref (R 0))]) hx hb dX8_areEven_14 rfl hl (by decide) rfl (fun ls hl => ?_)
    refine lv_iconst (v := 0) hx hb dX8_areEven_15 (by decide) ?_
    refine lv_istore_n (lv' := [(3, .int 0), (2, .int 1), (1, .int (nI (gc nv (jRun fr to (fl ne) ne)))), (0, .ref (R 0))]) hx hb dX8_areEven_16 rfl hl (by decide) rfl (fun ls hl => ?_)
    have K17 : ∀ (kn : Nat) (k : Nat) (y : Int32) (ls : Array Slot) (H : Heap) (locs : List Loc), dmA fr to ne - k < kn → (k ≤ dmA fr to ne ∧ y = (if evM fr to ne k then 1 else 0)) → va_P (dC, dI) vwCl (MW cI cJ cZ R (I1, A1, B1)) H → va_D Aa (MW cI cJ cZ R (I1, A1, B1)) → va_S Aa s.heap H locs → lv_has ls 6 [(0, .ref (R 0)), (1, .int (nI (gc nv (jRun fr to (fl ne) ne)))), (2, .int y), (3, .int (nI k))] → W p l e (ctR (2, 60)) s m #[.ref (R 0)] below meth c H locs 0 0 Q (F0 m 17 ls []) := by
      intro kn
      induction kn with
      | zero => intro k y ls H locs hmu; exact absurd hmu (Nat.not_lt_zero _)
      | succ kn ih17 =>
        intro k y ls H locs mu17 inv17 hP hD hS hl
        obtain ⟨hk, ey⟩ := inv17
        refine lv_iload_n hx hb dX8_areEven_17 rfl (lv_at hl 3 rfl) ?_
        refine lv_aload_n hx hb dX8_areEven_18 rfl (lv_at hl 0 rfl) ?_
        refine va_get (D := (dC, dI)) (ci := 8) (v := .int (I1 10)) (C := RX8) (T := TX8) (N := 20) hx hb hts hinX8 hown hK hP 0 rfl rfl 10 (by decide) hf64 (fun _ h9 => h9) rfl dX8_areEven_19 ?_
        refine lv_icmp_ge (tgt := 86) hx hb dX8_areEven_22 (by decide) (fun c22 => ?_) (fun c22 => ?_)
        · -- 22 taken
          rw [show I1 10 = nI (dmA fr to ne) from w1.2.1.2.2.1, nI_leI (by omega) (by omega)] at c22
          have hge : k = dmA fr to ne := by omega
          rw [hge] at ey
          refine lv_iload_n hx hb dX8_areEven_86 rfl (lv_at hl 2 rfl) ?_
          refine hret 87 ls _ _ y (I1, A1, B1) dX8_areEven_87 (by rw [ey]; split <;> rfl) ?_ hP hD hS
          try dsimp only
          exact ⟨ey, w1.2.2⟩
        · -- 22 not
          rw [show I1 10 = nI (dmA fr to ne) from w1.2.1.2.2.1, nI_leI (by omega) (by omega)] at c22
          have kcl : (nI k).toNatClampNeg = k := nI_clamp (by omega)
          have kin : vp_in (nI k) 40 := vp_in_nI (by omega) (by omega)
          have hrl : rgA fr to ne k < 2 ^ 62 := pw40 (Nat.lt_pow_two_of_testBit _ (fun e he => bool_f (fun h => absurd (((jA (by omega) g.en).2.2.2.2.1 k (by show k < dmA fr to ne; omega)).2.2.2.1 e h).1 (by omega)))) g3
          refine lv_iconst (v := 0) hx hb dX8_areEven_25 (by decide) ?_
          refine lv_istore (lv' := [(4, .int 0), (0, .ref (R 0)), (1, .int (nI (gc nv (jRun fr to (fl ne) ne)))), (2, .int y), (3, .int (nI k))]) hx hb dX8_areEven_26 hl (by decide) rfl (fun ls hl => ?_)
          refine lv_iconst (v := 0) hx hb dX8_areEven_28 (by decide) ?_
          refine lv_istore (lv' := [(5, .int 0), (4, .int 0), (0, .ref (R 0)), (1, .int (nI (gc nv (jRun fr to (fl ne) ne)))), (2, .int y), (3, .int (nI k))]) hx hb dX8_areEven_29 hl (by decide) rfl (fun ls hl => ?_)
          have K31 : ∀ (kn : Nat) (i : Nat) (w : Int32) (ls : Array Slot) (H : Heap) (locs : List Loc), ne - i < kn → (i ≤ ne ∧ w = nI (sz (rgA fr to ne k) i)) → va_P (dC, dI) vwCl (MW cI cJ cZ R (I1, A1, B1)) H → va_D Aa (MW cI cJ cZ R (I1, A1, B1)) → va_S Aa s.heap H locs → lv_has ls 6 [(0, .ref (R 0)), (1, .int (nI (gc nv (jRun fr to (fl ne) ne)))), (2, .int y), (3, .int (nI k)), (4, .int w), (5, .int (nI i))] → W p l e (ctR (2, 60)) s m #[.ref (R 0)] below meth c H locs 0 0 Q (F0 m 31 ls []) := by
            intro kn
            induction kn with
            | zero => intro i w ls H locs hmu; exact absurd hmu (Nat.not_lt_zero _)
            | succ kn ih31 =>
              intro i w ls H locs mu31 inv31 hP hD hS hl
              obtain ⟨hi, ew⟩ := inv31
              refine lv_iload hx hb dX8_areEven_31 (lv_at hl 5 rfl) ?_
              refine lv_aload_n hx hb dX8_areEven_33 rfl (lv_at hl 0 rfl) ?_
              refine va_get (D := (dC, dI)) (ci := 8) (v := .int (I1 2)) (C := RX8) (T := TX8) (N := 20) hx hb hts hinX8 hown hK hP 0 rfl rfl 2 (by decide) hf61 (fun _ h9 => h9) rfl dX8_areEven_34 ?_
              refine lv_icmp_ge (tgt := 63) hx hb dX8_areEven_37 (by decide) (fun c37 => ?_) (fun c37 => ?_)
              · -- 37 taken
                rw [show I1 2 = nI ne from gg.2.2.2.2.1, nI_leI (by omega) (by omega)] at c37
                have hge : i = ne := by omega
                rw [hge] at ew
                have hsl := sz_le (rgA fr to ne k) ne
                refine lv_iload_n hx hb dX8_areEven_63 rfl (lv_at hl 2 rfl) ?_
                refine lv_if_eq (tgt := 78) hx hb dX8_areEven_64 (by decide) (fun c64 => ?_) (fun c64 => ?_)
                · -- 64 taken
                  have c64 : ¬ evM fr to ne k := fun h => by rw [ey, if_pos h] at c64; exact absurd c64 (by decide)
                  refine lv_iconst (v := 0) hx hb dX8_areEven_78 (by decide) ?_
                  refine lv_istore_n (lv' := [(2, .int 0), (0, .ref (R 0)), (1, .int (nI (gc nv (jRun fr to (fl ne) ne)))), (3, .int (nI k)), (4, .int w), (5, .int (nI i))]) hx hb dX8_areEven_79 rfl hl (by decide) rfl (fun ls hl => ?_)
                  obtain ⟨x80, ex80⟩ : ∃ zz : Int32, zz = nI k + (1) := ⟨_, rfl⟩
                  refine lv_iinc (v := x80) (lv' := [(3, .int x80), (2, .int 0), (0, .ref (R 0)), (1, .int (nI (gc nv (jRun fr to (fl ne) ne)))), (4, .int w), (5, .int (nI i))]) hx hb dX8_areEven_80 hl (k := 3) rfl (by rw [ex80]; rfl) (by decide) rfl (fun ls hl => ?_)
                  have ex80 : x80 = nI (k + 1) := by rw [ex80]; exact nI_1 k
                  subst ex80
                  refine lv_goto (tgt := 17) hx hb dX8_areEven_83 (by decide) ?_
                  exact ih17 (k + 1) 0 ls _ _ (by omega) ⟨by omega, by rw [if_neg (fun h => c64 (fun i hi => h i (by omega)))]⟩ hP hD hS (lv_sub hl [2, 3, 1, 0] rfl)
                · -- 64 not
                  have c64 : evM fr to ne k := Classical.byContradiction (fun h => by rw [ey, if_neg h] at c64; exact c64 rfl)
                  refine lv_iload hx hb dX8_areEven_67 (lv_at hl 4 rfl) ?_
                  refine lv_iconst (v := 2) hx hb dX8_areEven_69 (by decide) ?_
                  refine lv_irem hx hb dX8_areEven_70 (by decide) ?_
                  refine lv_topi (fun x70 ex70 => ?_)
                  refine lv_if_ne (tgt := 78) hx hb dX8_areEven_71 (by decide) (fun c71 => ?_) (fun c71 => ?_)
                  · -- 71 taken
                    rw [ex70, ew, nm_rem2 (by omega)] at c71
                    have c71 : ¬ sz (rgA fr to ne k) ne % 2 = 0 := fun h => c71 (by rw [h]; rfl)
                    refine lv_iconst (v := 0) hx hb dX8_areEven_78 (by decide) ?_
                    refine lv_istore_n (lv' := [(2, .int 0), (0, .ref (R 0)), (1, .int (nI (gc nv (jRun fr to (fl ne) ne)))), (3, .int (nI k)), (4, .int w), (5, .int (nI i))]) hx hb dX8_areEven_79 rfl hl (by decide) rfl (fun ls hl => ?_)
                    obtain ⟨x80, ex80⟩ : ∃ zz : Int32, zz = nI k + (1) := ⟨_, rfl⟩
                    refine lv_iinc (v := x80) (lv' := [(3, .int x80), (2, .int 0), (0, .ref (R 0)), (1, .int (nI (gc nv (jRun fr to (fl ne) ne)))), (4, .int w), (5, .int (nI i))]) hx hb dX8_areEven_80 hl (k := 3) rfl (by rw [ex80]; rfl) (by decide) rfl (fun ls hl => ?_)
                    have ex80 : x80 = nI (k + 1) := by rw [ex80]; exact nI_1 k
                    subst ex80
                    refine lv_goto (tgt := 17) hx hb dX8_areEven_83 (by decide) ?_
                    exact ih17 (k + 1) 0 ls _ _ (by omega) ⟨by omega, by rw [if_neg (fun h => c71 (h k (by omega)))]⟩ hP hD hS (lv_sub hl [2, 3, 1, 0] rfl)
                  · -- 71 not
                    rw [ex70, ew, nm_rem2 (by omega)] at c71
                    have c71 : sz (rgA fr to ne k) ne % 2 = 0 := (nI_eq (b := 0) (by omega) (by omega)).mp c71
                    refine lv_iconst (v := 1) hx hb dX8_areEven_74 (by decide) ?_
                    refine lv_goto (tgt := 79) hx hb dX8_areEven_75 (by decide) ?_
                    refine lv_istore_n (lv' := [(2, .int 1), (0, .ref (R 0)), (1, .int (nI (gc nv (jRun fr to (fl ne) ne)))), (3, .int (nI k)), (4, .int w), (5, .int (nI i))]) hx hb dX8_areEven_79 rfl hl (by decide) rfl (fun ls hl => ?_)
                    obtain ⟨x80, ex80⟩ : ∃ zz : Int32, zz = nI k + (1) := ⟨_, rfl⟩
                    refine lv_iinc (v := x80) (lv' := [(3, .int x80), (2, .int 1), (0, .ref (R 0)), (1, .int (nI (gc nv (jRun fr to (fl ne) ne)))), (4, .int w), (5, .int (nI i))]) hx hb dX8_areEven_80 hl (k := 3) rfl (by rw [ex80]; rfl) (by decide) rfl (fun ls hl => ?_)
                    have ex80 : x80 = nI (k + 1) := by rw [ex80]; exact nI_1 k
                    subst ex80
                    refine lv_goto (tgt := 17) hx hb dX8_areEven_83 (by decide) ?_
                    exact ih17 (k + 1) 1 ls _ _ (by omega) ⟨by omega, by rw [if_pos (bll_succ.mpr ⟨c64, c71⟩)]⟩ hP hD hS (lv_sub hl [2, 3, 1, 0] rfl)
              · -- 37 not
                rw [show I1 2 = nI ne from gg.2.2.2.2.1, nI_leI (by omega) (by omega)] at c37
                refine lv_iload hx hb dX8_areEven_40 (lv_at hl 4 rfl) ?_
                refine lv_aload_n hx hb dX8_areEven_42 rfl (lv_at hl 0 rfl) ?_
                refine va_get (D := (dC, dI)) (ci := 8) (v := .ref (R 11)) (C := RX8) (T := TX8) (N := 20) hx hb hts hinX8 hown hK hP 0 rfl rfl 11 (by decide) hf33 (fun _ h9 => h9) rfl dX8_areEven_43 ?_
                refine lv_iload_n hx hb dX8_areEven_46 rfl (lv_at hl 3 rfl) ?_
                have h47 : vp_in (nI k) 40 := kin
                refine va_lald hx hb hK hP 7 1 rfl rfl h47 dX8_areEven_47 ?_
                refine lv_topl (fun x47 ex47 => ?_)
                have ex47 : x47 = B1 11 (nI k).toNatClampNeg := ex47
                have ex47 : x47 = lN (rgA fr to ne k) := by rw [ex47, kcl]; exact (w1.2.1.2.2.2 k (by show k < dmA fr to ne; omega)).1
                subst ex47
                refine lv_iload hx hb dX8_areEven_48 (lv_at hl 5 rfl) ?_
                refine lv_lshr hx hb dX8_areEven_50 rfl ?_
                refine lv_topl (fun x50 ex50 => ?_)
                refine lv_lconst (v := 1) hx hb dX8_areEven_51 (by decide) ?_
                refine lv_land hx hb dX8_areEven_52 ?_
                refine lv_topl (fun x52 ex52 => ?_)
                refine lv_l2i hx hb dX8_areEven_53 rfl ?_
                refine lv_topi (fun x53 ex53 => ?_)
                refine lv_iadd hx hb dX8_areEven_54 ?_
                refine lv_topi (fun x54 ex54 => ?_)
                refine lv_istore (lv' := [(4, .int x54), (0, .ref (R 0)), (1, .int (nI (gc nv (jRun fr to (fl ne) ne)))), (2, .int y), (3, .int (nI k)), (5, .int (nI i))]) hx hb dX8_areEven_55 hl (by decide) rfl (fun ls hl => ?_)
                obtain ⟨x57, ex57⟩ : ∃ zz : Int32, zz = nI i + (1) := ⟨_, rfl⟩
                refine lv_iinc (v := x57) (lv' := [(5, .int x57), (4, .int x54), (0, .ref (R 0)), (1, .int (nI (gc nv (jRun fr to (fl ne) ne)))), (2, .int y), (3, .int (nI k))]) hx hb dX8_areEven_57 hl (k := 5) rfl (by rw [ex57]; rfl) (by decide) rfl (fun ls hl => ?_)
                have ex57 : x57 = nI (i + 1) := by rw [ex57]; exact nI_1 i
                subst ex57
                refine lv_goto (tgt := 31) hx hb dX8_areEven_60 (by decide) ?_
                exact ih31 (i + 1) x54 ls _ _ (by omega) ⟨by omega, by rw [ex54, ew, ex53, ex52, ex50, nm_bit hrl (by omega), nm_tb, lN_i, nI_add]; rfl⟩ hP hD hS (lv_sub hl [2, 3, 4, 5, 1, 0] rfl)
          exact K31 _ 0 0 ls _ _ (Nat.lt_succ_self _) ⟨Nat.zero_le _, rfl⟩ hP hD hS (lv_sub hl [2, 3, 4, 5, 1, 0] rfl)
    exact K17 _ 0 1 ls _ _ (Nat.lt_succ_self _) ⟨Nat.zero_le _, by rw [if_pos (fun i h => absurd h (Nat.not_lt_zero _))]⟩ hP hD hS (lv_sub hl [3, 2, 1, 0] rfl)
