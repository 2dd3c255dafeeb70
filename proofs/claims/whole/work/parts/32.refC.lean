set_option maxHeartbeats 4000000 in
set_option maxRecDepth 100000 in
theorem k_X8_groups (l : Launch) (dC : Nat → ClassId) (dI : Nat → Nat → Nat) (cI cJ cZ cII cJJ : ClassId) (R : Nat → Nat) (I : Nat → Int32) (A : Nat → Nat → Int32) (B : Nat → Nat → Int64) (nv ne : Nat) (fr to wt : Nat → Nat) (g : gM nv ne fr to wt I A) : ctI l (dC, dI) (tyL cI cJ cZ cII cJJ) (MW cI cJ cZ R) yX8_groups wsX8_groups (1, 27) [.ref (R 0)] (I, A, B) (fun r u => r = nI (gc nv (jRun fr to (fl ne) ne)) ∧ rJ nv (jRun fr to (fl ne) ne) u.1 u.2.1 u.2.2 ∧ fJ I A B u) := by
  refine ctI_intro (cc := cX8_groups) (maxL := 3) (by decide) rfl (Nat.le_of_ble_eq_true rfl) ?_
  intro p e s m below meth c ls Aa Q F hK hN hP hD hS hA hl hret
  have hx := F.1
  have hb := F.2.1
  have hown : s.vm.findClass RX8 = some m.cls := F.2.2.2.1
  have hts := F.2.2.2.2
  have hinX8 : ∀ w ∈ wsX80, w ∈ wsX8_groups := by decide +kernel
  have hf7 := hts (.fieldLink RX8 7 "CycleHouseModel" "n" "I") (by decide +kernel)
  have hf61 := hts (.fieldLink RX8 61 "CycleHouseModel" "m" "I") (by decide +kernel)
  have hl : lv_has ls 3 [(0, .ref (R 0))] := hl
  refine lv_aload_n hx hb dX8_groups_0 rfl (lv_at hl 0 rfl) ?_
  refine ct_callv hD hS hA (va_runV (As := []) (rest := []) F ((k_X8_beginGroups l dC dI cI cJ cZ cII cJJ R I A B ) _) (cwV 0 hts gX8_groups_X8_beginGroups rfl rfl rfl (by decide +kernel) ⟨(Nat.le_of_ble_eq_true rfl), (Nat.le_of_ble_eq_true rfl)⟩) (ct_preV 0 8 hK hN hP hD rfl rfl) rfl rfl hl.1 rfl (lv_room (Nat.le_of_ble_eq_true rfl)) dX8_groups_1 ⟨(Nat.le_of_ble_eq_true rfl), (Nat.le_of_ble_eq_true rfl)⟩) (fun u1 H locs w1 hP hD hS => ?_)
  obtain ⟨I1, A1, B1⟩ := u1
  refine lv_aload_n hx hb dX8_groups_4 rfl (lv_at hl 0 rfl) ?_
  refine va_get (D := (dC, dI)) (ci := 8) (v := .int (I1 1)) (C := RX8) (T := TX8) (N := 20) hx hb hts hinX8 hown hK hP 0 rfl rfl 1 (by decide) hf7 (fun _ h9 => h9) rfl dX8_groups_5 ?_
  refine lv_istore_n (lv' := [(1, .int (I1 1)), (0, .ref (R 0))]) hx hb dX8_groups_8 rfl hl (by decide) rfl (fun ls hl => ?_)
  refine lv_iconst (v := 0) hx hb dX8_groups_9 (by decide) ?_
  refine lv_istore_n (lv' := [(2, .int 0), (1, .int (I1 1)), (0, .ref (R 0))]) hx hb dX8_groups_10 rfl hl (by decide) rfl (fun ls hl => ?_)
  have K11 : ∀ (kn : Nat) (i : Nat) (x : Int32) (I_11 : Nat → Int32) (A_11 : Nat → Nat → Int32) (B_11 : Nat → Nat → Int64) (ls : Array Slot) (H : Heap) (locs : List Loc), ne - i < kn → (i ≤ ne ∧ x = nI (gc nv (jRun fr to (fl ne) i)) ∧ rJ nv (jRun fr to (fl ne) i) I_11 A_11 B_11 ∧ fJ I A B (I_11, A_11, B_11)) → va_P (dC, dI) vwCl (MW cI cJ cZ R (I_11, A_11, B_11)) H → va_D Aa (MW cI cJ cZ R (I_11, A_11, B_11)) → va_S Aa s.heap H locs → lv_has ls 3 [(0, .ref (R 0)), (1, .int x), (2, .int (nI i))] → W p l e (ctR (1, 27)) s m #[.ref (R 0)] below meth c H locs 0 0 Q (F0 m 11 ls []) := by
    intro kn
    induction kn with
    | zero => intro i x I_11 A_11 B_11 ls H locs hmu; exact absurd hmu (Nat.not_lt_zero _)
    | succ kn ih11 =>
      intro i x I_11 A_11 B_11 ls H locs mu11 inv11 hP hD hS hl
      obtain ⟨hi, ex, hq, hf⟩ := inv11
      obtain ⟨g1, g2, g3, g4, g5, g6⟩ := g.fj hf
      have hin := fun e (he : e < i) (_ : (fl ne).testBit e = true) => (⟨(g6 e (by omega)).1.2, (g6 e (by omega)).2.1.2⟩ : fr e < nv ∧ to e < nv)
      refine lv_iload_n hx hb dX8_groups_11 rfl (lv_at hl 2 rfl) ?_
      refine lv_aload_n hx hb dX8_groups_12 rfl (lv_at hl 0 rfl) ?_
      refine va_get (D := (dC, dI)) (ci := 8) (v := .int (I_11 2)) (C := RX8) (T := TX8) (N := 20) hx hb hts hinX8 hown hK hP 0 rfl rfl 2 (by decide) hf61 (fun _ h9 => h9) rfl dX8_groups_13 ?_
      refine lv_icmp_ge (tgt := 41) hx hb dX8_groups_16 (by decide) (fun c16 => ?_) (fun c16 => ?_)
      · -- 16 taken
        rw [show I_11 2 = nI ne from g5, nI_leI (by omega) (by omega)] at c16
        have hge : i = ne := by omega
        subst hge
        refine lv_iload_n hx hb dX8_groups_41 rfl (lv_at hl 1 rfl) ?_
        refine hret 42 ls _ _ x (I_11, A_11, B_11) dX8_groups_42 rfl ?_ hP hD hS
        try dsimp only
        exact ⟨ex, hq, hf⟩
      · -- 16 not
        rw [show I_11 2 = nI ne from g5, nI_leI (by omega) (by omega)] at c16
        refine lv_iload_n hx hb dX8_groups_19 rfl (lv_at hl 1 rfl) ?_
        refine lv_aload_n hx hb dX8_groups_20 rfl (lv_at hl 0 rfl) ?_
        refine lv_iload_n hx hb dX8_groups_21 rfl (lv_at hl 2 rfl) ?_
        refine ct_calli hD hS hA (va_runV (As := [.int (nI i)]) (rest := [.int x]) F ((k_X8_joins l dC dI cI cJ cZ cII cJJ R I_11 A_11 B_11 nv ne fr to wt i (jRun fr to (fl ne) i) (g.fj hf) (by omega) hq (by have := jd_lt (fr := fr) (to := to) (s := fl ne) (k := i); omega)) _) (cwV 1 hts gX8_groups_X8_joins rfl rfl rfl (by decide +kernel) ⟨(Nat.le_of_ble_eq_true rfl), (Nat.le_of_ble_eq_true rfl)⟩) (ct_preV 0 8 hK hN hP hD rfl rfl) rfl rfl hl.1 rfl (lv_room (Nat.le_of_ble_eq_true rfl)) dX8_groups_22 ⟨(Nat.le_of_ble_eq_true rfl), (Nat.le_of_ble_eq_true rfl)⟩) (fun r22 u22 H locs w22 hP hD hS => ?_)
        obtain ⟨I22, A22, B22⟩ := u22
        refine lv_if_eq (tgt := 32) hx hb dX8_groups_25 (by decide) (fun c25 => ?_) (fun c25 => ?_)
        · -- 25 taken
          rw [w22.1] at c25
          have c25 : (jRun fr to (fl ne) i).1 (fr i) = (jRun fr to (fl ne) i).1 (to i) := Classical.byContradiction (fun h => by rw [if_neg h] at c25; exact absurd c25 (by decide))
          refine lv_iconst (v := 0) hx hb dX8_groups_32 (by decide) ?_
          refine lv_isub hx hb dX8_groups_33 ?_
          refine lv_topi (fun x33 ex33 => ?_)
          refine lv_istore_n (lv' := [(1, .int x33), (0, .ref (R 0)), (2, .int (nI i))]) hx hb dX8_groups_34 rfl hl (by decide) rfl (fun ls hl => ?_)
          obtain ⟨x35, ex35⟩ : ∃ y : Int32, y = nI i + (1) := ⟨_, rfl⟩
          refine lv_iinc (v := x35) (lv' := [(2, .int x35), (1, .int x33), (0, .ref (R 0))]) hx hb dX8_groups_35 hl (k := 2) rfl (by rw [ex35]; rfl) (by decide) rfl (fun ls hl => ?_)
          have ex35 : x35 = nI (i + 1) := by rw [ex35]; exact nI_1 i
          subst ex35
          refine lv_goto (tgt := 11) hx hb dX8_groups_38 (by decide) ?_
          exact ih11 (i + 1) x33 I22 A22 B22 ls _ _ (by omega) ⟨by omega, by rw [jRun_all (by omega), gc_close c25, ex33, ex]; exact Int32.sub_zero _, by rw [jRun_all (by omega)]; exact w22.2.1, hf.tr w22.2.2⟩ hP hD hS (lv_sub hl [2, 1, 0] rfl)
        · -- 25 not
          rw [w22.1] at c25
          have c25 : (jRun fr to (fl ne) i).1 (fr i) ≠ (jRun fr to (fl ne) i).1 (to i) := fun h => c25 (if_pos h)
          refine lv_iconst (v := 1) hx hb dX8_groups_28 (by decide) ?_
          refine lv_goto (tgt := 33) hx hb dX8_groups_29 (by decide) ?_
          refine lv_isub hx hb dX8_groups_33 ?_
          refine lv_topi (fun x33 ex33 => ?_)
          refine lv_istore_n (lv' := [(1, .int x33), (0, .ref (R 0)), (2, .int (nI i))]) hx hb dX8_groups_34 rfl hl (by decide) rfl (fun ls hl => ?_)
          obtain ⟨x35, ex35⟩ : ∃ y : Int32, y = nI i + (1) := ⟨_, rfl⟩
          refine lv_iinc (v := x35) (lv' := [(2, .int x35), (1, .int x33), (0, .ref (R 0))]) hx hb dX8_groups_35 hl (k := 2) rfl (by rw [ex35]; rfl) (by decide) rfl (fun ls hl => ?_)
          have ex35 : x35 = nI (i + 1) := by rw [ex35]; exact nI_1 i
          subst ex35
          refine lv_goto (tgt := 11) hx hb dX8_groups_38 (by decide) ?_
          exact ih11 (i + 1) x33 I22 A22 B22 ls _ _ (by omega) ⟨by omega, by rw [jRun_all (by omega), ex33, ex, ← gc_join (e := i) (jI_run i hin) (g6 i (by omega)).1.2 (g6 i (by omega)).2.1.2 c25]; exact nI_pred _, by rw [jRun_all (by omega)]; exact w22.2.1, hf.tr w22.2.2⟩ hP hD hS (lv_sub hl [2, 1, 0] rfl)
  exact K11 _ 0 (I1 1) I1 A1 B1 ls _ _ (Nat.lt_succ_self _) ⟨by omega, by rw [show I1 1 = nI nv from (g.fj w1.2).2.2.2.1]; congr 1; exact (ct0_true nv (fun i _ => by show (i == i) = true; simp)).symm, w1.1 nv g.2.1, w1.2⟩ hP hD hS (lv_sub hl [2, 1, 0] rfl)
set_option maxHeartbeats 4000000 in
set_option maxRecDepth 100000 in
theorem k_X8_dimension (l : Launch) (dC : Nat → ClassId) (dI : Nat → Nat → Nat) (cI cJ cZ cII cJJ : ClassId) (R : Nat → Nat) (I : Nat → Int32) (A : Nat → Nat → Int32) (B : Nat → Nat → Int64) (nv ne : Nat) (fr to wt : Nat → Nat) (g : gM nv ne fr to wt I A) : ctI l (dC, dI) (tyL cI cJ cZ cII cJJ) (MW cI cJ cZ R) yX8_dimension wsX8_dimension (2, 50) [.ref (R 0)] (I, A, B) (fun r u => r = nI (jRun fr to (fl ne) ne).2.2.1 ∧ rJ nv (jRun fr to (fl ne) ne) u.1 u.2.1 u.2.2 ∧ fJ I A B u) := by
  refine ctI_intro (cc := cX8_dimension) (maxL := 1) (by decide) rfl (Nat.le_of_ble_eq_true rfl) ?_
  intro p e s m below meth c ls Aa Q F hK hN hP hD hS hA hl hret
  have hx := F.1
  have hb := F.2.1
  have hown : s.vm.findClass RX8 = some m.cls := F.2.2.2.1
  have hts := F.2.2.2.2
  have hinX8 : ∀ w ∈ wsX80, w ∈ wsX8_dimension := by decide +kernel
  have hf61 := hts (.fieldLink RX8 61 "CycleHouseModel" "m" "I") (by decide +kernel)
  have hf7 := hts (.fieldLink RX8 7 "CycleHouseModel" "n" "I") (by decide +kernel)
  have hl : lv_has ls 1 [(0, .ref (R 0))] := hl
  refine lv_aload_n hx hb dX8_dimension_0 rfl (lv_at hl 0 rfl) ?_
  refine va_get (D := (dC, dI)) (ci := 8) (v := .int (I 2)) (C := RX8) (T := TX8) (N := 20) hx hb hts hinX8 hown hK hP 0 rfl rfl 2 (by decide) hf61 (fun _ h9 => h9) rfl dX8_dimension_1 ?_
  refine lv_aload_n hx hb dX8_dimension_4 rfl (lv_at hl 0 rfl) ?_
  refine va_get (D := (dC, dI)) (ci := 8) (v := .int (I 1)) (C := RX8) (T := TX8) (N := 20) hx hb hts hinX8 hown hK hP 0 rfl rfl 1 (by decide) hf7 (fun _ h9 => h9) rfl dX8_dimension_5 ?_
  refine lv_isub hx hb dX8_dimension_8 ?_
  refine lv_topi (fun x8 ex8 => ?_)
  refine lv_aload_n hx hb dX8_dimension_9 rfl (lv_at hl 0 rfl) ?_
  refine ct_calli hD hS hA (va_runV (As := []) (rest := [.int x8]) F ((k_X8_groups l dC dI cI cJ cZ cII cJJ R I A B nv ne fr to wt g) _) (cwV 0 hts gX8_dimension_X8_groups rfl rfl rfl (by decide +kernel) ⟨(Nat.le_of_ble_eq_true rfl), (Nat.le_of_ble_eq_true rfl)⟩) (ct_preV 0 8 hK hN hP hD rfl rfl) rfl rfl hl.1 rfl (lv_room (Nat.le_of_ble_eq_true rfl)) dX8_dimension_10 ⟨(Nat.le_of_ble_eq_true rfl), (Nat.le_of_ble_eq_true rfl)⟩) (fun r10 u10 H locs w10 hP hD hS => ?_)
  obtain ⟨I10, A10, B10⟩ := u10
  refine lv_iadd hx hb dX8_dimension_13 ?_
  refine lv_topi (fun x13 ex13 => ?_)
  refine hret 14 ls _ _ x13 (I10, A10, B10) dX8_dimension_14 rfl ?_ hP hD hS
  try dsimp only
  exact ⟨by rw [ex13, w10.1, ex8, g.2.2.2.1, g.2.2.2.2.1]; exact dim_eq (gc_all (fun e he => ⟨(g.2.2.2.2.2 e he).1.2, (g.2.2.2.2.2 e he).2.1.2⟩)), w10.2.1, w10.2.2⟩
set_option maxHeartbeats 4000000 in
set_option maxRecDepth 100000 in
theorem k_X8_beginsWith (l : Launch) (dC : Nat → ClassId) (dI : Nat → Nat → Nat) (cI cJ cZ cII cJJ : ClassId) (R : Nat → Nat) (I : Nat → Int32) (A : Nat → Nat → Int32) (B : Nat → Nat → Int64) (nv ne : Nat) (fr to wt : Nat → Nat) (z : Nat) (g : gM nv ne fr to wt I A) (hz : z < 2 ^ 62) : ctI l (dC, dI) (tyL cI cJ cZ cII cJJ) (MW cI cJ cZ R) yX8_beginsWith wsX8_beginsWith (1, 27) [.ref (R 0), .long (lN z)] (I, A, B) (fun r u => r = (if (jRun fr to z ne).2.2.1 = 0 then 1 else 0) ∧ rJ nv (jRun fr to z ne) u.1 u.2.1 u.2.2 ∧ fJ I A B u) := by
  refine ctI_intro (cc := cX8_beginsWith) (maxL := 5) (by decide) rfl (Nat.le_of_ble_eq_true rfl) ?_
  intro p e s m below meth c ls Aa Q F hK hN hP hD hS hA hl hret
  have hx := F.1
  have hb := F.2.1
  have hown : s.vm.findClass RX8 = some m.cls := F.2.2.2.1
  have hts := F.2.2.2.2
  have hinX8 : ∀ w ∈ wsX80, w ∈ wsX8_beginsWith := by decide +kernel
  have hf61 := hts (.fieldLink RX8 61 "CycleHouseModel" "m" "I") (by decide +kernel)
  have hl : lv_has ls 5 [(0, .ref (R 0)), (1, .long (lN z))] := hl
  refine lv_aload_n hx hb dX8_beginsWith_0 rfl (lv_at hl 0 rfl) ?_
  refine ct_callv hD hS hA (va_runV (As := []) (rest := []) F ((k_X8_beginGroups l dC dI cI cJ cZ cII cJJ R I A B ) _) (cwV 0 hts gX8_beginsWith_X8_beginGroups rfl rfl rfl (by decide +kernel) ⟨(Nat.le_of_ble_eq_true rfl), (Nat.le_of_ble_eq_true rfl)⟩) (ct_preV 0 8 hK hN hP hD rfl rfl) rfl rfl hl.1 rfl (lv_room (Nat.le_of_ble_eq_true rfl)) dX8_beginsWith_1 ⟨(Nat.le_of_ble_eq_true rfl), (Nat.le_of_ble_eq_true rfl)⟩) (fun u1 H locs w1 hP hD hS => ?_)
  obtain ⟨I1, A1, B1⟩ := u1
  refine lv_iconst (v := 1) hx hb dX8_beginsWith_4 (by decide) ?_
  refine lv_istore_n (lv' := [(3, .int 1), (0, .ref (R 0)), (1, .long (lN z))]) hx hb dX8_beginsWith_5 rfl hl (by decide) rfl (fun ls hl => ?_)
  refine lv_iconst (v := 0) hx hb dX8_beginsWith_6 (by decide) ?_
  refine lv_istore (lv' := [(4, .int 0), (3, .int 1), (0, .ref (R 0)), (1, .long (lN z))]) hx hb dX8_beginsWith_7 hl (by decide) rfl (fun ls hl => ?_)
  have K9 : ∀ (kn : Nat) (i : Nat) (x : Int32) (I_9 : Nat → Int32) (A_9 : Nat → Nat → Int32) (B_9 : Nat → Nat → Int64) (ls : Array Slot) (H : Heap) (locs : List Loc), ne - i < kn → (i ≤ ne ∧ x = (if (jRun fr to z i).2.2.1 = 0 then 1 else 0) ∧ rJ nv (jRun fr to z i) I_9 A_9 B_9 ∧ fJ I A B (I_9, A_9, B_9)) → va_P (dC, dI) vwCl (MW cI cJ cZ R (I_9, A_9, B_9)) H → va_D Aa (MW cI cJ cZ R (I_9, A_9, B_9)) → va_S Aa s.heap H locs → lv_has ls 5 [(0, .ref (R 0)), (1, .long (lN z)), (3, .int x), (4, .int (nI i))] → W p l e (ctR (1, 27)) s m #[.ref (R 0), .long (lN z)] below meth c H locs 0 0 Q (F0 m 9 ls []) := by
    intro kn
    induction kn with
    | zero => intro i x I_9 A_9 B_9 ls H locs hmu; exact absurd hmu (Nat.not_lt_zero _)
    | succ kn ih9 =>
      intro i x I_9 A_9 B_9 ls H locs mu9 inv9 hP hD hS hl
      obtain ⟨hi, ex, hq, hf⟩ := inv9
      obtain ⟨g1, g2, g3, g4, g5, g6⟩ := g.fj hf
      refine lv_iload hx hb dX8_beginsWith_9 (lv_at hl 3 rfl) ?_
      refine lv_aload_n hx hb dX8_beginsWith_11 rfl (lv_at hl 0 rfl) ?_
      refine va_get (D := (dC, dI)) (ci := 8) (v := .int (I_9 2)) (C := RX8) (T := TX8) (N := 20) hx hb hts hinX8 hown hK hP 0 rfl rfl 2 (by decide) hf61 (fun _ h9 => h9) rfl dX8_beginsWith_12 ?_
      refine lv_icmp_ge (tgt := 54) hx hb dX8_beginsWith_15 (by decide) (fun c15 => ?_) (fun c15 => ?_)
      · -- 15 taken
        rw [show I_9 2 = nI ne from g5, nI_leI (by omega) (by omega)] at c15
        have hge : i = ne := by omega
        subst hge
        refine lv_iload_n hx hb dX8_beginsWith_54 rfl (lv_at hl 2 rfl) ?_
        refine hret 55 ls _ _ x (I_9, A_9, B_9) dX8_beginsWith_55 (by rw [ex]; split <;> rfl) ?_ hP hD hS
        try dsimp only
        exact ⟨ex, hq, hf⟩
      · -- 15 not
        rw [show I_9 2 = nI ne from g5, nI_leI (by omega) (by omega)] at c15
        refine lv_lload_n hx hb dX8_beginsWith_18 rfl (lv_at hl 1 rfl) ?_
        refine lv_iload hx hb dX8_beginsWith_19 (lv_at hl 3 rfl) ?_
        refine lv_lshr hx hb dX8_beginsWith_21 rfl ?_
        refine lv_topl (fun x21 ex21 => ?_)
        refine lv_lconst (v := 1) hx hb dX8_beginsWith_22 (by decide) ?_
        refine lv_land hx hb dX8_beginsWith_23 ?_
        refine lv_topl (fun x23 ex23 => ?_)
        refine lv_lconst (v := 1) hx hb dX8_beginsWith_24 (by decide) ?_
        refine W.lcmp hx hb dX8_beginsWith_25 ?_
        refine lv_if_ne (tgt := 48) hx hb dX8_beginsWith_26 (by decide) (fun c26 => ?_) (fun c26 => ?_)
        · -- 26 taken
          rw [lg_cmp_eq] at c26
          rw [ex23, ex21, nm_bit1 hz (by omega)] at c26
          obtain ⟨x48, ex48⟩ : ∃ y : Int32, y = nI i + (1) := ⟨_, rfl⟩
          refine lv_iinc (v := x48) (lv' := [(4, .int x48), (0, .ref (R 0)), (1, .long (lN z)), (3, .int x)]) hx hb dX8_beginsWith_48 hl (k := 3) rfl (by rw [ex48]; rfl) (by decide) rfl (fun ls hl => ?_)
          have ex48 : x48 = nI (i + 1) := by rw [ex48]; exact nI_1 i
          subst ex48
          refine lv_goto (tgt := 9) hx hb dX8_beginsWith_51 (by decide) ?_
          exact ih9 (i + 1) x I_9 A_9 B_9 ls _ _ (by omega) ⟨by omega, by rw [jRun_out c26]; exact ex, by rw [jRun_out c26]; exact hq, hf⟩ hP hD hS (lv_sub hl [1, 2, 3, 0] rfl)
        · -- 26 not
          rw [lg_cmp_eq] at c26
          rw [ex23, ex21, nm_bit1 hz (by omega)] at c26
          refine lv_aload_n hx hb dX8_beginsWith_29 rfl (lv_at hl 0 rfl) ?_
          refine lv_iload hx hb dX8_beginsWith_30 (lv_at hl 3 rfl) ?_
          refine ct_calli hD hS hA (va_runV (As := [.int (nI i)]) (rest := []) F ((k_X8_joins l dC dI cI cJ cZ cII cJJ R I_9 A_9 B_9 nv ne fr to wt i (jRun fr to z i) (g.fj hf) (by omega) hq (by have := jd_lt (fr := fr) (to := to) (s := z) (k := i); omega)) _) (cwV 1 hts gX8_beginsWith_X8_joins rfl rfl rfl (by decide +kernel) ⟨(Nat.le_of_ble_eq_true rfl), (Nat.le_of_ble_eq_true rfl)⟩) (ct_preV 0 8 hK hN hP hD rfl rfl) rfl rfl hl.1 rfl (lv_room (Nat.le_of_ble_eq_true rfl)) dX8_beginsWith_32 ⟨(Nat.le_of_ble_eq_true rfl), (Nat.le_of_ble_eq_true rfl)⟩) (fun r32 u32 H locs w32 hP hD hS => ?_)
          obtain ⟨I32, A32, B32⟩ := u32
          refine lv_if_eq (tgt := 46) hx hb dX8_beginsWith_35 (by decide) (fun c35 => ?_) (fun c35 => ?_)
          · -- 35 taken
            rw [w32.1] at c35
            have c35 : (jRun fr to z i).1 (fr i) = (jRun fr to z i).1 (to i) := Classical.byContradiction (fun h => by rw [if_neg h] at c35; exact absurd c35 (by decide))
            refine lv_iconst (v := 0) hx hb dX8_beginsWith_46 (by decide) ?_
            refine lv_istore_n (lv' := [(3, .int 0), (0, .ref (R 0)), (1, .long (lN z)), (4, .int (nI i))]) hx hb dX8_beginsWith_47 rfl hl (by decide) rfl (fun ls hl => ?_)
            obtain ⟨x48, ex48⟩ : ∃ y : Int32, y = nI i + (1) := ⟨_, rfl⟩
            refine lv_iinc (v := x48) (lv' := [(4, .int x48), (3, .int 0), (0, .ref (R 0)), (1, .long (lN z))]) hx hb dX8_beginsWith_48 hl (k := 3) rfl (by rw [ex48]; rfl) (by decide) rfl (fun ls hl => ?_)
            have ex48 : x48 = nI (i + 1) := by rw [ex48]; exact nI_1 i
            subst ex48
            refine lv_goto (tgt := 9) hx hb dX8_beginsWith_51 (by decide) ?_
            exact ih9 (i + 1) 0 I32 A32 B32 ls _ _ (by omega) ⟨by omega, by rw [jRun_in c26, jd_close c35, if_neg (by omega)], by rw [jRun_in c26]; exact w32.2.1, hf.tr w32.2.2⟩ hP hD hS (lv_sub hl [2, 3, 1, 0] rfl)
          · -- 35 not
            rw [w32.1] at c35
            have c35 : (jRun fr to z i).1 (fr i) ≠ (jRun fr to z i).1 (to i) := fun h => c35 (if_pos h)
            refine lv_iload_n hx hb dX8_beginsWith_38 rfl (lv_at hl 2 rfl) ?_
            refine lv_if_eq (tgt := 46) hx hb dX8_beginsWith_39 (by decide) (fun c39 => ?_) (fun c39 => ?_)
            · -- 39 taken
              refine lv_iconst (v := 0) hx hb dX8_beginsWith_46 (by decide) ?_
              refine lv_istore_n (lv' := [(3, .int 0), (0, .ref (R 0)), (1, .long (lN z)), (4, .int (nI i))]) hx hb dX8_beginsWith_47 rfl hl (by decide) rfl (fun ls hl => ?_)
              obtain ⟨x48, ex48⟩ : ∃ y : Int32, y = nI i + (1) := ⟨_, rfl⟩
              refine lv_iinc (v := x48) (lv' := [(4, .int x48), (3, .int 0), (0, .ref (R 0)), (1, .long (lN z))]) hx hb dX8_beginsWith_48 hl (k := 3) rfl (by rw [ex48]; rfl) (by decide) rfl (fun ls hl => ?_)
              have ex48 : x48 = nI (i + 1) := by rw [ex48]; exact nI_1 i
              subst ex48
              refine lv_goto (tgt := 9) hx hb dX8_beginsWith_51 (by decide) ?_
              exact ih9 (i + 1) 0 I32 A32 B32 ls _ _ (by omega) ⟨by omega, by rw [jRun_in c26, jd_join c35]; rw [ex] at c39; split at c39 <;> simp_all, by rw [jRun_in c26]; exact w32.2.1, hf.tr w32.2.2⟩ hP hD hS (lv_sub hl [2, 3, 1, 0] rfl)
            · -- 39 not
              refine lv_iconst (v := 1) hx hb dX8_beginsWith_42 (by decide) ?_
              refine lv_goto (tgt := 47) hx hb dX8_beginsWith_43 (by decide) ?_
              refine lv_istore_n (lv' := [(3, .int 1), (0, .ref (R 0)), (1, .long (lN z)), (4, .int (nI i))]) hx hb dX8_beginsWith_47 rfl hl (by decide) rfl (fun ls hl => ?_)
              obtain ⟨x48, ex48⟩ : ∃ y : Int32, y = nI i + (1) := ⟨_, rfl⟩
              refine lv_iinc (v := x48) (lv' := [(4, .int x48), (3, .int 1), (0, .ref (R 0)), (1, .long (lN z))]) hx hb dX8_beginsWith_48 hl (k := 3) rfl (by rw [ex48]; rfl) (by decide) rfl (fun ls hl => ?_)
              have ex48 : x48 = nI (i + 1) := by rw [ex48]; exact nI_1 i
              subst ex48
              refine lv_goto (tgt := 9) hx hb dX8_beginsWith_51 (by decide) ?_
              exact ih9 (i + 1) 1 I32 A32 B32 ls _ _ (by omega) ⟨by omega, by rw [jRun_in c26, jd_join c35]; rw [ex] at c39; split at c39 <;> simp_all, by rw [jRun_in c26]; exact w32.2.1, hf.tr w32.2.2⟩ hP hD hS (lv_sub hl [2, 3, 1, 0] rfl)
  exact K9 _ 0 1 I1 A1 B1 ls _ _ (Nat.lt_succ_self _) ⟨by omega, rfl, w1.1 nv g.2.1, w1.2⟩ hP hD hS (lv_sub hl [2, 3, 1, 0] rfl)
