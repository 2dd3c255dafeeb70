set_option maxHeartbeats 4000000 in
set_option maxRecDepth 100000 in
theorem k_X7_joinSet (l : Launch) (dC : Nat → ClassId) (dI : Nat → Nat → Nat) (cI cJ cZ cII cJJ : ClassId) (R : Nat → Nat) (I : Nat → Int32) (A : Nat → Nat → Int32) (B : Nat → Nat → Int64) (C : Nat → Nat → Int32) (T : Nat → Nat → Int64) (nv ne : Nat) (fr to wt : Nat → Nat) (z : Nat) (g : gH nv ne fr to wt I A) (hz : z < 2 ^ 64) : ctI l (dC, dI) (tyL cI cJ cZ cII cJJ) (HW cI cJ cII cJJ R) yX7_joinSet wsX7_joinSet (2, 60) [.ref (R 0), .long (lN z)] (I, A, B, C, T) (fun r u => r = nI (jRun fr to z ne).2.2.1 ∧ rQ nv (jRun fr to z ne) u.1 u.2.1 u.2.2.1 ∧ fG I A B C T u) := by
  refine ctI_intro (cc := cX7_joinSet) (maxL := 5) (by decide) rfl (Nat.le_of_ble_eq_true rfl) ?_
  intro p e s m below meth c ls Aa Q F hK hN hP hD hS hA hl hret
  have hx := F.1
  have hb := F.2.1
  have hown : s.vm.findClass RX7 = some m.cls := F.2.2.2.1
  have hts := F.2.2.2.2
  have hinX2 : ∀ w ∈ wsX20, w ∈ wsX7_joinSet := by decide +kernel
  have hinX3 : ∀ w ∈ wsX30, w ∈ wsX7_joinSet := by decide +kernel
  have hinX7 : ∀ w ∈ wsX70, w ∈ wsX7_joinSet := by decide +kernel
  have hf26 := hts (.fieldLink RX7 26 "CycleHouse" "groups" "LCycleHouse$Groups;") (by decide +kernel)
  have hf10 := hts (.fieldLink RX7 10 "CycleHouse" "graph" "LCycleHouse$Graph;") (by decide +kernel)
  have hl : lv_has ls 5 [(0, .ref (R 0)), (1, .long (lN z))] := hl
  refine lv_aload_n hx hb dX7_joinSet_0 rfl (lv_at hl 0 rfl) ?_
  refine va_get (D := (dC, dI)) (ci := 7) (v := .ref (R 7)) (C := RX7) (T := TX7) (N := 8) hx hb hts hinX7 hown hK hP 0 rfl rfl 2 (by decide) hf26 (fun _ h9 => h9) rfl dX7_joinSet_1 ?_
  refine lv_aload_n hx hb dX7_joinSet_4 rfl (lv_at hl 0 rfl) ?_
  refine va_get (D := (dC, dI)) (ci := 7) (v := .ref (R 1)) (C := RX7) (T := TX7) (N := 8) hx hb hts hinX7 hown hK hP 0 rfl rfl 0 (by decide) hf10 (fun _ h9 => h9) rfl dX7_joinSet_5 ?_
  refine va_getN (D := (dC, dI)) (ci := 2) (v := .int (I 0)) (C := RX2) (T := TX2) (N := 5) hx hb hts hinX2 hown hK hP 1 rfl rfl 0 (by decide) (nwOK.f hN RX7 205 "CycleHouse$Graph" "vertices" "I" "CycleHouse" (by decide +kernel)) (fun _ h9 => h9) rfl dX7_joinSet_8 ?_
  rw [show (I 0 : Int32) = nI nv from g.2.2.2.1]
  refine ct_callv hD hS hA (va_runV (As := [.int (nI nv)]) (rest := []) F ((k_X3_part l dC dI cI cJ cZ cII cJJ R I A B C T nv g.2.1) _) (cwV 1 hts gX7_joinSet_X3_part rfl rfl rfl (by decide +kernel) ⟨(Nat.le_of_ble_eq_true rfl), (Nat.le_of_ble_eq_true rfl)⟩) (ct_preV 7 3 hK hN hP hD rfl rfl) rfl rfl hl.1 rfl (lv_room (Nat.le_of_ble_eq_true rfl)) dX7_joinSet_11 ⟨(Nat.le_of_ble_eq_true rfl), (Nat.le_of_ble_eq_true rfl)⟩) (fun u11 H locs w11 hP hD hS => ?_)
  obtain ⟨I11, A11, B11, C11, T11⟩ := u11
  refine lv_iconst (v := 0) hx hb dX7_joinSet_14 (by decide) ?_
  refine lv_istore_n (lv' := [(3, .int 0), (0, .ref (R 0)), (1, .long (lN z))]) hx hb dX7_joinSet_15 rfl hl (by decide) rfl (fun ls hl => ?_)
  refine lv_iconst (v := 0) hx hb dX7_joinSet_16 (by decide) ?_
  refine lv_istore (lv' := [(4, .int 0), (3, .int 0), (0, .ref (R 0)), (1, .long (lN z))]) hx hb dX7_joinSet_17 hl (by decide) rfl (fun ls hl => ?_)
  have K19 : ∀ (kn : Nat) (i : Nat) (x : Int32) (I_19 : Nat → Int32) (A_19 : Nat → Nat → Int32) (B_19 : Nat → Nat → Int64) (C_19 : Nat → Nat → Int32) (T_19 : Nat → Nat → Int64) (ls : Array Slot) (H : Heap) (locs : List Loc), ne - i < kn → (i ≤ ne ∧ x = nI (jRun fr to z i).2.2.1 ∧ rQ nv (jRun fr to z i) I_19 A_19 B_19 ∧ fG I A B C T (I_19, A_19, B_19, C_19, T_19)) → va_P (dC, dI) vwCl (HW cI cJ cII cJJ R (I_19, A_19, B_19, C_19, T_19)) H → va_D Aa (HW cI cJ cII cJJ R (I_19, A_19, B_19, C_19, T_19)) → va_S Aa s.heap H locs → lv_has ls 5 [(0, .ref (R 0)), (1, .long (lN z)), (3, .int x), (4, .int (nI i))] → W p l e (ctR (2, 60)) s m #[.ref (R 0), .long (lN z)] below meth c H locs 0 0 Q (F0 m 19 ls []) := by
    intro kn
    induction kn with
    | zero => intro i x I_19 A_19 B_19 C_19 T_19 ls H locs hmu; exact absurd hmu (Nat.not_lt_zero _)
    | succ kn ih19 =>
      intro i x I_19 A_19 B_19 C_19 T_19 ls H locs mu19 inv19 hP hD hS hl
      obtain ⟨hi, ex, hq, hf⟩ := inv19
      have gg := g.fg hf
      have g3 := g.2.2.1
      have hen := fun e (he : e < i) (_ : z.testBit e = true) => g.en e (by omega)
      refine lv_iload hx hb dX7_joinSet_19 (lv_at hl 3 rfl) ?_
      refine lv_aload_n hx hb dX7_joinSet_21 rfl (lv_at hl 0 rfl) ?_
      refine va_get (D := (dC, dI)) (ci := 7) (v := .ref (R 1)) (C := RX7) (T := TX7) (N := 8) hx hb hts hinX7 hown hK hP 0 rfl rfl 0 (by decide) hf10 (fun _ h9 => h9) rfl dX7_joinSet_22 ?_
      refine va_getN (D := (dC, dI)) (ci := 2) (v := .int (I_19 1)) (C := RX2) (T := TX2) (N := 5) hx hb hts hinX2 hown hK hP 1 rfl rfl 1 (by decide) (nwOK.f hN RX7 69 "CycleHouse$Graph" "edges" "I" "CycleHouse" (by decide +kernel)) (fun _ h9 => h9) rfl dX7_joinSet_25 ?_
      refine lv_icmp_ge (tgt := 67) hx hb dX7_joinSet_28 (by decide) (fun c28 => ?_) (fun c28 => ?_)
      · -- 28 taken
        rw [show I_19 1 = nI ne from gg.2.2.2.2.1, nI_leI (by omega) (by omega)] at c28
        have hge : i = ne := by omega
        rw [hge] at ex hq
        refine lv_iload_n hx hb dX7_joinSet_67 rfl (lv_at hl 2 rfl) ?_
        refine hret 68 ls _ _ x (I_19, A_19, B_19, C_19, T_19) dX7_joinSet_68 rfl ?_ hP hD hS
        try dsimp only
        exact ⟨ex, hq, hf⟩
      · -- 28 not
        rw [show I_19 1 = nI ne from gg.2.2.2.2.1, nI_leI (by omega) (by omega)] at c28
        refine lv_lload_n hx hb dX7_joinSet_31 rfl (lv_at hl 1 rfl) ?_
        refine lv_iload hx hb dX7_joinSet_32 (lv_at hl 3 rfl) ?_
        refine ct_calli hD hS hA (va_runS (As := [.long (lN z), .int (nI i)]) (rest := []) F ((k_X7_has l dC dI cI cJ cZ cII cJJ R I_19 A_19 B_19 C_19 T_19 z i hz (by omega)) _) (va_cwS 2 hts gX7_joinSet_X7_has rfl rfl rfl (by decide +kernel) ⟨(Nat.le_of_ble_eq_true rfl), (Nat.le_of_ble_eq_true rfl)⟩) (ct_preS hK hN hP hD) rfl rfl hl.1 rfl (lv_room (Nat.le_of_ble_eq_true rfl)) dX7_joinSet_34 ⟨(Nat.le_of_ble_eq_true rfl), (Nat.le_of_ble_eq_true rfl)⟩) (fun r34 u34 H locs w34 hP hD hS => ?_)
        obtain ⟨w34, rfl⟩ := w34
        refine lv_if_eq (tgt := 61) hx hb dX7_joinSet_37 (by decide) (fun c37 => ?_) (fun c37 => ?_)
        · -- 37 taken
          have c37 : z.testBit i = false := by cases h : z.testBit i with | false => rfl | true => rw [w34, h] at c37; exact absurd c37 (by decide)
          obtain ⟨x61, ex61⟩ : ∃ zz : Int32, zz = nI i + (1) := ⟨_, rfl⟩
          refine lv_iinc (v := x61) (lv' := [(4, .int x61), (0, .ref (R 0)), (1, .long (lN z)), (3, .int x)]) hx hb dX7_joinSet_61 hl (k := 3) rfl (by rw [ex61]; rfl) (by decide) rfl (fun ls hl => ?_)
          have ex61 : x61 = nI (i + 1) := by rw [ex61]; exact nI_1 i
          subst ex61
          refine lv_goto (tgt := 19) hx hb dX7_joinSet_64 (by decide) ?_
          exact ih19 (i + 1) x I_19 A_19 B_19 C_19 T_19 ls _ _ (by omega) ⟨by omega, by rw [jRun_out (by rw [c37]; decide)]; exact ex, by rw [jRun_out (by rw [c37]; decide)]; exact hq, hf⟩ hP hD hS (lv_sub hl [1, 2, 3, 0] rfl)
        · -- 37 not
          have c37 : z.testBit i = true := by cases h : z.testBit i with | true => rfl | false => rw [w34, h] at c37; exact absurd rfl c37
          have hjt := jr_top (jOK_run (fr := fr) (to := to) (N := nv) (s := z) i (by omega) hen) (by omega) (g.en i (by omega)).1 (g.en i (by omega)).2
          have hjl : jr (jRun fr to z i) (fr i) (to i) i < 2 ^ 63 := Nat.lt_of_lt_of_le hjt.2 (Nat.pow_le_pow_right (by omega) (by omega))
          refine lv_aload_n hx hb dX7_joinSet_40 rfl (lv_at hl 0 rfl) ?_
          refine va_get (D := (dC, dI)) (ci := 7) (v := .ref (R 7)) (C := RX7) (T := TX7) (N := 8) hx hb hts hinX7 hown hK hP 0 rfl rfl 2 (by decide) hf26 (fun _ h9 => h9) rfl dX7_joinSet_41 ?_
          refine lv_aload_n hx hb dX7_joinSet_44 rfl (lv_at hl 0 rfl) ?_
          refine va_get (D := (dC, dI)) (ci := 7) (v := .ref (R 1)) (C := RX7) (T := TX7) (N := 8) hx hb hts hinX7 hown hK hP 0 rfl rfl 0 (by decide) hf10 (fun _ h9 => h9) rfl dX7_joinSet_45 ?_
          refine lv_iload hx hb dX7_joinSet_48 (lv_at hl 3 rfl) ?_
          refine ct_calll hD hS hA (va_runV (As := [.ref (R 1), .int (nI i)]) (rest := []) F ((k_X3_join l dC dI cI cJ cZ cII cJJ R I_19 A_19 B_19 C_19 T_19 nv ne fr to wt i (jRun fr to z i) gg (by omega) hq (jI_run i hen)) _) (cwV 2 hts gX7_joinSet_X3_join rfl rfl rfl (by decide +kernel) ⟨(Nat.le_of_ble_eq_true rfl), (Nat.le_of_ble_eq_true rfl)⟩) (ct_preV 7 3 hK hN hP hD rfl rfl) rfl rfl hl.1 rfl (lv_room (Nat.le_of_ble_eq_true rfl)) dX7_joinSet_50 ⟨(Nat.le_of_ble_eq_true rfl), (Nat.le_of_ble_eq_true rfl)⟩) (fun r50 u50 H locs w50 hP hD hS => ?_)
          obtain ⟨I50, A50, B50, C50, T50⟩ := u50
          refine lv_lconst (v := 0) hx hb dX7_joinSet_53 (by decide) ?_
          refine W.lcmp hx hb dX7_joinSet_54 ?_
          refine lv_if_eq (tgt := 61) hx hb dX7_joinSet_55 (by decide) (fun c55 => ?_) (fun c55 => ?_)
          · -- 55 taken
            rw [lg_cmp_eq] at c55
            have c55 : (jRun fr to z i).1 (fr i) ≠ (jRun fr to z i).1 (to i) := fun h => by rw [w50.1, if_pos h] at c55; exact hjt.1 ((pk_lEQ (b := 0) hjl (by decide)).mp c55)
            obtain ⟨x61, ex61⟩ : ∃ zz : Int32, zz = nI i + (1) := ⟨_, rfl⟩
            refine lv_iinc (v := x61) (lv' := [(4, .int x61), (0, .ref (R 0)), (1, .long (lN z)), (3, .int x)]) hx hb dX7_joinSet_61 hl (k := 3) rfl (by rw [ex61]; rfl) (by decide) rfl (fun ls hl => ?_)
            have ex61 : x61 = nI (i + 1) := by rw [ex61]; exact nI_1 i
            subst ex61
            refine lv_goto (tgt := 19) hx hb dX7_joinSet_64 (by decide) ?_
            exact ih19 (i + 1) x I50 A50 B50 C50 T50 ls _ _ (by omega) ⟨by omega, by rw [jRun_in c37, jd_join c55]; exact ex, by rw [jRun_in c37]; exact w50.2.1, hf.tr w50.2.2⟩ hP hD hS (lv_sub hl [1, 2, 3, 0] rfl)
          · -- 55 not
            rw [lg_cmp_eq] at c55
            have c55 : (jRun fr to z i).1 (fr i) = (jRun fr to z i).1 (to i) := Classical.byContradiction (fun h => by rw [w50.1, if_neg h] at c55; exact c55 rfl)
            obtain ⟨x58, ex58⟩ : ∃ zz : Int32, zz = x + (1) := ⟨_, rfl⟩
            refine lv_iinc (v := x58) (lv' := [(3, .int x58), (0, .ref (R 0)), (1, .long (lN z)), (4, .int (nI i))]) hx hb dX7_joinSet_58 hl (k := 2) rfl (by rw [ex58]; rfl) (by decide) rfl (fun ls hl => ?_)
            obtain ⟨x61, ex61⟩ : ∃ zz : Int32, zz = nI i + (1) := ⟨_, rfl⟩
            refine lv_iinc (v := x61) (lv' := [(4, .int x61), (3, .int x58), (0, .ref (R 0)), (1, .long (lN z))]) hx hb dX7_joinSet_61 hl (k := 3) rfl (by rw [ex61]; rfl) (by decide) rfl (fun ls hl => ?_)
            have ex61 : x61 = nI (i + 1) := by rw [ex61]; exact nI_1 i
            subst ex61
            refine lv_goto (tgt := 19) hx hb dX7_joinSet_64 (by decide) ?_
            exact ih19 (i + 1) x58 I50 A50 B50 C50 T50 ls _ _ (by omega) ⟨by omega, by rw [jRun_in c37, jd_close c55, ex58, ex]; exact nI_1 _, by rw [jRun_in c37]; exact w50.2.1, hf.tr w50.2.2⟩ hP hD hS (lv_sub hl [2, 3, 1, 0] rfl)
  exact K19 _ 0 0 I11 A11 B11 C11 T11 ls _ _ (Nat.lt_succ_self _) ⟨Nat.zero_le _, rfl, w11.1, w11.2⟩ hP hD hS (lv_sub hl [2, 3, 1, 0] rfl)
set_option maxHeartbeats 4000000 in
set_option maxRecDepth 100000 in
theorem k_X7_joinWhole (l : Launch) (dC : Nat → ClassId) (dI : Nat → Nat → Nat) (cI cJ cZ cII cJJ : ClassId) (R : Nat → Nat) (I : Nat → Int32) (A : Nat → Nat → Int32) (B : Nat → Nat → Int64) (C : Nat → Nat → Int32) (T : Nat → Nat → Int64) (nv ne : Nat) (fr to wt : Nat → Nat) (g : gH nv ne fr to wt I A) : ctI l (dC, dI) (tyL cI cJ cZ cII cJJ) (HW cI cJ cII cJJ R) yX7_joinWhole wsX7_joinWhole (3, 90) [.ref (R 0)] (I, A, B, C, T) (fun r u => r = nI (dmA fr to ne) ∧ rQ nv (jRun fr to (fl ne) ne) u.1 u.2.1 u.2.2.1 ∧ fG I A B C T u) := by
  refine ctI_intro (cc := cX7_joinWhole) (maxL := 1) (by decide) rfl (Nat.le_of_ble_eq_true rfl) ?_
  intro p e s m below meth c ls Aa Q F hK hN hP hD hS hA hl hret
  have hx := F.1
  have hb := F.2.1
  have hown : s.vm.findClass RX7 = some m.cls := F.2.2.2.1
  have hts := F.2.2.2.2
  have hinX2 : ∀ w ∈ wsX20, w ∈ wsX7_joinWhole := by decide +kernel
  have hinX3 : ∀ w ∈ wsX30, w ∈ wsX7_joinWhole := by decide +kernel
  have hinX7 : ∀ w ∈ wsX70, w ∈ wsX7_joinWhole := by decide +kernel
  have hf10 := hts (.fieldLink RX7 10 "CycleHouse" "graph" "LCycleHouse$Graph;") (by decide +kernel)
  have hl : lv_has ls 1 [(0, .ref (R 0))] := hl
  refine lv_aload_n hx hb dX7_joinWhole_0 rfl (lv_at hl 0 rfl) ?_
  refine lv_lconst (v := 1) hx hb dX7_joinWhole_1 (by decide) ?_
  refine lv_aload_n hx hb dX7_joinWhole_2 rfl (lv_at hl 0 rfl) ?_
  refine va_get (D := (dC, dI)) (ci := 7) (v := .ref (R 1)) (C := RX7) (T := TX7) (N := 8) hx hb hts hinX7 hown hK hP 0 rfl rfl 0 (by decide) hf10 (fun _ h9 => h9) rfl dX7_joinWhole_3 ?_
  refine va_getN (D := (dC, dI)) (ci := 2) (v := .int (I 1)) (C := RX2) (T := TX2) (N := 5) hx hb hts hinX2 hown hK hP 1 rfl rfl 1 (by decide) (nwOK.f hN RX7 69 "CycleHouse$Graph" "edges" "I" "CycleHouse" (by decide +kernel)) (fun _ h9 => h9) rfl dX7_joinWhole_6 ?_
  rw [show (I 1 : Int32) = nI ne from g.2.2.2.2.1]
  refine lv_lshl hx hb dX7_joinWhole_9 rfl ?_
  refine lv_topl (fun x9 ex9 => ?_)
  have ex9 : x9 = lN (2 ^ ne) := by rw [ex9]; exact nm_pow (by have := g.2.2.1; omega)
  subst ex9
  refine lv_lconst (v := 1) hx hb dX7_joinWhole_10 (by decide) ?_
  refine lv_lsub hx hb dX7_joinWhole_11 ?_
  refine lv_topl (fun x11 ex11 => ?_)
  have ex11 : x11 = lN (fl ne) := by rw [ex11]; exact lN_sub1 ne
  subst ex11
  refine ct_calli hD hS hA (va_runV (As := [.long (lN (fl ne))]) (rest := []) F ((k_X7_joinSet l dC dI cI cJ cZ cII cJJ R I A B C T nv ne fr to wt (fl ne) g (by have := fl_lt ne g.2.2.1; omega)) _) (cwV 1 hts gX7_joinWhole_X7_joinSet rfl rfl rfl (by decide +kernel) ⟨(Nat.le_of_ble_eq_true rfl), (Nat.le_of_ble_eq_true rfl)⟩) (ct_preV 0 7 hK hN hP hD rfl rfl) rfl rfl hl.1 rfl (lv_room (Nat.le_of_ble_eq_true rfl)) dX7_joinWhole_12 ⟨(Nat.le_of_ble_eq_true rfl), (Nat.le_of_ble_eq_true rfl)⟩) (fun r12 u12 H locs w12 hP hD hS => ?_)
  obtain ⟨I12, A12, B12, C12, T12⟩ := u12
  refine hret 15 ls _ _ r12 (I12, A12, B12, C12, T12) dX7_joinWhole_15 rfl ?_ hP hD hS
  try dsimp only
  exact ⟨w12.1, w12.2.1, w12.2.2⟩
set_option maxHeartbeats 4000000 in
set_option maxRecDepth 100000 in
theorem k_X7_countGroups (l : Launch) (dC : Nat → ClassId) (dI : Nat → Nat → Nat) (cI cJ cZ cII cJJ : ClassId) (R : Nat → Nat) (I : Nat → Int32) (A : Nat → Nat → Int32) (B : Nat → Nat → Int64) (C : Nat → Nat → Int32) (T : Nat → Nat → Int64) (nv ne : Nat) (fr to wt : Nat → Nat) (g : gH nv ne fr to wt I A) : ctI l (dC, dI) (tyL cI cJ cZ cII cJJ) (HW cI cJ cII cJJ R) yX7_countGroups wsX7_countGroups (4, 120) [.ref (R 0)] (I, A, B, C, T) (fun r u => r = nI (gc nv (jRun fr to (fl ne) ne)) ∧ rQ nv (jRun fr to (fl ne) ne) u.1 u.2.1 u.2.2.1 ∧ fG I A B C T u) := by
  refine ctI_intro (cc := cX7_countGroups) (maxL := 1) (by decide) rfl (Nat.le_of_ble_eq_true rfl) ?_
  intro p e s m below meth c ls Aa Q F hK hN hP hD hS hA hl hret
  have hx := F.1
  have hb := F.2.1
  have hown : s.vm.findClass RX7 = some m.cls := F.2.2.2.1
  have hts := F.2.2.2.2
  have hinX2 : ∀ w ∈ wsX20, w ∈ wsX7_countGroups := by decide +kernel
  have hinX3 : ∀ w ∈ wsX30, w ∈ wsX7_countGroups := by decide +kernel
  have hinX7 : ∀ w ∈ wsX70, w ∈ wsX7_countGroups := by decide +kernel
  have hf26 := hts (.fieldLink RX7 26 "CycleHouse" "groups" "LCycleHouse$Groups;") (by decide +kernel)
  have hl : lv_has ls 1 [(0, .ref (R 0))] := hl
  refine lv_aload_n hx hb dX7_countGroups_0 rfl (lv_at hl 0 rfl) ?_
  refine ct_calli hD hS hA (va_runV (As := []) (rest := []) F ((k_X7_joinWhole l dC dI cI cJ cZ cII cJJ R I A B C T nv ne fr to wt g) _) (cwV 0 hts gX7_countGroups_X7_joinWhole rfl rfl rfl (by decide +kernel) ⟨(Nat.le_of_ble_eq_true rfl), (Nat.le_of_ble_eq_true rfl)⟩) (ct_preV 0 7 hK hN hP hD rfl rfl) rfl rfl hl.1 rfl (lv_room (Nat.le_of_ble_eq_true rfl)) dX7_countGroups_1 ⟨(Nat.le_of_ble_eq_true rfl), (Nat.le_of_ble_eq_true rfl)⟩) (fun r1 u1 H locs w1 hP hD hS => ?_)
  obtain ⟨I1, A1, B1, C1, T1⟩ := u1
  refine lv_pop hx hb dX7_countGroups_4 rfl ?_
  refine lv_aload_n hx hb dX7_countGroups_5 rfl (lv_at hl 0 rfl) ?_
  refine va_get (D := (dC, dI)) (ci := 7) (v := .ref (R 7)) (C := RX7) (T := TX7) (N := 8) hx hb hts hinX7 hown hK hP 0 rfl rfl 2 (by decide) hf26 (fun _ h9 => h9) rfl dX7_countGroups_6 ?_
  refine va_getN (D := (dC, dI)) (ci := 3) (v := .int (I1 5)) (C := RX3) (T := TX3) (N := 4) hx hb hts hinX3 hown hK hP 7 rfl rfl 1 (by decide) (nwOK.f hN RX7 244 "CycleHouse$Groups" "count" "I" "CycleHouse" (by decide +kernel)) (fun _ h9 => h9) rfl dX7_countGroups_9 ?_
  refine hret 12 ls _ _ (I1 5) (I1, A1, B1, C1, T1) dX7_countGroups_12 rfl ?_ hP hD hS
  try dsimp only
  exact ⟨w1.2.1.2.2.2, w1.2.1, w1.2.2⟩
set_option maxHeartbeats 4000000 in
set_option maxRecDepth 100000 in
theorem k_X7_countCuttingVertices (l : Launch) (dC : Nat → ClassId) (dI : Nat → Nat → Nat) (cI cJ cZ cII cJJ : ClassId) (R : Nat → Nat) (I : Nat → Int32) (A : Nat → Nat → Int32) (B : Nat → Nat → Int64) (C : Nat → Nat → Int32) (T : Nat → Nat → Int64) (nv ne : Nat) (fr to wt : Nat → Nat) (g : gH nv ne fr to wt I A) : ctI l (dC, dI) (tyL cI cJ cZ cII cJJ) (HW cI cJ cII cJJ R) yX7_countCuttingVertices wsX7_countCuttingVertices (5, 150) [.ref (R 0)] (I, A, B, C, T) (fun r u => r = nI (ptM fr to nv ne nv) ∧ fG I A B C T u) := by
  refine ctI_intro (cc := cX7_countCuttingVertices) (maxL := 4) (by decide) rfl (Nat.le_of_ble_eq_true rfl) ?_
  intro p e s m below meth c ls Aa Q F hK hN hP hD hS hA hl hret
  have hx := F.1
  have hb := F.2.1
  have hown : s.vm.findClass RX7 = some m.cls := F.2.2.2.1
  have hts := F.2.2.2.2
  have hinX2 : ∀ w ∈ wsX20, w ∈ wsX7_countCuttingVertices := by decide +kernel
  have hinX3 : ∀ w ∈ wsX30, w ∈ wsX7_countCuttingVertices := by decide +kernel
  have hinX7 : ∀ w ∈ wsX70, w ∈ wsX7_countCuttingVertices := by decide +kernel
  have hf10 := hts (.fieldLink RX7 10 "CycleHouse" "graph" "LCycleHouse$Graph;") (by decide +kernel)
  have hf26 := hts (.fieldLink RX7 26 "CycleHouse" "groups" "LCycleHouse$Groups;") (by decide +kernel)
  have hl : lv_has ls 4 [(0, .ref (R 0))] := hl
  refine lv_aload_n hx hb dX7_countCuttingVertices_0 rfl (lv_at hl 0 rfl) ?_
  refine ct_calli hD hS hA (va_runV (As := []) (rest := []) F ((k_X7_countGroups l dC dI cI cJ cZ cII cJJ R I A B C T nv ne fr to wt g) _) (cwV 0 hts gX7_countCuttingVertices_X7_countGroups rfl rfl rfl (by decide +kernel) ⟨(Nat.le_of_ble_eq_true rfl), (Nat.le_of_ble_eq_true rfl)⟩) (ct_preV 0 7 hK hN hP hD rfl rfl) rfl rfl hl.1 rfl (lv_room (Nat.le_of_ble_eq_true rfl)) dX7_countCuttingVertices_1 ⟨(Nat.le_of_ble_eq_true rfl), (Nat.le_of_ble_eq_true rfl)⟩) (fun r1 u1 H locs w1 hP hD hS => ?_)
  obtain ⟨I1, A1, B1, C1, T1⟩ := u1
  have er1 : r1 = nI (gc nv (jRun fr to (fl ne) ne)) := w1.1
  subst er1
  refine lv_istore_n (lv' := [(1, .int (nI (gc nv (jRun fr to (fl ne) ne)))), (0, .ref (R 0))]) hx hb dX7_countCuttingVertices_4 rfl hl (by decide) rfl (fun ls hl => ?_)
  refine lv_iconst (v := 0) hx hb dX7_countCuttingVertices_5 (by decide) ?_
  refine lv_istore_n (lv' := [(2, .int 0), (1, .int (nI (gc nv (jRun fr to (fl ne) ne)))), (0, .ref (R 0))]) hx hb dX7_countCuttingVertices_6 rfl hl (by decide) rfl (fun ls hl => ?_)
  refine lv_iconst (v := 0) hx hb dX7_countCuttingVertices_7 (by decide) ?_
  refine lv_istore_n (lv' := [(3, .int 0), (2, .int 0), (1, .int (nI (gc nv (jRun fr to (fl ne) ne)))), (0, .ref (R 0))]) hx hb dX7_countCuttingVertices_8 rfl hl (by decide) rfl (fun ls hl => ?_)
  have K9 : ∀ (kn : Nat) (v : Nat) (y : Int32) (I_9 : Nat → Int32) (A_9 : Nat → Nat → Int32) (B_9 : Nat → Nat → Int64) (C_9 : Nat → Nat → Int32) (T_9 : Nat → Nat → Int64) (ls : Array Slot) (H : Heap) (locs : List Loc), nv - v < kn → (v ≤ nv ∧ y = nI (ptM fr to nv ne v) ∧ fG I A B C T (I_9, A_9, B_9, C_9, T_9)) → va_P (dC, dI) vwCl (HW cI cJ cII cJJ R (I_9, A_9, B_9, C_9, T_9)) H → va_D Aa (HW cI cJ cII cJJ R (I_9, A_9, B_9, C_9, T_9)) → va_S Aa s.heap H locs → lv_has ls 4 [(0, .ref (R 0)), (1, .int (nI (gc nv (jRun fr to (fl ne) ne)))), (2, .int y), (3, .int (nI v))] → W p l e (ctR (5, 150)) s m #[.ref (R 0)] below meth c H locs 0 0 Q (F0 m 9 ls []) := by
    intro kn
    induction kn with
    | zero => intro v y I_9 A_9 B_9 C_9 T_9 ls H locs hmu; exact absurd hmu (Nat.not_lt_zero _)
    | succ kn ih9 =>
      intro v y I_9 A_9 B_9 C_9 T_9 ls H locs mu9 inv9 hP hD hS hl
      obtain ⟨hv, ey, hf⟩ := inv9
      have gg := g.fg hf
      have g2 := g.2.1
      have gl := gc_le nv (jRun fr to (ap fr to ne v) ne)
      have gl2 := gc_le nv (jRun fr to (fl ne) ne)
      have gp := gc_pos (fr := fr) (to := to) (N := nv) (s := ap fr to ne v) (k := ne) (by have := g.1; omega) (fun e he _ => g.en e he)
      refine lv_iload_n hx hb dX7_countCuttingVertices_9 rfl (lv_at hl 3 rfl) ?_
      refine lv_aload_n hx hb dX7_countCuttingVertices_10 rfl (lv_at hl 0 rfl) ?_
      refine va_get (D := (dC, dI)) (ci := 7) (v := .ref (R 1)) (C := RX7) (T := TX7) (N := 8) hx hb hts hinX7 hown hK hP 0 rfl rfl 0 (by decide) hf10 (fun _ h9 => h9) rfl dX7_countCuttingVertices_11 ?_
      refine va_getN (D := (dC, dI)) (ci := 2) (v := .int (I_9 0)) (C := RX2) (T := TX2) (N := 5) hx hb hts hinX2 hown hK hP 1 rfl rfl 0 (by decide) (nwOK.f hN RX7 205 "CycleHouse$Graph" "vertices" "I" "CycleHouse" (by decide +kernel)) (fun _ h9 => h9) rfl dX7_countCuttingVertices_14 ?_
      refine lv_icmp_ge (tgt := 55) hx hb dX7_countCuttingVertices_17 (by decide) (fun c17 => ?_) (fun c17 => ?_)
      · -- 17 taken
        rw [show I_9 0 = nI nv from gg.2.2.2.1, nI_leI (by omega) (by omega)] at c17
        have hge : v = nv := by omega
        rw [hge] at ey
        refine lv_iload_n hx hb dX7_countCuttingVertices_55 rfl (lv_at hl 2 rfl) ?_
        refine hret 56 ls _ _ y (I_9, A_9, B_9, C_9, T_9) dX7_countCuttingVertices_56 rfl ?_ hP hD hS
        try dsimp only
        exact ⟨ey, hf⟩
      · -- 17 not
        rw [show I_9 0 = nI nv from gg.2.2.2.1, nI_leI (by omega) (by omega)] at c17
        refine lv_aload_n hx hb dX7_countCuttingVertices_20 rfl (lv_at hl 0 rfl) ?_
        refine lv_aload_n hx hb dX7_countCuttingVertices_21 rfl (lv_at hl 0 rfl) ?_
        refine va_get (D := (dC, dI)) (ci := 7) (v := .ref (R 1)) (C := RX7) (T := TX7) (N := 8) hx hb hts hinX7 hown hK hP 0 rfl rfl 0 (by decide) hf10 (fun _ h9 => h9) rfl dX7_countCuttingVertices_22 ?_
        refine lv_iload_n hx hb dX7_countCuttingVertices_25 rfl (lv_at hl 3 rfl) ?_
        refine ct_calll hD hS hA (va_runV (As := [.int (nI v)]) (rest := [.ref (R 0)]) F ((k_X2_edgesApartFrom l dC dI cI cJ cZ cII cJJ R I_9 A_9 B_9 C_9 T_9 nv ne fr to wt v gg (by omega)) _) (cwV 1 hts gX7_countCuttingVertices_X2_edgesApartFrom rfl rfl rfl (by decide +kernel) ⟨(Nat.le_of_ble_eq_true rfl), (Nat.le_of_ble_eq_true rfl)⟩) (ct_preV 1 2 hK hN hP hD rfl rfl) rfl rfl hl.1 rfl (lv_room (Nat.le_of_ble_eq_true rfl)) dX7_countCuttingVertices_26 ⟨(Nat.le_of_ble_eq_true rfl), (Nat.le_of_ble_eq_true rfl)⟩) (fun r26 u26 H locs w26 hP hD hS => ?_)
        obtain ⟨w26, rfl⟩ := w26
        have er26 : r26 = lN (ap fr to ne v) := w26
        subst er26
        refine ct_calli hD hS hA (va_runV (As := [.long (lN (ap fr to ne v))]) (rest := []) F ((k_X7_joinSet l dC dI cI cJ cZ cII cJJ R I_9 A_9 B_9 C_9 T_9 nv ne fr to wt (ap fr to ne v) gg (Nat.lt_of_lt_of_le (nb_lt _ _) (Nat.pow_le_pow_right (by omega) (by have := g.2.2.1; omega)))) _) (cwV 1 hts gX7_countCuttingVertices_X7_joinSet rfl rfl rfl (by decide +kernel) ⟨(Nat.le_of_ble_eq_true rfl), (Nat.le_of_ble_eq_true rfl)⟩) (ct_preV 0 7 hK hN hP hD rfl rfl) rfl rfl hl.1 rfl (lv_room (Nat.le_of_ble_eq_true rfl)) dX7_countCuttingVertices_29 ⟨(Nat.le_of_ble_eq_true rfl), (Nat.le_of_ble_eq_true rfl)⟩) (fun r29 u29 H locs w29 hP hD hS => ?_)
        obtain ⟨I29, A29, B29, C29, T29⟩ := u29
        refine lv_pop hx hb dX7_countCuttingVertices_32 rfl ?_
        refine lv_aload_n hx hb dX7_countCuttingVertices_33 rfl (lv_at hl 0 rfl) ?_
        refine va_get (D := (dC, dI)) (ci := 7) (v := .ref (R 7)) (C := RX7) (T := TX7) (N := 8) hx hb hts hinX7 hown hK hP 0 rfl rfl 2 (by decide) hf26 (fun _ h9 => h9) rfl dX7_countCuttingVertices_34 ?_
        refine va_getN (D := (dC, dI)) (ci := 3) (v := .int (I29 5)) (C := RX3) (T := TX3) (N := 4) hx hb hts hinX3 hown hK hP 7 rfl rfl 1 (by decide) (nwOK.f hN RX7 244 "CycleHouse$Groups" "count" "I" "CycleHouse" (by decide +kernel)) (fun _ h9 => h9) rfl dX7_countCuttingVertices_37 ?_
        refine lv_iconst (v := 1) hx hb dX7_countCuttingVertices_40 (by decide) ?_
        refine lv_isub hx hb dX7_countCuttingVertices_41 ?_
        refine lv_topi (fun x41 ex41 => ?_)
        have ex41 : x41 = nI (gc nv (jRun fr to (ap fr to ne v) ne) - 1) := by rw [ex41, show I29 5 = nI (gc nv (jRun fr to (ap fr to ne v) ne)) from w29.2.1.2.2.2]; exact pk_sub (b := 1) gp
        refine lv_iload_n hx hb dX7_countCuttingVertices_42 rfl (lv_at hl 1 rfl) ?_
        refine lv_icmp_le (tgt := 49) hx hb dX7_countCuttingVertices_43 (by decide) (fun c43 => ?_) (fun c43 => ?_)
        · -- 43 taken
          rw [ex41, nI_leI (by omega) (by omega)] at c43
          obtain ⟨x49, ex49⟩ : ∃ zz : Int32, zz = nI v + (1) := ⟨_, rfl⟩
          refine lv_iinc (v := x49) (lv' := [(3, .int x49), (0, .ref (R 0)), (1, .int (nI (gc nv (jRun fr to (fl ne) ne)))), (2, .int y)]) hx hb dX7_countCuttingVertices_49 hl (k := 3) rfl (by rw [ex49]; rfl) (by decide) rfl (fun ls hl => ?_)
          have ex49 : x49 = nI (v + 1) := by rw [ex49]; exact nI_1 v
          subst ex49
          refine lv_goto (tgt := 9) hx hb dX7_countCuttingVertices_52 (by decide) ?_
          exact ih9 (v + 1) y I29 A29 B29 C29 T29 ls _ _ (by omega) ⟨by omega, by rw [ey]; unfold ptM; rw [ct0_f (decide_eq_false (by omega))], hf.tr w29.2.2⟩ hP hD hS (lv_sub hl [1, 2, 3, 0] rfl)
        · -- 43 not
          rw [ex41, nI_leI (by omega) (by omega)] at c43
          obtain ⟨x46, ex46⟩ : ∃ zz : Int32, zz = y + (1) := ⟨_, rfl⟩
          refine lv_iinc (v := x46) (lv' := [(2, .int x46), (0, .ref (R 0)), (1, .int (nI (gc nv (jRun fr to (fl ne) ne)))), (3, .int (nI v))]) hx hb dX7_countCuttingVertices_46 hl (k := 2) rfl (by rw [ex46]; rfl) (by decide) rfl (fun ls hl => ?_)
          obtain ⟨x49, ex49⟩ : ∃ zz : Int32, zz = nI v + (1) := ⟨_, rfl⟩
          refine lv_iinc (v := x49) (lv' := [(3, .int x49), (2, .int x46), (0, .ref (R 0)), (1, .int (nI (gc nv (jRun fr to (fl ne) ne))))]) hx hb dX7_countCuttingVertices_49 hl (k := 3) rfl (by rw [ex49]; rfl) (by decide) rfl (fun ls hl => ?_)
          have ex49 : x49 = nI (v + 1) := by rw [ex49]; exact nI_1 v
          subst ex49
          refine lv_goto (tgt := 9) hx hb dX7_countCuttingVertices_52 (by decide) ?_
          exact ih9 (v + 1) x46 I29 A29 B29 C29 T29 ls _ _ (by omega) ⟨by omega, by rw [ex46, ey]; unfold ptM; rw [ct0_t (decide_eq_true (by omega))]; exact nI_1 _, hf.tr w29.2.2⟩ hP hD hS (lv_sub hl [2, 3, 1, 0] rfl)
  exact K9 _ 0 0 I1 A1 B1 C1 T1 ls _ _ (Nat.lt_succ_self _) ⟨Nat.zero_le _, rfl, w1.2.2⟩ hP hD hS (lv_sub hl [3, 2, 1, 0] rfl)
set_option maxHeartbeats 4000000 in
set_option maxRecDepth 100000 in
theorem k_X7_lightestJoin (l : Launch) (dC : Nat → ClassId) (dI : Nat → Nat → Nat) (cI cJ cZ cII cJJ : ClassId) (R : Nat → Nat) (I : Nat → Int32) (A : Nat → Nat → Int32) (B : Nat → Nat → Int64) (C : Nat → Nat → Int32) (T : Nat → Nat → Int64) (nv ne : Nat) (fr to wt : Nat → Nat) (q : JS) (g : gH nv ne fr to wt I A) (hq : rG nv q.1 (A 8)) : ctI l (dC, dI) (tyL cI cJ cZ cII cJJ) (HW cI cJ cII cJJ R) yX7_lightestJoin wsX7_lightestJoin (1, 30) [.ref (R 0)] (I, A, B, C, T) (fun r u => r = oI (bE1 fr to wt q ne) ∧ u = (I, A, B, C, T)) := by
  refine ctI_intro (cc := cX7_lightestJoin) (maxL := 3) (by decide) rfl (Nat.le_of_ble_eq_true rfl) ?_
  intro p e s m below meth c ls Aa Q F hK hN hP hD hS hA hl hret
  have hx := F.1
  have hb := F.2.1
  have hown : s.vm.findClass RX7 = some m.cls := F.2.2.2.1
  have hts := F.2.2.2.2
  have hinX2 : ∀ w ∈ wsX20, w ∈ wsX7_lightestJoin := by decide +kernel
  have hinX3 : ∀ w ∈ wsX30, w ∈ wsX7_lightestJoin := by decide +kernel
  have hinX7 : ∀ w ∈ wsX70, w ∈ wsX7_lightestJoin := by decide +kernel
  have hf10 := hts (.fieldLink RX7 10 "CycleHouse" "graph" "LCycleHouse$Graph;") (by decide +kernel)
  have hf26 := hts (.fieldLink RX7 26 "CycleHouse" "groups" "LCycleHouse$Groups;") (by decide +kernel)
  have hl : lv_has ls 3 [(0, .ref (R 0))] := hl
  obtain ⟨g1, g2, g3, g4, g5, g6⟩ := id g
  refine lv_iconst (v := (-1)) hx hb dX7_lightestJoin_0 (by decide) ?_
  refine lv_istore_n (lv' := [(1, .int ((-1))), (0, .ref (R 0))]) hx hb dX7_lightestJoin_1 rfl hl (by decide) rfl (fun ls hl => ?_)
  refine lv_iconst (v := 0) hx hb dX7_lightestJoin_2 (by decide) ?_
  refine lv_istore_n (lv' := [(2, .int 0), (1, .int ((-1))), (0, .ref (R 0))]) hx hb dX7_lightestJoin_3 rfl hl (by decide) rfl (fun ls hl => ?_)
  have K4 : ∀ (kn : Nat) (i : Nat) (bb : Int32) (ls : Array Slot) (H : Heap) (locs : List Loc), ne - i < kn → (i ≤ ne ∧ bb = oI (bE1 fr to wt q i)) → va_P (dC, dI) vwCl (HW cI cJ cII cJJ R (I, A, B, C, T)) H → va_D Aa (HW cI cJ cII cJJ R (I, A, B, C, T)) → va_S Aa s.heap H locs → lv_has ls 3 [(0, .ref (R 0)), (1, .int bb), (2, .int (nI i))] → W p l e (ctR (1, 30)) s m #[.ref (R 0)] below meth c H locs 0 0 Q (F0 m 4 ls []) := by
    intro kn
    induction kn with
    | zero => intro i bb ls H locs hmu; exact absurd hmu (Nat.not_lt_zero _)
    | succ kn ih4 =>
      intro i bb ls H locs mu4 inv4 hP hD hS hl
      obtain ⟨hi, eb⟩ := inv4
      refine lv_iload_n hx hb dX7_lightestJoin_4 rfl (lv_at hl 2 rfl) ?_
      refine lv_aload_n hx hb dX7_lightestJoin_5 rfl (lv_at hl 0 rfl) ?_
      refine va_get (D := (dC, dI)) (ci := 7) (v := .ref (R 1)) (C := RX7) (T := TX7) (N := 8) hx hb hts hinX7 hown hK hP 0 rfl rfl 0 (by decide) hf10 (fun _ h9 => h9) rfl dX7_lightestJoin_6 ?_
      refine va_getN (D := (dC, dI)) (ci := 2) (v := .int (I 1)) (C := RX2) (T := TX2) (N := 5) hx hb hts hinX2 hown hK hP 1 rfl rfl 1 (by decide) (nwOK.f hN RX7 69 "CycleHouse$Graph" "edges" "I" "CycleHouse" (by decide +kernel)) (fun _ h9 => h9) rfl dX7_lightestJoin_9 ?_
      refine lv_icmp_ge (tgt := 77) hx hb dX7_lightestJoin_12 (by decide) (fun c12 => ?_) (fun c12 => ?_)
      · -- 12 taken
        rw [g5, nI_leI (by omega) (by omega)] at c12
        have hge : i = ne := by omega
        rw [hge] at eb
        refine lv_iload_n hx hb dX7_lightestJoin_77 rfl (lv_at hl 1 rfl) ?_
        refine hret 78 ls _ _ bb (I, A, B, C, T) dX7_lightestJoin_78 rfl ?_ hP hD hS
        try dsimp only
        exact ⟨eb, rfl⟩
      · -- 12 not
        rw [g5, nI_leI (by omega) (by omega)] at c12
        have icl : (nI i).toNatClampNeg = i := nI_clamp (by omega)
        have iin : vp_in (nI i) 40 := vp_in_nI (by omega) (by omega)
        have gi := g6 i (by omega)
        refine lv_aload_n hx hb dX7_lightestJoin_15 rfl (lv_at hl 0 rfl) ?_
        refine va_get (D := (dC, dI)) (ci := 7) (v := .ref (R 7)) (C := RX7) (T := TX7) (N := 8) hx hb hts hinX7 hown hK hP 0 rfl rfl 2 (by decide) hf26 (fun _ h9 => h9) rfl dX7_lightestJoin_16 ?_
        refine lv_aload_n hx hb dX7_lightestJoin_19 rfl (lv_at hl 0 rfl) ?_
        refine va_get (D := (dC, dI)) (ci := 7) (v := .ref (R 1)) (C := RX7) (T := TX7) (N := 8) hx hb hts hinX7 hown hK hP 0 rfl rfl 0 (by decide) hf10 (fun _ h9 => h9) rfl dX7_lightestJoin_20 ?_
        refine va_getN (D := (dC, dI)) (ci := 2) (v := .ref (R 2)) (C := RX2) (T := TX2) (N := 5) hx hb hts hinX2 hown hK hP 1 rfl rfl 2 (by decide) (nwOK.f hN RX7 141 "CycleHouse$Graph" "from" "[I" "CycleHouse" (by decide +kernel)) (fun _ h9 => h9) rfl dX7_lightestJoin_23 ?_
        refine lv_iload_n hx hb dX7_lightestJoin_26 rfl (lv_at hl 2 rfl) ?_
        have h27 : vp_in (nI i) 40 := iin
        refine va_iald hx hb hK hP 2 0 rfl rfl h27 dX7_lightestJoin_27 ?_
        refine lv_topi (fun x27 ex27 => ?_)
        have ex27 : x27 = A 2 (nI i).toNatClampNeg := ex27
        have ex27 : x27 = nI (fr i) := by rw [ex27, icl]; exact gi.1.1
        subst ex27
        refine lv_aload_n hx hb dX7_lightestJoin_28 rfl (lv_at hl 0 rfl) ?_
        refine va_get (D := (dC, dI)) (ci := 7) (v := .ref (R 1)) (C := RX7) (T := TX7) (N := 8) hx hb hts hinX7 hown hK hP 0 rfl rfl 0 (by decide) hf10 (fun _ h9 => h9) rfl dX7_lightestJoin_29 ?_
        refine va_getN (D := (dC, dI)) (ci := 2) (v := .ref (R 3)) (C := RX2) (T := TX2) (N := 5) hx hb hts hinX2 hown hK hP 1 rfl rfl 3 (by decide) (nwOK.f hN RX7 149 "CycleHouse$Graph" "to" "[I" "CycleHouse" (by decide +kernel)) (fun _ h9 => h9) rfl dX7_lightestJoin_32 ?_
        refine lv_iload_n hx hb dX7_lightestJoin_35 rfl (lv_at hl 2 rfl) ?_
        have h36 : vp_in (nI i) 40 := iin
        refine va_iald hx hb hK hP 3 0 rfl rfl h36 dX7_lightestJoin_36 ?_
        refine lv_topi (fun x36 ex36 => ?_)
        have ex36 : x36 = A 3 (nI i).toNatClampNeg := ex36
        have ex36 : x36 = nI (to i) := by rw [ex36, icl]; exact gi.2.1.1
        subst ex36
        refine ct_calli hD hS hA (va_runV (As := [.int (nI (fr i)), .int (nI (to i))]) (rest := []) F ((k_X3_together l dC dI cI cJ cZ cII cJJ R I A B C T nv q (fr i) (to i) g2 hq gi.1.2 gi.2.1.2) _) (cwV 2 hts gX7_lightestJoin_X3_together rfl rfl rfl (by decide +kernel) ⟨(Nat.le_of_ble_eq_true rfl), (Nat.le_of_ble_eq_true rfl)⟩) (ct_preV 7 3 hK hN hP hD rfl rfl) rfl rfl hl.1 rfl (lv_room (Nat.le_of_ble_eq_true rfl)) dX7_lightestJoin_37 ⟨(Nat.le_of_ble_eq_true rfl), (Nat.le_of_ble_eq_true rfl)⟩) (fun r37 u37 H locs w37 hP hD hS => ?_)
        obtain ⟨w37, rfl⟩ := w37
        refine lv_if_ne (tgt := 71) hx hb dX7_lightestJoin_40 (by decide) (fun c40 => ?_) (fun c40 => ?_)
        · -- 40 taken
          have c40 : q.1 (fr i) = q.1 (to i) := Classical.byContradiction (fun h => by rw [w37, if_neg h] at c40; exact c40 rfl)
          obtain ⟨x71, ex71⟩ : ∃ zz : Int32, zz = nI i + (1) := ⟨_, rfl⟩
          refine lv_iinc (v := x71) (lv' := [(2, .int x71), (0, .ref (R 0)), (1, .int bb)]) hx hb dX7_lightestJoin_71 hl (k := 2) rfl (by rw [ex71]; rfl) (by decide) rfl (fun ls hl => ?_)
          have ex71 : x71 = nI (i + 1) := by rw [ex71]; exact nI_1 i
          subst ex71
          refine lv_goto (tgt := 4) hx hb dX7_lightestJoin_74 (by decide) ?_
          exact ih4 (i + 1) bb ls _ _ (by omega) ⟨by omega, by rw [bE1_same c40]; exact eb⟩ hP hD hS (lv_sub hl [1, 2, 0] rfl)
        · -- 40 not
          have c40 : q.1 (fr i) ≠ q.1 (to i) := fun h => by rw [w37, if_pos h] at c40; exact absurd c40 (by decide)
          refine lv_iload_n hx hb dX7_lightestJoin_43 rfl (lv_at hl 1 rfl) ?_
          refine lv_iconst (v := (-1)) hx hb dX7_lightestJoin_44 (by decide) ?_
          refine lv_icmp_eq (tgt := 69) hx hb dX7_lightestJoin_45 (by decide) (fun c45 => ?_) (fun c45 => ?_)
          · -- 45 taken
            have c45 : bE1 fr to wt q i = none := by
              cases h : bE1 fr to wt q i with
              | none => rfl
              | some b1 => rw [eb, h] at c45; exact absurd (show nI b1 < 0 by rw [show nI b1 = -1 from c45]; decide) (nI_pos (by have := (bE1_in h).1; omega))
            refine lv_iload_n hx hb dX7_lightestJoin_69 rfl (lv_at hl 2 rfl) ?_
            refine lv_istore_n (lv' := [(1, .int (nI i)), (0, .ref (R 0)), (2, .int (nI i))]) hx hb dX7_lightestJoin_70 rfl hl (by decide) rfl (fun ls hl => ?_)
            obtain ⟨x71, ex71⟩ : ∃ zz : Int32, zz = nI i + (1) := ⟨_, rfl⟩
            refine lv_iinc (v := x71) (lv' := [(2, .int x71), (1, .int (nI i)), (0, .ref (R 0))]) hx hb dX7_lightestJoin_71 hl (k := 2) rfl (by rw [ex71]; rfl) (by decide) rfl (fun ls hl => ?_)
            have ex71 : x71 = nI (i + 1) := by rw [ex71]; exact nI_1 i
            subst ex71
            refine lv_goto (tgt := 4) hx hb dX7_lightestJoin_74 (by decide) ?_
            exact ih4 (i + 1) (nI i) ls _ _ (by omega) ⟨by omega, by rw [bE1_first c40 c45]; rfl⟩ hP hD hS (lv_sub hl [2, 1, 0] rfl)
          · -- 45 not
            obtain ⟨b0, hbs⟩ : ∃ b0, bE1 fr to wt q i = some b0 := by
              cases h : bE1 fr to wt q i with
              | some b1 => exact ⟨b1, rfl⟩
              | none => rw [eb, h] at c45; exact absurd rfl c45
            have hb0 := (bE1_in hbs).1
            have eb2 : bb = nI b0 := by rw [eb, hbs]; rfl
            have bcl2 : bb.toNatClampNeg = b0 := by rw [eb2]; exact nI_clamp (by omega)
            have gb := g6 b0 (by omega)
            refine lv_aload_n hx hb dX7_lightestJoin_48 rfl (lv_at hl 0 rfl) ?_
            refine va_get (D := (dC, dI)) (ci := 7) (v := .ref (R 1)) (C := RX7) (T := TX7) (N := 8) hx hb hts hinX7 hown hK hP 0 rfl rfl 0 (by decide) hf10 (fun _ h9 => h9) rfl dX7_lightestJoin_49 ?_
            refine va_getN (D := (dC, dI)) (ci := 2) (v := .ref (R 4)) (C := RX2) (T := TX2) (N := 5) hx hb hts hinX2 hown hK hP 1 rfl rfl 4 (by decide) (nwOK.f hN RX7 158 "CycleHouse$Graph" "weight" "[I" "CycleHouse" (by decide +kernel)) (fun _ h9 => h9) rfl dX7_lightestJoin_52 ?_
            refine lv_iload_n hx hb dX7_lightestJoin_55 rfl (lv_at hl 2 rfl) ?_
            have h56 : vp_in (nI i) 40 := iin
            refine va_iald hx hb hK hP 4 0 rfl rfl h56 dX7_lightestJoin_56 ?_
            refine lv_topi (fun x56 ex56 => ?_)
            have ex56 : x56 = A 4 (nI i).toNatClampNeg := ex56
            have ex56 : x56 = nI (wt i) := by rw [ex56, icl]; exact gi.2.2.1
            subst ex56
            refine lv_aload_n hx hb dX7_lightestJoin_57 rfl (lv_at hl 0 rfl) ?_
            refine va_get (D := (dC, dI)) (ci := 7) (v := .ref (R 1)) (C := RX7) (T := TX7) (N := 8) hx hb hts hinX7 hown hK hP 0 rfl rfl 0 (by decide) hf10 (fun _ h9 => h9) rfl dX7_lightestJoin_58 ?_
            refine va_getN (D := (dC, dI)) (ci := 2) (v := .ref (R 4)) (C := RX2) (T := TX2) (N := 5) hx hb hts hinX2 hown hK hP 1 rfl rfl 4 (by decide) (nwOK.f hN RX7 158 "CycleHouse$Graph" "weight" "[I" "CycleHouse" (by decide +kernel)) (fun _ h9 => h9) rfl dX7_lightestJoin_61 ?_
            refine lv_iload_n hx hb dX7_lightestJoin_64 rfl (lv_at hl 1 rfl) ?_
            have h65 : vp_in bb 40 := by rw [eb2]; exact vp_in_nI (by omega) (by omega)
            refine va_iald hx hb hK hP 4 0 rfl rfl h65 dX7_lightestJoin_65 ?_
            refine lv_topi (fun x65 ex65 => ?_)
            have ex65 : x65 = A 4 bb.toNatClampNeg := ex65
            have ex65 : x65 = nI (wt b0) := by rw [ex65, bcl2]; exact gb.2.2.1
            have l3 := gb.2.2.2
            have l4 := gi.2.2.2
            refine lv_icmp_ge (tgt := 71) hx hb dX7_lightestJoin_66 (by decide) (fun c66 => ?_) (fun c66 => ?_)
            · -- 66 taken
              rw [ex65, nI_leI (by omega) (by omega)] at c66
              obtain ⟨x71, ex71⟩ : ∃ zz : Int32, zz = nI i + (1) := ⟨_, rfl⟩
              refine lv_iinc (v := x71) (lv' := [(2, .int x71), (0, .ref (R 0)), (1, .int bb)]) hx hb dX7_lightestJoin_71 hl (k := 2) rfl (by rw [ex71]; rfl) (by decide) rfl (fun ls hl => ?_)
              have ex71 : x71 = nI (i + 1) := by rw [ex71]; exact nI_1 i
              subst ex71
              refine lv_goto (tgt := 4) hx hb dX7_lightestJoin_74 (by decide) ?_
              exact ih4 (i + 1) bb ls _ _ (by omega) ⟨by omega, by rw [bE1_keep c40 hbs (by omega), eb, hbs]⟩ hP hD hS (lv_sub hl [1, 2, 0] rfl)
            · -- 66 not
              rw [ex65, nI_leI (by omega) (by omega)] at c66
              refine lv_iload_n hx hb dX7_lightestJoin_69 rfl (lv_at hl 2 rfl) ?_
              refine lv_istore_n (lv' := [(1, .int (nI i)), (0, .ref (R 0)), (2, .int (nI i))]) hx hb dX7_lightestJoin_70 rfl hl (by decide) rfl (fun ls hl => ?_)
              obtain ⟨x71, ex71⟩ : ∃ zz : Int32, zz = nI i + (1) := ⟨_, rfl⟩
              refine lv_iinc (v := x71) (lv' := [(2, .int x71), (1, .int (nI i)), (0, .ref (R 0))]) hx hb dX7_lightestJoin_71 hl (k := 2) rfl (by rw [ex71]; rfl) (by decide) rfl (fun ls hl => ?_)
              have ex71 : x71 = nI (i + 1) := by rw [ex71]; exact nI_1 i
              subst ex71
              refine lv_goto (tgt := 4) hx hb dX7_lightestJoin_74 (by decide) ?_
              exact ih4 (i + 1) (nI i) ls _ _ (by omega) ⟨by omega, by rw [bE1_less c40 hbs (by omega)]; rfl⟩ hP hD hS (lv_sub hl [2, 1, 0] rfl)
  exact K4 _ 0 ((-1)) ls _ _ (Nat.lt_succ_self _) ⟨Nat.zero_le _, rfl⟩ hP hD hS (lv_sub hl [2, 1, 0] rfl)
set_option maxHeartbeats 4000000 in
set_option maxRecDepth 100000 in
theorem k_X7_fillRings (l : Launch) (dC : Nat → ClassId) (dI : Nat → Nat → Nat) (cI cJ cZ cII cJJ : ClassId) (R : Nat → Nat) (I : Nat → Int32) (A : Nat → Nat → Int32) (B : Nat → Nat → Int64) (C : Nat → Nat → Int32) (T : Nat → Nat → Int64) (nv ne : Nat) (fr to wt : Nat → Nat) (g : gH nv ne fr to wt I A) (hd : dmA fr to ne ≤ 14) : ctI l (dC, dI) (tyL cI cJ cZ cII cJJ) (HW cI cJ cII cJJ R) yX7_fillRings wsX7_fillRings (2, 60) [.ref (R 0)] (I, A, B, C, T) (fun r u => r = nI (dmA fr to ne) ∧ (∀ j, j < dmA fr to ne → u.2.2.1 20 j = lN (rgA fr to ne j)) ∧ rQ nv (jRun fr to (fl ne) ne) u.1 u.2.1 u.2.2.1 ∧ (∀ k, k ≠ 4 → k ≠ 5 → u.1 k = I k) ∧ (∀ k, k ≠ 8 → u.2.1 k = A k) ∧ (∀ k, k ≠ 9 → k ≠ 20 → u.2.2.1 k = B k) ∧ u.2.2.2.1 = C ∧ u.2.2.2.2 = T) := by
  refine ctI_intro (cc := cX7_fillRings) (maxL := 5) (by decide) rfl (Nat.le_of_ble_eq_true rfl) ?_
  intro p e s m below meth c ls Aa Q F hK hN hP hD hS hA hl hret
  have hx := F.1
  have hb := F.2.1
  have hown : s.vm.findClass RX7 = some m.cls := F.2.2.2.1
  have hts := F.2.2.2.2
  have hinX2 : ∀ w ∈ wsX20, w ∈ wsX7_fillRings := by decide +kernel
  have hinX3 : ∀ w ∈ wsX30, w ∈ wsX7_fillRings := by decide +kernel
  have hinX7 : ∀ w ∈ wsX70, w ∈ wsX7_fillRings := by decide +kernel
  have hf26 := hts (.fieldLink RX7 26 "CycleHouse" "groups" "LCycleHouse$Groups;") (by decide +kernel)
  have hf10 := hts (.fieldLink RX7 10 "CycleHouse" "graph" "LCycleHouse$Graph;") (by decide +kernel)
  have hf58 := hts (.fieldLink RX7 58 "CycleHouse" "rings" "[J") (by decide +kernel)
  have hl : lv_has ls 5 [(0, .ref (R 0))] := hl
  refine lv_aload_n hx hb dX7_fillRings_0 rfl (lv_at hl 0 rfl) ?_
  refine va_get (D := (dC, dI)) (ci := 7) (v := .ref (R 7)) (C := RX7) (T := TX7) (N := 8) hx hb hts hinX7 hown hK hP 0 rfl rfl 2 (by decide) hf26 (fun _ h9 => h9) rfl dX7_fillRings_1 ?_
  refine lv_aload_n hx hb dX7_fillRings_4 rfl (lv_at hl 0 rfl) ?_
  refine va_get (D := (dC, dI)) (ci := 7) (v := .ref (R 1)) (C := RX7) (T := TX7) (N := 8) hx hb hts hinX7 hown hK hP 0 rfl rfl 0 (by decide) hf10 (fun _ h9 => h9) rfl dX7_fillRings_5 ?_
  refine va_getN (D := (dC, dI)) (ci := 2) (v := .int (I 0)) (C := RX2) (T := TX2) (N := 5) hx hb hts hinX2 hown hK hP 1 rfl rfl 0 (by decide) (nwOK.f hN RX7 205 "CycleHouse$Graph" "vertices" "I" "CycleHouse" (by decide +kernel)) (fun _ h9 => h9) rfl dX7_fillRings_8 ?_
  rw [show (I 0 : Int32) = nI nv from g.2.2.2.1]
  refine ct_callv hD hS hA (va_runV (As := [.int (nI nv)]) (rest := []) F ((k_X3_part l dC dI cI cJ cZ cII cJJ R I A B C T nv g.2.1) _) (cwV 1 hts gX7_fillRings_X3_part rfl rfl rfl (by decide +kernel) ⟨(Nat.le_of_ble_eq_true rfl), (Nat.le_of_ble_eq_true rfl)⟩) (ct_preV 7 3 hK hN hP hD rfl rfl) rfl rfl hl.1 rfl (lv_room (Nat.le_of_ble_eq_true rfl)) dX7_fillRings_11 ⟨(Nat.le_of_ble_eq_true rfl), (Nat.le_of_ble_eq_true rfl)⟩) (fun u11 H locs w11 hP hD hS => ?_)
  obtain ⟨I11, A11, B11, C11, T11⟩ := u11
  refine lv_iconst (v := 0) hx hb dX7_fillRings_14 (by decide) ?_
  refine lv_istore_n (lv' := [(1, .int 0), (0, .ref (R 0))]) hx hb dX7_fillRings_15 rfl hl (by decide) rfl (fun ls hl => ?_)
  refine lv_iconst (v := 0) hx hb dX7_fillRings_16 (by decide) ?_
  refine lv_istore_n (lv' := [(2, .int 0), (1, .int 0), (0, .ref (R 0))]) hx hb dX7_fillRings_17 rfl hl (by decide) rfl (fun ls hl => ?_)
  have K18 : ∀ (kn : Nat) (i : Nat) (x : Int32) (I_18 : Nat → Int32) (A_18 : Nat → Nat → Int32) (B_18 : Nat → Nat → Int64) (C_18 : Nat → Nat → Int32) (T_18 : Nat → Nat → Int64) (ls : Array Slot) (H : Heap) (locs : List Loc), ne - i < kn → (i ≤ ne ∧ x = nI (jRun fr to (fl ne) i).2.2.1 ∧ (∀ j, j < (jRun fr to (fl ne) i).2.2.1 → B_18 20 j = lN ((jRun fr to (fl ne) i).2.2.2.1 j)) ∧ rQ nv (jRun fr to (fl ne) i) I_18 A_18 B_18 ∧ (∀ k, k ≠ 4 → k ≠ 5 → I_18 k = I k) ∧ (∀ k, k ≠ 8 → A_18 k = A k) ∧ (∀ k, k ≠ 9 → k ≠ 20 → B_18 k = B k) ∧ C_18 = C ∧ T_18 = T) → va_P (dC, dI) vwCl (HW cI cJ cII cJJ R (I_18, A_18, B_18, C_18, T_18)) H → va_D Aa (HW cI cJ cII cJJ R (I_18, A_18, B_18, C_18, T_18)) → va_S Aa s.heap H locs → lv_has ls 5 [(0, .ref (R 0)), (1, .int x), (2, .int (nI i))] → W p l e (ctR (2, 60)) s m #[.ref (R 0)] below meth c H locs 0 0 Q (F0 m 18 ls []) := by
    intro kn
    induction kn with
    | zero => intro i x I_18 A_18 B_18 C_18 T_18 ls H locs hmu; exact absurd hmu (Nat.not_lt_zero _)
    | succ kn ih18 =>
      intro i x I_18 A_18 B_18 C_18 T_18 ls H locs mu18 inv18 hP hD hS hl
      obtain ⟨hi, ex, hrg, hq, hI, hAx, hB, hCC, hTT⟩ := inv18
      have gg : gH nv ne fr to wt I_18 A_18 := by obtain ⟨g1, g2, g3, g4, g5, g6⟩ := id g; exact ⟨g1, g2, g3, by rw [hI 0 (by decide) (by decide)]; exact g4, by rw [hI 1 (by decide) (by decide)]; exact g5, by rw [hAx 2 (by decide), hAx 3 (by decide), hAx 4 (by decide)]; exact g6⟩
      have g3 := g.2.2.1
      have hen := fun e (he : e < i) (_ : (fl ne).testBit e = true) => g.en e (by omega)
      refine lv_iload_n hx hb dX7_fillRings_18 rfl (lv_at hl 2 rfl) ?_
      refine lv_aload_n hx hb dX7_fillRings_19 rfl (lv_at hl 0 rfl) ?_
      refine va_get (D := (dC, dI)) (ci := 7) (v := .ref (R 1)) (C := RX7) (T := TX7) (N := 8) hx hb hts hinX7 hown hK hP 0 rfl rfl 0 (by decide) hf10 (fun _ h9 => h9) rfl dX7_fillRings_20 ?_
      refine va_getN (D := (dC, dI)) (ci := 2) (v := .int (I_18 1)) (C := RX2) (T := TX2) (N := 5) hx hb hts hinX2 hown hK hP 1 rfl rfl 1 (by decide) (nwOK.f hN RX7 69 "CycleHouse$Graph" "edges" "I" "CycleHouse" (by decide +kernel)) (fun _ h9 => h9) rfl dX7_fillRings_23 ?_
      refine lv_icmp_ge (tgt := 70) hx hb dX7_fillRings_26 (by decide) (fun c26 => ?_) (fun c26 => ?_)
      · -- 26 taken
        rw [show I_18 1 = nI ne from gg.2.2.2.2.1, nI_leI (by omega) (by omega)] at c26
        have hge : i = ne := by omega
        rw [hge] at ex hrg hq
        refine lv_iload_n hx hb dX7_fillRings_70 rfl (lv_at hl 1 rfl) ?_
        refine hret 71 ls _ _ x (I_18, A_18, B_18, C_18, T_18) dX7_fillRings_71 rfl ?_ hP hD hS
        try dsimp only
        exact ⟨ex, hrg, hq, hI, hAx, hB, hCC, hTT⟩
      · -- 26 not
        rw [show I_18 1 = nI ne from gg.2.2.2.2.1, nI_leI (by omega) (by omega)] at c26
        have hjt := jr_top (jOK_run (fr := fr) (to := to) (N := nv) (s := fl ne) i (by omega) hen) (by omega) (g.en i (by omega)).1 (g.en i (by omega)).2
        have hjl : jr (jRun fr to (fl ne) i) (fr i) (to i) i < 2 ^ 63 := Nat.lt_of_lt_of_le hjt.2 (Nat.pow_le_pow_right (by omega) (by omega))
        refine lv_aload_n hx hb dX7_fillRings_29 rfl (lv_at hl 0 rfl) ?_
        refine va_get (D := (dC, dI)) (ci := 7) (v := .ref (R 7)) (C := RX7) (T := TX7) (N := 8) hx hb hts hinX7 hown hK hP 0 rfl rfl 2 (by decide) hf26 (fun _ h9 => h9) rfl dX7_fillRings_30 ?_
        refine lv_aload_n hx hb dX7_fillRings_33 rfl (lv_at hl 0 rfl) ?_
        refine va_get (D := (dC, dI)) (ci := 7) (v := .ref (R 1)) (C := RX7) (T := TX7) (N := 8) hx hb hts hinX7 hown hK hP 0 rfl rfl 0 (by decide) hf10 (fun _ h9 => h9) rfl dX7_fillRings_34 ?_
        refine lv_iload_n hx hb dX7_fillRings_37 rfl (lv_at hl 2 rfl) ?_
        refine ct_calll hD hS hA (va_runV (As := [.ref (R 1), .int (nI i)]) (rest := []) F ((k_X3_join l dC dI cI cJ cZ cII cJJ R I_18 A_18 B_18 C_18 T_18 nv ne fr to wt i (jRun fr to (fl ne) i) gg (by omega) hq (jI_run i hen)) _) (cwV 2 hts gX7_fillRings_X3_join rfl rfl rfl (by decide +kernel) ⟨(Nat.le_of_ble_eq_true rfl), (Nat.le_of_ble_eq_true rfl)⟩) (ct_preV 7 3 hK hN hP hD rfl rfl) rfl rfl hl.1 rfl (lv_room (Nat.le_of_ble_eq_true rfl)) dX7_fillRings_38 ⟨(Nat.le_of_ble_eq_true rfl), (Nat.le_of_ble_eq_true rfl)⟩) (fun r38 u38 H locs w38 hP hD hS => ?_)
        obtain ⟨I38, A38, B38, C38, T38⟩ := u38
        refine lv_lstore_n (lv' := [(3, .long r38), (0, .ref (R 0)), (1, .int x), (2, .int (nI i))]) hx hb dX7_fillRings_41 rfl hl (by decide) rfl (fun ls hl => ?_)
        refine lv_lload_n hx hb dX7_fillRings_42 rfl (lv_at hl 0 rfl) ?_
        refine lv_lconst (v := 0) hx hb dX7_fillRings_43 (by decide) ?_
        refine W.lcmp hx hb dX7_fillRings_44 ?_
        refine lv_if_eq (tgt := 64) hx hb dX7_fillRings_45 (by decide) (fun c45 => ?_) (fun c45 => ?_)
        · -- 45 taken
          rw [lg_cmp_eq] at c45
          have c45 : (jRun fr to (fl ne) i).1 (fr i) ≠ (jRun fr to (fl ne) i).1 (to i) := fun h => by rw [w38.1, if_pos h] at c45; exact hjt.1 ((pk_lEQ (b := 0) hjl (by decide)).mp c45)
          obtain ⟨x64, ex64⟩ : ∃ zz : Int32, zz = nI i + (1) := ⟨_, rfl⟩
          refine lv_iinc (v := x64) (lv' := [(2, .int x64), (3, .long r38), (0, .ref (R 0)), (1, .int x)]) hx hb dX7_fillRings_64 hl (k := 3) rfl (by rw [ex64]; rfl) (by decide) rfl (fun ls hl => ?_)
          have ex64 : x64 = nI (i + 1) := by rw [ex64]; exact nI_1 i
          subst ex64
          refine lv_goto (tgt := 18) hx hb dX7_fillRings_67 (by decide) ?_
          exact ih18 (i + 1) x I38 A38 B38 C38 T38 ls _ _ (by omega) ⟨by omega, by rw [jRun_all (by omega), jd_join c45]; exact ex, by rw [jRun_all (by omega), jd_join c45]; intro j hj; rw [show B38 20 = B_18 20 from w38.2.2.2.2.1 20 (by decide)]; rw [hrg j hj, jS_rg c45], by rw [jRun_all (by omega)]; exact w38.2.1, fun k a b => (w38.2.2.1 k a b).trans (hI k a b), fun k a => (w38.2.2.2.1 k a).trans (hAx k a), fun k a b => (w38.2.2.2.2.1 k a).trans (hB k a b), w38.2.2.2.2.2.1.trans hCC, w38.2.2.2.2.2.2.trans hTT⟩ hP hD hS (lv_sub hl [2, 3, 0] rfl)
        · -- 45 not
          rw [lg_cmp_eq] at c45
          have c45 : (jRun fr to (fl ne) i).1 (fr i) = (jRun fr to (fl ne) i).1 (to i) := Classical.byContradiction (fun h => by rw [w38.1, if_neg h] at c45; exact c45 rfl)
          have hdl : (jRun fr to (fl ne) i).2.2.1 + 1 ≤ 14 := by have h1 := jd_mono2 (fr := fr) (to := to) (s := fl ne) (k := i + 1) ne (by omega); rw [jRun_all (by omega), jd_close c45] at h1; exact Nat.le_trans h1 hd
          have dcl : x.toNatClampNeg = (jRun fr to (fl ne) i).2.2.1 := by rw [ex]; exact nI_clamp (by omega)
          refine lv_iload_n hx hb dX7_fillRings_48 rfl (lv_at hl 2 rfl) ?_
          refine lv_bipush (v := 14) hx hb dX7_fillRings_49 (by decide) ?_
          refine lv_icmp_ge (tgt := 64) hx hb dX7_fillRings_51 (by decide) (fun c51 => ?_) (fun c51 => ?_)
          · exact absurd c51 (by rw [ex]; exact nI_ge (b := 14) (by omega) (by omega))
          · -- 51 not
            refine lv_aload_n hx hb dX7_fillRings_54 rfl (lv_at hl 1 rfl) ?_
            refine va_get (D := (dC, dI)) (ci := 7) (v := .ref (R 20)) (C := RX7) (T := TX7) (N := 8) hx hb hts hinX7 hown hK hP 0 rfl rfl 7 (by decide) hf58 (fun _ h9 => h9) rfl dX7_fillRings_55 ?_
            refine lv_iload_n hx hb dX7_fillRings_58 rfl (lv_at hl 2 rfl) ?_
            refine lv_lload_n hx hb dX7_fillRings_59 rfl (lv_at hl 0 rfl) ?_
            have h60 : vp_in x 14 := by rw [ex]; exact vp_in_nI (by omega) (by omega)
            refine va_last hx hb hK hP hD hS 20 1 rfl rfl h60 dX7_fillRings_60 (fun H locs hP hD hS => ?_)
            obtain ⟨B60, eB60⟩ : ∃ zz : Nat → Nat → Int64, zz = va_up B38 20 (vp_updL (B38 20) x.toNatClampNeg r38) := ⟨_, rfl⟩
            have hP : va_P (dC, dI) vwCl (HW cI cJ cII cJJ R (I38, A38, B60, C38, T38)) H := by rw [eB60]; exact hP
            have hD : va_D Aa (HW cI cJ cII cJJ R (I38, A38, B60, C38, T38)) := by rw [eB60]; exact hD
            obtain ⟨x61, ex61⟩ : ∃ zz : Int32, zz = x + (1) := ⟨_, rfl⟩
            refine lv_iinc (v := x61) (lv' := [(1, .int x61), (3, .long r38), (0, .ref (R 0)), (2, .int (nI i))]) hx hb dX7_fillRings_61 hl (k := 2) rfl (by rw [ex61]; rfl) (by decide) rfl (fun ls hl => ?_)
            obtain ⟨x64, ex64⟩ : ∃ zz : Int32, zz = nI i + (1) := ⟨_, rfl⟩
            refine lv_iinc (v := x64) (lv' := [(2, .int x64), (1, .int x61), (3, .long r38), (0, .ref (R 0))]) hx hb dX7_fillRings_64 hl (k := 3) rfl (by rw [ex64]; rfl) (by decide) rfl (fun ls hl => ?_)
            have ex64 : x64 = nI (i + 1) := by rw [ex64]; exact nI_1 i
            subst ex64
            refine lv_goto (tgt := 18) hx hb dX7_fillRings_67 (by decide) ?_
            exact ih18 (i + 1) x61 I38 A38 B60 C38 T38 ls _ _ (by omega) ⟨by omega, by rw [jRun_all (by omega), jd_close c45, ex61, ex]; exact nI_1 _, by
                rw [jRun_all (by omega), jd_close c45]
                intro j hj
                rw [jS_rgc c45, eB60, up_self, dcl]
                by_cases e1 : j = (jRun fr to (fl ne) i).2.2.1
                · rw [e1, pk_uLs, up_self, w38.1, if_pos c45]
                · rw [pk_uLn e1, up_ne e1, show B38 20 = B_18 20 from w38.2.2.2.2.1 20 (by decide)]; exact hrg j (by omega), by rw [jRun_all (by omega)]; exact ⟨w38.2.1.1, by rw [eB60, up_ne (by decide)]; exact w38.2.1.2.1, w38.2.1.2.2⟩, fun k a b => (w38.2.2.1 k a b).trans (hI k a b), fun k a => (w38.2.2.2.1 k a).trans (hAx k a), fun k a b => by rw [eB60, up_ne b]; exact (w38.2.2.2.2.1 k a).trans (hB k a b), w38.2.2.2.2.2.1.trans hCC, w38.2.2.2.2.2.2.trans hTT⟩ hP hD hS (lv_sub hl [3, 1, 0] rfl)
  exact K18 _ 0 0 I11 A11 B11 C11 T11 ls _ _ (Nat.lt_succ_self _) ⟨Nat.zero_le _, rfl, fun j h => absurd h (Nat.not_lt_zero _), w11.1, w11.2.1, w11.2.2.1, fun k h _ => w11.2.2.2.1 k h, w11.2.2.2.2.1, w11.2.2.2.2.2⟩ hP hD hS (lv_sub hl [2, 1, 0] rfl)
