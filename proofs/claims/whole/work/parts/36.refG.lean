set_option maxHeartbeats 4000000 in
set_option maxRecDepth 100000 in
theorem k_X8_endsAt (l : Launch) (dC : Nat → ClassId) (dI : Nat → Nat → Nat) (cI cJ cZ cII cJJ : ClassId) (R : Nat → Nat) (I : Nat → Int32) (A : Nat → Nat → Int32) (B : Nat → Nat → Int64) (nv ne : Nat) (fr to wt : Nat → Nat) (z v : Nat) (g : gM nv ne fr to wt I A) (hz : z < 2 ^ 62) (hv : v < nv) : ctI l (dC, dI) (tyL cI cJ cZ cII cJJ) (MW cI cJ cZ R) yX8_endsAt wsX8_endsAt (0, 0) [.ref (R 0), .long (lN z), .int (nI v)] (I, A, B) (fun r u => r = nI (dg fr to z ne v) ∧ u = (I, A, B)) := by
  refine ctI_intro (cc := cX8_endsAt) (maxL := 6) (by decide) rfl (Nat.le_of_ble_eq_true rfl) ?_
  intro p e s m below meth c ls Aa Q F hK hN hP hD hS hA hl hret
  have hx := F.1
  have hb := F.2.1
  have hown : s.vm.findClass RX8 = some m.cls := F.2.2.2.1
  have hts := F.2.2.2.2
  have hinX8 : ∀ w ∈ wsX80, w ∈ wsX8_endsAt := by decide +kernel
  have hf61 := hts (.fieldLink RX8 61 "CycleHouseModel" "m" "I") (by decide +kernel)
  have hf13 := hts (.fieldLink RX8 13 "CycleHouseModel" "from" "[I") (by decide +kernel)
  have hf17 := hts (.fieldLink RX8 17 "CycleHouseModel" "to" "[I") (by decide +kernel)
  have hl : lv_has ls 6 [(0, .ref (R 0)), (1, .long (lN z)), (3, .int (nI v))] := hl
  obtain ⟨g1, g2, g3, g4, g5, g6⟩ := id g
  refine lv_iconst (v := 0) hx hb dX8_endsAt_0 (by decide) ?_
  refine lv_istore (lv' := [(4, .int 0), (0, .ref (R 0)), (1, .long (lN z)), (3, .int (nI v))]) hx hb dX8_endsAt_1 hl (by decide) rfl (fun ls hl => ?_)
  refine lv_iconst (v := 0) hx hb dX8_endsAt_3 (by decide) ?_
  refine lv_istore (lv' := [(5, .int 0), (4, .int 0), (0, .ref (R 0)), (1, .long (lN z)), (3, .int (nI v))]) hx hb dX8_endsAt_4 hl (by decide) rfl (fun ls hl => ?_)
  have K6 : ∀ (kn : Nat) (i : Nat) (x : Int32) (ls : Array Slot) (H : Heap) (locs : List Loc), ne - i < kn → (i ≤ ne ∧ x = nI (dg fr to z i v)) → va_P (dC, dI) vwCl (MW cI cJ cZ R (I, A, B)) H → va_D Aa (MW cI cJ cZ R (I, A, B)) → va_S Aa s.heap H locs → lv_has ls 6 [(0, .ref (R 0)), (1, .long (lN z)), (3, .int (nI v)), (4, .int x), (5, .int (nI i))] → W p l e (ctR (0, 0)) s m #[.ref (R 0), .long (lN z), .int (nI v)] below meth c H locs 0 0 Q (F0 m 6 ls []) := by
    intro kn
    induction kn with
    | zero => intro i x ls H locs hmu; exact absurd hmu (Nat.not_lt_zero _)
    | succ kn ih6 =>
      intro i x ls H locs mu6 inv6 hP hD hS hl
      obtain ⟨hi, ex⟩ := inv6
      refine lv_iload hx hb dX8_endsAt_6 (lv_at hl 4 rfl) ?_
      refine lv_aload_n hx hb dX8_endsAt_8 rfl (lv_at hl 0 rfl) ?_
      refine va_get (D := (dC, dI)) (ci := 8) (v := .int (I 2)) (C := RX8) (T := TX8) (N := 20) hx hb hts hinX8 hown hK hP 0 rfl rfl 2 (by decide) hf61 (fun _ h9 => h9) rfl dX8_endsAt_9 ?_
      refine lv_icmp_ge (tgt := 77) hx hb dX8_endsAt_12 (by decide) (fun c12 => ?_) (fun c12 => ?_)
      · -- 12 taken
        rw [g5, nI_leI (by omega) (by omega)] at c12
        have hge : i = ne := by omega
        rw [hge] at ex
        refine lv_iload hx hb dX8_endsAt_77 (lv_at hl 3 rfl) ?_
        refine hret 79 ls _ _ x (I, A, B) dX8_endsAt_79 rfl ?_ hP hD hS
        try dsimp only
        exact ⟨ex, rfl⟩
      · -- 12 not
        rw [g5, nI_leI (by omega) (by omega)] at c12
        have icl : (nI i).toNatClampNeg = i := nI_clamp (by omega)
        have iin : vp_in (nI i) 40 := vp_in_nI (by omega) (by omega)
        have gi := g6 i (by omega)
        refine lv_lload_n hx hb dX8_endsAt_15 rfl (lv_at hl 1 rfl) ?_
        refine lv_iload hx hb dX8_endsAt_16 (lv_at hl 4 rfl) ?_
        refine lv_lshr hx hb dX8_endsAt_18 rfl ?_
        refine lv_topl (fun x18 ex18 => ?_)
        refine lv_lconst (v := 1) hx hb dX8_endsAt_19 (by decide) ?_
        refine lv_land hx hb dX8_endsAt_20 ?_
        refine lv_topl (fun x20 ex20 => ?_)
        refine lv_lconst (v := 0) hx hb dX8_endsAt_21 (by decide) ?_
        refine W.lcmp hx hb dX8_endsAt_22 ?_
        refine lv_if_ne (tgt := 29) hx hb dX8_endsAt_23 (by decide) (fun c23 => ?_) (fun c23 => ?_)
        · -- 23 taken
          rw [lg_cmp_eq] at c23
          rw [ex20, ex18, nm_bit0 hz (by omega)] at c23
          have c23 : z.testBit i = true := by cases h : z.testBit i with | true => rfl | false => exact absurd h c23
          have K47 : ∀ (y : Int32) (ls : Array Slot) (H : Heap) (locs : List Loc), (y = nI (if fr i = v then 1 else 0)) → va_P (dC, dI) vwCl (MW cI cJ cZ R (I, A, B)) H → va_D Aa (MW cI cJ cZ R (I, A, B)) → va_S Aa s.heap H locs → lv_has ls 6 [(0, .ref (R 0)), (1, .long (lN z)), (3, .int (nI v)), (4, .int x), (5, .int (nI i))] → W p l e (ctR (0, 0)) s m #[.ref (R 0), .long (lN z), .int (nI v)] below meth c H locs 0 0 Q (F0 m 47 ls [.int y, .int x]) := by
            intro y ls H locs inv47 hP hD hS hl
            have inv46 := inv47
            refine lv_iadd hx hb dX8_endsAt_47 ?_
            refine lv_topi (fun x47 ex47 => ?_)
            refine lv_istore (lv' := [(4, .int x47), (0, .ref (R 0)), (1, .long (lN z)), (3, .int (nI v)), (5, .int (nI i))]) hx hb dX8_endsAt_48 hl (by decide) rfl (fun ls hl => ?_)
            have K68 : ∀ (y2 : Int32) (ls : Array Slot) (H : Heap) (locs : List Loc), (y2 = nI (if to i = v then 1 else 0)) → va_P (dC, dI) vwCl (MW cI cJ cZ R (I, A, B)) H → va_D Aa (MW cI cJ cZ R (I, A, B)) → va_S Aa s.heap H locs → lv_has ls 6 [(0, .ref (R 0)), (1, .long (lN z)), (3, .int (nI v)), (4, .int x47), (5, .int (nI i))] → W p l e (ctR (0, 0)) s m #[.ref (R 0), .long (lN z), .int (nI v)] below meth c H locs 0 0 Q (F0 m 68 ls [.int y2, .int x47]) := by
              intro y2 ls H locs inv68 hP hD hS hl
              have inv67 := inv68
              refine lv_iadd hx hb dX8_endsAt_68 ?_
              refine lv_topi (fun x68 ex68 => ?_)
              refine lv_istore (lv' := [(4, .int x68), (0, .ref (R 0)), (1, .long (lN z)), (3, .int (nI v)), (5, .int (nI i))]) hx hb dX8_endsAt_69 hl (by decide) rfl (fun ls hl => ?_)
              obtain ⟨x71, ex71⟩ : ∃ y : Int32, y = nI i + (1) := ⟨_, rfl⟩
              refine lv_iinc (v := x71) (lv' := [(5, .int x71), (4, .int x68), (0, .ref (R 0)), (1, .long (lN z)), (3, .int (nI v))]) hx hb dX8_endsAt_71 hl (k := 4) rfl (by rw [ex71]; rfl) (by decide) rfl (fun ls hl => ?_)
              have ex71 : x71 = nI (i + 1) := by rw [ex71]; exact nI_1 i
              subst ex71
              refine lv_goto (tgt := 6) hx hb dX8_endsAt_74 (by decide) ?_
              exact ih6 (i + 1) x68 ls _ _ (by omega) ⟨by omega, by rw [ex68, inv67, ex47, inv46, ex, dg, if_pos c23, nI_add, nI_add, Nat.add_assoc]⟩ hP hD hS (lv_sub hl [2, 3, 4, 1, 0] rfl)
            refine lv_iload hx hb dX8_endsAt_50 (lv_at hl 0 rfl) ?_
            refine lv_aload_n hx hb dX8_endsAt_52 rfl (lv_at hl 1 rfl) ?_
            refine va_get (D := (dC, dI)) (ci := 8) (v := .ref (R 4)) (C := RX8) (T := TX8) (N := 20) hx hb hts hinX8 hown hK hP 0 rfl rfl 4 (by decide) hf17 (fun _ h9 => h9) rfl dX8_endsAt_53 ?_
            refine lv_iload hx hb dX8_endsAt_56 (lv_at hl 4 rfl) ?_
            have h58 : vp_in (nI i) 40 := iin
            refine va_iald hx hb hK hP 2 0 rfl rfl h58 dX8_endsAt_58 ?_
            refine lv_topi (fun x58 ex58 => ?_)
            have ex58 : x58 = A 4 (nI i).toNatClampNeg := ex58
            have ex58 : x58 = nI (to i) := by rw [ex58, icl]; exact gi.2.1.1
            subst ex58
            refine lv_iload_n hx hb dX8_endsAt_59 rfl (lv_at hl 3 rfl) ?_
            refine lv_icmp_ne (tgt := 67) hx hb dX8_endsAt_60 (by decide) (fun c60 => ?_) (fun c60 => ?_)
            · -- 60 taken
              rw [nI_eq (by omega) (by omega)] at c60
              refine lv_iconst (v := 0) hx hb dX8_endsAt_67 (by decide) ?_
              exact K68 0 ls _ _  (by rw [if_neg c60]; rfl) hP hD hS (lv_sub hl [1, 2, 3, 0, 4] rfl)
            · -- 60 not
              rw [nI_eq (by omega) (by omega)] at c60
              refine lv_iconst (v := 1) hx hb dX8_endsAt_63 (by decide) ?_
              refine lv_goto (tgt := 68) hx hb dX8_endsAt_64 (by decide) ?_
              exact K68 1 ls _ _  (by rw [if_pos c60]; rfl) hP hD hS (lv_sub hl [1, 2, 3, 0, 4] rfl)
          refine lv_iload hx hb dX8_endsAt_29 (lv_at hl 3 rfl) ?_
          refine lv_aload_n hx hb dX8_endsAt_31 rfl (lv_at hl 0 rfl) ?_
          refine va_get (D := (dC, dI)) (ci := 8) (v := .ref (R 3)) (C := RX8) (T := TX8) (N := 20) hx hb hts hinX8 hown hK hP 0 rfl rfl 3 (by decide) hf13 (fun _ h9 => h9) rfl dX8_endsAt_32 ?_
          refine lv_iload hx hb dX8_endsAt_35 (lv_at hl 4 rfl) ?_
          have h37 : vp_in (nI i) 40 := iin
          refine va_iald hx hb hK hP 1 0 rfl rfl h37 dX8_endsAt_37 ?_
          refine lv_topi (fun x37 ex37 => ?_)
          have ex37 : x37 = A 3 (nI i).toNatClampNeg := ex37
          have ex37 : x37 = nI (fr i) := by rw [ex37, icl]; exact gi.1.1
          subst ex37
          refine lv_iload_n hx hb dX8_endsAt_38 rfl (lv_at hl 2 rfl) ?_
          refine lv_icmp_ne (tgt := 46) hx hb dX8_endsAt_39 (by decide) (fun c39 => ?_) (fun c39 => ?_)
          · -- 39 taken
            rw [nI_eq (by omega) (by omega)] at c39
            refine lv_iconst (v := 0) hx hb dX8_endsAt_46 (by decide) ?_
            exact K47 0 ls _ _  (by rw [if_neg c39]; rfl) hP hD hS (lv_sub hl [0, 1, 2, 3, 4] rfl)
          · -- 39 not
            rw [nI_eq (by omega) (by omega)] at c39
            refine lv_iconst (v := 1) hx hb dX8_endsAt_42 (by decide) ?_
            refine lv_goto (tgt := 47) hx hb dX8_endsAt_43 (by decide) ?_
            exact K47 1 ls _ _  (by rw [if_pos c39]; rfl) hP hD hS (lv_sub hl [0, 1, 2, 3, 4] rfl)
        · -- 23 not
          rw [lg_cmp_eq] at c23
          rw [ex20, ex18, nm_bit0 hz (by omega)] at c23
          refine lv_goto (tgt := 71) hx hb dX8_endsAt_26 (by decide) ?_
          obtain ⟨x71, ex71⟩ : ∃ y : Int32, y = nI i + (1) := ⟨_, rfl⟩
          refine lv_iinc (v := x71) (lv' := [(5, .int x71), (0, .ref (R 0)), (1, .long (lN z)), (3, .int (nI v)), (4, .int x)]) hx hb dX8_endsAt_71 hl (k := 4) rfl (by rw [ex71]; rfl) (by decide) rfl (fun ls hl => ?_)
          have ex71 : x71 = nI (i + 1) := by rw [ex71]; exact nI_1 i
          subst ex71
          refine lv_goto (tgt := 6) hx hb dX8_endsAt_74 (by decide) ?_
          exact ih6 (i + 1) x ls _ _ (by omega) ⟨by omega, by rw [ex, dg, if_neg (by rw [c23]; decide), Nat.add_zero]⟩ hP hD hS (lv_sub hl [1, 2, 3, 4, 0] rfl)
  exact K6 _ 0 0 ls _ _ (Nat.lt_succ_self _) ⟨by omega, rfl⟩ hP hD hS (lv_sub hl [2, 3, 4, 1, 0] rfl)
set_option maxHeartbeats 4000000 in
set_option maxRecDepth 100000 in
theorem k_X8_isEven (l : Launch) (dC : Nat → ClassId) (dI : Nat → Nat → Nat) (cI cJ cZ cII cJJ : ClassId) (R : Nat → Nat) (I : Nat → Int32) (A : Nat → Nat → Int32) (B : Nat → Nat → Int64) (nv ne : Nat) (fr to wt : Nat → Nat) (z : Nat) (g : gM nv ne fr to wt I A) (hz : z < 2 ^ 62) : ctI l (dC, dI) (tyL cI cJ cZ cII cJJ) (MW cI cJ cZ R) yX8_isEven wsX8_isEven (1, 30) [.ref (R 0), .long (lN z)] (I, A, B) (fun r u => r = (if evn fr to nv ne z then 1 else 0) ∧ u = (I, A, B)) := by
  refine ctI_intro (cc := cX8_isEven) (maxL := 5) (by decide) rfl (Nat.le_of_ble_eq_true rfl) ?_
  intro p e s m below meth c ls Aa Q F hK hN hP hD hS hA hl hret
  have hx := F.1
  have hb := F.2.1
  have hown : s.vm.findClass RX8 = some m.cls := F.2.2.2.1
  have hts := F.2.2.2.2
  have hinX8 : ∀ w ∈ wsX80, w ∈ wsX8_isEven := by decide +kernel
  have hf7 := hts (.fieldLink RX8 7 "CycleHouseModel" "n" "I") (by decide +kernel)
  have hl : lv_has ls 5 [(0, .ref (R 0)), (1, .long (lN z))] := hl
  obtain ⟨g1, g2, g3, g4, g5, g6⟩ := id g
  refine lv_iconst (v := 1) hx hb dX8_isEven_0 (by decide) ?_
  refine lv_istore_n (lv' := [(3, .int 1), (0, .ref (R 0)), (1, .long (lN z))]) hx hb dX8_isEven_1 rfl hl (by decide) rfl (fun ls hl => ?_)
  refine lv_iconst (v := 0) hx hb dX8_isEven_2 (by decide) ?_
  refine lv_istore (lv' := [(4, .int 0), (3, .int 1), (0, .ref (R 0)), (1, .long (lN z))]) hx hb dX8_isEven_3 hl (by decide) rfl (fun ls hl => ?_)
  have K5 : ∀ (kn : Nat) (i : Nat) (x : Int32) (ls : Array Slot) (H : Heap) (locs : List Loc), nv - i < kn → (i ≤ nv ∧ x = (if evn fr to i ne z then 1 else 0)) → va_P (dC, dI) vwCl (MW cI cJ cZ R (I, A, B)) H → va_D Aa (MW cI cJ cZ R (I, A, B)) → va_S Aa s.heap H locs → lv_has ls 5 [(0, .ref (R 0)), (1, .long (lN z)), (3, .int x), (4, .int (nI i))] → W p l e (ctR (1, 30)) s m #[.ref (R 0), .long (lN z)] below meth c H locs 0 0 Q (F0 m 5 ls []) := by
    intro kn
    induction kn with
    | zero => intro i x ls H locs hmu; exact absurd hmu (Nat.not_lt_zero _)
    | succ kn ih5 =>
      intro i x ls H locs mu5 inv5 hP hD hS hl
      obtain ⟨hi, ex⟩ := inv5
      refine lv_iload hx hb dX8_isEven_5 (lv_at hl 3 rfl) ?_
      refine lv_aload_n hx hb dX8_isEven_7 rfl (lv_at hl 0 rfl) ?_
      refine va_get (D := (dC, dI)) (ci := 8) (v := .int (I 1)) (C := RX8) (T := TX8) (N := 20) hx hb hts hinX8 hown hK hP 0 rfl rfl 1 (by decide) hf7 (fun _ h9 => h9) rfl dX8_isEven_8 ?_
      refine lv_icmp_ge (tgt := 42) hx hb dX8_isEven_11 (by decide) (fun c11 => ?_) (fun c11 => ?_)
      · -- 11 taken
        rw [g4, nI_leI (by omega) (by omega)] at c11
        have hge : i = nv := by omega
        rw [hge] at ex
        refine lv_iload_n hx hb dX8_isEven_42 rfl (lv_at hl 2 rfl) ?_
        refine hret 43 ls _ _ x (I, A, B) dX8_isEven_43 (by rw [ex]; split <;> rfl) ?_ hP hD hS
        try dsimp only
        exact ⟨ex, rfl⟩
      · -- 11 not
        rw [g4, nI_leI (by omega) (by omega)] at c11
        refine lv_iload_n hx hb dX8_isEven_14 rfl (lv_at hl 2 rfl) ?_
        refine lv_if_eq (tgt := 34) hx hb dX8_isEven_15 (by decide) (fun c15 => ?_) (fun c15 => ?_)
        · -- 15 taken
          have c15 : ¬ evn fr to i ne z := fun h => by rw [ex, if_pos h] at c15; exact absurd c15 (by decide)
          refine lv_iconst (v := 0) hx hb dX8_isEven_34 (by decide) ?_
          refine lv_istore_n (lv' := [(3, .int 0), (0, .ref (R 0)), (1, .long (lN z)), (4, .int (nI i))]) hx hb dX8_isEven_35 rfl hl (by decide) rfl (fun ls hl => ?_)
          obtain ⟨x36, ex36⟩ : ∃ y : Int32, y = nI i + (1) := ⟨_, rfl⟩
          refine lv_iinc (v := x36) (lv' := [(4, .int x36), (3, .int 0), (0, .ref (R 0)), (1, .long (lN z))]) hx hb dX8_isEven_36 hl (k := 3) rfl (by rw [ex36]; rfl) (by decide) rfl (fun ls hl => ?_)
          have ex36 : x36 = nI (i + 1) := by rw [ex36]; exact nI_1 i
          subst ex36
          refine lv_goto (tgt := 5) hx hb dX8_isEven_39 (by decide) ?_
          exact ih5 (i + 1) 0 ls _ _ (by omega) ⟨by omega, by rw [if_neg (fun h => c15 (fun v hv => h v (by omega)))]⟩ hP hD hS (lv_sub hl [2, 3, 1, 0] rfl)
        · -- 15 not
          have c15 : evn fr to i ne z := Classical.byContradiction (fun h => by rw [ex, if_neg h] at c15; exact c15 rfl)
          refine lv_aload_n hx hb dX8_isEven_18 rfl (lv_at hl 0 rfl) ?_
          refine lv_lload_n hx hb dX8_isEven_19 rfl (lv_at hl 1 rfl) ?_
          refine lv_iload hx hb dX8_isEven_20 (lv_at hl 3 rfl) ?_
          refine ct_calli hD hS hA (va_runV (As := [.long (lN z), .int (nI i)]) (rest := []) F ((k_X8_endsAt l dC dI cI cJ cZ cII cJJ R I A B nv ne fr to wt z i g hz (by omega)) _) (cwV 2 hts gX8_isEven_X8_endsAt rfl rfl rfl (by decide +kernel) ⟨(Nat.le_of_ble_eq_true rfl), (Nat.le_of_ble_eq_true rfl)⟩) (ct_preV 0 8 hK hN hP hD rfl rfl) rfl rfl hl.1 rfl (lv_room (Nat.le_of_ble_eq_true rfl)) dX8_isEven_22 ⟨(Nat.le_of_ble_eq_true rfl), (Nat.le_of_ble_eq_true rfl)⟩) (fun r22 u22 H locs w22 hP hD hS => ?_)
          obtain ⟨w22, rfl⟩ := w22
          have hdl := dg_le fr to z i ne
          refine lv_iconst (v := 2) hx hb dX8_isEven_25 (by decide) ?_
          refine lv_irem hx hb dX8_isEven_26 (by decide) ?_
          refine lv_topi (fun x26 ex26 => ?_)
          refine lv_if_ne (tgt := 34) hx hb dX8_isEven_27 (by decide) (fun c27 => ?_) (fun c27 => ?_)
          · -- 27 taken
            rw [ex26, w22, nm_rem2 (by omega)] at c27
            have c27 : ¬ dg fr to z ne i % 2 = 0 := fun h => c27 (by rw [h]; rfl)
            refine lv_iconst (v := 0) hx hb dX8_isEven_34 (by decide) ?_
            refine lv_istore_n (lv' := [(3, .int 0), (0, .ref (R 0)), (1, .long (lN z)), (4, .int (nI i))]) hx hb dX8_isEven_35 rfl hl (by decide) rfl (fun ls hl => ?_)
            obtain ⟨x36, ex36⟩ : ∃ y : Int32, y = nI i + (1) := ⟨_, rfl⟩
            refine lv_iinc (v := x36) (lv' := [(4, .int x36), (3, .int 0), (0, .ref (R 0)), (1, .long (lN z))]) hx hb dX8_isEven_36 hl (k := 3) rfl (by rw [ex36]; rfl) (by decide) rfl (fun ls hl => ?_)
            have ex36 : x36 = nI (i + 1) := by rw [ex36]; exact nI_1 i
            subst ex36
            refine lv_goto (tgt := 5) hx hb dX8_isEven_39 (by decide) ?_
            exact ih5 (i + 1) 0 ls _ _ (by omega) ⟨by omega, by rw [if_neg (fun h => c27 (h i (by omega)))]⟩ hP hD hS (lv_sub hl [2, 3, 1, 0] rfl)
          · -- 27 not
            rw [ex26, w22, nm_rem2 (by omega)] at c27
            have c27 : dg fr to z ne i % 2 = 0 := (nI_eq (b := 0) (by omega) (by omega)).mp c27
            refine lv_iconst (v := 1) hx hb dX8_isEven_30 (by decide) ?_
            refine lv_goto (tgt := 35) hx hb dX8_isEven_31 (by decide) ?_
            refine lv_istore_n (lv' := [(3, .int 1), (0, .ref (R 0)), (1, .long (lN z)), (4, .int (nI i))]) hx hb dX8_isEven_35 rfl hl (by decide) rfl (fun ls hl => ?_)
            obtain ⟨x36, ex36⟩ : ∃ y : Int32, y = nI i + (1) := ⟨_, rfl⟩
            refine lv_iinc (v := x36) (lv' := [(4, .int x36), (3, .int 1), (0, .ref (R 0)), (1, .long (lN z))]) hx hb dX8_isEven_36 hl (k := 3) rfl (by rw [ex36]; rfl) (by decide) rfl (fun ls hl => ?_)
            have ex36 : x36 = nI (i + 1) := by rw [ex36]; exact nI_1 i
            subst ex36
            refine lv_goto (tgt := 5) hx hb dX8_isEven_39 (by decide) ?_
            exact ih5 (i + 1) 1 ls _ _ (by omega) ⟨by omega, by rw [if_pos (bll_succ.mpr ⟨c15, c27⟩)]⟩ hP hD hS (lv_sub hl [2, 3, 1, 0] rfl)
  exact K5 _ 0 1 ls _ _ (Nat.lt_succ_self _) ⟨by omega, by rw [if_pos (fun v hv => absurd hv (Nat.not_lt_zero _))]⟩ hP hD hS (lv_sub hl [2, 3, 1, 0] rfl)
