set_option maxHeartbeats 4000000 in
set_option maxRecDepth 100000 in
theorem k_X0_paths0 (l : Launch) (dC : Nat → ClassId) (dI : Nat → Nat → Nat) (cI cJ cZ cII cJJ : ClassId) (R : Nat → Nat) (I : Nat → Int32) (A : Nat → Nat → Int32) (B : Nat → Nat → Int64) (C : Nat → Nat → Int32) (T : Nat → Nat → Int64) (bw : Nat → Nat → Nat) (a en sn : Nat) (hC : rC2 C bw) (ha : a < 16) (hen : en < 16) (hsn : sn < 2 ^ 16) : ctI l (dC, dI) (tyL cI cJ cZ cII cJJ) (HW cI cJ cII cJJ R) yX0_paths wsX0_paths (0, 0) [.ref (R 22), .int (nI a), .int (nI en), .int (nI sn), .int 16] (I, A, B, C, T) (fun r u => r = nI (pth bw en 0 a sn) ∧ u = (I, A, B, C, T)) := by
  refine ctI_intro (cc := cX0_paths) (maxL := 7) (by decide) rfl (Nat.le_of_ble_eq_true rfl) ?_
  intro p e s m below meth c ls Aa Q F hK hN hP hD hS hA hl hret
  have hx := F.1
  have hb := F.2.1
  have hown : s.vm.findClass RX0 = some m.cls := F.2.2.2.1
  have hts := F.2.2.2.2
  have hl : lv_has ls 7 [(0, .ref (R 22)), (1, .int (nI a)), (2, .int (nI en)), (3, .int (nI sn)), (4, .int 16)] := hl
  refine lv_iload_n hx hb dX0_paths_0 rfl (lv_at hl 1 rfl) ?_
  refine lv_iload_n hx hb dX0_paths_1 rfl (lv_at hl 2 rfl) ?_
  refine lv_icmp_ne (tgt := 7) hx hb dX0_paths_2 (by decide) (fun c2 => ?_) (fun c2 => ?_)
  · -- 2 taken
    have c2 : ¬ a = en := fun h => c2 (by rw [h])
    refine lv_iload hx hb dX0_paths_7 (lv_at hl 4 rfl) ?_
    refine lv_bipush (v := 16) hx hb dX0_paths_9 (by decide) ?_
    refine lv_icmp_lt (tgt := 16) hx hb dX0_paths_11 (by decide) (fun c11 => ?_) (fun c11 => ?_)
    · exact absurd c11 (by decide)
    · -- 11 not
      refine lv_iconst (v := 0) hx hb dX0_paths_14 (by decide) ?_
      refine hret 15 ls _ _ 0 (I, A, B, C, T) dX0_paths_15 rfl ?_ hP hD hS
      try dsimp only
      exact ⟨by rw [pth_0 c2]; rfl, rfl⟩
  · -- 2 not
    have c2 : a = en := (nI_eq (by omega) (by omega)).mp c2
    refine lv_iconst (v := 1) hx hb dX0_paths_5 (by decide) ?_
    refine hret 6 ls _ _ 1 (I, A, B, C, T) dX0_paths_6 rfl ?_ hP hD hS
    try dsimp only
    exact ⟨by rw [c2, pth_end]; rfl, rfl⟩
set_option maxHeartbeats 4000000 in
set_option maxRecDepth 100000 in
theorem k_X0_paths1 (l : Launch) (dC : Nat → ClassId) (dI : Nat → Nat → Nat) (cI cJ cZ cII cJJ : ClassId) (R : Nat → Nat) (I : Nat → Int32) (A : Nat → Nat → Int32) (B : Nat → Nat → Int64) (C : Nat → Nat → Int32) (T : Nat → Nat → Int64) (bw : Nat → Nat → Nat) (a en sn : Nat) (hC : rC2 C bw) (ha : a < 16) (hen : en < 16) (hsn : sn < 2 ^ 16) : ctI l (dC, dI) (tyL cI cJ cZ cII cJJ) (HW cI cJ cII cJJ R) yX0_paths wsX0_paths (1, 40) [.ref (R 22), .int (nI a), .int (nI en), .int (nI sn), .int 15] (I, A, B, C, T) (fun r u => r = nI (pth bw en 1 a sn) ∧ u = (I, A, B, C, T)) := by
  refine ctI_intro (cc := cX0_paths) (maxL := 7) (by decide) rfl (Nat.le_of_ble_eq_true rfl) ?_
  intro p e s m below meth c ls Aa Q F hK hN hP hD hS hA hl hret
  have hx := F.1
  have hb := F.2.1
  have hown : s.vm.findClass RX0 = some m.cls := F.2.2.2.1
  have hts := F.2.2.2.2
  have hl : lv_has ls 7 [(0, .ref (R 22)), (1, .int (nI a)), (2, .int (nI en)), (3, .int (nI sn)), (4, .int 15)] := hl
  refine lv_iload_n hx hb dX0_paths_0 rfl (lv_at hl 1 rfl) ?_
  refine lv_iload_n hx hb dX0_paths_1 rfl (lv_at hl 2 rfl) ?_
  refine lv_icmp_ne (tgt := 7) hx hb dX0_paths_2 (by decide) (fun c2 => ?_) (fun c2 => ?_)
  · -- 2 taken
    have c2 : ¬ a = en := fun h => c2 (by rw [h])
    refine lv_iload hx hb dX0_paths_7 (lv_at hl 4 rfl) ?_
    refine lv_bipush (v := 16) hx hb dX0_paths_9 (by decide) ?_
    refine lv_icmp_lt (tgt := 16) hx hb dX0_paths_11 (by decide) (fun c11 => ?_) (fun c11 => ?_)
    · -- 11 taken
      refine lv_iconst (v := 0) hx hb dX0_paths_16 (by decide) ?_
      refine lv_istore (lv' := [(5, .int 0), (0, .ref (R 22)), (1, .int (nI a)), (2, .int (nI en)), (3, .int (nI sn)), (4, .int 15)]) hx hb dX0_paths_17 hl (by decide) rfl (fun ls hl => ?_)
      refine lv_iconst (v := 0) hx hb dX0_paths_19 (by decide) ?_
      refine lv_istore (lv' := [(6, .int 0), (5, .int 0), (0, .ref (R 22)), (1, .int (nI a)), (2, .int (nI en)), (3, .int (nI sn)), (4, .int 15)]) hx hb dX0_paths_20 hl (by decide) rfl (fun ls hl => ?_)
      have K22 : ∀ (kn : Nat) (v : Nat) (y5 : Int32) (ls : Array Slot) (H : Heap) (locs : List Loc), 16 - v < kn → (v ≤ 16 ∧ y5 = nI (pthS bw en 0 a sn v)) → va_P (dC, dI) vwCl (HW cI cJ cII cJJ R (I, A, B, C, T)) H → va_D Aa (HW cI cJ cII cJJ R (I, A, B, C, T)) → va_S Aa s.heap H locs → lv_has ls 7 [(0, .ref (R 22)), (1, .int (nI a)), (2, .int (nI en)), (3, .int (nI sn)), (4, .int 15), (5, .int y5), (6, .int (nI v))] → W p l e (ctR (1, 40)) s m #[.ref (R 22), .int (nI a), .int (nI en), .int (nI sn), .int 15] below meth c H locs 0 0 Q (F0 m 22 ls []) := by
        intro kn
        induction kn with
        | zero => intro v y5 ls H locs hmu; exact absurd hmu (Nat.not_lt_zero _)
        | succ kn ih22 =>
          intro v y5 ls H locs mu22 inv22 hP hD hS hl
          obtain ⟨hv16, hy5⟩ := inv22
          refine lv_iload hx hb dX0_paths_22 (lv_at hl 6 rfl) ?_
          refine lv_bipush (v := 16) hx hb dX0_paths_24 (by decide) ?_
          refine lv_icmp_ge (tgt := 82) hx hb dX0_paths_26 (by decide) (fun c26 => ?_) (fun c26 => ?_)
          · -- 26 taken
            have hge : v = 16 := by have := (nI_leI (a := 16) (by omega) (by omega)).mp c26; omega
            refine lv_iload hx hb dX0_paths_82 (lv_at hl 5 rfl) ?_
            refine hret 84 ls _ _ y5 (I, A, B, C, T) dX0_paths_84 rfl ?_ hP hD hS
            try dsimp only
            exact ⟨by rw [hy5, pth_s c2, hge], rfl⟩
          · -- 26 not
            have hv : v < 16 := Nat.lt_of_not_le (fun h => c26 (nI_le (a := 16) h (by omega)))
            have vcl : (nI v).toNatClampNeg = v := nI_clamp (by omega)
            have hbwl := (hC a v ha hv).2
            refine lv_aload_n hx hb dX0_paths_29 rfl (lv_at hl 0 rfl) ?_
            refine lv_iload_n hx hb dX0_paths_30 rfl (lv_at hl 1 rfl) ?_
            refine va_aldr hx hb hK hP 22 3 rfl rfl (vp_in_nI ha (by decide)) dX0_paths_31 ?_
            rw [go_ref (R := R) (b := 200) ha]
            refine lv_iload hx hb dX0_paths_32 (lv_at hl 6 rfl) ?_
            have h34 : vp_in (nI v) 16 := vp_in_nI hv (by decide)
            refine va_iald hx hb hK hP (39 + a) 0 (hw_C ha) rfl h34 dX0_paths_34 ?_
            refine lv_topi (fun x34 ex34 => ?_)
            have ex34 : x34 = C a (nI v).toNatClampNeg := ex34
            have ex34 : x34 = nI (bw a v) := by rw [ex34, vcl]; exact (hC a v ha hv).1
            subst ex34
            refine lv_if_eq (tgt := 76) hx hb dX0_paths_35 (by decide) (fun c35 => ?_) (fun c35 => ?_)
            · -- 35 taken
              have c35 : bw a v = 0 := (nI_eq (b := 0) hbwl (by decide)).mp c35
              obtain ⟨x76, ex76⟩ : ∃ zz : Int32, zz = nI v + (1) := ⟨_, rfl⟩
              refine lv_iinc (v := x76) (lv' := [(6, .int x76), (0, .ref (R 22)), (1, .int (nI a)), (2, .int (nI en)), (3, .int (nI sn)), (4, .int 15), (5, .int y5)]) hx hb dX0_paths_76 hl (k := 6) rfl (by rw [ex76]; rfl) (by decide) rfl (fun ls hl => ?_)
              have ex76 : x76 = nI (v + 1) := by rw [ex76]; exact nI_1 v
              subst ex76
              refine lv_goto (tgt := 22) hx hb dX0_paths_79 (by decide) ?_
              exact ih22 (v + 1) y5 ls _ _ (by omega) ⟨by omega, by rw [pthS_n (fun h => h.1 c35)]; exact hy5⟩ hP hD hS (lv_sub hl [1, 2, 3, 4, 5, 6, 0] rfl)
            · -- 35 not
              have c35 : bw a v ≠ 0 := fun h => c35 (by rw [h]; rfl)
              refine lv_iload_n hx hb dX0_paths_38 rfl (lv_at hl 3 rfl) ?_
              refine lv_iload hx hb dX0_paths_39 (lv_at hl 6 rfl) ?_
              refine lv_ishr hx hb dX0_paths_41 ?_
              refine lv_topi (fun x41 ex41 => ?_)
              refine lv_iconst (v := 1) hx hb dX0_paths_42 (by decide) ?_
              refine lv_iand hx hb dX0_paths_43 ?_
              refine lv_topi (fun x43 ex43 => ?_)
              have ex43 : x43 = nI (if sn.testBit v then 1 else 0) := by rw [ex43, ex41]; exact nm_ibit (by omega) (by omega)
              subst ex43
              refine lv_if_ne (tgt := 76) hx hb dX0_paths_44 (by decide) (fun c44 => ?_) (fun c44 => ?_)
              · -- 44 taken
                have c44 : ¬ sn.testBit v = false := fun h => c44 (by rw [h]; rfl)
                obtain ⟨x76, ex76⟩ : ∃ zz : Int32, zz = nI v + (1) := ⟨_, rfl⟩
                refine lv_iinc (v := x76) (lv' := [(6, .int x76), (0, .ref (R 22)), (1, .int (nI a)), (2, .int (nI en)), (3, .int (nI sn)), (4, .int 15), (5, .int y5)]) hx hb dX0_paths_76 hl (k := 6) rfl (by rw [ex76]; rfl) (by decide) rfl (fun ls hl => ?_)
                have ex76 : x76 = nI (v + 1) := by rw [ex76]; exact nI_1 v
                subst ex76
                refine lv_goto (tgt := 22) hx hb dX0_paths_79 (by decide) ?_
                exact ih22 (v + 1) y5 ls _ _ (by omega) ⟨by omega, by rw [pthS_n (fun h => c44 h.2)]; exact hy5⟩ hP hD hS (lv_sub hl [1, 2, 3, 4, 5, 6, 0] rfl)
              · -- 44 not
                have c44 : sn.testBit v = false := bool_f (fun h => by rw [h] at c44; exact absurd c44 (by decide))
                have hsn2 : sn ||| 2 ^ v < 2 ^ 16 := Nat.or_lt_two_pow hsn (Nat.pow_lt_pow_right (by omega) hv)
                refine lv_iload hx hb dX0_paths_47 (lv_at hl 5 rfl) ?_
                refine lv_aload_n hx hb dX0_paths_49 rfl (lv_at hl 0 rfl) ?_
                refine lv_iload_n hx hb dX0_paths_50 rfl (lv_at hl 1 rfl) ?_
                refine va_aldr hx hb hK hP 22 3 rfl rfl (vp_in_nI ha (by decide)) dX0_paths_51 ?_
                rw [go_ref (R := R) (b := 200) ha]
                refine lv_iload hx hb dX0_paths_52 (lv_at hl 6 rfl) ?_
                have h54 : vp_in (nI v) 16 := vp_in_nI hv (by decide)
                refine va_iald hx hb hK hP (39 + a) 0 (hw_C ha) rfl h54 dX0_paths_54 ?_
                refine lv_topi (fun x54 ex54 => ?_)
                have ex54 : x54 = C a (nI v).toNatClampNeg := ex54
                have ex54 : x54 = nI (bw a v) := by rw [ex54, vcl]; exact (hC a v ha hv).1
                subst ex54
                refine lv_aload_n hx hb dX0_paths_55 rfl (lv_at hl 0 rfl) ?_
                refine lv_iload hx hb dX0_paths_56 (lv_at hl 6 rfl) ?_
                refine lv_iload_n hx hb dX0_paths_58 rfl (lv_at hl 2 rfl) ?_
                refine lv_iload_n hx hb dX0_paths_59 rfl (lv_at hl 3 rfl) ?_
                refine lv_iconst (v := 1) hx hb dX0_paths_60 (by decide) ?_
                refine lv_iload hx hb dX0_paths_61 (lv_at hl 6 rfl) ?_
                refine lv_ishl hx hb dX0_paths_63 ?_
                refine lv_topi (fun x63 ex63 => ?_)
                have ex63 : x63 = nI (2 ^ v) := by rw [ex63]; exact nm_ishl (by omega)
                subst ex63
                refine lv_ior hx hb dX0_paths_64 ?_
                refine lv_topi (fun x64 ex64 => ?_)
                have ex64 : x64 = nI (sn ||| 2 ^ v) := by rw [ex64]; exact nI_orr _ _
                subst ex64
                refine lv_iload hx hb dX0_paths_65 (lv_at hl 4 rfl) ?_
                refine lv_iconst (v := 1) hx hb dX0_paths_67 (by decide) ?_
                refine lv_iadd hx hb dX0_paths_68 ?_
                refine lv_topi (fun x68 ex68 => ?_)
                have ex68 : x68 = 16 := by rw [ex68]; rfl
                subst ex68
                refine ct_calli hD hS hA (va_runS (As := [.ref (R 22), .int (nI v), .int (nI en), .int (nI (sn ||| 2 ^ v)), .int 16]) (rest := [.int (nI (bw a v)), .int y5]) F ((k_X0_paths0 l dC dI cI cJ cZ cII cJJ R I A B C T bw v en (sn ||| 2 ^ v) hC hv hen hsn2) _) (va_cwS 5 hts gX0_paths_X0_paths rfl rfl rfl (by decide +kernel) ⟨(Nat.le_of_ble_eq_true rfl), (Nat.le_of_ble_eq_true rfl)⟩) (ct_preS hK hN hP hD) rfl rfl hl.1 rfl (lv_room (Nat.le_of_ble_eq_true rfl)) dX0_paths_69 ⟨(Nat.le_of_ble_eq_true rfl), (Nat.le_of_ble_eq_true rfl)⟩) (fun r69 u69 H locs w69 hP hD hS => ?_)
                obtain ⟨w69, rfl⟩ := w69
                refine lv_imul hx hb dX0_paths_72 ?_
                refine lv_topi (fun x72 ex72 => ?_)
                have ex72 : x72 = nI (bw a v * pth bw en 0 v (sn ||| 2 ^ v)) := by rw [ex72, w69]; exact nI_ml _ _
                subst ex72
                refine lv_iadd hx hb dX0_paths_73 ?_
                refine lv_topi (fun x73 ex73 => ?_)
                have ex73 : x73 = nI (pthS bw en 0 a sn (v + 1)) := by rw [ex73, hy5, pthS_y c35 c44]; exact nI_add _ _
                subst ex73
                refine lv_istore (lv' := [(5, .int (nI (pthS bw en 0 a sn (v + 1)))), (0, .ref (R 22)), (1, .int (nI a)), (2, .int (nI en)), (3, .int (nI sn)), (4, .int 15), (6, .int (nI v))]) hx hb dX0_paths_74 hl (by decide) rfl (fun ls hl => ?_)
                obtain ⟨x76, ex76⟩ : ∃ zz : Int32, zz = nI v + (1) := ⟨_, rfl⟩
                refine lv_iinc (v := x76) (lv' := [(6, .int x76), (5, .int (nI (pthS bw en 0 a sn (v + 1)))), (0, .ref (R 22)), (1, .int (nI a)), (2, .int (nI en)), (3, .int (nI sn)), (4, .int 15)]) hx hb dX0_paths_76 hl (k := 6) rfl (by rw [ex76]; rfl) (by decide) rfl (fun ls hl => ?_)
                have ex76 : x76 = nI (v + 1) := by rw [ex76]; exact nI_1 v
                subst ex76
                refine lv_goto (tgt := 22) hx hb dX0_paths_79 (by decide) ?_
                exact ih22 (v + 1) (nI (pthS bw en 0 a sn (v + 1))) ls _ _ (by omega) ⟨by omega, rfl⟩ hP hD hS (lv_sub hl [2, 3, 4, 5, 6, 1, 0] rfl)
      exact K22 _ 0 0 ls _ _ (Nat.lt_succ_self _) ⟨Nat.zero_le _, rfl⟩ hP hD hS (lv_sub hl [2, 3, 4, 5, 6, 1, 0] rfl)
    · exact absurd c11 (by decide)
  · -- 2 not
    have c2 : a = en := (nI_eq (by omega) (by omega)).mp c2
    refine lv_iconst (v := 1) hx hb dX0_paths_5 (by decide) ?_
    refine hret 6 ls _ _ 1 (I, A, B, C, T) dX0_paths_6 rfl ?_ hP hD hS
    try dsimp only
    exact ⟨by rw [c2, pth_end]; rfl, rfl⟩
set_option maxHeartbeats 4000000 in
set_option maxRecDepth 100000 in
theorem k_X0_paths2 (l : Launch) (dC : Nat → ClassId) (dI : Nat → Nat → Nat) (cI cJ cZ cII cJJ : ClassId) (R : Nat → Nat) (I : Nat → Int32) (A : Nat → Nat → Int32) (B : Nat → Nat → Int64) (C : Nat → Nat → Int32) (T : Nat → Nat → Int64) (bw : Nat → Nat → Nat) (a en sn : Nat) (hC : rC2 C bw) (ha : a < 16) (hen : en < 16) (hsn : sn < 2 ^ 16) : ctI l (dC, dI) (tyL cI cJ cZ cII cJJ) (HW cI cJ cII cJJ R) yX0_paths wsX0_paths (2, 80) [.ref (R 22), .int (nI a), .int (nI en), .int (nI sn), .int 14] (I, A, B, C, T) (fun r u => r = nI (pth bw en 2 a sn) ∧ u = (I, A, B, C, T)) := by
  refine ctI_intro (cc := cX0_paths) (maxL := 7) (by decide) rfl (Nat.le_of_ble_eq_true rfl) ?_
  intro p e s m below meth c ls Aa Q F hK hN hP hD hS hA hl hret
  have hx := F.1
  have hb := F.2.1
  have hown : s.vm.findClass RX0 = some m.cls := F.2.2.2.1
  have hts := F.2.2.2.2
  have hl : lv_has ls 7 [(0, .ref (R 22)), (1, .int (nI a)), (2, .int (nI en)), (3, .int (nI sn)), (4, .int 14)] := hl
  refine lv_iload_n hx hb dX0_paths_0 rfl (lv_at hl 1 rfl) ?_
  refine lv_iload_n hx hb dX0_paths_1 rfl (lv_at hl 2 rfl) ?_
  refine lv_icmp_ne (tgt := 7) hx hb dX0_paths_2 (by decide) (fun c2 => ?_) (fun c2 => ?_)
  · -- 2 taken
    have c2 : ¬ a = en := fun h => c2 (by rw [h])
    refine lv_iload hx hb dX0_paths_7 (lv_at hl 4 rfl) ?_
    refine lv_bipush (v := 16) hx hb dX0_paths_9 (by decide) ?_
    refine lv_icmp_lt (tgt := 16) hx hb dX0_paths_11 (by decide) (fun c11 => ?_) (fun c11 => ?_)
    · -- 11 taken
      refine lv_iconst (v := 0) hx hb dX0_paths_16 (by decide) ?_
      refine lv_istore (lv' := [(5, .int 0), (0, .ref (R 22)), (1, .int (nI a)), (2, .int (nI en)), (3, .int (nI sn)), (4, .int 14)]) hx hb dX0_paths_17 hl (by decide) rfl (fun ls hl => ?_)
      refine lv_iconst (v := 0) hx hb dX0_paths_19 (by decide) ?_
      refine lv_istore (lv' := [(6, .int 0), (5, .int 0), (0, .ref (R 22)), (1, .int (nI a)), (2, .int (nI en)), (3, .int (nI sn)), (4, .int 14)]) hx hb dX0_paths_20 hl (by decide) rfl (fun ls hl => ?_)
      have K22 : ∀ (kn : Nat) (v : Nat) (y5 : Int32) (ls : Array Slot) (H : Heap) (locs : List Loc), 16 - v < kn → (v ≤ 16 ∧ y5 = nI (pthS bw en 1 a sn v)) → va_P (dC, dI) vwCl (HW cI cJ cII cJJ R (I, A, B, C, T)) H → va_D Aa (HW cI cJ cII cJJ R (I, A, B, C, T)) → va_S Aa s.heap H locs → lv_has ls 7 [(0, .ref (R 22)), (1, .int (nI a)), (2, .int (nI en)), (3, .int (nI sn)), (4, .int 14), (5, .int y5), (6, .int (nI v))] → W p l e (ctR (2, 80)) s m #[.ref (R 22), .int (nI a), .int (nI en), .int (nI sn), .int 14] below meth c H locs 0 0 Q (F0 m 22 ls []) := by
        intro kn
        induction kn with
        | zero => intro v y5 ls H locs hmu; exact absurd hmu (Nat.not_lt_zero _)
        | succ kn ih22 =>
          intro v y5 ls H locs mu22 inv22 hP hD hS hl
          obtain ⟨hv16, hy5⟩ := inv22
          refine lv_iload hx hb dX0_paths_22 (lv_at hl 6 rfl) ?_
          refine lv_bipush (v := 16) hx hb dX0_paths_24 (by decide) ?_
          refine lv_icmp_ge (tgt := 82) hx hb dX0_paths_26 (by decide) (fun c26 => ?_) (fun c26 => ?_)
          · -- 26 taken
            have hge : v = 16 := by have := (nI_leI (a := 16) (by omega) (by omega)).mp c26; omega
            refine lv_iload hx hb dX0_paths_82 (lv_at hl 5 rfl) ?_
            refine hret 84 ls _ _ y5 (I, A, B, C, T) dX0_paths_84 rfl ?_ hP hD hS
            try dsimp only
            exact ⟨by rw [hy5, pth_s c2, hge], rfl⟩
          · -- 26 not
            have hv : v < 16 := Nat.lt_of_not_le (fun h => c26 (nI_le (a := 16) h (by omega)))
            have vcl : (nI v).toNatClampNeg = v := nI_clamp (by omega)
            have hbwl := (hC a v ha hv).2
            refine lv_aload_n hx hb dX0_paths_29 rfl (lv_at hl 0 rfl) ?_
            refine lv_iload_n hx hb dX0_paths_30 rfl (lv_at hl 1 rfl) ?_
            refine va_aldr hx hb hK hP 22 3 rfl rfl (vp_in_nI ha (by decide)) dX0_paths_31 ?_
            rw [go_ref (R := R) (b := 200) ha]
            refine lv_iload hx hb dX0_paths_32 (lv_at hl 6 rfl) ?_
            have h34 : vp_in (nI v) 16 := vp_in_nI hv (by decide)
            refine va_iald hx hb hK hP (39 + a) 0 (hw_C ha) rfl h34 dX0_paths_34 ?_
            refine lv_topi (fun x34 ex34 => ?_)
            have ex34 : x34 = C a (nI v).toNatClampNeg := ex34
            have ex34 : x34 = nI (bw a v) := by rw [ex34, vcl]; exact (hC a v ha hv).1
            subst ex34
            refine lv_if_eq (tgt := 76) hx hb dX0_paths_35 (by decide) (fun c35 => ?_) (fun c35 => ?_)
            · -- 35 taken
              have c35 : bw a v = 0 := (nI_eq (b := 0) hbwl (by decide)).mp c35
              obtain ⟨x76, ex76⟩ : ∃ zz : Int32, zz = nI v + (1) := ⟨_, rfl⟩
              refine lv_iinc (v := x76) (lv' := [(6, .int x76), (0, .ref (R 22)), (1, .int (nI a)), (2, .int (nI en)), (3, .int (nI sn)), (4, .int 14), (5, .int y5)]) hx hb dX0_paths_76 hl (k := 6) rfl (by rw [ex76]; rfl) (by decide) rfl (fun ls hl => ?_)
              have ex76 : x76 = nI (v + 1) := by rw [ex76]; exact nI_1 v
              subst ex76
              refine lv_goto (tgt := 22) hx hb dX0_paths_79 (by decide) ?_
              exact ih22 (v + 1) y5 ls _ _ (by omega) ⟨by omega, by rw [pthS_n (fun h => h.1 c35)]; exact hy5⟩ hP hD hS (lv_sub hl [1, 2, 3, 4, 5, 6, 0] rfl)
            · -- 35 not
              have c35 : bw a v ≠ 0 := fun h => c35 (by rw [h]; rfl)
              refine lv_iload_n hx hb dX0_paths_38 rfl (lv_at hl 3 rfl) ?_
              refine lv_iload hx hb dX0_paths_39 (lv_at hl 6 rfl) ?_
              refine lv_ishr hx hb dX0_paths_41 ?_
              refine lv_topi (fun x41 ex41 => ?_)
              refine lv_iconst (v := 1) hx hb dX0_paths_42 (by decide) ?_
              refine lv_iand hx hb dX0_paths_43 ?_
              refine lv_topi (fun x43 ex43 => ?_)
              have ex43 : x43 = nI (if sn.testBit v then 1 else 0) := by rw [ex43, ex41]; exact nm_ibit (by omega) (by omega)
              subst ex43
              refine lv_if_ne (tgt := 76) hx hb dX0_paths_44 (by decide) (fun c44 => ?_) (fun c44 => ?_)
              · -- 44 taken
                have c44 : ¬ sn.testBit v = false := fun h => c44 (by rw [h]; rfl)
                obtain ⟨x76, ex76⟩ : ∃ zz : Int32, zz = nI v + (1) := ⟨_, rfl⟩
                refine lv_iinc (v := x76) (lv' := [(6, .int x76), (0, .ref (R 22)), (1, .int (nI a)), (2, .int (nI en)), (3, .int (nI sn)), (4, .int 14), (5, .int y5)]) hx hb dX0_paths_76 hl (k := 6) rfl (by rw [ex76]; rfl) (by decide) rfl (fun ls hl => ?_)
                have ex76 : x76 = nI (v + 1) := by rw [ex76]; exact nI_1 v
                subst ex76
                refine lv_goto (tgt := 22) hx hb dX0_paths_79 (by decide) ?_
                exact ih22 (v + 1) y5 ls _ _ (by omega) ⟨by omega, by rw [pthS_n (fun h => c44 h.2)]; exact hy5⟩ hP hD hS (lv_sub hl [1, 2, 3, 4, 5, 6, 0] rfl)
              · -- 44 not
                have c44 : sn.testBit v = false := bool_f (fun h => by rw [h] at c44; exact absurd c44 (by decide))
                have hsn2 : sn ||| 2 ^ v < 2 ^ 16 := Nat.or_lt_two_pow hsn (Nat.pow_lt_pow_right (by omega) hv)
                refine lv_iload hx hb dX0_paths_47 (lv_at hl 5 rfl) ?_
                refine lv_aload_n hx hb dX0_paths_49 rfl (lv_at hl 0 rfl) ?_
                refine lv_iload_n hx hb dX0_paths_50 rfl (lv_at hl 1 rfl) ?_
                refine va_aldr hx hb hK hP 22 3 rfl rfl (vp_in_nI ha (by decide)) dX0_paths_51 ?_
                rw [go_ref (R := R) (b := 200) ha]
                refine lv_iload hx hb dX0_paths_52 (lv_at hl 6 rfl) ?_
                have h54 : vp_in (nI v) 16 := vp_in_nI hv (by decide)
                refine va_iald hx hb hK hP (39 + a) 0 (hw_C ha) rfl h54 dX0_paths_54 ?_
                refine lv_topi (fun x54 ex54 => ?_)
                have ex54 : x54 = C a (nI v).toNatClampNeg := ex54
                have ex54 : x54 = nI (bw a v) := by rw [ex54, vcl]; exact (hC a v ha hv).1
                subst ex54
                refine lv_aload_n hx hb dX0_paths_55 rfl (lv_at hl 0 rfl) ?_
                refine lv_iload hx hb dX0_paths_56 (lv_at hl 6 rfl) ?_
                refine lv_iload_n hx hb dX0_paths_58 rfl (lv_at hl 2 rfl) ?_
                refine lv_iload_n hx hb dX0_paths_59 rfl (lv_at hl 3 rfl) ?_
                refine lv_iconst (v := 1) hx hb dX0_paths_60 (by decide) ?_
                refine lv_iload hx hb dX0_paths_61 (lv_at hl 6 rfl) ?_
                refine lv_ishl hx hb dX0_paths_63 ?_
                refine lv_topi (fun x63 ex63 => ?_)
                have ex63 : x63 = nI (2 ^ v) := by rw [ex63]; exact nm_ishl (by omega)
                subst ex63
                refine lv_ior hx hb dX0_paths_64 ?_
                refine lv_topi (fun x64 ex64 => ?_)
                have ex64 : x64 = nI (sn ||| 2 ^ v) := by rw [ex64]; exact nI_orr _ _
                subst ex64
                refine lv_iload hx hb dX0_paths_65 (lv_at hl 4 rfl) ?_
                refine lv_iconst (v := 1) hx hb dX0_paths_67 (by decide) ?_
                refine lv_iadd hx hb dX0_paths_68 ?_
                refine lv_topi (fun x68 ex68 => ?_)
                have ex68 : x68 = 15 := by rw [ex68]; rfl
                subst ex68
                refine ct_calli hD hS hA (va_runS (As := [.ref (R 22), .int (nI v), .int (nI en), .int (nI (sn ||| 2 ^ v)), .int 15]) (rest := [.int (nI (bw a v)), .int y5]) F ((k_X0_paths1 l dC dI cI cJ cZ cII cJJ R I A B C T bw v en (sn ||| 2 ^ v) hC hv hen hsn2) _) (va_cwS 5 hts gX0_paths_X0_paths rfl rfl rfl (by decide +kernel) ⟨(Nat.le_of_ble_eq_true rfl), (Nat.le_of_ble_eq_true rfl)⟩) (ct_preS hK hN hP hD) rfl rfl hl.1 rfl (lv_room (Nat.le_of_ble_eq_true rfl)) dX0_paths_69 ⟨(Nat.le_of_ble_eq_true rfl), (Nat.le_of_ble_eq_true rfl)⟩) (fun r69 u69 H locs w69 hP hD hS => ?_)
                obtain ⟨w69, rfl⟩ := w69
                refine lv_imul hx hb dX0_paths_72 ?_
                refine lv_topi (fun x72 ex72 => ?_)
                have ex72 : x72 = nI (bw a v * pth bw en 1 v (sn ||| 2 ^ v)) := by rw [ex72, w69]; exact nI_ml _ _
                subst ex72
                refine lv_iadd hx hb dX0_paths_73 ?_
                refine lv_topi (fun x73 ex73 => ?_)
                have ex73 : x73 = nI (pthS bw en 1 a sn (v + 1)) := by rw [ex73, hy5, pthS_y c35 c44]; exact nI_add _ _
                subst ex73
                refine lv_istore (lv' := [(5, .int (nI (pthS bw en 1 a sn (v + 1)))), (0, .ref (R 22)), (1, .int (nI a)), (2, .int (nI en)), (3, .int (nI sn)), (4, .int 14), (6, .int (nI v))]) hx hb dX0_paths_74 hl (by decide) rfl (fun ls hl => ?_)
                obtain ⟨x76, ex76⟩ : ∃ zz : Int32, zz = nI v + (1) := ⟨_, rfl⟩
                refine lv_iinc (v := x76) (lv' := [(6, .int x76), (5, .int (nI (pthS bw en 1 a sn (v + 1)))), (0, .ref (R 22)), (1, .int (nI a)), (2, .int (nI en)), (3, .int (nI sn)), (4, .int 14)]) hx hb dX0_paths_76 hl (k := 6) rfl (by rw [ex76]; rfl) (by decide) rfl (fun ls hl => ?_)
                have ex76 : x76 = nI (v + 1) := by rw [ex76]; exact nI_1 v
                subst ex76
                refine lv_goto (tgt := 22) hx hb dX0_paths_79 (by decide) ?_
                exact ih22 (v + 1) (nI (pthS bw en 1 a sn (v + 1))) ls _ _ (by omega) ⟨by omega, rfl⟩ hP hD hS (lv_sub hl [2, 3, 4, 5, 6, 1, 0] rfl)
      exact K22 _ 0 0 ls _ _ (Nat.lt_succ_self _) ⟨Nat.zero_le _, rfl⟩ hP hD hS (lv_sub hl [2, 3, 4, 5, 6, 1, 0] rfl)
    · exact absurd c11 (by decide)
  · -- 2 not
    have c2 : a = en := (nI_eq (by omega) (by omega)).mp c2
    refine lv_iconst (v := 1) hx hb dX0_paths_5 (by decide) ?_
    refine hret 6 ls _ _ 1 (I, A, B, C, T) dX0_paths_6 rfl ?_ hP hD hS
    try dsimp only
    exact ⟨by rw [c2, pth_end]; rfl, rfl⟩
set_option maxHeartbeats 4000000 in
set_option maxRecDepth 100000 in
theorem k_X0_paths3 (l : Launch) (dC : Nat → ClassId) (dI : Nat → Nat → Nat) (cI cJ cZ cII cJJ : ClassId) (R : Nat → Nat) (I : Nat → Int32) (A : Nat → Nat → Int32) (B : Nat → Nat → Int64) (C : Nat → Nat → Int32) (T : Nat → Nat → Int64) (bw : Nat → Nat → Nat) (a en sn : Nat) (hC : rC2 C bw) (ha : a < 16) (hen : en < 16) (hsn : sn < 2 ^ 16) : ctI l (dC, dI) (tyL cI cJ cZ cII cJJ) (HW cI cJ cII cJJ R) yX0_paths wsX0_paths (3, 120) [.ref (R 22), .int (nI a), .int (nI en), .int (nI sn), .int 13] (I, A, B, C, T) (fun r u => r = nI (pth bw en 3 a sn) ∧ u = (I, A, B, C, T)) := by
  refine ctI_intro (cc := cX0_paths) (maxL := 7) (by decide) rfl (Nat.le_of_ble_eq_true rfl) ?_
  intro p e s m below meth c ls Aa Q F hK hN hP hD hS hA hl hret
  have hx := F.1
  have hb := F.2.1
  have hown : s.vm.findClass RX0 = some m.cls := F.2.2.2.1
  have hts := F.2.2.2.2
  have hl : lv_has ls 7 [(0, .ref (R 22)), (1, .int (nI a)), (2, .int (nI en)), (3, .int (nI sn)), (4, .int 13)] := hl
  refine lv_iload_n hx hb dX0_paths_0 rfl (lv_at hl 1 rfl) ?_
  refine lv_iload_n hx hb dX0_paths_1 rfl (lv_at hl 2 rfl) ?_
  refine lv_icmp_ne (tgt := 7) hx hb dX0_paths_2 (by decide) (fun c2 => ?_) (fun c2 => ?_)
  · -- 2 taken
    have c2 : ¬ a = en := fun h => c2 (by rw [h])
    refine lv_iload hx hb dX0_paths_7 (lv_at hl 4 rfl) ?_
    refine lv_bipush (v := 16) hx hb dX0_paths_9 (by decide) ?_
    refine lv_icmp_lt (tgt := 16) hx hb dX0_paths_11 (by decide) (fun c11 => ?_) (fun c11 => ?_)
    · -- 11 taken
      refine lv_iconst (v := 0) hx hb dX0_paths_16 (by decide) ?_
      refine lv_istore (lv' := [(5, .int 0), (0, .ref (R 22)), (1, .int (nI a)), (2, .int (nI en)), (3, .int (nI sn)), (4, .int 13)]) hx hb dX0_paths_17 hl (by decide) rfl (fun ls hl => ?_)
      refine lv_iconst (v := 0) hx hb dX0_paths_19 (by decide) ?_
      refine lv_istore (lv' := [(6, .int 0), (5, .int 0), (0, .ref (R 22)), (1, .int (nI a)), (2, .int (nI en)), (3, .int (nI sn)), (4, .int 13)]) hx hb dX0_paths_20 hl (by decide) rfl (fun ls hl => ?_)
      have K22 : ∀ (kn : Nat) (v : Nat) (y5 : Int32) (ls : Array Slot) (H : Heap) (locs : List Loc), 16 - v < kn → (v ≤ 16 ∧ y5 = nI (pthS bw en 2 a sn v)) → va_P (dC, dI) vwCl (HW cI cJ cII cJJ R (I, A, B, C, T)) H → va_D Aa (HW cI cJ cII cJJ R (I, A, B, C, T)) → va_S Aa s.heap H locs → lv_has ls 7 [(0, .ref (R 22)), (1, .int (nI a)), (2, .int (nI en)), (3, .int (nI sn)), (4, .int 13), (5, .int y5), (6, .int (nI v))] → W p l e (ctR (3, 120)) s m #[.ref (R 22), .int (nI a), .int (nI en), .int (nI sn), .int 13] below meth c H locs 0 0 Q (F0 m 22 ls []) := by
        intro kn
        induction kn with
        | zero => intro v y5 ls H locs hmu; exact absurd hmu (Nat.not_lt_zero _)
        | succ kn ih22 =>
          intro v y5 ls H locs mu22 inv22 hP hD hS hl
          obtain ⟨hv16, hy5⟩ := inv22
          refine lv_iload hx hb dX0_paths_22 (lv_at hl 6 rfl) ?_
          refine lv_bipush (v := 16) hx hb dX0_paths_24 (by decide) ?_
          refine lv_icmp_ge (tgt := 82) hx hb dX0_paths_26 (by decide) (fun c26 => ?_) (fun c26 => ?_)
          · -- 26 taken
            have hge : v = 16 := by have := (nI_leI (a := 16) (by omega) (by omega)).mp c26; omega
            refine lv_iload hx hb dX0_paths_82 (lv_at hl 5 rfl) ?_
            refine hret 84 ls _ _ y5 (I, A, B, C, T) dX0_paths_84 rfl ?_ hP hD hS
            try dsimp only
            exact ⟨by rw [hy5, pth_s c2, hge], rfl⟩
          · -- 26 not
            have hv : v < 16 := Nat.lt_of_not_le (fun h => c26 (nI_le (a := 16) h (by omega)))
            have vcl : (nI v).toNatClampNeg = v := nI_clamp (by omega)
            have hbwl := (hC a v ha hv).2
            refine lv_aload_n hx hb dX0_paths_29 rfl (lv_at hl 0 rfl) ?_
            refine lv_iload_n hx hb dX0_paths_30 rfl (lv_at hl 1 rfl) ?_
            refine va_aldr hx hb hK hP 22 3 rfl rfl (vp_in_nI ha (by decide)) dX0_paths_31 ?_
            rw [go_ref (R := R) (b := 200) ha]
            refine lv_iload hx hb dX0_paths_32 (lv_at hl 6 rfl) ?_
            have h34 : vp_in (nI v) 16 := vp_in_nI hv (by decide)
            refine va_iald hx hb hK hP (39 + a) 0 (hw_C ha) rfl h34 dX0_paths_34 ?_
            refine lv_topi (fun x34 ex34 => ?_)
            have ex34 : x34 = C a (nI v).toNatClampNeg := ex34
            have ex34 : x34 = nI (bw a v) := by rw [ex34, vcl]; exact (hC a v ha hv).1
            subst ex34
            refine lv_if_eq (tgt := 76) hx hb dX0_paths_35 (by decide) (fun c35 => ?_) (fun c35 => ?_)
            · -- 35 taken
              have c35 : bw a v = 0 := (nI_eq (b := 0) hbwl (by decide)).mp c35
              obtain ⟨x76, ex76⟩ : ∃ zz : Int32, zz = nI v + (1) := ⟨_, rfl⟩
              refine lv_iinc (v := x76) (lv' := [(6, .int x76), (0, .ref (R 22)), (1, .int (nI a)), (2, .int (nI en)), (3, .int (nI sn)), (4, .int 13), (5, .int y5)]) hx hb dX0_paths_76 hl (k := 6) rfl (by rw [ex76]; rfl) (by decide) rfl (fun ls hl => ?_)
              have ex76 : x76 = nI (v + 1) := by rw [ex76]; exact nI_1 v
              subst ex76
              refine lv_goto (tgt := 22) hx hb dX0_paths_79 (by decide) ?_
              exact ih22 (v + 1) y5 ls _ _ (by omega) ⟨by omega, by rw [pthS_n (fun h => h.1 c35)]; exact hy5⟩ hP hD hS (lv_sub hl [1, 2, 3, 4, 5, 6, 0] rfl)
            · -- 35 not
              have c35 : bw a v ≠ 0 := fun h => c35 (by rw [h]; rfl)
              refine lv_iload_n hx hb dX0_paths_38 rfl (lv_at hl 3 rfl) ?_
              refine lv_iload hx hb dX0_paths_39 (lv_at hl 6 rfl) ?_
              refine lv_ishr hx hb dX0_paths_41 ?_
              refine lv_topi (fun x41 ex41 => ?_)
              refine lv_iconst (v := 1) hx hb dX0_paths_42 (by decide) ?_
              refine lv_iand hx hb dX0_paths_43 ?_
              refine lv_topi (fun x43 ex43 => ?_)
              have ex43 : x43 = nI (if sn.testBit v then 1 else 0) := by rw [ex43, ex41]; exact nm_ibit (by omega) (by omega)
              subst ex43
              refine lv_if_ne (tgt := 76) hx hb dX0_paths_44 (by decide) (fun c44 => ?_) (fun c44 => ?_)
              · -- 44 taken
                have c44 : ¬ sn.testBit v = false := fun h => c44 (by rw [h]; rfl)
                obtain ⟨x76, ex76⟩ : ∃ zz : Int32, zz = nI v + (1) := ⟨_, rfl⟩
                refine lv_iinc (v := x76) (lv' := [(6, .int x76), (0, .ref (R 22)), (1, .int (nI a)), (2, .int (nI en)), (3, .int (nI sn)), (4, .int 13), (5, .int y5)]) hx hb dX0_paths_76 hl (k := 6) rfl (by rw [ex76]; rfl) (by decide) rfl (fun ls hl => ?_)
                have ex76 : x76 = nI (v + 1) := by rw [ex76]; exact nI_1 v
                subst ex76
                refine lv_goto (tgt := 22) hx hb dX0_paths_79 (by decide) ?_
                exact ih22 (v + 1) y5 ls _ _ (by omega) ⟨by omega, by rw [pthS_n (fun h => c44 h.2)]; exact hy5⟩ hP hD hS (lv_sub hl [1, 2, 3, 4, 5, 6, 0] rfl)
              · -- 44 not
                have c44 : sn.testBit v = false := bool_f (fun h => by rw [h] at c44; exact absurd c44 (by decide))
                have hsn2 : sn ||| 2 ^ v < 2 ^ 16 := Nat.or_lt_two_pow hsn (Nat.pow_lt_pow_right (by omega) hv)
                refine lv_iload hx hb dX0_paths_47 (lv_at hl 5 rfl) ?_
                refine lv_aload_n hx hb dX0_paths_49 rfl (lv_at hl 0 rfl) ?_
                refine lv_iload_n hx hb dX0_paths_50 rfl (lv_at hl 1 rfl) ?_
                refine va_aldr hx hb hK hP 22 3 rfl rfl (vp_in_nI ha (by decide)) dX0_paths_51 ?_
                rw [go_ref (R := R) (b := 200) ha]
                refine lv_iload hx hb dX0_paths_52 (lv_at hl 6 rfl) ?_
                have h54 : vp_in (nI v) 16 := vp_in_nI hv (by decide)
                refine va_iald hx hb hK hP (39 + a) 0 (hw_C ha) rfl h54 dX0_paths_54 ?_
                refine lv_topi (fun x54 ex54 => ?_)
                have ex54 : x54 = C a (nI v).toNatClampNeg := ex54
                have ex54 : x54 = nI (bw a v) := by rw [ex54, vcl]; exact (hC a v ha hv).1
                subst ex54
                refine lv_aload_n hx hb dX0_paths_55 rfl (lv_at hl 0 rfl) ?_
                refine lv_iload hx hb dX0_paths_56 (lv_at hl 6 rfl) ?_
                refine lv_iload_n hx hb dX0_paths_58 rfl (lv_at hl 2 rfl) ?_
                refine lv_iload_n hx hb dX0_paths_59 rfl (lv_at hl 3 rfl) ?_
                refine lv_iconst (v := 1) hx hb dX0_paths_60 (by decide) ?_
                refine lv_iload hx hb dX0_paths_61 (lv_at hl 6 rfl) ?_
                refine lv_ishl hx hb dX0_paths_63 ?_
                refine lv_topi (fun x63 ex63 => ?_)
                have ex63 : x63 = nI (2 ^ v) := by rw [ex63]; exact nm_ishl (by omega)
                subst ex63
                refine lv_ior hx hb dX0_paths_64 ?_
                refine lv_topi (fun x64 ex64 => ?_)
                have ex64 : x64 = nI (sn ||| 2 ^ v) := by rw [ex64]; exact nI_orr _ _
                subst ex64
                refine lv_iload hx hb dX0_paths_65 (lv_at hl 4 rfl) ?_
                refine lv_iconst (v := 1) hx hb dX0_paths_67 (by decide) ?_
                refine lv_iadd hx hb dX0_paths_68 ?_
                refine lv_topi (fun x68 ex68 => ?_)
                have ex68 : x68 = 14 := by rw [ex68]; rfl
                subst ex68
                refine ct_calli hD hS hA (va_runS (As := [.ref (R 22), .int (nI v), .int (nI en), .int (nI (sn ||| 2 ^ v)), .int 14]) (rest := [.int (nI (bw a v)), .int y5]) F ((k_X0_paths2 l dC dI cI cJ cZ cII cJJ R I A B C T bw v en (sn ||| 2 ^ v) hC hv hen hsn2) _) (va_cwS 5 hts gX0_paths_X0_paths rfl rfl rfl (by decide +kernel) ⟨(Nat.le_of_ble_eq_true rfl), (Nat.le_of_ble_eq_true rfl)⟩) (ct_preS hK hN hP hD) rfl rfl hl.1 rfl (lv_room (Nat.le_of_ble_eq_true rfl)) dX0_paths_69 ⟨(Nat.le_of_ble_eq_true rfl), (Nat.le_of_ble_eq_true rfl)⟩) (fun r69 u69 H locs w69 hP hD hS => ?_)
                obtain ⟨w69, rfl⟩ := w69
                refine lv_imul hx hb dX0_paths_72 ?_
                refine lv_topi (fun x72 ex72 => ?_)
                have ex72 : x72 = nI (bw a v * pth bw en 2 v (sn ||| 2 ^ v)) := by rw [ex72, w69]; exact nI_ml _ _
                subst ex72
                refine lv_iadd hx hb dX0_paths_73 ?_
                refine lv_topi (fun x73 ex73 => ?_)
                have ex73 : x73 = nI (pthS bw en 2 a sn (v + 1)) := by rw [ex73, hy5, pthS_y c35 c44]; exact nI_add _ _
                subst ex73
                refine lv_istore (lv' := [(5, .int (nI (pthS bw en 2 a sn (v + 1)))), (0, .ref (R 22)), (1, .int (nI a)), (2, .int (nI en)), (3, .int (nI sn)), (4, .int 13), (6, .int (nI v))]) hx hb dX0_paths_74 hl (by decide) rfl (fun ls hl => ?_)
                obtain ⟨x76, ex76⟩ : ∃ zz : Int32, zz = nI v + (1) := ⟨_, rfl⟩
                refine lv_iinc (v := x76) (lv' := [(6, .int x76), (5, .int (nI (pthS bw en 2 a sn (v + 1)))), (0, .ref (R 22)), (1, .int (nI a)), (2, .int (nI en)), (3, .int (nI sn)), (4, .int 13)]) hx hb dX0_paths_76 hl (k := 6) rfl (by rw [ex76]; rfl) (by decide) rfl (fun ls hl => ?_)
                have ex76 : x76 = nI (v + 1) := by rw [ex76]; exact nI_1 v
                subst ex76
                refine lv_goto (tgt := 22) hx hb dX0_paths_79 (by decide) ?_
                exact ih22 (v + 1) (nI (pthS bw en 2 a sn (v + 1))) ls _ _ (by omega) ⟨by omega, rfl⟩ hP hD hS (lv_sub hl [2, 3, 4, 5, 6, 1, 0] rfl)
      exact K22 _ 0 0 ls _ _ (Nat.lt_succ_self _) ⟨Nat.zero_le _, rfl⟩ hP hD hS (lv_sub hl [2, 3, 4, 5, 6, 1, 0] rfl)
    · exact absurd c11 (by decide)
  · -- 2 not
    have c2 : a = en := (nI_eq (by omega) (by omega)).mp c2
    refine lv_iconst (v := 1) hx hb dX0_paths_5 (by decide) ?_
    refine hret 6 ls _ _ 1 (I, A, B, C, T) dX0_paths_6 rfl ?_ hP hD hS
    try dsimp only
    exact ⟨by rw [c2, pth_end]; rfl, rfl⟩
set_option maxHeartbeats 4000000 in
set_option maxRecDepth 100000 in
theorem k_X0_paths4 (l : Launch) (dC : Nat → ClassId) (dI : Nat → Nat → Nat) (cI cJ cZ cII cJJ : ClassId) (R : Nat → Nat) (I : Nat → Int32) (A : Nat → Nat → Int32) (B : Nat → Nat → Int64) (C : Nat → Nat → Int32) (T : Nat → Nat → Int64) (bw : Nat → Nat → Nat) (a en sn : Nat) (hC : rC2 C bw) (ha : a < 16) (hen : en < 16) (hsn : sn < 2 ^ 16) : ctI l (dC, dI) (tyL cI cJ cZ cII cJJ) (HW cI cJ cII cJJ R) yX0_paths wsX0_paths (4, 160) [.ref (R 22), .int (nI a), .int (nI en), .int (nI sn), .int 12] (I, A, B, C, T) (fun r u => r = nI (pth bw en 4 a sn) ∧ u = (I, A, B, C, T)) := by
  refine ctI_intro (cc := cX0_paths) (maxL := 7) (by decide) rfl (Nat.le_of_ble_eq_true rfl) ?_
  intro p e s m below meth c ls Aa Q F hK hN hP hD hS hA hl hret
  have hx := F.1
  have hb := F.2.1
  have hown : s.vm.findClass RX0 = some m.cls := F.2.2.2.1
  have hts := F.2.2.2.2
  have hl : lv_has ls 7 [(0, .ref (R 22)), (1, .int (nI a)), (2, .int (nI en)), (3, .int (nI sn)), (4, .int 12)] := hl
  refine lv_iload_n hx hb dX0_paths_0 rfl (lv_at hl 1 rfl) ?_
  refine lv_iload_n hx hb dX0_paths_1 rfl (lv_at hl 2 rfl) ?_
  refine lv_icmp_ne (tgt := 7) hx hb dX0_paths_2 (by decide) (fun c2 => ?_) (fun c2 => ?_)
  · -- 2 taken
    have c2 : ¬ a = en := fun h => c2 (by rw [h])
    refine lv_iload hx hb dX0_paths_7 (lv_at hl 4 rfl) ?_
    refine lv_bipush (v := 16) hx hb dX0_paths_9 (by decide) ?_
    refine lv_icmp_lt (tgt := 16) hx hb dX0_paths_11 (by decide) (fun c11 => ?_) (fun c11 => ?_)
    · -- 11 taken
      refine lv_iconst (v := 0) hx hb dX0_paths_16 (by decide) ?_
      refine lv_istore (lv' := [(5, .int 0), (0, .ref (R 22)), (1, .int (nI a)), (2, .int (nI en)), (3, .int (nI sn)), (4, .int 12)]) hx hb dX0_paths_17 hl (by decide) rfl (fun ls hl => ?_)
      refine lv_iconst (v := 0) hx hb dX0_paths_19 (by decide) ?_
      refine lv_istore (lv' := [(6, .int 0), (5, .int 0), (0, .ref (R 22)), (1, .int (nI a)), (2, .int (nI en)), (3, .int (nI sn)), (4, .int 12)]) hx hb dX0_paths_20 hl (by decide) rfl (fun ls hl => ?_)
      have K22 : ∀ (kn : Nat) (v : Nat) (y5 : Int32) (ls : Array Slot) (H : Heap) (locs : List Loc), 16 - v < kn → (v ≤ 16 ∧ y5 = nI (pthS bw en 3 a sn v)) → va_P (dC, dI) vwCl (HW cI cJ cII cJJ R (I, A, B, C, T)) H → va_D Aa (HW cI cJ cII cJJ R (I, A, B, C, T)) → va_S Aa s.heap H locs → lv_has ls 7 [(0, .ref (R 22)), (1, .int (nI a)), (2, .int (nI en)), (3, .int (nI sn)), (4, .int 12), (5, .int y5), (6, .int (nI v))] → W p l e (ctR (4, 160)) s m #[.ref (R 22), .int (nI a), .int (nI en), .int (nI sn), .int 12] below meth c H locs 0 0 Q (F0 m 22 ls []) := by
        intro kn
        induction kn with
        | zero => intro v y5 ls H locs hmu; exact absurd hmu (Nat.not_lt_zero _)
        | succ kn ih22 =>
          intro v y5 ls H locs mu22 inv22 hP hD hS hl
          obtain ⟨hv16, hy5⟩ := inv22
          refine lv_iload hx hb dX0_paths_22 (lv_at hl 6 rfl) ?_
          refine lv_bipush (v := 16) hx hb dX0_paths_24 (by decide) ?_
          refine lv_icmp_ge (tgt := 82) hx hb dX0_paths_26 (by decide) (fun c26 => ?_) (fun c26 => ?_)
          · -- 26 taken
            have hge : v = 16 := by have := (nI_leI (a := 16) (by omega) (by omega)).mp c26; omega
            refine lv_iload hx hb dX0_paths_82 (lv_at hl 5 rfl) ?_
            refine hret 84 ls _ _ y5 (I, A, B, C, T) dX0_paths_84 rfl ?_ hP hD hS
            try dsimp only
            exact ⟨by rw [hy5, pth_s c2, hge], rfl⟩
          · -- 26 not
            have hv : v < 16 := Nat.lt_of_not_le (fun h => c26 (nI_le (a := 16) h (by omega)))
            have vcl : (nI v).toNatClampNeg = v := nI_clamp (by omega)
            have hbwl := (hC a v ha hv).2
            refine lv_aload_n hx hb dX0_paths_29 rfl (lv_at hl 0 rfl) ?_
            refine lv_iload_n hx hb dX0_paths_30 rfl (lv_at hl 1 rfl) ?_
            refine va_aldr hx hb hK hP 22 3 rfl rfl (vp_in_nI ha (by decide)) dX0_paths_31 ?_
            rw [go_ref (R := R) (b := 200) ha]
            refine lv_iload hx hb dX0_paths_32 (lv_at hl 6 rfl) ?_
            have h34 : vp_in (nI v) 16 := vp_in_nI hv (by decide)
            refine va_iald hx hb hK hP (39 + a) 0 (hw_C ha) rfl h34 dX0_paths_34 ?_
            refine lv_topi (fun x34 ex34 => ?_)
            have ex34 : x34 = C a (nI v).toNatClampNeg := ex34
            have ex34 : x34 = nI (bw a v) := by rw [ex34, vcl]; exact (hC a v ha hv).1
            subst ex34
            refine lv_if_eq (tgt := 76) hx hb dX0_paths_35 (by decide) (fun c35 => ?_) (fun c35 => ?_)
            · -- 35 taken
              have c35 : bw a v = 0 := (nI_eq (b := 0) hbwl (by decide)).mp c35
              obtain ⟨x76, ex76⟩ : ∃ zz : Int32, zz = nI v + (1) := ⟨_, rfl⟩
              refine lv_iinc (v := x76) (lv' := [(6, .int x76), (0, .ref (R 22)), (1, .int (nI a)), (2, .int (nI en)), (3, .int (nI sn)), (4, .int 12), (5, .int y5)]) hx hb dX0_paths_76 hl (k := 6) rfl (by rw [ex76]; rfl) (by decide) rfl (fun ls hl => ?_)
              have ex76 : x76 = nI (v + 1) := by rw [ex76]; exact nI_1 v
              subst ex76
              refine lv_goto (tgt := 22) hx hb dX0_paths_79 (by decide) ?_
              exact ih22 (v + 1) y5 ls _ _ (by omega) ⟨by omega, by rw [pthS_n (fun h => h.1 c35)]; exact hy5⟩ hP hD hS (lv_sub hl [1, 2, 3, 4, 5, 6, 0] rfl)
            · -- 35 not
              have c35 : bw a v ≠ 0 := fun h => c35 (by rw [h]; rfl)
              refine lv_iload_n hx hb dX0_paths_38 rfl (lv_at hl 3 rfl) ?_
              refine lv_iload hx hb dX0_paths_39 (lv_at hl 6 rfl) ?_
              refine lv_ishr hx hb dX0_paths_41 ?_
              refine lv_topi (fun x41 ex41 => ?_)
              refine lv_iconst (v := 1) hx hb dX0_paths_42 (by decide) ?_
              refine lv_iand hx hb dX0_paths_43 ?_
              refine lv_topi (fun x43 ex43 => ?_)
              have ex43 : x43 = nI (if sn.testBit v then 1 else 0) := by rw [ex43, ex41]; exact nm_ibit (by omega) (by omega)
              subst ex43
              refine lv_if_ne (tgt := 76) hx hb dX0_paths_44 (by decide) (fun c44 => ?_) (fun c44 => ?_)
              · -- 44 taken
                have c44 : ¬ sn.testBit v = false := fun h => c44 (by rw [h]; rfl)
                obtain ⟨x76, ex76⟩ : ∃ zz : Int32, zz = nI v + (1) := ⟨_, rfl⟩
                refine lv_iinc (v := x76) (lv' := [(6, .int x76), (0, .ref (R 22)), (1, .int (nI a)), (2, .int (nI en)), (3, .int (nI sn)), (4, .int 12), (5, .int y5)]) hx hb dX0_paths_76 hl (k := 6) rfl (by rw [ex76]; rfl) (by decide) rfl (fun ls hl => ?_)
                have ex76 : x76 = nI (v + 1) := by rw [ex76]; exact nI_1 v
                subst ex76
                refine lv_goto (tgt := 22) hx hb dX0_paths_79 (by decide) ?_
                exact ih22 (v + 1) y5 ls _ _ (by omega) ⟨by omega, by rw [pthS_n (fun h => c44 h.2)]; exact hy5⟩ hP hD hS (lv_sub hl [1, 2, 3, 4, 5, 6, 0] rfl)
              · -- 44 not
                have c44 : sn.testBit v = false := bool_f (fun h => by rw [h] at c44; exact absurd c44 (by decide))
                have hsn2 : sn ||| 2 ^ v < 2 ^ 16 := Nat.or_lt_two_pow hsn (Nat.pow_lt_pow_right (by omega) hv)
                refine lv_iload hx hb dX0_paths_47 (lv_at hl 5 rfl) ?_
                refine lv_aload_n hx hb dX0_paths_49 rfl (lv_at hl 0 rfl) ?_
                refine lv_iload_n hx hb dX0_paths_50 rfl (lv_at hl 1 rfl) ?_
                refine va_aldr hx hb hK hP 22 3 rfl rfl (vp_in_nI ha (by decide)) dX0_paths_51 ?_
                rw [go_ref (R := R) (b := 200) ha]
                refine lv_iload hx hb dX0_paths_52 (lv_at hl 6 rfl) ?_
                have h54 : vp_in (nI v) 16 := vp_in_nI hv (by decide)
                refine va_iald hx hb hK hP (39 + a) 0 (hw_C ha) rfl h54 dX0_paths_54 ?_
                refine lv_topi (fun x54 ex54 => ?_)
                have ex54 : x54 = C a (nI v).toNatClampNeg := ex54
                have ex54 : x54 = nI (bw a v) := by rw [ex54, vcl]; exact (hC a v ha hv).1
                subst ex54
                refine lv_aload_n hx hb dX0_paths_55 rfl (lv_at hl 0 rfl) ?_
                refine lv_iload hx hb dX0_paths_56 (lv_at hl 6 rfl) ?_
                refine lv_iload_n hx hb dX0_paths_58 rfl (lv_at hl 2 rfl) ?_
                refine lv_iload_n hx hb dX0_paths_59 rfl (lv_at hl 3 rfl) ?_
                refine lv_iconst (v := 1) hx hb dX0_paths_60 (by decide) ?_
                refine lv_iload hx hb dX0_paths_61 (lv_at hl 6 rfl) ?_
                refine lv_ishl hx hb dX0_paths_63 ?_
                refine lv_topi (fun x63 ex63 => ?_)
                have ex63 : x63 = nI (2 ^ v) := by rw [ex63]; exact nm_ishl (by omega)
                subst ex63
                refine lv_ior hx hb dX0_paths_64 ?_
                refine lv_topi (fun x64 ex64 => ?_)
                have ex64 : x64 = nI (sn ||| 2 ^ v) := by rw [ex64]; exact nI_orr _ _
                subst ex64
                refine lv_iload hx hb dX0_paths_65 (lv_at hl 4 rfl) ?_
                refine lv_iconst (v := 1) hx hb dX0_paths_67 (by decide) ?_
                refine lv_iadd hx hb dX0_paths_68 ?_
                refine lv_topi (fun x68 ex68 => ?_)
                have ex68 : x68 = 13 := by rw [ex68]; rfl
                subst ex68
                refine ct_calli hD hS hA (va_runS (As := [.ref (R 22), .int (nI v), .int (nI en), .int (nI (sn ||| 2 ^ v)), .int 13]) (rest := [.int (nI (bw a v)), .int y5]) F ((k_X0_paths3 l dC dI cI cJ cZ cII cJJ R I A B C T bw v en (sn ||| 2 ^ v) hC hv hen hsn2) _) (va_cwS 5 hts gX0_paths_X0_paths rfl rfl rfl (by decide +kernel) ⟨(Nat.le_of_ble_eq_true rfl), (Nat.le_of_ble_eq_true rfl)⟩) (ct_preS hK hN hP hD) rfl rfl hl.1 rfl (lv_room (Nat.le_of_ble_eq_true rfl)) dX0_paths_69 ⟨(Nat.le_of_ble_eq_true rfl), (Nat.le_of_ble_eq_true rfl)⟩) (fun r69 u69 H locs w69 hP hD hS => ?_)
                obtain ⟨w69, rfl⟩ := w69
                refine lv_imul hx hb dX0_paths_72 ?_
                refine lv_topi (fun x72 ex72 => ?_)
                have ex72 : x72 = nI (bw a v * pth bw en 3 v (sn ||| 2 ^ v)) := by rw [ex72, w69]; exact nI_ml _ _
                subst ex72
                refine lv_iadd hx hb dX0_paths_73 ?_
                refine lv_topi (fun x73 ex73 => ?_)
                have ex73 : x73 = nI (pthS bw en 3 a sn (v + 1)) := by rw [ex73, hy5, pthS_y c35 c44]; exact nI_add _ _
                subst ex73
                refine lv_istore (lv' := [(5, .int (nI (pthS bw en 3 a sn (v + 1)))), (0, .ref (R 22)), (1, .int (nI a)), (2, .int (nI en)), (3, .int (nI sn)), (4, .int 12), (6, .int (nI v))]) hx hb dX0_paths_74 hl (by decide) rfl (fun ls hl => ?_)
                obtain ⟨x76, ex76⟩ : ∃ zz : Int32, zz = nI v + (1) := ⟨_, rfl⟩
                refine lv_iinc (v := x76) (lv' := [(6, .int x76), (5, .int (nI (pthS bw en 3 a sn (v + 1)))), (0, .ref (R 22)), (1, .int (nI a)), (2, .int (nI en)), (3, .int (nI sn)), (4, .int 12)]) hx hb dX0_paths_76 hl (k := 6) rfl (by rw [ex76]; rfl) (by decide) rfl (fun ls hl => ?_)
                have ex76 : x76 = nI (v + 1) := by rw [ex76]; exact nI_1 v
                subst ex76
                refine lv_goto (tgt := 22) hx hb dX0_paths_79 (by decide) ?_
                exact ih22 (v + 1) (nI (pthS bw en 3 a sn (v + 1))) ls _ _ (by omega) ⟨by omega, rfl⟩ hP hD hS (lv_sub hl [2, 3, 4, 5, 6, 1, 0] rfl)
      exact K22 _ 0 0 ls _ _ (Nat.lt_succ_self _) ⟨Nat.zero_le _, rfl⟩ hP hD hS (lv_sub hl [2, 3, 4, 5, 6, 1, 0] rfl)
    · exact absurd c11 (by decide)
  · -- 2 not
    have c2 : a = en := (nI_eq (by omega) (by omega)).mp c2
    refine lv_iconst (v := 1) hx hb dX0_paths_5 (by decide) ?_
    refine hret 6 ls _ _ 1 (I, A, B, C, T) dX0_paths_6 rfl ?_ hP hD hS
    try dsimp only
    exact ⟨by rw [c2, pth_end]; rfl, rfl⟩
set_option maxHeartbeats 4000000 in
set_option maxRecDepth 100000 in
theorem k_X0_paths5 (l : Launch) (dC : Nat → ClassId) (dI : Nat → Nat → Nat) (cI cJ cZ cII cJJ : ClassId) (R : Nat → Nat) (I : Nat → Int32) (A : Nat → Nat → Int32) (B : Nat → Nat → Int64) (C : Nat → Nat → Int32) (T : Nat → Nat → Int64) (bw : Nat → Nat → Nat) (a en sn : Nat) (hC : rC2 C bw) (ha : a < 16) (hen : en < 16) (hsn : sn < 2 ^ 16) : ctI l (dC, dI) (tyL cI cJ cZ cII cJJ) (HW cI cJ cII cJJ R) yX0_paths wsX0_paths (5, 200) [.ref (R 22), .int (nI a), .int (nI en), .int (nI sn), .int 11] (I, A, B, C, T) (fun r u => r = nI (pth bw en 5 a sn) ∧ u = (I, A, B, C, T)) := by
  refine ctI_intro (cc := cX0_paths) (maxL := 7) (by decide) rfl (Nat.le_of_ble_eq_true rfl) ?_
  intro p e s m below meth c ls Aa Q F hK hN hP hD hS hA hl hret
  have hx := F.1
  have hb := F.2.1
  have hown : s.vm.findClass RX0 = some m.cls := F.2.2.2.1
  have hts := F.2.2.2.2
  have hl : lv_has ls 7 [(0, .ref (R 22)), (1, .int (nI a)), (2, .int (nI en)), (3, .int (nI sn)), (4, .int 11)] := hl
  refine lv_iload_n hx hb dX0_paths_0 rfl (lv_at hl 1 rfl) ?_
  refine lv_iload_n hx hb dX0_paths_1 rfl (lv_at hl 2 rfl) ?_
  refine lv_icmp_ne (tgt := 7) hx hb dX0_paths_2 (by decide) (fun c2 => ?_) (fun c2 => ?_)
  · -- 2 taken
    have c2 : ¬ a = en := fun h => c2 (by rw [h])
    refine lv_iload hx hb dX0_paths_7 (lv_at hl 4 rfl) ?_
    refine lv_bipush (v := 16) hx hb dX0_paths_9 (by decide) ?_
    refine lv_icmp_lt (tgt := 16) hx hb dX0_paths_11 (by decide) (fun c11 => ?_) (fun c11 => ?_)
    · -- 11 taken
      refine lv_iconst (v := 0) hx hb dX0_paths_16 (by decide) ?_
      refine lv_istore (lv' := [(5, .int 0), (0, .ref (R 22)), (1, .int (nI a)), (2, .int (nI en)), (3, .int (nI sn)), (4, .int 11)]) hx hb dX0_paths_17 hl (by decide) rfl (fun ls hl => ?_)
      refine lv_iconst (v := 0) hx hb dX0_paths_19 (by decide) ?_
      refine lv_istore (lv' := [(6, .int 0), (5, .int 0), (0, .ref (R 22)), (1, .int (nI a)), (2, .int (nI en)), (3, .int (nI sn)), (4, .int 11)]) hx hb dX0_paths_20 hl (by decide) rfl (fun ls hl => ?_)
      have K22 : ∀ (kn : Nat) (v : Nat) (y5 : Int32) (ls : Array Slot) (H : Heap) (locs : List Loc), 16 - v < kn → (v ≤ 16 ∧ y5 = nI (pthS bw en 4 a sn v)) → va_P (dC, dI) vwCl (HW cI cJ cII cJJ R (I, A, B, C, T)) H → va_D Aa (HW cI cJ cII cJJ R (I, A, B, C, T)) → va_S Aa s.heap H locs → lv_has ls 7 [(0, .ref (R 22)), (1, .int (nI a)), (2, .int (nI en)), (3, .int (nI sn)), (4, .int 11), (5, .int y5), (6, .int (nI v))] → W p l e (ctR (5, 200)) s m #[.ref (R 22), .int (nI a), .int (nI en), .int (nI sn), .int 11] below meth c H locs 0 0 Q (F0 m 22 ls []) := by
        intro kn
        induction kn with
        | zero => intro v y5 ls H locs hmu; exact absurd hmu (Nat.not_lt_zero _)
        | succ kn ih22 =>
          intro v y5 ls H locs mu22 inv22 hP hD hS hl
          obtain ⟨hv16, hy5⟩ := inv22
          refine lv_iload hx hb dX0_paths_22 (lv_at hl 6 rfl) ?_
          refine lv_bipush (v := 16) hx hb dX0_paths_24 (by decide) ?_
          refine lv_icmp_ge (tgt := 82) hx hb dX0_paths_26 (by decide) (fun c26 => ?_) (fun c26 => ?_)
          · -- 26 taken
            have hge : v = 16 := by have := (nI_leI (a := 16) (by omega) (by omega)).mp c26; omega
            refine lv_iload hx hb dX0_paths_82 (lv_at hl 5 rfl) ?_
            refine hret 84 ls _ _ y5 (I, A, B, C, T) dX0_paths_84 rfl ?_ hP hD hS
            try dsimp only
            exact ⟨by rw [hy5, pth_s c2, hge], rfl⟩
          · -- 26 not
            have hv : v < 16 := Nat.lt_of_not_le (fun h => c26 (nI_le (a := 16) h (by omega)))
            have vcl : (nI v).toNatClampNeg = v := nI_clamp (by omega)
            have hbwl := (hC a v ha hv).2
            refine lv_aload_n hx hb dX0_paths_29 rfl (lv_at hl 0 rfl) ?_
            refine lv_iload_n hx hb dX0_paths_30 rfl (lv_at hl 1 rfl) ?_
            refine va_aldr hx hb hK hP 22 3 rfl rfl (vp_in_nI ha (by decide)) dX0_paths_31 ?_
            rw [go_ref (R := R) (b := 200) ha]
            refine lv_iload hx hb dX0_paths_32 (lv_at hl 6 rfl) ?_
            have h34 : vp_in (nI v) 16 := vp_in_nI hv (by decide)
            refine va_iald hx hb hK hP (39 + a) 0 (hw_C ha) rfl h34 dX0_paths_34 ?_
            refine lv_topi (fun x34 ex34 => ?_)
            have ex34 : x34 = C a (nI v).toNatClampNeg := ex34
            have ex34 : x34 = nI (bw a v) := by rw [ex34, vcl]; exact (hC a v ha hv).1
            subst ex34
            refine lv_if_eq (tgt := 76) hx hb dX0_paths_35 (by decide) (fun c35 => ?_) (fun c35 => ?_)
            · -- 35 taken
              have c35 : bw a v = 0 := (nI_eq (b := 0) hbwl (by decide)).mp c35
              obtain ⟨x76, ex76⟩ : ∃ zz : Int32, zz = nI v + (1) := ⟨_, rfl⟩
              refine lv_iinc (v := x76) (lv' := [(6, .int x76), (0, .ref (R 22)), (1, .int (nI a)), (2, .int (nI en)), (3, .int (nI sn)), (4, .int 11), (5, .int y5)]) hx hb dX0_paths_76 hl (k := 6) rfl (by rw [ex76]; rfl) (by decide) rfl (fun ls hl => ?_)
              have ex76 : x76 = nI (v + 1) := by rw [ex76]; exact nI_1 v
              subst ex76
              refine lv_goto (tgt := 22) hx hb dX0_paths_79 (by decide) ?_
              exact ih22 (v + 1) y5 ls _ _ (by omega) ⟨by omega, by rw [pthS_n (fun h => h.1 c35)]; exact hy5⟩ hP hD hS (lv_sub hl [1, 2, 3, 4, 5, 6, 0] rfl)
            · -- 35 not
              have c35 : bw a v ≠ 0 := fun h => c35 (by rw [h]; rfl)
              refine lv_iload_n hx hb dX0_paths_38 rfl (lv_at hl 3 rfl) ?_
              refine lv_iload hx hb dX0_paths_39 (lv_at hl 6 rfl) ?_
              refine lv_ishr hx hb dX0_paths_41 ?_
              refine lv_topi (fun x41 ex41 => ?_)
              refine lv_iconst (v := 1) hx hb dX0_paths_42 (by decide) ?_
              refine lv_iand hx hb dX0_paths_43 ?_
              refine lv_topi (fun x43 ex43 => ?_)
              have ex43 : x43 = nI (if sn.testBit v then 1 else 0) := by rw [ex43, ex41]; exact nm_ibit (by omega) (by omega)
              subst ex43
              refine lv_if_ne (tgt := 76) hx hb dX0_paths_44 (by decide) (fun c44 => ?_) (fun c44 => ?_)
              · -- 44 taken
                have c44 : ¬ sn.testBit v = false := fun h => c44 (by rw [h]; rfl)
                obtain ⟨x76, ex76⟩ : ∃ zz : Int32, zz = nI v + (1) := ⟨_, rfl⟩
                refine lv_iinc (v := x76) (lv' := [(6, .int x76), (0, .ref (R 22)), (1, .int (nI a)), (2, .int (nI en)), (3, .int (nI sn)), (4, .int 11), (5, .int y5)]) hx hb dX0_paths_76 hl (k := 6) rfl (by rw [ex76]; rfl) (by decide) rfl (fun ls hl => ?_)
                have ex76 : x76 = nI (v + 1) := by rw [ex76]; exact nI_1 v
                subst ex76
                refine lv_goto (tgt := 22) hx hb dX0_paths_79 (by decide) ?_
                exact ih22 (v + 1) y5 ls _ _ (by omega) ⟨by omega, by rw [pthS_n (fun h => c44 h.2)]; exact hy5⟩ hP hD hS (lv_sub hl [1, 2, 3, 4, 5, 6, 0] rfl)
              · -- 44 not
                have c44 : sn.testBit v = false := bool_f (fun h => by rw [h] at c44; exact absurd c44 (by decide))
                have hsn2 : sn ||| 2 ^ v < 2 ^ 16 := Nat.or_lt_two_pow hsn (Nat.pow_lt_pow_right (by omega) hv)
                refine lv_iload hx hb dX0_paths_47 (lv_at hl 5 rfl) ?_
                refine lv_aload_n hx hb dX0_paths_49 rfl (lv_at hl 0 rfl) ?_
                refine lv_iload_n hx hb dX0_paths_50 rfl (lv_at hl 1 rfl) ?_
                refine va_aldr hx hb hK hP 22 3 rfl rfl (vp_in_nI ha (by decide)) dX0_paths_51 ?_
                rw [go_ref (R := R) (b := 200) ha]
                refine lv_iload hx hb dX0_paths_52 (lv_at hl 6 rfl) ?_
                have h54 : vp_in (nI v) 16 := vp_in_nI hv (by decide)
                refine va_iald hx hb hK hP (39 + a) 0 (hw_C ha) rfl h54 dX0_paths_54 ?_
                refine lv_topi (fun x54 ex54 => ?_)
                have ex54 : x54 = C a (nI v).toNatClampNeg := ex54
                have ex54 : x54 = nI (bw a v) := by rw [ex54, vcl]; exact (hC a v ha hv).1
                subst ex54
                refine lv_aload_n hx hb dX0_paths_55 rfl (lv_at hl 0 rfl) ?_
                refine lv_iload hx hb dX0_paths_56 (lv_at hl 6 rfl) ?_
                refine lv_iload_n hx hb dX0_paths_58 rfl (lv_at hl 2 rfl) ?_
                refine lv_iload_n hx hb dX0_paths_59 rfl (lv_at hl 3 rfl) ?_
                refine lv_iconst (v := 1) hx hb dX0_paths_60 (by decide) ?_
                refine lv_iload hx hb dX0_paths_61 (lv_at hl 6 rfl) ?_
                refine lv_ishl hx hb dX0_paths_63 ?_
                refine lv_topi (fun x63 ex63 => ?_)
                have ex63 : x63 = nI (2 ^ v) := by rw [ex63]; exact nm_ishl (by omega)
                subst ex63
                refine lv_ior hx hb dX0_paths_64 ?_
                refine lv_topi (fun x64 ex64 => ?_)
                have ex64 : x64 = nI (sn ||| 2 ^ v) := by rw [ex64]; exact nI_orr _ _
                subst ex64
                refine lv_iload hx hb dX0_paths_65 (lv_at hl 4 rfl) ?_
                refine lv_iconst (v := 1) hx hb dX0_paths_67 (by decide) ?_
                refine lv_iadd hx hb dX0_paths_68 ?_
                refine lv_topi (fun x68 ex68 => ?_)
                have ex68 : x68 = 12 := by rw [ex68]; rfl
                subst ex68
                refine ct_calli hD hS hA (va_runS (As := [.ref (R 22), .int (nI v), .int (nI en), .int (nI (sn ||| 2 ^ v)), .int 12]) (rest := [.int (nI (bw a v)), .int y5]) F ((k_X0_paths4 l dC dI cI cJ cZ cII cJJ R I A B C T bw v en (sn ||| 2 ^ v) hC hv hen hsn2) _) (va_cwS 5 hts gX0_paths_X0_paths rfl rfl rfl (by decide +kernel) ⟨(Nat.le_of_ble_eq_true rfl), (Nat.le_of_ble_eq_true rfl)⟩) (ct_preS hK hN hP hD) rfl rfl hl.1 rfl (lv_room (Nat.le_of_ble_eq_true rfl)) dX0_paths_69 ⟨(Nat.le_of_ble_eq_true rfl), (Nat.le_of_ble_eq_true rfl)⟩) (fun r69 u69 H locs w69 hP hD hS => ?_)
                obtain ⟨w69, rfl⟩ := w69
                refine lv_imul hx hb dX0_paths_72 ?_
                refine lv_topi (fun x72 ex72 => ?_)
                have ex72 : x72 = nI (bw a v * pth bw en 4 v (sn ||| 2 ^ v)) := by rw [ex72, w69]; exact nI_ml _ _
                subst ex72
                refine lv_iadd hx hb dX0_paths_73 ?_
                refine lv_topi (fun x73 ex73 => ?_)
                have ex73 : x73 = nI (pthS bw en 4 a sn (v + 1)) := by rw [ex73, hy5, pthS_y c35 c44]; exact nI_add _ _
                subst ex73
                refine lv_istore (lv' := [(5, .int (nI (pthS bw en 4 a sn (v + 1)))), (0, .ref (R 22)), (1, .int (nI a)), (2, .int (nI en)), (3, .int (nI sn)), (4, .int 11), (6, .int (nI v))]) hx hb dX0_paths_74 hl (by decide) rfl (fun ls hl => ?_)
                obtain ⟨x76, ex76⟩ : ∃ zz : Int32, zz = nI v + (1) := ⟨_, rfl⟩
                refine lv_iinc (v := x76) (lv' := [(6, .int x76), (5, .int (nI (pthS bw en 4 a sn (v + 1)))), (0, .ref (R 22)), (1, .int (nI a)), (2, .int (nI en)), (3, .int (nI sn)), (4, .int 11)]) hx hb dX0_paths_76 hl (k := 6) rfl (by rw [ex76]; rfl) (by decide) rfl (fun ls hl => ?_)
                have ex76 : x76 = nI (v + 1) := by rw [ex76]; exact nI_1 v
                subst ex76
                refine lv_goto (tgt := 22) hx hb dX0_paths_79 (by decide) ?_
                exact ih22 (v + 1) (nI (pthS bw en 4 a sn (v + 1))) ls _ _ (by omega) ⟨by omega, rfl⟩ hP hD hS (lv_sub hl [2, 3, 4, 5, 6, 1, 0] rfl)
      exact K22 _ 0 0 ls _ _ (Nat.lt_succ_self _) ⟨Nat.zero_le _, rfl⟩ hP hD hS (lv_sub hl [2, 3, 4, 5, 6, 1, 0] rfl)
    · exact absurd c11 (by decide)
  · -- 2 not
    have c2 : a = en := (nI_eq (by omega) (by omega)).mp c2
    refine lv_iconst (v := 1) hx hb dX0_paths_5 (by decide) ?_
    refine hret 6 ls _ _ 1 (I, A, B, C, T) dX0_paths_6 rfl ?_ hP hD hS
    try dsimp only
    exact ⟨by rw [c2, pth_end]; rfl, rfl⟩
set_option maxHeartbeats 4000000 in
set_option maxRecDepth 100000 in
theorem k_X0_paths6 (l : Launch) (dC : Nat → ClassId) (dI : Nat → Nat → Nat) (cI cJ cZ cII cJJ : ClassId) (R : Nat → Nat) (I : Nat → Int32) (A : Nat → Nat → Int32) (B : Nat → Nat → Int64) (C : Nat → Nat → Int32) (T : Nat → Nat → Int64) (bw : Nat → Nat → Nat) (a en sn : Nat) (hC : rC2 C bw) (ha : a < 16) (hen : en < 16) (hsn : sn < 2 ^ 16) : ctI l (dC, dI) (tyL cI cJ cZ cII cJJ) (HW cI cJ cII cJJ R) yX0_paths wsX0_paths (6, 240) [.ref (R 22), .int (nI a), .int (nI en), .int (nI sn), .int 10] (I, A, B, C, T) (fun r u => r = nI (pth bw en 6 a sn) ∧ u = (I, A, B, C, T)) := by
  refine ctI_intro (cc := cX0_paths) (maxL := 7) (by decide) rfl (Nat.le_of_ble_eq_true rfl) ?_
  intro p e s m below meth c ls Aa Q F hK hN hP hD hS hA hl hret
  have hx := F.1
  have hb := F.2.1
  have hown : s.vm.findClass RX0 = some m.cls := F.2.2.2.1
  have hts := F.2.2.2.2
  have hl : lv_has ls 7 [(0, .ref (R 22)), (1, .int (nI a)), (2, .int (nI en)), (3, .int (nI sn)), (4, .int 10)] := hl
  refine lv_iload_n hx hb dX0_paths_0 rfl (lv_at hl 1 rfl) ?_
  refine lv_iload_n hx hb dX0_paths_1 rfl (lv_at hl 2 rfl) ?_
  refine lv_icmp_ne (tgt := 7) hx hb dX0_paths_2 (by decide) (fun c2 => ?_) (fun c2 => ?_)
  · -- 2 taken
    have c2 : ¬ a = en := fun h => c2 (by rw [h])
    refine lv_iload hx hb dX0_paths_7 (lv_at hl 4 rfl) ?_
    refine lv_bipush (v := 16) hx hb dX0_paths_9 (by decide) ?_
    refine lv_icmp_lt (tgt := 16) hx hb dX0_paths_11 (by decide) (fun c11 => ?_) (fun c11 => ?_)
    · -- 11 taken
      refine lv_iconst (v := 0) hx hb dX0_paths_16 (by decide) ?_
      refine lv_istore (lv' := [(5, .int 0), (0, .ref (R 22)), (1, .int (nI a)), (2, .int (nI en)), (3, .int (nI sn)), (4, .int 10)]) hx hb dX0_paths_17 hl (by decide) rfl (fun ls hl => ?_)
      refine lv_iconst (v := 0) hx hb dX0_paths_19 (by decide) ?_
      refine lv_istore (lv' := [(6, .int 0), (5, .int 0), (0, .ref (R 22)), (1, .int (nI a)), (2, .int (nI en)), (3, .int (nI sn)), (4, .int 10)]) hx hb dX0_paths_20 hl (by decide) rfl (fun ls hl => ?_)
      have K22 : ∀ (kn : Nat) (v : Nat) (y5 : Int32) (ls : Array Slot) (H : Heap) (locs : List Loc), 16 - v < kn → (v ≤ 16 ∧ y5 = nI (pthS bw en 5 a sn v)) → va_P (dC, dI) vwCl (HW cI cJ cII cJJ R (I, A, B, C, T)) H → va_D Aa (HW cI cJ cII cJJ R (I, A, B, C, T)) → va_S Aa s.heap H locs → lv_has ls 7 [(0, .ref (R 22)), (1, .int (nI a)), (2, .int (nI en)), (3, .int (nI sn)), (4, .int 10), (5, .int y5), (6, .int (nI v))] → W p l e (ctR (6, 240)) s m #[.ref (R 22), .int (nI a), .int (nI en), .int (nI sn), .int 10] below meth c H locs 0 0 Q (F0 m 22 ls []) := by
        intro kn
        induction kn with
        | zero => intro v y5 ls H locs hmu; exact absurd hmu (Nat.not_lt_zero _)
        | succ kn ih22 =>
          intro v y5 ls H locs mu22 inv22 hP hD hS hl
          obtain ⟨hv16, hy5⟩ := inv22
          refine lv_iload hx hb dX0_paths_22 (lv_at hl 6 rfl) ?_
          refine lv_bipush (v := 16) hx hb dX0_paths_24 (by decide) ?_
          refine lv_icmp_ge (tgt := 82) hx hb dX0_paths_26 (by decide) (fun c26 => ?_) (fun c26 => ?_)
          · -- 26 taken
            have hge : v = 16 := by have := (nI_leI (a := 16) (by omega) (by omega)).mp c26; omega
            refine lv_iload hx hb dX0_paths_82 (lv_at hl 5 rfl) ?_
            refine hret 84 ls _ _ y5 (I, A, B, C, T) dX0_paths_84 rfl ?_ hP hD hS
            try dsimp only
            exact ⟨by rw [hy5, pth_s c2, hge], rfl⟩
          · -- 26 not
            have hv : v < 16 := Nat.lt_of_not_le (fun h => c26 (nI_le (a := 16) h (by omega)))
            have vcl : (nI v).toNatClampNeg = v := nI_clamp (by omega)
            have hbwl := (hC a v ha hv).2
            refine lv_aload_n hx hb dX0_paths_29 rfl (lv_at hl 0 rfl) ?_
            refine lv_iload_n hx hb dX0_paths_30 rfl (lv_at hl 1 rfl) ?_
            refine va_aldr hx hb hK hP 22 3 rfl rfl (vp_in_nI ha (by decide)) dX0_paths_31 ?_
            rw [go_ref (R := R) (b := 200) ha]
            refine lv_iload hx hb dX0_paths_32 (lv_at hl 6 rfl) ?_
            have h34 : vp_in (nI v) 16 := vp_in_nI hv (by decide)
            refine va_iald hx hb hK hP (39 + a) 0 (hw_C ha) rfl h34 dX0_paths_34 ?_
            refine lv_topi (fun x34 ex34 => ?_)
            have ex34 : x34 = C a (nI v).toNatClampNeg := ex34
            have ex34 : x34 = nI (bw a v) := by rw [ex34, vcl]; exact (hC a v ha hv).1
            subst ex34
            refine lv_if_eq (tgt := 76) hx hb dX0_paths_35 (by decide) (fun c35 => ?_) (fun c35 => ?_)
            · -- 35 taken
              have c35 : bw a v = 0 := (nI_eq (b := 0) hbwl (by decide)).mp c35
              obtain ⟨x76, ex76⟩ : ∃ zz : Int32, zz = nI v + (1) := ⟨_, rfl⟩
              refine lv_iinc (v := x76) (lv' := [(6, .int x76), (0, .ref (R 22)), (1, .int (nI a)), (2, .int (nI en)), (3, .int (nI sn)), (4, .int 10), (5, .int y5)]) hx hb dX0_paths_76 hl (k := 6) rfl (by rw [ex76]; rfl) (by decide) rfl (fun ls hl => ?_)
              have ex76 : x76 = nI (v + 1) := by rw [ex76]; exact nI_1 v
              subst ex76
              refine lv_goto (tgt := 22) hx hb dX0_paths_79 (by decide) ?_
              exact ih22 (v + 1) y5 ls _ _ (by omega) ⟨by omega, by rw [pthS_n (fun h => h.1 c35)]; exact hy5⟩ hP hD hS (lv_sub hl [1, 2, 3, 4, 5, 6, 0] rfl)
            · -- 35 not
              have c35 : bw a v ≠ 0 := fun h => c35 (by rw [h]; rfl)
              refine lv_iload_n hx hb dX0_paths_38 rfl (lv_at hl 3 rfl) ?_
              refine lv_iload hx hb dX0_paths_39 (lv_at hl 6 rfl) ?_
              refine lv_ishr hx hb dX0_paths_41 ?_
              refine lv_topi (fun x41 ex41 => ?_)
              refine lv_iconst (v := 1) hx hb dX0_paths_42 (by decide) ?_
              refine lv_iand hx hb dX0_paths_43 ?_
              refine lv_topi (fun x43 ex43 => ?_)
              have ex43 : x43 = nI (if sn.testBit v then 1 else 0) := by rw [ex43, ex41]; exact nm_ibit (by omega) (by omega)
              subst ex43
              refine lv_if_ne (tgt := 76) hx hb dX0_paths_44 (by decide) (fun c44 => ?_) (fun c44 => ?_)
              · -- 44 taken
                have c44 : ¬ sn.testBit v = false := fun h => c44 (by rw [h]; rfl)
                obtain ⟨x76, ex76⟩ : ∃ zz : Int32, zz = nI v + (1) := ⟨_, rfl⟩
                refine lv_iinc (v := x76) (lv' := [(6, .int x76), (0, .ref (R 22)), (1, .int (nI a)), (2, .int (nI en)), (3, .int (nI sn)), (4, .int 10), (5, .int y5)]) hx hb dX0_paths_76 hl (k := 6) rfl (by rw [ex76]; rfl) (by decide) rfl (fun ls hl => ?_)
                have ex76 : x76 = nI (v + 1) := by rw [ex76]; exact nI_1 v
                subst ex76
                refine lv_goto (tgt := 22) hx hb dX0_paths_79 (by decide) ?_
                exact ih22 (v + 1) y5 ls _ _ (by omega) ⟨by omega, by rw [pthS_n (fun h => c44 h.2)]; exact hy5⟩ hP hD hS (lv_sub hl [1, 2, 3, 4, 5, 6, 0] rfl)
              · -- 44 not
                have c44 : sn.testBit v = false := bool_f (fun h => by rw [h] at c44; exact absurd c44 (by decide))
                have hsn2 : sn ||| 2 ^ v < 2 ^ 16 := Nat.or_lt_two_pow hsn (Nat.pow_lt_pow_right (by omega) hv)
                refine lv_iload hx hb dX0_paths_47 (lv_at hl 5 rfl) ?_
                refine lv_aload_n hx hb dX0_paths_49 rfl (lv_at hl 0 rfl) ?_
                refine lv_iload_n hx hb dX0_paths_50 rfl (lv_at hl 1 rfl) ?_
                refine va_aldr hx hb hK hP 22 3 rfl rfl (vp_in_nI ha (by decide)) dX0_paths_51 ?_
                rw [go_ref (R := R) (b := 200) ha]
                refine lv_iload hx hb dX0_paths_52 (lv_at hl 6 rfl) ?_
                have h54 : vp_in (nI v) 16 := vp_in_nI hv (by decide)
                refine va_iald hx hb hK hP (39 + a) 0 (hw_C ha) rfl h54 dX0_paths_54 ?_
                refine lv_topi (fun x54 ex54 => ?_)
                have ex54 : x54 = C a (nI v).toNatClampNeg := ex54
                have ex54 : x54 = nI (bw a v) := by rw [ex54, vcl]; exact (hC a v ha hv).1
                subst ex54
                refine lv_aload_n hx hb dX0_paths_55 rfl (lv_at hl 0 rfl) ?_
                refine lv_iload hx hb dX0_paths_56 (lv_at hl 6 rfl) ?_
                refine lv_iload_n hx hb dX0_paths_58 rfl (lv_at hl 2 rfl) ?_
                refine lv_iload_n hx hb dX0_paths_59 rfl (lv_at hl 3 rfl) ?_
                refine lv_iconst (v := 1) hx hb dX0_paths_60 (by decide) ?_
                refine lv_iload hx hb dX0_paths_61 (lv_at hl 6 rfl) ?_
                refine lv_ishl hx hb dX0_paths_63 ?_
                refine lv_topi (fun x63 ex63 => ?_)
                have ex63 : x63 = nI (2 ^ v) := by rw [ex63]; exact nm_ishl (by omega)
                subst ex63
                refine lv_ior hx hb dX0_paths_64 ?_
                refine lv_topi (fun x64 ex64 => ?_)
                have ex64 : x64 = nI (sn ||| 2 ^ v) := by rw [ex64]; exact nI_orr _ _
                subst ex64
                refine lv_iload hx hb dX0_paths_65 (lv_at hl 4 rfl) ?_
                refine lv_iconst (v := 1) hx hb dX0_paths_67 (by decide) ?_
                refine lv_iadd hx hb dX0_paths_68 ?_
                refine lv_topi (fun x68 ex68 => ?_)
                have ex68 : x68 = 11 := by rw [ex68]; rfl
                subst ex68
                refine ct_calli hD hS hA (va_runS (As := [.ref (R 22), .int (nI v), .int (nI en), .int (nI (sn ||| 2 ^ v)), .int 11]) (rest := [.int (nI (bw a v)), .int y5]) F ((k_X0_paths5 l dC dI cI cJ cZ cII cJJ R I A B C T bw v en (sn ||| 2 ^ v) hC hv hen hsn2) _) (va_cwS 5 hts gX0_paths_X0_paths rfl rfl rfl (by decide +kernel) ⟨(Nat.le_of_ble_eq_true rfl), (Nat.le_of_ble_eq_true rfl)⟩) (ct_preS hK hN hP hD) rfl rfl hl.1 rfl (lv_room (Nat.le_of_ble_eq_true rfl)) dX0_paths_69 ⟨(Nat.le_of_ble_eq_true rfl), (Nat.le_of_ble_eq_true rfl)⟩) (fun r69 u69 H locs w69 hP hD hS => ?_)
                obtain ⟨w69, rfl⟩ := w69
                refine lv_imul hx hb dX0_paths_72 ?_
                refine lv_topi (fun x72 ex72 => ?_)
                have ex72 : x72 = nI (bw a v * pth bw en 5 v (sn ||| 2 ^ v)) := by rw [ex72, w69]; exact nI_ml _ _
                subst ex72
                refine lv_iadd hx hb dX0_paths_73 ?_
                refine lv_topi (fun x73 ex73 => ?_)
                have ex73 : x73 = nI (pthS bw en 5 a sn (v + 1)) := by rw [ex73, hy5, pthS_y c35 c44]; exact nI_add _ _
                subst ex73
                refine lv_istore (lv' := [(5, .int (nI (pthS bw en 5 a sn (v + 1)))), (0, .ref (R 22)), (1, .int (nI a)), (2, .int (nI en)), (3, .int (nI sn)), (4, .int 10), (6, .int (nI v))]) hx hb dX0_paths_74 hl (by decide) rfl (fun ls hl => ?_)
                obtain ⟨x76, ex76⟩ : ∃ zz : Int32, zz = nI v + (1) := ⟨_, rfl⟩
                refine lv_iinc (v := x76) (lv' := [(6, .int x76), (5, .int (nI (pthS bw en 5 a sn (v + 1)))), (0, .ref (R 22)), (1, .int (nI a)), (2, .int (nI en)), (3, .int (nI sn)), (4, .int 10)]) hx hb dX0_paths_76 hl (k := 6) rfl (by rw [ex76]; rfl) (by decide) rfl (fun ls hl => ?_)
                have ex76 : x76 = nI (v + 1) := by rw [ex76]; exact nI_1 v
                subst ex76
                refine lv_goto (tgt := 22) hx hb dX0_paths_79 (by decide) ?_
                exact ih22 (v + 1) (nI (pthS bw en 5 a sn (v + 1))) ls _ _ (by omega) ⟨by omega, rfl⟩ hP hD hS (lv_sub hl [2, 3, 4, 5, 6, 1, 0] rfl)
      exact K22 _ 0 0 ls _ _ (Nat.lt_succ_self _) ⟨Nat.zero_le _, rfl⟩ hP hD hS (lv_sub hl [2, 3, 4, 5, 6, 1, 0] rfl)
    · exact absurd c11 (by decide)
  · -- 2 not
    have c2 : a = en := (nI_eq (by omega) (by omega)).mp c2
    refine lv_iconst (v := 1) hx hb dX0_paths_5 (by decide) ?_
    refine hret 6 ls _ _ 1 (I, A, B, C, T) dX0_paths_6 rfl ?_ hP hD hS
    try dsimp only
    exact ⟨by rw [c2, pth_end]; rfl, rfl⟩
set_option maxHeartbeats 4000000 in
set_option maxRecDepth 100000 in
theorem k_X0_paths7 (l : Launch) (dC : Nat → ClassId) (dI : Nat → Nat → Nat) (cI cJ cZ cII cJJ : ClassId) (R : Nat → Nat) (I : Nat → Int32) (A : Nat → Nat → Int32) (B : Nat → Nat → Int64) (C : Nat → Nat → Int32) (T : Nat → Nat → Int64) (bw : Nat → Nat → Nat) (a en sn : Nat) (hC : rC2 C bw) (ha : a < 16) (hen : en < 16) (hsn : sn < 2 ^ 16) : ctI l (dC, dI) (tyL cI cJ cZ cII cJJ) (HW cI cJ cII cJJ R) yX0_paths wsX0_paths (7, 280) [.ref (R 22), .int (nI a), .int (nI en), .int (nI sn), .int 9] (I, A, B, C, T) (fun r u => r = nI (pth bw en 7 a sn) ∧ u = (I, A, B, C, T)) := by
  refine ctI_intro (cc := cX0_paths) (maxL := 7) (by decide) rfl (Nat.le_of_ble_eq_true rfl) ?_
  intro p e s m below meth c ls Aa Q F hK hN hP hD hS hA hl hret
  have hx := F.1
  have hb := F.2.1
  have hown : s.vm.findClass RX0 = some m.cls := F.2.2.2.1
  have hts := F.2.2.2.2
  have hl : lv_has ls 7 [(0, .ref (R 22)), (1, .int (nI a)), (2, .int (nI en)), (3, .int (nI sn)), (4, .int 9)] := hl
  refine lv_iload_n hx hb dX0_paths_0 rfl (lv_at hl 1 rfl) ?_
  refine lv_iload_n hx hb dX0_paths_1 rfl (lv_at hl 2 rfl) ?_
  refine lv_icmp_ne (tgt := 7) hx hb dX0_paths_2 (by decide) (fun c2 => ?_) (fun c2 => ?_)
  · -- 2 taken
    have c2 : ¬ a = en := fun h => c2 (by rw [h])
    refine lv_iload hx hb dX0_paths_7 (lv_at hl 4 rfl) ?_
    refine lv_bipush (v := 16) hx hb dX0_paths_9 (by decide) ?_
    refine lv_icmp_lt (tgt := 16) hx hb dX0_paths_11 (by decide) (fun c11 => ?_) (fun c11 => ?_)
    · -- 11 taken
      refine lv_iconst (v := 0) hx hb dX0_paths_16 (by decide) ?_
      refine lv_istore (lv' := [(5, .int 0), (0, .ref (R 22)), (1, .int (nI a)), (2, .int (nI en)), (3, .int (nI sn)), (4, .int 9)]) hx hb dX0_paths_17 hl (by decide) rfl (fun ls hl => ?_)
      refine lv_iconst (v := 0) hx hb dX0_paths_19 (by decide) ?_
      refine lv_istore (lv' := [(6, .int 0), (5, .int 0), (0, .ref (R 22)), (1, .int (nI a)), (2, .int (nI en)), (3, .int (nI sn)), (4, .int 9)]) hx hb dX0_paths_20 hl (by decide) rfl (fun ls hl => ?_)
      have K22 : ∀ (kn : Nat) (v : Nat) (y5 : Int32) (ls : Array Slot) (H : Heap) (locs : List Loc), 16 - v < kn → (v ≤ 16 ∧ y5 = nI (pthS bw en 6 a sn v)) → va_P (dC, dI) vwCl (HW cI cJ cII cJJ R (I, A, B, C, T)) H → va_D Aa (HW cI cJ cII cJJ R (I, A, B, C, T)) → va_S Aa s.heap H locs → lv_has ls 7 [(0, .ref (R 22)), (1, .int (nI a)), (2, .int (nI en)), (3, .int (nI sn)), (4, .int 9), (5, .int y5), (6, .int (nI v))] → W p l e (ctR (7, 280)) s m #[.ref (R 22), .int (nI a), .int (nI en), .int (nI sn), .int 9] below meth c H locs 0 0 Q (F0 m 22 ls []) := by
        intro kn
        induction kn with
        | zero => intro v y5 ls H locs hmu; exact absurd hmu (Nat.not_lt_zero _)
        | succ kn ih22 =>
          intro v y5 ls H locs mu22 inv22 hP hD hS hl
          obtain ⟨hv16, hy5⟩ := inv22
          refine lv_iload hx hb dX0_paths_22 (lv_at hl 6 rfl) ?_
          refine lv_bipush (v := 16) hx hb dX0_paths_24 (by decide) ?_
          refine lv_icmp_ge (tgt := 82) hx hb dX0_paths_26 (by decide) (fun c26 => ?_) (fun c26 => ?_)
          · -- 26 taken
            have hge : v = 16 := by have := (nI_leI (a := 16) (by omega) (by omega)).mp c26; omega
            refine lv_iload hx hb dX0_paths_82 (lv_at hl 5 rfl) ?_
            refine hret 84 ls _ _ y5 (I, A, B, C, T) dX0_paths_84 rfl ?_ hP hD hS
            try dsimp only
            exact ⟨by rw [hy5, pth_s c2, hge], rfl⟩
          · -- 26 not
            have hv : v < 16 := Nat.lt_of_not_le (fun h => c26 (nI_le (a := 16) h (by omega)))
            have vcl : (nI v).toNatClampNeg = v := nI_clamp (by omega)
            have hbwl := (hC a v ha hv).2
            refine lv_aload_n hx hb dX0_paths_29 rfl (lv_at hl 0 rfl) ?_
            refine lv_iload_n hx hb dX0_paths_30 rfl (lv_at hl 1 rfl) ?_
            refine va_aldr hx hb hK hP 22 3 rfl rfl (vp_in_nI ha (by decide)) dX0_paths_31 ?_
            rw [go_ref (R := R) (b := 200) ha]
            refine lv_iload hx hb dX0_paths_32 (lv_at hl 6 rfl) ?_
            have h34 : vp_in (nI v) 16 := vp_in_nI hv (by decide)
            refine va_iald hx hb hK hP (39 + a) 0 (hw_C ha) rfl h34 dX0_paths_34 ?_
            refine lv_topi (fun x34 ex34 => ?_)
            have ex34 : x34 = C a (nI v).toNatClampNeg := ex34
            have ex34 : x34 = nI (bw a v) := by rw [ex34, vcl]; exact (hC a v ha hv).1
            subst ex34
            refine lv_if_eq (tgt := 76) hx hb dX0_paths_35 (by decide) (fun c35 => ?_) (fun c35 => ?_)
            · -- 35 taken
              have c35 : bw a v = 0 := (nI_eq (b := 0) hbwl (by decide)).mp c35
              obtain ⟨x76, ex76⟩ : ∃ zz : Int32, zz = nI v + (1) := ⟨_, rfl⟩
              refine lv_iinc (v := x76) (lv' := [(6, .int x76), (0, .ref (R 22)), (1, .int (nI a)), (2, .int (nI en)), (3, .int (nI sn)), (4, .int 9), (5, .int y5)]) hx hb dX0_paths_76 hl (k := 6) rfl (by rw [ex76]; rfl) (by decide) rfl (fun ls hl => ?_)
              have ex76 : x76 = nI (v + 1) := by rw [ex76]; exact nI_1 v
              subst ex76
              refine lv_goto (tgt := 22) hx hb dX0_paths_79 (by decide) ?_
              exact ih22 (v + 1) y5 ls _ _ (by omega) ⟨by omega, by rw [pthS_n (fun h => h.1 c35)]; exact hy5⟩ hP hD hS (lv_sub hl [1, 2, 3, 4, 5, 6, 0] rfl)
            · -- 35 not
              have c35 : bw a v ≠ 0 := fun h => c35 (by rw [h]; rfl)
              refine lv_iload_n hx hb dX0_paths_38 rfl (lv_at hl 3 rfl) ?_
              refine lv_iload hx hb dX0_paths_39 (lv_at hl 6 rfl) ?_
              refine lv_ishr hx hb dX0_paths_41 ?_
              refine lv_topi (fun x41 ex41 => ?_)
              refine lv_iconst (v := 1) hx hb dX0_paths_42 (by decide) ?_
              refine lv_iand hx hb dX0_paths_43 ?_
              refine lv_topi (fun x43 ex43 => ?_)
              have ex43 : x43 = nI (if sn.testBit v then 1 else 0) := by rw [ex43, ex41]; exact nm_ibit (by omega) (by omega)
              subst ex43
              refine lv_if_ne (tgt := 76) hx hb dX0_paths_44 (by decide) (fun c44 => ?_) (fun c44 => ?_)
              · -- 44 taken
                have c44 : ¬ sn.testBit v = false := fun h => c44 (by rw [h]; rfl)
                obtain ⟨x76, ex76⟩ : ∃ zz : Int32, zz = nI v + (1) := ⟨_, rfl⟩
                refine lv_iinc (v := x76) (lv' := [(6, .int x76), (0, .ref (R 22)), (1, .int (nI a)), (2, .int (nI en)), (3, .int (nI sn)), (4, .int 9), (5, .int y5)]) hx hb dX0_paths_76 hl (k := 6) rfl (by rw [ex76]; rfl) (by decide) rfl (fun ls hl => ?_)
                have ex76 : x76 = nI (v + 1) := by rw [ex76]; exact nI_1 v
                subst ex76
                refine lv_goto (tgt := 22) hx hb dX0_paths_79 (by decide) ?_
                exact ih22 (v + 1) y5 ls _ _ (by omega) ⟨by omega, by rw [pthS_n (fun h => c44 h.2)]; exact hy5⟩ hP hD hS (lv_sub hl [1, 2, 3, 4, 5, 6, 0] rfl)
              · -- 44 not
                have c44 : sn.testBit v = false := bool_f (fun h => by rw [h] at c44; exact absurd c44 (by decide))
                have hsn2 : sn ||| 2 ^ v < 2 ^ 16 := Nat.or_lt_two_pow hsn (Nat.pow_lt_pow_right (by omega) hv)
                refine lv_iload hx hb dX0_paths_47 (lv_at hl 5 rfl) ?_
                refine lv_aload_n hx hb dX0_paths_49 rfl (lv_at hl 0 rfl) ?_
                refine lv_iload_n hx hb dX0_paths_50 rfl (lv_at hl 1 rfl) ?_
                refine va_aldr hx hb hK hP 22 3 rfl rfl (vp_in_nI ha (by decide)) dX0_paths_51 ?_
                rw [go_ref (R := R) (b := 200) ha]
                refine lv_iload hx hb dX0_paths_52 (lv_at hl 6 rfl) ?_
                have h54 : vp_in (nI v) 16 := vp_in_nI hv (by decide)
                refine va_iald hx hb hK hP (39 + a) 0 (hw_C ha) rfl h54 dX0_paths_54 ?_
                refine lv_topi (fun x54 ex54 => ?_)
                have ex54 : x54 = C a (nI v).toNatClampNeg := ex54
                have ex54 : x54 = nI (bw a v) := by rw [ex54, vcl]; exact (hC a v ha hv).1
                subst ex54
                refine lv_aload_n hx hb dX0_paths_55 rfl (lv_at hl 0 rfl) ?_
                refine lv_iload hx hb dX0_paths_56 (lv_at hl 6 rfl) ?_
                refine lv_iload_n hx hb dX0_paths_58 rfl (lv_at hl 2 rfl) ?_
                refine lv_iload_n hx hb dX0_paths_59 rfl (lv_at hl 3 rfl) ?_
                refine lv_iconst (v := 1) hx hb dX0_paths_60 (by decide) ?_
                refine lv_iload hx hb dX0_paths_61 (lv_at hl 6 rfl) ?_
                refine lv_ishl hx hb dX0_paths_63 ?_
                refine lv_topi (fun x63 ex63 => ?_)
                have ex63 : x63 = nI (2 ^ v) := by rw [ex63]; exact nm_ishl (by omega)
                subst ex63
                refine lv_ior hx hb dX0_paths_64 ?_
                refine lv_topi (fun x64 ex64 => ?_)
                have ex64 : x64 = nI (sn ||| 2 ^ v) := by rw [ex64]; exact nI_orr _ _
                subst ex64
                refine lv_iload hx hb dX0_paths_65 (lv_at hl 4 rfl) ?_
                refine lv_iconst (v := 1) hx hb dX0_paths_67 (by decide) ?_
                refine lv_iadd hx hb dX0_paths_68 ?_
                refine lv_topi (fun x68 ex68 => ?_)
                have ex68 : x68 = 10 := by rw [ex68]; rfl
                subst ex68
                refine ct_calli hD hS hA (va_runS (As := [.ref (R 22), .int (nI v), .int (nI en), .int (nI (sn ||| 2 ^ v)), .int 10]) (rest := [.int (nI (bw a v)), .int y5]) F ((k_X0_paths6 l dC dI cI cJ cZ cII cJJ R I A B C T bw v en (sn ||| 2 ^ v) hC hv hen hsn2) _) (va_cwS 5 hts gX0_paths_X0_paths rfl rfl rfl (by decide +kernel) ⟨(Nat.le_of_ble_eq_true rfl), (Nat.le_of_ble_eq_true rfl)⟩) (ct_preS hK hN hP hD) rfl rfl hl.1 rfl (lv_room (Nat.le_of_ble_eq_true rfl)) dX0_paths_69 ⟨(Nat.le_of_ble_eq_true rfl), (Nat.le_of_ble_eq_true rfl)⟩) (fun r69 u69 H locs w69 hP hD hS => ?_)
                obtain ⟨w69, rfl⟩ := w69
                refine lv_imul hx hb dX0_paths_72 ?_
                refine lv_topi (fun x72 ex72 => ?_)
                have ex72 : x72 = nI (bw a v * pth bw en 6 v (sn ||| 2 ^ v)) := by rw [ex72, w69]; exact nI_ml _ _
                subst ex72
                refine lv_iadd hx hb dX0_paths_73 ?_
                refine lv_topi (fun x73 ex73 => ?_)
                have ex73 : x73 = nI (pthS bw en 6 a sn (v + 1)) := by rw [ex73, hy5, pthS_y c35 c44]; exact nI_add _ _
                subst ex73
                refine lv_istore (lv' := [(5, .int (nI (pthS bw en 6 a sn (v + 1)))), (0, .ref (R 22)), (1, .int (nI a)), (2, .int (nI en)), (3, .int (nI sn)), (4, .int 9), (6, .int (nI v))]) hx hb dX0_paths_74 hl (by decide) rfl (fun ls hl => ?_)
                obtain ⟨x76, ex76⟩ : ∃ zz : Int32, zz = nI v + (1) := ⟨_, rfl⟩
                refine lv_iinc (v := x76) (lv' := [(6, .int x76), (5, .int (nI (pthS bw en 6 a sn (v + 1)))), (0, .ref (R 22)), (1, .int (nI a)), (2, .int (nI en)), (3, .int (nI sn)), (4, .int 9)]) hx hb dX0_paths_76 hl (k := 6) rfl (by rw [ex76]; rfl) (by decide) rfl (fun ls hl => ?_)
                have ex76 : x76 = nI (v + 1) := by rw [ex76]; exact nI_1 v
                subst ex76
                refine lv_goto (tgt := 22) hx hb dX0_paths_79 (by decide) ?_
                exact ih22 (v + 1) (nI (pthS bw en 6 a sn (v + 1))) ls _ _ (by omega) ⟨by omega, rfl⟩ hP hD hS (lv_sub hl [2, 3, 4, 5, 6, 1, 0] rfl)
      exact K22 _ 0 0 ls _ _ (Nat.lt_succ_self _) ⟨Nat.zero_le _, rfl⟩ hP hD hS (lv_sub hl [2, 3, 4, 5, 6, 1, 0] rfl)
    · exact absurd c11 (by decide)
  · -- 2 not
    have c2 : a = en := (nI_eq (by omega) (by omega)).mp c2
    refine lv_iconst (v := 1) hx hb dX0_paths_5 (by decide) ?_
    refine hret 6 ls _ _ 1 (I, A, B, C, T) dX0_paths_6 rfl ?_ hP hD hS
    try dsimp only
    exact ⟨by rw [c2, pth_end]; rfl, rfl⟩
set_option maxHeartbeats 4000000 in
set_option maxRecDepth 100000 in
theorem k_X0_paths8 (l : Launch) (dC : Nat → ClassId) (dI : Nat → Nat → Nat) (cI cJ cZ cII cJJ : ClassId) (R : Nat → Nat) (I : Nat → Int32) (A : Nat → Nat → Int32) (B : Nat → Nat → Int64) (C : Nat → Nat → Int32) (T : Nat → Nat → Int64) (bw : Nat → Nat → Nat) (a en sn : Nat) (hC : rC2 C bw) (ha : a < 16) (hen : en < 16) (hsn : sn < 2 ^ 16) : ctI l (dC, dI) (tyL cI cJ cZ cII cJJ) (HW cI cJ cII cJJ R) yX0_paths wsX0_paths (8, 320) [.ref (R 22), .int (nI a), .int (nI en), .int (nI sn), .int 8] (I, A, B, C, T) (fun r u => r = nI (pth bw en 8 a sn) ∧ u = (I, A, B, C, T)) := by
  refine ctI_intro (cc := cX0_paths) (maxL := 7) (by decide) rfl (Nat.le_of_ble_eq_true rfl) ?_
  intro p e s m below meth c ls Aa Q F hK hN hP hD hS hA hl hret
  have hx := F.1
  have hb := F.2.1
  have hown : s.vm.findClass RX0 = some m.cls := F.2.2.2.1
  have hts := F.2.2.2.2
  have hl : lv_has ls 7 [(0, .ref (R 22)), (1, .int (nI a)), (2, .int (nI en)), (3, .int (nI sn)), (4, .int 8)] := hl
  refine lv_iload_n hx hb dX0_paths_0 rfl (lv_at hl 1 rfl) ?_
  refine lv_iload_n hx hb dX0_paths_1 rfl (lv_at hl 2 rfl) ?_
  refine lv_icmp_ne (tgt := 7) hx hb dX0_paths_2 (by decide) (fun c2 => ?_) (fun c2 => ?_)
  · -- 2 taken
    have c2 : ¬ a = en := fun h => c2 (by rw [h])
    refine lv_iload hx hb dX0_paths_7 (lv_at hl 4 rfl) ?_
    refine lv_bipush (v := 16) hx hb dX0_paths_9 (by decide) ?_
    refine lv_icmp_lt (tgt := 16) hx hb dX0_paths_11 (by decide) (fun c11 => ?_) (fun c11 => ?_)
    · -- 11 taken
      refine lv_iconst (v := 0) hx hb dX0_paths_16 (by decide) ?_
      refine lv_istore (lv' := [(5, .int 0), (0, .ref (R 22)), (1, .int (nI a)), (2, .int (nI en)), (3, .int (nI sn)), (4, .int 8)]) hx hb dX0_paths_17 hl (by decide) rfl (fun ls hl => ?_)
      refine lv_iconst (v := 0) hx hb dX0_paths_19 (by decide) ?_
      refine lv_istore (lv' := [(6, .int 0), (5, .int 0), (0, .ref (R 22)), (1, .int (nI a)), (2, .int (nI en)), (3, .int (nI sn)), (4, .int 8)]) hx hb dX0_paths_20 hl (by decide) rfl (fun ls hl => ?_)
      have K22 : ∀ (kn : Nat) (v : Nat) (y5 : Int32) (ls : Array Slot) (H : Heap) (locs : List Loc), 16 - v < kn → (v ≤ 16 ∧ y5 = nI (pthS bw en 7 a sn v)) → va_P (dC, dI) vwCl (HW cI cJ cII cJJ R (I, A, B, C, T)) H → va_D Aa (HW cI cJ cII cJJ R (I, A, B, C, T)) → va_S Aa s.heap H locs → lv_has ls 7 [(0, .ref (R 22)), (1, .int (nI a)), (2, .int (nI en)), (3, .int (nI sn)), (4, .int 8), (5, .int y5), (6, .int (nI v))] → W p l e (ctR (8, 320)) s m #[.ref (R 22), .int (nI a), .int (nI en), .int (nI sn), .int 8] below meth c H locs 0 0 Q (F0 m 22 ls []) := by
        intro kn
        induction kn with
        | zero => intro v y5 ls H locs hmu; exact absurd hmu (Nat.not_lt_zero _)
        | succ kn ih22 =>
          intro v y5 ls H locs mu22 inv22 hP hD hS hl
          obtain ⟨hv16, hy5⟩ := inv22
          refine lv_iload hx hb dX0_paths_22 (lv_at hl 6 rfl) ?_
          refine lv_bipush (v := 16) hx hb dX0_paths_24 (by decide) ?_
          refine lv_icmp_ge (tgt := 82) hx hb dX0_paths_26 (by decide) (fun c26 => ?_) (fun c26 => ?_)
          · -- 26 taken
            have hge : v = 16 := by have := (nI_leI (a := 16) (by omega) (by omega)).mp c26; omega
            refine lv_iload hx hb dX0_paths_82 (lv_at hl 5 rfl) ?_
            refine hret 84 ls _ _ y5 (I, A, B, C, T) dX0_paths_84 rfl ?_ hP hD hS
            try dsimp only
            exact ⟨by rw [hy5, pth_s c2, hge], rfl⟩
          · -- 26 not
            have hv : v < 16 := Nat.lt_of_not_le (fun h => c26 (nI_le (a := 16) h (by omega)))
            have vcl : (nI v).toNatClampNeg = v := nI_clamp (by omega)
            have hbwl := (hC a v ha hv).2
            refine lv_aload_n hx hb dX0_paths_29 rfl (lv_at hl 0 rfl) ?_
            refine lv_iload_n hx hb dX0_paths_30 rfl (lv_at hl 1 rfl) ?_
            refine va_aldr hx hb hK hP 22 3 rfl rfl (vp_in_nI ha (by decide)) dX0_paths_31 ?_
            rw [go_ref (R := R) (b := 200) ha]
            refine lv_iload hx hb dX0_paths_32 (lv_at hl 6 rfl) ?_
            have h34 : vp_in (nI v) 16 := vp_in_nI hv (by decide)
            refine va_iald hx hb hK hP (39 + a) 0 (hw_C ha) rfl h34 dX0_paths_34 ?_
            refine lv_topi (fun x34 ex34 => ?_)
            have ex34 : x34 = C a (nI v).toNatClampNeg := ex34
            have ex34 : x34 = nI (bw a v) := by rw [ex34, vcl]; exact (hC a v ha hv).1
            subst ex34
            refine lv_if_eq (tgt := 76) hx hb dX0_paths_35 (by decide) (fun c35 => ?_) (fun c35 => ?_)
            · -- 35 taken
              have c35 : bw a v = 0 := (nI_eq (b := 0) hbwl (by decide)).mp c35
              obtain ⟨x76, ex76⟩ : ∃ zz : Int32, zz = nI v + (1) := ⟨_, rfl⟩
              refine lv_iinc (v := x76) (lv' := [(6, .int x76), (0, .ref (R 22)), (1, .int (nI a)), (2, .int (nI en)), (3, .int (nI sn)), (4, .int 8), (5, .int y5)]) hx hb dX0_paths_76 hl (k := 6) rfl (by rw [ex76]; rfl) (by decide) rfl (fun ls hl => ?_)
              have ex76 : x76 = nI (v + 1) := by rw [ex76]; exact nI_1 v
              subst ex76
              refine lv_goto (tgt := 22) hx hb dX0_paths_79 (by decide) ?_
              exact ih22 (v + 1) y5 ls _ _ (by omega) ⟨by omega, by rw [pthS_n (fun h => h.1 c35)]; exact hy5⟩ hP hD hS (lv_sub hl [1, 2, 3, 4, 5, 6, 0] rfl)
            · -- 35 not
              have c35 : bw a v ≠ 0 := fun h => c35 (by rw [h]; rfl)
              refine lv_iload_n hx hb dX0_paths_38 rfl (lv_at hl 3 rfl) ?_
              refine lv_iload hx hb dX0_paths_39 (lv_at hl 6 rfl) ?_
              refine lv_ishr hx hb dX0_paths_41 ?_
              refine lv_topi (fun x41 ex41 => ?_)
              refine lv_iconst (v := 1) hx hb dX0_paths_42 (by decide) ?_
              refine lv_iand hx hb dX0_paths_43 ?_
              refine lv_topi (fun x43 ex43 => ?_)
              have ex43 : x43 = nI (if sn.testBit v then 1 else 0) := by rw [ex43, ex41]; exact nm_ibit (by omega) (by omega)
              subst ex43
              refine lv_if_ne (tgt := 76) hx hb dX0_paths_44 (by decide) (fun c44 => ?_) (fun c44 => ?_)
              · -- 44 taken
                have c44 : ¬ sn.testBit v = false := fun h => c44 (by rw [h]; rfl)
                obtain ⟨x76, ex76⟩ : ∃ zz : Int32, zz = nI v + (1) := ⟨_, rfl⟩
                refine lv_iinc (v := x76) (lv' := [(6, .int x76), (0, .ref (R 22)), (1, .int (nI a)), (2, .int (nI en)), (3, .int (nI sn)), (4, .int 8), (5, .int y5)]) hx hb dX0_paths_76 hl (k := 6) rfl (by rw [ex76]; rfl) (by decide) rfl (fun ls hl => ?_)
                have ex76 : x76 = nI (v + 1) := by rw [ex76]; exact nI_1 v
                subst ex76
                refine lv_goto (tgt := 22) hx hb dX0_paths_79 (by decide) ?_
                exact ih22 (v + 1) y5 ls _ _ (by omega) ⟨by omega, by rw [pthS_n (fun h => c44 h.2)]; exact hy5⟩ hP hD hS (lv_sub hl [1, 2, 3, 4, 5, 6, 0] rfl)
              · -- 44 not
                have c44 : sn.testBit v = false := bool_f (fun h => by rw [h] at c44; exact absurd c44 (by decide))
                have hsn2 : sn ||| 2 ^ v < 2 ^ 16 := Nat.or_lt_two_pow hsn (Nat.pow_lt_pow_right (by omega) hv)
                refine lv_iload hx hb dX0_paths_47 (lv_at hl 5 rfl) ?_
                refine lv_aload_n hx hb dX0_paths_49 rfl (lv_at hl 0 rfl) ?_
                refine lv_iload_n hx hb dX0_paths_50 rfl (lv_at hl 1 rfl) ?_
                refine va_aldr hx hb hK hP 22 3 rfl rfl (vp_in_nI ha (by decide)) dX0_paths_51 ?_
                rw [go_ref (R := R) (b := 200) ha]
                refine lv_iload hx hb dX0_paths_52 (lv_at hl 6 rfl) ?_
                have h54 : vp_in (nI v) 16 := vp_in_nI hv (by decide)
                refine va_iald hx hb hK hP (39 + a) 0 (hw_C ha) rfl h54 dX0_paths_54 ?_
                refine lv_topi (fun x54 ex54 => ?_)
                have ex54 : x54 = C a (nI v).toNatClampNeg := ex54
                have ex54 : x54 = nI (bw a v) := by rw [ex54, vcl]; exact (hC a v ha hv).1
                subst ex54
                refine lv_aload_n hx hb dX0_paths_55 rfl (lv_at hl 0 rfl) ?_
                refine lv_iload hx hb dX0_paths_56 (lv_at hl 6 rfl) ?_
                refine lv_iload_n hx hb dX0_paths_58 rfl (lv_at hl 2 rfl) ?_
                refine lv_iload_n hx hb dX0_paths_59 rfl (lv_at hl 3 rfl) ?_
                refine lv_iconst (v := 1) hx hb dX0_paths_60 (by decide) ?_
                refine lv_iload hx hb dX0_paths_61 (lv_at hl 6 rfl) ?_
                refine lv_ishl hx hb dX0_paths_63 ?_
                refine lv_topi (fun x63 ex63 => ?_)
                have ex63 : x63 = nI (2 ^ v) := by rw [ex63]; exact nm_ishl (by omega)
                subst ex63
                refine lv_ior hx hb dX0_paths_64 ?_
                refine lv_topi (fun x64 ex64 => ?_)
                have ex64 : x64 = nI (sn ||| 2 ^ v) := by rw [ex64]; exact nI_orr _ _
                subst ex64
                refine lv_iload hx hb dX0_paths_65 (lv_at hl 4 rfl) ?_
                refine lv_iconst (v := 1) hx hb dX0_paths_67 (by decide) ?_
                refine lv_iadd hx hb dX0_paths_68 ?_
                refine lv_topi (fun x68 ex68 => ?_)
                have ex68 : x68 = 9 := by rw [ex68]; rfl
                subst ex68
                refine ct_calli hD hS hA (va_runS (As := [.ref (R 22), .int (nI v), .int (nI en), .int (nI (sn ||| 2 ^ v)), .int 9]) (rest := [.int (nI (bw a v)), .int y5]) F ((k_X0_paths7 l dC dI cI cJ cZ cII cJJ R I A B C T bw v en (sn ||| 2 ^ v) hC hv hen hsn2) _) (va_cwS 5 hts gX0_paths_X0_paths rfl rfl rfl (by decide +kernel) ⟨(Nat.le_of_ble_eq_true rfl), (Nat.le_of_ble_eq_true rfl)⟩) (ct_preS hK hN hP hD) rfl rfl hl.1 rfl (lv_room (Nat.le_of_ble_eq_true rfl)) dX0_paths_69 ⟨(Nat.le_of_ble_eq_true rfl), (Nat.le_of_ble_eq_true rfl)⟩) (fun r69 u69 H locs w69 hP hD hS => ?_)
                obtain ⟨w69, rfl⟩ := w69
                refine lv_imul hx hb dX0_paths_72 ?_
                refine lv_topi (fun x72 ex72 => ?_)
                have ex72 : x72 = nI (bw a v * pth bw en 7 v (sn ||| 2 ^ v)) := by rw [ex72, w69]; exact nI_ml _ _
                subst ex72
                refine lv_iadd hx hb dX0_paths_73 ?_
                refine lv_topi (fun x73 ex73 => ?_)
                have ex73 : x73 = nI (pthS bw en 7 a sn (v + 1)) := by rw [ex73, hy5, pthS_y c35 c44]; exact nI_add _ _
                subst ex73
                refine lv_istore (lv' := [(5, .int (nI (pthS bw en 7 a sn (v + 1)))), (0, .ref (R 22)), (1, .int (nI a)), (2, .int (nI en)), (3, .int (nI sn)), (4, .int 8), (6, .int (nI v))]) hx hb dX0_paths_74 hl (by decide) rfl (fun ls hl => ?_)
                obtain ⟨x76, ex76⟩ : ∃ zz : Int32, zz = nI v + (1) := ⟨_, rfl⟩
                refine lv_iinc (v := x76) (lv' := [(6, .int x76), (5, .int (nI (pthS bw en 7 a sn (v + 1)))), (0, .ref (R 22)), (1, .int (nI a)), (2, .int (nI en)), (3, .int (nI sn)), (4, .int 8)]) hx hb dX0_paths_76 hl (k := 6) rfl (by rw [ex76]; rfl) (by decide) rfl (fun ls hl => ?_)
                have ex76 : x76 = nI (v + 1) := by rw [ex76]; exact nI_1 v
                subst ex76
                refine lv_goto (tgt := 22) hx hb dX0_paths_79 (by decide) ?_
                exact ih22 (v + 1) (nI (pthS bw en 7 a sn (v + 1))) ls _ _ (by omega) ⟨by omega, rfl⟩ hP hD hS (lv_sub hl [2, 3, 4, 5, 6, 1, 0] rfl)
      exact K22 _ 0 0 ls _ _ (Nat.lt_succ_self _) ⟨Nat.zero_le _, rfl⟩ hP hD hS (lv_sub hl [2, 3, 4, 5, 6, 1, 0] rfl)
    · exact absurd c11 (by decide)
  · -- 2 not
    have c2 : a = en := (nI_eq (by omega) (by omega)).mp c2
    refine lv_iconst (v := 1) hx hb dX0_paths_5 (by decide) ?_
    refine hret 6 ls _ _ 1 (I, A, B, C, T) dX0_paths_6 rfl ?_ hP hD hS
    try dsimp only
    exact ⟨by rw [c2, pth_end]; rfl, rfl⟩
set_option maxHeartbeats 4000000 in
set_option maxRecDepth 100000 in
theorem k_X0_paths9 (l : Launch) (dC : Nat → ClassId) (dI : Nat → Nat → Nat) (cI cJ cZ cII cJJ : ClassId) (R : Nat → Nat) (I : Nat → Int32) (A : Nat → Nat → Int32) (B : Nat → Nat → Int64) (C : Nat → Nat → Int32) (T : Nat → Nat → Int64) (bw : Nat → Nat → Nat) (a en sn : Nat) (hC : rC2 C bw) (ha : a < 16) (hen : en < 16) (hsn : sn < 2 ^ 16) : ctI l (dC, dI) (tyL cI cJ cZ cII cJJ) (HW cI cJ cII cJJ R) yX0_paths wsX0_paths (9, 360) [.ref (R 22), .int (nI a), .int (nI en), .int (nI sn), .int 7] (I, A, B, C, T) (fun r u => r = nI (pth bw en 9 a sn) ∧ u = (I, A, B, C, T)) := by
  refine ctI_intro (cc := cX0_paths) (maxL := 7) (by decide) rfl (Nat.le_of_ble_eq_true rfl) ?_
  intro p e s m below meth c ls Aa Q F hK hN hP hD hS hA hl hret
  have hx := F.1
  have hb := F.2.1
  have hown : s.vm.findClass RX0 = some m.cls := F.2.2.2.1
  have hts := F.2.2.2.2
  have hl : lv_has ls 7 [(0, .ref (R 22)), (1, .int (nI a)), (2, .int (nI en)), (3, .int (nI sn)), (4, .int 7)] := hl
  refine lv_iload_n hx hb dX0_paths_0 rfl (lv_at hl 1 rfl) ?_
  refine lv_iload_n hx hb dX0_paths_1 rfl (lv_at hl 2 rfl) ?_
  refine lv_icmp_ne (tgt := 7) hx hb dX0_paths_2 (by decide) (fun c2 => ?_) (fun c2 => ?_)
  · -- 2 taken
    have c2 : ¬ a = en := fun h => c2 (by rw [h])
    refine lv_iload hx hb dX0_paths_7 (lv_at hl 4 rfl) ?_
    refine lv_bipush (v := 16) hx hb dX0_paths_9 (by decide) ?_
    refine lv_icmp_lt (tgt := 16) hx hb dX0_paths_11 (by decide) (fun c11 => ?_) (fun c11 => ?_)
    · -- 11 taken
      refine lv_iconst (v := 0) hx hb dX0_paths_16 (by decide) ?_
      refine lv_istore (lv' := [(5, .int 0), (0, .ref (R 22)), (1, .int (nI a)), (2, .int (nI en)), (3, .int (nI sn)), (4, .int 7)]) hx hb dX0_paths_17 hl (by decide) rfl (fun ls hl => ?_)
      refine lv_iconst (v := 0) hx hb dX0_paths_19 (by decide) ?_
      refine lv_istore (lv' := [(6, .int 0), (5, .int 0), (0, .ref (R 22)), (1, .int (nI a)), (2, .int (nI en)), (3, .int (nI sn)), (4, .int 7)]) hx hb dX0_paths_20 hl (by decide) rfl (fun ls hl => ?_)
      have K22 : ∀ (kn : Nat) (v : Nat) (y5 : Int32) (ls : Array Slot) (H : Heap) (locs : List Loc), 16 - v < kn → (v ≤ 16 ∧ y5 = nI (pthS bw en 8 a sn v)) → va_P (dC, dI) vwCl (HW cI cJ cII cJJ R (I, A, B, C, T)) H → va_D Aa (HW cI cJ cII cJJ R (I, A, B, C, T)) → va_S Aa s.heap H locs → lv_has ls 7 [(0, .ref (R 22)), (1, .int (nI a)), (2, .int (nI en)), (3, .int (nI sn)), (4, .int 7), (5, .int y5), (6, .int (nI v))] → W p l e (ctR (9, 360)) s m #[.ref (R 22), .int (nI a), .int (nI en), .int (nI sn), .int 7] below meth c H locs 0 0 Q (F0 m 22 ls []) := by
        intro kn
        induction kn with
        | zero => intro v y5 ls H locs hmu; exact absurd hmu (Nat.not_lt_zero _)
        | succ kn ih22 =>
          intro v y5 ls H locs mu22 inv22 hP hD hS hl
          obtain ⟨hv16, hy5⟩ := inv22
          refine lv_iload hx hb dX0_paths_22 (lv_at hl 6 rfl) ?_
          refine lv_bipush (v := 16) hx hb dX0_paths_24 (by decide) ?_
          refine lv_icmp_ge (tgt := 82) hx hb dX0_paths_26 (by decide) (fun c26 => ?_) (fun c26 => ?_)
          · -- 26 taken
            have hge : v = 16 := by have := (nI_leI (a := 16) (by omega) (by omega)).mp c26; omega
            refine lv_iload hx hb dX0_paths_82 (lv_at hl 5 rfl) ?_
            refine hret 84 ls _ _ y5 (I, A, B, C, T) dX0_paths_84 rfl ?_ hP hD hS
            try dsimp only
            exact ⟨by rw [hy5, pth_s c2, hge], rfl⟩
          · -- 26 not
            have hv : v < 16 := Nat.lt_of_not_le (fun h => c26 (nI_le (a := 16) h (by omega)))
            have vcl : (nI v).toNatClampNeg = v := nI_clamp (by omega)
            have hbwl := (hC a v ha hv).2
            refine lv_aload_n hx hb dX0_paths_29 rfl (lv_at hl 0 rfl) ?_
            refine lv_iload_n hx hb dX0_paths_30 rfl (lv_at hl 1 rfl) ?_
            refine va_aldr hx hb hK hP 22 3 rfl rfl (vp_in_nI ha (by decide)) dX0_paths_31 ?_
            rw [go_ref (R := R) (b := 200) ha]
            refine lv_iload hx hb dX0_paths_32 (lv_at hl 6 rfl) ?_
            have h34 : vp_in (nI v) 16 := vp_in_nI hv (by decide)
            refine va_iald hx hb hK hP (39 + a) 0 (hw_C ha) rfl h34 dX0_paths_34 ?_
            refine lv_topi (fun x34 ex34 => ?_)
            have ex34 : x34 = C a (nI v).toNatClampNeg := ex34
            have ex34 : x34 = nI (bw a v) := by rw [ex34, vcl]; exact (hC a v ha hv).1
            subst ex34
            refine lv_if_eq (tgt := 76) hx hb dX0_paths_35 (by decide) (fun c35 => ?_) (fun c35 => ?_)
            · -- 35 taken
              have c35 : bw a v = 0 := (nI_eq (b := 0) hbwl (by decide)).mp c35
              obtain ⟨x76, ex76⟩ : ∃ zz : Int32, zz = nI v + (1) := ⟨_, rfl⟩
              refine lv_iinc (v := x76) (lv' := [(6, .int x76), (0, .ref (R 22)), (1, .int (nI a)), (2, .int (nI en)), (3, .int (nI sn)), (4, .int 7), (5, .int y5)]) hx hb dX0_paths_76 hl (k := 6) rfl (by rw [ex76]; rfl) (by decide) rfl (fun ls hl => ?_)
              have ex76 : x76 = nI (v + 1) := by rw [ex76]; exact nI_1 v
              subst ex76
              refine lv_goto (tgt := 22) hx hb dX0_paths_79 (by decide) ?_
              exact ih22 (v + 1) y5 ls _ _ (by omega) ⟨by omega, by rw [pthS_n (fun h => h.1 c35)]; exact hy5⟩ hP hD hS (lv_sub hl [1, 2, 3, 4, 5, 6, 0] rfl)
            · -- 35 not
              have c35 : bw a v ≠ 0 := fun h => c35 (by rw [h]; rfl)
              refine lv_iload_n hx hb dX0_paths_38 rfl (lv_at hl 3 rfl) ?_
              refine lv_iload hx hb dX0_paths_39 (lv_at hl 6 rfl) ?_
              refine lv_ishr hx hb dX0_paths_41 ?_
              refine lv_topi (fun x41 ex41 => ?_)
              refine lv_iconst (v := 1) hx hb dX0_paths_42 (by decide) ?_
              refine lv_iand hx hb dX0_paths_43 ?_
              refine lv_topi (fun x43 ex43 => ?_)
              have ex43 : x43 = nI (if sn.testBit v then 1 else 0) := by rw [ex43, ex41]; exact nm_ibit (by omega) (by omega)
              subst ex43
              refine lv_if_ne (tgt := 76) hx hb dX0_paths_44 (by decide) (fun c44 => ?_) (fun c44 => ?_)
              · -- 44 taken
                have c44 : ¬ sn.testBit v = false := fun h => c44 (by rw [h]; rfl)
                obtain ⟨x76, ex76⟩ : ∃ zz : Int32, zz = nI v + (1) := ⟨_, rfl⟩
                refine lv_iinc (v := x76) (lv' := [(6, .int x76), (0, .ref (R 22)), (1, .int (nI a)), (2, .int (nI en)), (3, .int (nI sn)), (4, .int 7), (5, .int y5)]) hx hb dX0_paths_76 hl (k := 6) rfl (by rw [ex76]; rfl) (by decide) rfl (fun ls hl => ?_)
                have ex76 : x76 = nI (v + 1) := by rw [ex76]; exact nI_1 v
                subst ex76
                refine lv_goto (tgt := 22) hx hb dX0_paths_79 (by decide) ?_
                exact ih22 (v + 1) y5 ls _ _ (by omega) ⟨by omega, by rw [pthS_n (fun h => c44 h.2)]; exact hy5⟩ hP hD hS (lv_sub hl [1, 2, 3, 4, 5, 6, 0] rfl)
              · -- 44 not
                have c44 : sn.testBit v = false := bool_f (fun h => by rw [h] at c44; exact absurd c44 (by decide))
                have hsn2 : sn ||| 2 ^ v < 2 ^ 16 := Nat.or_lt_two_pow hsn (Nat.pow_lt_pow_right (by omega) hv)
                refine lv_iload hx hb dX0_paths_47 (lv_at hl 5 rfl) ?_
                refine lv_aload_n hx hb dX0_paths_49 rfl (lv_at hl 0 rfl) ?_
                refine lv_iload_n hx hb dX0_paths_50 rfl (lv_at hl 1 rfl) ?_
                refine va_aldr hx hb hK hP 22 3 rfl rfl (vp_in_nI ha (by decide)) dX0_paths_51 ?_
                rw [go_ref (R := R) (b := 200) ha]
                refine lv_iload hx hb dX0_paths_52 (lv_at hl 6 rfl) ?_
                have h54 : vp_in (nI v) 16 := vp_in_nI hv (by decide)
                refine va_iald hx hb hK hP (39 + a) 0 (hw_C ha) rfl h54 dX0_paths_54 ?_
                refine lv_topi (fun x54 ex54 => ?_)
                have ex54 : x54 = C a (nI v).toNatClampNeg := ex54
                have ex54 : x54 = nI (bw a v) := by rw [ex54, vcl]; exact (hC a v ha hv).1
                subst ex54
                refine lv_aload_n hx hb dX0_paths_55 rfl (lv_at hl 0 rfl) ?_
                refine lv_iload hx hb dX0_paths_56 (lv_at hl 6 rfl) ?_
                refine lv_iload_n hx hb dX0_paths_58 rfl (lv_at hl 2 rfl) ?_
                refine lv_iload_n hx hb dX0_paths_59 rfl (lv_at hl 3 rfl) ?_
                refine lv_iconst (v := 1) hx hb dX0_paths_60 (by decide) ?_
                refine lv_iload hx hb dX0_paths_61 (lv_at hl 6 rfl) ?_
                refine lv_ishl hx hb dX0_paths_63 ?_
                refine lv_topi (fun x63 ex63 => ?_)
                have ex63 : x63 = nI (2 ^ v) := by rw [ex63]; exact nm_ishl (by omega)
                subst ex63
                refine lv_ior hx hb dX0_paths_64 ?_
                refine lv_topi (fun x64 ex64 => ?_)
                have ex64 : x64 = nI (sn ||| 2 ^ v) := by rw [ex64]; exact nI_orr _ _
                subst ex64
                refine lv_iload hx hb dX0_paths_65 (lv_at hl 4 rfl) ?_
                refine lv_iconst (v := 1) hx hb dX0_paths_67 (by decide) ?_
                refine lv_iadd hx hb dX0_paths_68 ?_
                refine lv_topi (fun x68 ex68 => ?_)
                have ex68 : x68 = 8 := by rw [ex68]; rfl
                subst ex68
                refine ct_calli hD hS hA (va_runS (As := [.ref (R 22), .int (nI v), .int (nI en), .int (nI (sn ||| 2 ^ v)), .int 8]) (rest := [.int (nI (bw a v)), .int y5]) F ((k_X0_paths8 l dC dI cI cJ cZ cII cJJ R I A B C T bw v en (sn ||| 2 ^ v) hC hv hen hsn2) _) (va_cwS 5 hts gX0_paths_X0_paths rfl rfl rfl (by decide +kernel) ⟨(Nat.le_of_ble_eq_true rfl), (Nat.le_of_ble_eq_true rfl)⟩) (ct_preS hK hN hP hD) rfl rfl hl.1 rfl (lv_room (Nat.le_of_ble_eq_true rfl)) dX0_paths_69 ⟨(Nat.le_of_ble_eq_true rfl), (Nat.le_of_ble_eq_true rfl)⟩) (fun r69 u69 H locs w69 hP hD hS => ?_)
                obtain ⟨w69, rfl⟩ := w69
                refine lv_imul hx hb dX0_paths_72 ?_
                refine lv_topi (fun x72 ex72 => ?_)
                have ex72 : x72 = nI (bw a v * pth bw en 8 v (sn ||| 2 ^ v)) := by rw [ex72, w69]; exact nI_ml _ _
                subst ex72
                refine lv_iadd hx hb dX0_paths_73 ?_
                refine lv_topi (fun x73 ex73 => ?_)
                have ex73 : x73 = nI (pthS bw en 8 a sn (v + 1)) := by rw [ex73, hy5, pthS_y c35 c44]; exact nI_add _ _
                subst ex73
                refine lv_istore (lv' := [(5, .int (nI (pthS bw en 8 a sn (v + 1)))), (0, .ref (R 22)), (1, .int (nI a)), (2, .int (nI en)), (3, .int (nI sn)), (4, .int 7), (6, .int (nI v))]) hx hb dX0_paths_74 hl (by decide) rfl (fun ls hl => ?_)
                obtain ⟨x76, ex76⟩ : ∃ zz : Int32, zz = nI v + (1) := ⟨_, rfl⟩
                refine lv_iinc (v := x76) (lv' := [(6, .int x76), (5, .int (nI (pthS bw en 8 a sn (v + 1)))), (0, .ref (R 22)), (1, .int (nI a)), (2, .int (nI en)), (3, .int (nI sn)), (4, .int 7)]) hx hb dX0_paths_76 hl (k := 6) rfl (by rw [ex76]; rfl) (by decide) rfl (fun ls hl => ?_)
                have ex76 : x76 = nI (v + 1) := by rw [ex76]; exact nI_1 v
                subst ex76
                refine lv_goto (tgt := 22) hx hb dX0_paths_79 (by decide) ?_
                exact ih22 (v + 1) (nI (pthS bw en 8 a sn (v + 1))) ls _ _ (by omega) ⟨by omega, rfl⟩ hP hD hS (lv_sub hl [2, 3, 4, 5, 6, 1, 0] rfl)
      exact K22 _ 0 0 ls _ _ (Nat.lt_succ_self _) ⟨Nat.zero_le _, rfl⟩ hP hD hS (lv_sub hl [2, 3, 4, 5, 6, 1, 0] rfl)
    · exact absurd c11 (by decide)
  · -- 2 not
    have c2 : a = en := (nI_eq (by omega) (by omega)).mp c2
    refine lv_iconst (v := 1) hx hb dX0_paths_5 (by decide) ?_
    refine hret 6 ls _ _ 1 (I, A, B, C, T) dX0_paths_6 rfl ?_ hP hD hS
    try dsimp only
    exact ⟨by rw [c2, pth_end]; rfl, rfl⟩
set_option maxHeartbeats 4000000 in
set_option maxRecDepth 100000 in
theorem k_X0_paths10 (l : Launch) (dC : Nat → ClassId) (dI : Nat → Nat → Nat) (cI cJ cZ cII cJJ : ClassId) (R : Nat → Nat) (I : Nat → Int32) (A : Nat → Nat → Int32) (B : Nat → Nat → Int64) (C : Nat → Nat → Int32) (T : Nat → Nat → Int64) (bw : Nat → Nat → Nat) (a en sn : Nat) (hC : rC2 C bw) (ha : a < 16) (hen : en < 16) (hsn : sn < 2 ^ 16) : ctI l (dC, dI) (tyL cI cJ cZ cII cJJ) (HW cI cJ cII cJJ R) yX0_paths wsX0_paths (10, 400) [.ref (R 22), .int (nI a), .int (nI en), .int (nI sn), .int 6] (I, A, B, C, T) (fun r u => r = nI (pth bw en 10 a sn) ∧ u = (I, A, B, C, T)) := by
  refine ctI_intro (cc := cX0_paths) (maxL := 7) (by decide) rfl (Nat.le_of_ble_eq_true rfl) ?_
  intro p e s m below meth c ls Aa Q F hK hN hP hD hS hA hl hret
  have hx := F.1
  have hb := F.2.1
  have hown : s.vm.findClass RX0 = some m.cls := F.2.2.2.1
  have hts := F.2.2.2.2
  have hl : lv_has ls 7 [(0, .ref (R 22)), (1, .int (nI a)), (2, .int (nI en)), (3, .int (nI sn)), (4, .int 6)] := hl
  refine lv_iload_n hx hb dX0_paths_0 rfl (lv_at hl 1 rfl) ?_
  refine lv_iload_n hx hb dX0_paths_1 rfl (lv_at hl 2 rfl) ?_
  refine lv_icmp_ne (tgt := 7) hx hb dX0_paths_2 (by decide) (fun c2 => ?_) (fun c2 => ?_)
  · -- 2 taken
    have c2 : ¬ a = en := fun h => c2 (by rw [h])
    refine lv_iload hx hb dX0_paths_7 (lv_at hl 4 rfl) ?_
    refine lv_bipush (v := 16) hx hb dX0_paths_9 (by decide) ?_
    refine lv_icmp_lt (tgt := 16) hx hb dX0_paths_11 (by decide) (fun c11 => ?_) (fun c11 => ?_)
    · -- 11 taken
      refine lv_iconst (v := 0) hx hb dX0_paths_16 (by decide) ?_
      refine lv_istore (lv' := [(5, .int 0), (0, .ref (R 22)), (1, .int (nI a)), (2, .int (nI en)), (3, .int (nI sn)), (4, .int 6)]) hx hb dX0_paths_17 hl (by decide) rfl (fun ls hl => ?_)
      refine lv_iconst (v := 0) hx hb dX0_paths_19 (by decide) ?_
      refine lv_istore (lv' := [(6, .int 0), (5, .int 0), (0, .ref (R 22)), (1, .int (nI a)), (2, .int (nI en)), (3, .int (nI sn)), (4, .int 6)]) hx hb dX0_paths_20 hl (by decide) rfl (fun ls hl => ?_)
      have K22 : ∀ (kn : Nat) (v : Nat) (y5 : Int32) (ls : Array Slot) (H : Heap) (locs : List Loc), 16 - v < kn → (v ≤ 16 ∧ y5 = nI (pthS bw en 9 a sn v)) → va_P (dC, dI) vwCl (HW cI cJ cII cJJ R (I, A, B, C, T)) H → va_D Aa (HW cI cJ cII cJJ R (I, A, B, C, T)) → va_S Aa s.heap H locs → lv_has ls 7 [(0, .ref (R 22)), (1, .int (nI a)), (2, .int (nI en)), (3, .int (nI sn)), (4, .int 6), (5, .int y5), (6, .int (nI v))] → W p l e (ctR (10, 400)) s m #[.ref (R 22), .int (nI a), .int (nI en), .int (nI sn), .int 6] below meth c H locs 0 0 Q (F0 m 22 ls []) := by
        intro kn
        induction kn with
        | zero => intro v y5 ls H locs hmu; exact absurd hmu (Nat.not_lt_zero _)
        | succ kn ih22 =>
          intro v y5 ls H locs mu22 inv22 hP hD hS hl
          obtain ⟨hv16, hy5⟩ := inv22
          refine lv_iload hx hb dX0_paths_22 (lv_at hl 6 rfl) ?_
          refine lv_bipush (v := 16) hx hb dX0_paths_24 (by decide) ?_
          refine lv_icmp_ge (tgt := 82) hx hb dX0_paths_26 (by decide) (fun c26 => ?_) (fun c26 => ?_)
          · -- 26 taken
            have hge : v = 16 := by have := (nI_leI (a := 16) (by omega) (by omega)).mp c26; omega
            refine lv_iload hx hb dX0_paths_82 (lv_at hl 5 rfl) ?_
            refine hret 84 ls _ _ y5 (I, A, B, C, T) dX0_paths_84 rfl ?_ hP hD hS
            try dsimp only
            exact ⟨by rw [hy5, pth_s c2, hge], rfl⟩
          · -- 26 not
            have hv : v < 16 := Nat.lt_of_not_le (fun h => c26 (nI_le (a := 16) h (by omega)))
            have vcl : (nI v).toNatClampNeg = v := nI_clamp (by omega)
            have hbwl := (hC a v ha hv).2
            refine lv_aload_n hx hb dX0_paths_29 rfl (lv_at hl 0 rfl) ?_
            refine lv_iload_n hx hb dX0_paths_30 rfl (lv_at hl 1 rfl) ?_
            refine va_aldr hx hb hK hP 22 3 rfl rfl (vp_in_nI ha (by decide)) dX0_paths_31 ?_
            rw [go_ref (R := R) (b := 200) ha]
            refine lv_iload hx hb dX0_paths_32 (lv_at hl 6 rfl) ?_
            have h34 : vp_in (nI v) 16 := vp_in_nI hv (by decide)
            refine va_iald hx hb hK hP (39 + a) 0 (hw_C ha) rfl h34 dX0_paths_34 ?_
            refine lv_topi (fun x34 ex34 => ?_)
            have ex34 : x34 = C a (nI v).toNatClampNeg := ex34
            have ex34 : x34 = nI (bw a v) := by rw [ex34, vcl]; exact (hC a v ha hv).1
            subst ex34
            refine lv_if_eq (tgt := 76) hx hb dX0_paths_35 (by decide) (fun c35 => ?_) (fun c35 => ?_)
            · -- 35 taken
              have c35 : bw a v = 0 := (nI_eq (b := 0) hbwl (by decide)).mp c35
              obtain ⟨x76, ex76⟩ : ∃ zz : Int32, zz = nI v + (1) := ⟨_, rfl⟩
              refine lv_iinc (v := x76) (lv' := [(6, .int x76), (0, .ref (R 22)), (1, .int (nI a)), (2, .int (nI en)), (3, .int (nI sn)), (4, .int 6), (5, .int y5)]) hx hb dX0_paths_76 hl (k := 6) rfl (by rw [ex76]; rfl) (by decide) rfl (fun ls hl => ?_)
              have ex76 : x76 = nI (v + 1) := by rw [ex76]; exact nI_1 v
              subst ex76
              refine lv_goto (tgt := 22) hx hb dX0_paths_79 (by decide) ?_
              exact ih22 (v + 1) y5 ls _ _ (by omega) ⟨by omega, by rw [pthS_n (fun h => h.1 c35)]; exact hy5⟩ hP hD hS (lv_sub hl [1, 2, 3, 4, 5, 6, 0] rfl)
            · -- 35 not
              have c35 : bw a v ≠ 0 := fun h => c35 (by rw [h]; rfl)
              refine lv_iload_n hx hb dX0_paths_38 rfl (lv_at hl 3 rfl) ?_
              refine lv_iload hx hb dX0_paths_39 (lv_at hl 6 rfl) ?_
              refine lv_ishr hx hb dX0_paths_41 ?_
              refine lv_topi (fun x41 ex41 => ?_)
              refine lv_iconst (v := 1) hx hb dX0_paths_42 (by decide) ?_
              refine lv_iand hx hb dX0_paths_43 ?_
              refine lv_topi (fun x43 ex43 => ?_)
              have ex43 : x43 = nI (if sn.testBit v then 1 else 0) := by rw [ex43, ex41]; exact nm_ibit (by omega) (by omega)
              subst ex43
              refine lv_if_ne (tgt := 76) hx hb dX0_paths_44 (by decide) (fun c44 => ?_) (fun c44 => ?_)
              · -- 44 taken
                have c44 : ¬ sn.testBit v = false := fun h => c44 (by rw [h]; rfl)
                obtain ⟨x76, ex76⟩ : ∃ zz : Int32, zz = nI v + (1) := ⟨_, rfl⟩
                refine lv_iinc (v := x76) (lv' := [(6, .int x76), (0, .ref (R 22)), (1, .int (nI a)), (2, .int (nI en)), (3, .int (nI sn)), (4, .int 6), (5, .int y5)]) hx hb dX0_paths_76 hl (k := 6) rfl (by rw [ex76]; rfl) (by decide) rfl (fun ls hl => ?_)
                have ex76 : x76 = nI (v + 1) := by rw [ex76]; exact nI_1 v
                subst ex76
                refine lv_goto (tgt := 22) hx hb dX0_paths_79 (by decide) ?_
                exact ih22 (v + 1) y5 ls _ _ (by omega) ⟨by omega, by rw [pthS_n (fun h => c44 h.2)]; exact hy5⟩ hP hD hS (lv_sub hl [1, 2, 3, 4, 5, 6, 0] rfl)
              · -- 44 not
                have c44 : sn.testBit v = false := bool_f (fun h => by rw [h] at c44; exact absurd c44 (by decide))
                have hsn2 : sn ||| 2 ^ v < 2 ^ 16 := Nat.or_lt_two_pow hsn (Nat.pow_lt_pow_right (by omega) hv)
                refine lv_iload hx hb dX0_paths_47 (lv_at hl 5 rfl) ?_
                refine lv_aload_n hx hb dX0_paths_49 rfl (lv_at hl 0 rfl) ?_
                refine lv_iload_n hx hb dX0_paths_50 rfl (lv_at hl 1 rfl) ?_
                refine va_aldr hx hb hK hP 22 3 rfl rfl (vp_in_nI ha (by decide)) dX0_paths_51 ?_
                rw [go_ref (R := R) (b := 200) ha]
                refine lv_iload hx hb dX0_paths_52 (lv_at hl 6 rfl) ?_
                have h54 : vp_in (nI v) 16 := vp_in_nI hv (by decide)
                refine va_iald hx hb hK hP (39 + a) 0 (hw_C ha) rfl h54 dX0_paths_54 ?_
                refine lv_topi (fun x54 ex54 => ?_)
                have ex54 : x54 = C a (nI v).toNatClampNeg := ex54
                have ex54 : x54 = nI (bw a v) := by rw [ex54, vcl]; exact (hC a v ha hv).1
                subst ex54
                refine lv_aload_n hx hb dX0_paths_55 rfl (lv_at hl 0 rfl) ?_
                refine lv_iload hx hb dX0_paths_56 (lv_at hl 6 rfl) ?_
                refine lv_iload_n hx hb dX0_paths_58 rfl (lv_at hl 2 rfl) ?_
                refine lv_iload_n hx hb dX0_paths_59 rfl (lv_at hl 3 rfl) ?_
                refine lv_iconst (v := 1) hx hb dX0_paths_60 (by decide) ?_
                refine lv_iload hx hb dX0_paths_61 (lv_at hl 6 rfl) ?_
                refine lv_ishl hx hb dX0_paths_63 ?_
                refine lv_topi (fun x63 ex63 => ?_)
                have ex63 : x63 = nI (2 ^ v) := by rw [ex63]; exact nm_ishl (by omega)
                subst ex63
                refine lv_ior hx hb dX0_paths_64 ?_
                refine lv_topi (fun x64 ex64 => ?_)
                have ex64 : x64 = nI (sn ||| 2 ^ v) := by rw [ex64]; exact nI_orr _ _
                subst ex64
                refine lv_iload hx hb dX0_paths_65 (lv_at hl 4 rfl) ?_
                refine lv_iconst (v := 1) hx hb dX0_paths_67 (by decide) ?_
                refine lv_iadd hx hb dX0_paths_68 ?_
                refine lv_topi (fun x68 ex68 => ?_)
                have ex68 : x68 = 7 := by rw [ex68]; rfl
                subst ex68
                refine ct_calli hD hS hA (va_runS (As := [.ref (R 22), .int (nI v), .int (nI en), .int (nI (sn ||| 2 ^ v)), .int 7]) (rest := [.int (nI (bw a v)), .int y5]) F ((k_X0_paths9 l dC dI cI cJ cZ cII cJJ R I A B C T bw v en (sn ||| 2 ^ v) hC hv hen hsn2) _) (va_cwS 5 hts gX0_paths_X0_paths rfl rfl rfl (by decide +kernel) ⟨(Nat.le_of_ble_eq_true rfl), (Nat.le_of_ble_eq_true rfl)⟩) (ct_preS hK hN hP hD) rfl rfl hl.1 rfl (lv_room (Nat.le_of_ble_eq_true rfl)) dX0_paths_69 ⟨(Nat.le_of_ble_eq_true rfl), (Nat.le_of_ble_eq_true rfl)⟩) (fun r69 u69 H locs w69 hP hD hS => ?_)
                obtain ⟨w69, rfl⟩ := w69
                refine lv_imul hx hb dX0_paths_72 ?_
                refine lv_topi (fun x72 ex72 => ?_)
                have ex72 : x72 = nI (bw a v * pth bw en 9 v (sn ||| 2 ^ v)) := by rw [ex72, w69]; exact nI_ml _ _
                subst ex72
                refine lv_iadd hx hb dX0_paths_73 ?_
                refine lv_topi (fun x73 ex73 => ?_)
                have ex73 : x73 = nI (pthS bw en 9 a sn (v + 1)) := by rw [ex73, hy5, pthS_y c35 c44]; exact nI_add _ _
                subst ex73
                refine lv_istore (lv' := [(5, .int (nI (pthS bw en 9 a sn (v + 1)))), (0, .ref (R 22)), (1, .int (nI a)), (2, .int (nI en)), (3, .int (nI sn)), (4, .int 6), (6, .int (nI v))]) hx hb dX0_paths_74 hl (by decide) rfl (fun ls hl => ?_)
                obtain ⟨x76, ex76⟩ : ∃ zz : Int32, zz = nI v + (1) := ⟨_, rfl⟩
                refine lv_iinc (v := x76) (lv' := [(6, .int x76), (5, .int (nI (pthS bw en 9 a sn (v + 1)))), (0, .ref (R 22)), (1, .int (nI a)), (2, .int (nI en)), (3, .int (nI sn)), (4, .int 6)]) hx hb dX0_paths_76 hl (k := 6) rfl (by rw [ex76]; rfl) (by decide) rfl (fun ls hl => ?_)
                have ex76 : x76 = nI (v + 1) := by rw [ex76]; exact nI_1 v
                subst ex76
                refine lv_goto (tgt := 22) hx hb dX0_paths_79 (by decide) ?_
                exact ih22 (v + 1) (nI (pthS bw en 9 a sn (v + 1))) ls _ _ (by omega) ⟨by omega, rfl⟩ hP hD hS (lv_sub hl [2, 3, 4, 5, 6, 1, 0] rfl)
      exact K22 _ 0 0 ls _ _ (Nat.lt_succ_self _) ⟨Nat.zero_le _, rfl⟩ hP hD hS (lv_sub hl [2, 3, 4, 5, 6, 1, 0] rfl)
    · exact absurd c11 (by decide)
  · -- 2 not
    have c2 : a = en := (nI_eq (by omega) (by omega)).mp c2
    refine lv_iconst (v := 1) hx hb dX0_paths_5 (by decide) ?_
    refine hret 6 ls _ _ 1 (I, A, B, C, T) dX0_paths_6 rfl ?_ hP hD hS
    try dsimp only
    exact ⟨by rw [c2, pth_end]; rfl, rfl⟩
set_option maxHeartbeats 4000000 in
set_option maxRecDepth 100000 in
theorem k_X0_paths11 (l : Launch) (dC : Nat → ClassId) (dI : Nat → Nat → Nat) (cI cJ cZ cII cJJ : ClassId) (R : Nat → Nat) (I : Nat → Int32) (A : Nat → Nat → Int32) (B : Nat → Nat → Int64) (C : Nat → Nat → Int32) (T : Nat → Nat → Int64) (bw : Nat → Nat → Nat) (a en sn : Nat) (hC : rC2 C bw) (ha : a < 16) (hen : en < 16) (hsn : sn < 2 ^ 16) : ctI l (dC, dI) (tyL cI cJ cZ cII cJJ) (HW cI cJ cII cJJ R) yX0_paths wsX0_paths (11, 440) [.ref (R 22), .int (nI a), .int (nI en), .int (nI sn), .int 5] (I, A, B, C, T) (fun r u => r = nI (pth bw en 11 a sn) ∧ u = (I, A, B, C, T)) := by
  refine ctI_intro (cc := cX0_paths) (maxL := 7) (by decide) rfl (Nat.le_of_ble_eq_true rfl) ?_
  intro p e s m below meth c ls Aa Q F hK hN hP hD hS hA hl hret
  have hx := F.1
  have hb := F.2.1
  have hown : s.vm.findClass RX0 = some m.cls := F.2.2.2.1
  have hts := F.2.2.2.2
  have hl : lv_has ls 7 [(0, .ref (R 22)), (1, .int (nI a)), (2, .int (nI en)), (3, .int (nI sn)), (4, .int 5)] := hl
  refine lv_iload_n hx hb dX0_paths_0 rfl (lv_at hl 1 rfl) ?_
  refine lv_iload_n hx hb dX0_paths_1 rfl (lv_at hl 2 rfl) ?_
  refine lv_icmp_ne (tgt := 7) hx hb dX0_paths_2 (by decide) (fun c2 => ?_) (fun c2 => ?_)
  · -- 2 taken
    have c2 : ¬ a = en := fun h => c2 (by rw [h])
    refine lv_iload hx hb dX0_paths_7 (lv_at hl 4 rfl) ?_
    refine lv_bipush (v := 16) hx hb dX0_paths_9 (by decide) ?_
    refine lv_icmp_lt (tgt := 16) hx hb dX0_paths_11 (by decide) (fun c11 => ?_) (fun c11 => ?_)
    · -- 11 taken
      refine lv_iconst (v := 0) hx hb dX0_paths_16 (by decide) ?_
      refine lv_istore (lv' := [(5, .int 0), (0, .ref (R 22)), (1, .int (nI a)), (2, .int (nI en)), (3, .int (nI sn)), (4, .int 5)]) hx hb dX0_paths_17 hl (by decide) rfl (fun ls hl => ?_)
      refine lv_iconst (v := 0) hx hb dX0_paths_19 (by decide) ?_
      refine lv_istore (lv' := [(6, .int 0), (5, .int 0), (0, .ref (R 22)), (1, .int (nI a)), (2, .int (nI en)), (3, .int (nI sn)), (4, .int 5)]) hx hb dX0_paths_20 hl (by decide) rfl (fun ls hl => ?_)
      have K22 : ∀ (kn : Nat) (v : Nat) (y5 : Int32) (ls : Array Slot) (H : Heap) (locs : List Loc), 16 - v < kn → (v ≤ 16 ∧ y5 = nI (pthS bw en 10 a sn v)) → va_P (dC, dI) vwCl (HW cI cJ cII cJJ R (I, A, B, C, T)) H → va_D Aa (HW cI cJ cII cJJ R (I, A, B, C, T)) → va_S Aa s.heap H locs → lv_has ls 7 [(0, .ref (R 22)), (1, .int (nI a)), (2, .int (nI en)), (3, .int (nI sn)), (4, .int 5), (5, .int y5), (6, .int (nI v))] → W p l e (ctR (11, 440)) s m #[.ref (R 22), .int (nI a), .int (nI en), .int (nI sn), .int 5] below meth c H locs 0 0 Q (F0 m 22 ls []) := by
        intro kn
        induction kn with
        | zero => intro v y5 ls H locs hmu; exact absurd hmu (Nat.not_lt_zero _)
        | succ kn ih22 =>
          intro v y5 ls H locs mu22 inv22 hP hD hS hl
          obtain ⟨hv16, hy5⟩ := inv22
          refine lv_iload hx hb dX0_paths_22 (lv_at hl 6 rfl) ?_
          refine lv_bipush (v := 16) hx hb dX0_paths_24 (by decide) ?_
          refine lv_icmp_ge (tgt := 82) hx hb dX0_paths_26 (by decide) (fun c26 => ?_) (fun c26 => ?_)
          · -- 26 taken
            have hge : v = 16 := by have := (nI_leI (a := 16) (by omega) (by omega)).mp c26; omega
            refine lv_iload hx hb dX0_paths_82 (lv_at hl 5 rfl) ?_
            refine hret 84 ls _ _ y5 (I, A, B, C, T) dX0_paths_84 rfl ?_ hP hD hS
            try dsimp only
            exact ⟨by rw [hy5, pth_s c2, hge], rfl⟩
          · -- 26 not
            have hv : v < 16 := Nat.lt_of_not_le (fun h => c26 (nI_le (a := 16) h (by omega)))
            have vcl : (nI v).toNatClampNeg = v := nI_clamp (by omega)
            have hbwl := (hC a v ha hv).2
            refine lv_aload_n hx hb dX0_paths_29 rfl (lv_at hl 0 rfl) ?_
            refine lv_iload_n hx hb dX0_paths_30 rfl (lv_at hl 1 rfl) ?_
            refine va_aldr hx hb hK hP 22 3 rfl rfl (vp_in_nI ha (by decide)) dX0_paths_31 ?_
            rw [go_ref (R := R) (b := 200) ha]
            refine lv_iload hx hb dX0_paths_32 (lv_at hl 6 rfl) ?_
            have h34 : vp_in (nI v) 16 := vp_in_nI hv (by decide)
            refine va_iald hx hb hK hP (39 + a) 0 (hw_C ha) rfl h34 dX0_paths_34 ?_
            refine lv_topi (fun x34 ex34 => ?_)
            have ex34 : x34 = C a (nI v).toNatClampNeg := ex34
            have ex34 : x34 = nI (bw a v) := by rw [ex34, vcl]; exact (hC a v ha hv).1
            subst ex34
            refine lv_if_eq (tgt := 76) hx hb dX0_paths_35 (by decide) (fun c35 => ?_) (fun c35 => ?_)
            · -- 35 taken
              have c35 : bw a v = 0 := (nI_eq (b := 0) hbwl (by decide)).mp c35
              obtain ⟨x76, ex76⟩ : ∃ zz : Int32, zz = nI v + (1) := ⟨_, rfl⟩
              refine lv_iinc (v := x76) (lv' := [(6, .int x76), (0, .ref (R 22)), (1, .int (nI a)), (2, .int (nI en)), (3, .int (nI sn)), (4, .int 5), (5, .int y5)]) hx hb dX0_paths_76 hl (k := 6) rfl (by rw [ex76]; rfl) (by decide) rfl (fun ls hl => ?_)
              have ex76 : x76 = nI (v + 1) := by rw [ex76]; exact nI_1 v
              subst ex76
              refine lv_goto (tgt := 22) hx hb dX0_paths_79 (by decide) ?_
              exact ih22 (v + 1) y5 ls _ _ (by omega) ⟨by omega, by rw [pthS_n (fun h => h.1 c35)]; exact hy5⟩ hP hD hS (lv_sub hl [1, 2, 3, 4, 5, 6, 0] rfl)
            · -- 35 not
              have c35 : bw a v ≠ 0 := fun h => c35 (by rw [h]; rfl)
              refine lv_iload_n hx hb dX0_paths_38 rfl (lv_at hl 3 rfl) ?_
              refine lv_iload hx hb dX0_paths_39 (lv_at hl 6 rfl) ?_
              refine lv_ishr hx hb dX0_paths_41 ?_
              refine lv_topi (fun x41 ex41 => ?_)
              refine lv_iconst (v := 1) hx hb dX0_paths_42 (by decide) ?_
              refine lv_iand hx hb dX0_paths_43 ?_
              refine lv_topi (fun x43 ex43 => ?_)
              have ex43 : x43 = nI (if sn.testBit v then 1 else 0) := by rw [ex43, ex41]; exact nm_ibit (by omega) (by omega)
              subst ex43
              refine lv_if_ne (tgt := 76) hx hb dX0_paths_44 (by decide) (fun c44 => ?_) (fun c44 => ?_)
              · -- 44 taken
                have c44 : ¬ sn.testBit v = false := fun h => c44 (by rw [h]; rfl)
                obtain ⟨x76, ex76⟩ : ∃ zz : Int32, zz = nI v + (1) := ⟨_, rfl⟩
                refine lv_iinc (v := x76) (lv' := [(6, .int x76), (0, .ref (R 22)), (1, .int (nI a)), (2, .int (nI en)), (3, .int (nI sn)), (4, .int 5), (5, .int y5)]) hx hb dX0_paths_76 hl (k := 6) rfl (by rw [ex76]; rfl) (by decide) rfl (fun ls hl => ?_)
                have ex76 : x76 = nI (v + 1) := by rw [ex76]; exact nI_1 v
                subst ex76
                refine lv_goto (tgt := 22) hx hb dX0_paths_79 (by decide) ?_
                exact ih22 (v + 1) y5 ls _ _ (by omega) ⟨by omega, by rw [pthS_n (fun h => c44 h.2)]; exact hy5⟩ hP hD hS (lv_sub hl [1, 2, 3, 4, 5, 6, 0] rfl)
              · -- 44 not
                have c44 : sn.testBit v = false := bool_f (fun h => by rw [h] at c44; exact absurd c44 (by decide))
                have hsn2 : sn ||| 2 ^ v < 2 ^ 16 := Nat.or_lt_two_pow hsn (Nat.pow_lt_pow_right (by omega) hv)
                refine lv_iload hx hb dX0_paths_47 (lv_at hl 5 rfl) ?_
                refine lv_aload_n hx hb dX0_paths_49 rfl (lv_at hl 0 rfl) ?_
                refine lv_iload_n hx hb dX0_paths_50 rfl (lv_at hl 1 rfl) ?_
                refine va_aldr hx hb hK hP 22 3 rfl rfl (vp_in_nI ha (by decide)) dX0_paths_51 ?_
                rw [go_ref (R := R) (b := 200) ha]
                refine lv_iload hx hb dX0_paths_52 (lv_at hl 6 rfl) ?_
                have h54 : vp_in (nI v) 16 := vp_in_nI hv (by decide)
                refine va_iald hx hb hK hP (39 + a) 0 (hw_C ha) rfl h54 dX0_paths_54 ?_
                refine lv_topi (fun x54 ex54 => ?_)
                have ex54 : x54 = C a (nI v).toNatClampNeg := ex54
                have ex54 : x54 = nI (bw a v) := by rw [ex54, vcl]; exact (hC a v ha hv).1
                subst ex54
                refine lv_aload_n hx hb dX0_paths_55 rfl (lv_at hl 0 rfl) ?_
                refine lv_iload hx hb dX0_paths_56 (lv_at hl 6 rfl) ?_
                refine lv_iload_n hx hb dX0_paths_58 rfl (lv_at hl 2 rfl) ?_
                refine lv_iload_n hx hb dX0_paths_59 rfl (lv_at hl 3 rfl) ?_
                refine lv_iconst (v := 1) hx hb dX0_paths_60 (by decide) ?_
                refine lv_iload hx hb dX0_paths_61 (lv_at hl 6 rfl) ?_
                refine lv_ishl hx hb dX0_paths_63 ?_
                refine lv_topi (fun x63 ex63 => ?_)
                have ex63 : x63 = nI (2 ^ v) := by rw [ex63]; exact nm_ishl (by omega)
                subst ex63
                refine lv_ior hx hb dX0_paths_64 ?_
                refine lv_topi (fun x64 ex64 => ?_)
                have ex64 : x64 = nI (sn ||| 2 ^ v) := by rw [ex64]; exact nI_orr _ _
                subst ex64
                refine lv_iload hx hb dX0_paths_65 (lv_at hl 4 rfl) ?_
                refine lv_iconst (v := 1) hx hb dX0_paths_67 (by decide) ?_
                refine lv_iadd hx hb dX0_paths_68 ?_
                refine lv_topi (fun x68 ex68 => ?_)
                have ex68 : x68 = 6 := by rw [ex68]; rfl
                subst ex68
                refine ct_calli hD hS hA (va_runS (As := [.ref (R 22), .int (nI v), .int (nI en), .int (nI (sn ||| 2 ^ v)), .int 6]) (rest := [.int (nI (bw a v)), .int y5]) F ((k_X0_paths10 l dC dI cI cJ cZ cII cJJ R I A B C T bw v en (sn ||| 2 ^ v) hC hv hen hsn2) _) (va_cwS 5 hts gX0_paths_X0_paths rfl rfl rfl (by decide +kernel) ⟨(Nat.le_of_ble_eq_true rfl), (Nat.le_of_ble_eq_true rfl)⟩) (ct_preS hK hN hP hD) rfl rfl hl.1 rfl (lv_room (Nat.le_of_ble_eq_true rfl)) dX0_paths_69 ⟨(Nat.le_of_ble_eq_true rfl), (Nat.le_of_ble_eq_true rfl)⟩) (fun r69 u69 H locs w69 hP hD hS => ?_)
                obtain ⟨w69, rfl⟩ := w69
                refine lv_imul hx hb dX0_paths_72 ?_
                refine lv_topi (fun x72 ex72 => ?_)
                have ex72 : x72 = nI (bw a v * pth bw en 10 v (sn ||| 2 ^ v)) := by rw [ex72, w69]; exact nI_ml _ _
                subst ex72
                refine lv_iadd hx hb dX0_paths_73 ?_
                refine lv_topi (fun x73 ex73 => ?_)
                have ex73 : x73 = nI (pthS bw en 10 a sn (v + 1)) := by rw [ex73, hy5, pthS_y c35 c44]; exact nI_add _ _
                subst ex73
                refine lv_istore (lv' := [(5, .int (nI (pthS bw en 10 a sn (v + 1)))), (0, .ref (R 22)), (1, .int (nI a)), (2, .int (nI en)), (3, .int (nI sn)), (4, .int 5), (6, .int (nI v))]) hx hb dX0_paths_74 hl (by decide) rfl (fun ls hl => ?_)
                obtain ⟨x76, ex76⟩ : ∃ zz : Int32, zz = nI v + (1) := ⟨_, rfl⟩
                refine lv_iinc (v := x76) (lv' := [(6, .int x76), (5, .int (nI (pthS bw en 10 a sn (v + 1)))), (0, .ref (R 22)), (1, .int (nI a)), (2, .int (nI en)), (3, .int (nI sn)), (4, .int 5)]) hx hb dX0_paths_76 hl (k := 6) rfl (by rw [ex76]; rfl) (by decide) rfl (fun ls hl => ?_)
                have ex76 : x76 = nI (v + 1) := by rw [ex76]; exact nI_1 v
                subst ex76
                refine lv_goto (tgt := 22) hx hb dX0_paths_79 (by decide) ?_
                exact ih22 (v + 1) (nI (pthS bw en 10 a sn (v + 1))) ls _ _ (by omega) ⟨by omega, rfl⟩ hP hD hS (lv_sub hl [2, 3, 4, 5, 6, 1, 0] rfl)
      exact K22 _ 0 0 ls _ _ (Nat.lt_succ_self _) ⟨Nat.zero_le _, rfl⟩ hP hD hS (lv_sub hl [2, 3, 4, 5, 6, 1, 0] rfl)
    · exact absurd c11 (by decide)
  · -- 2 not
    have c2 : a = en := (nI_eq (by omega) (by omega)).mp c2
    refine lv_iconst (v := 1) hx hb dX0_paths_5 (by decide) ?_
    refine hret 6 ls _ _ 1 (I, A, B, C, T) dX0_paths_6 rfl ?_ hP hD hS
    try dsimp only
    exact ⟨by rw [c2, pth_end]; rfl, rfl⟩
set_option maxHeartbeats 4000000 in
set_option maxRecDepth 100000 in
theorem k_X0_paths12 (l : Launch) (dC : Nat → ClassId) (dI : Nat → Nat → Nat) (cI cJ cZ cII cJJ : ClassId) (R : Nat → Nat) (I : Nat → Int32) (A : Nat → Nat → Int32) (B : Nat → Nat → Int64) (C : Nat → Nat → Int32) (T : Nat → Nat → Int64) (bw : Nat → Nat → Nat) (a en sn : Nat) (hC : rC2 C bw) (ha : a < 16) (hen : en < 16) (hsn : sn < 2 ^ 16) : ctI l (dC, dI) (tyL cI cJ cZ cII cJJ) (HW cI cJ cII cJJ R) yX0_paths wsX0_paths (12, 480) [.ref (R 22), .int (nI a), .int (nI en), .int (nI sn), .int 4] (I, A, B, C, T) (fun r u => r = nI (pth bw en 12 a sn) ∧ u = (I, A, B, C, T)) := by
  refine ctI_intro (cc := cX0_paths) (maxL := 7) (by decide) rfl (Nat.le_of_ble_eq_true rfl) ?_
  intro p e s m below meth c ls Aa Q F hK hN hP hD hS hA hl hret
  have hx := F.1
  have hb := F.2.1
  have hown : s.vm.findClass RX0 = some m.cls := F.2.2.2.1
  have hts := F.2.2.2.2
  have hl : lv_has ls 7 [(0, .ref (R 22)), (1, .int (nI a)), (2, .int (nI en)), (3, .int (nI sn)), (4, .int 4)] := hl
  refine lv_iload_n hx hb dX0_paths_0 rfl (lv_at hl 1 rfl) ?_
  refine lv_iload_n hx hb dX0_paths_1 rfl (lv_at hl 2 rfl) ?_
  refine lv_icmp_ne (tgt := 7) hx hb dX0_paths_2 (by decide) (fun c2 => ?_) (fun c2 => ?_)
  · -- 2 taken
    have c2 : ¬ a = en := fun h => c2 (by rw [h])
    refine lv_iload hx hb dX0_paths_7 (lv_at hl 4 rfl) ?_
    refine lv_bipush (v := 16) hx hb dX0_paths_9 (by decide) ?_
    refine lv_icmp_lt (tgt := 16) hx hb dX0_paths_11 (by decide) (fun c11 => ?_) (fun c11 => ?_)
    · -- 11 taken
      refine lv_iconst (v := 0) hx hb dX0_paths_16 (by decide) ?_
      refine lv_istore (lv' := [(5, .int 0), (0, .ref (R 22)), (1, .int (nI a)), (2, .int (nI en)), (3, .int (nI sn)), (4, .int 4)]) hx hb dX0_paths_17 hl (by decide) rfl (fun ls hl => ?_)
      refine lv_iconst (v := 0) hx hb dX0_paths_19 (by decide) ?_
      refine lv_istore (lv' := [(6, .int 0), (5, .int 0), (0, .ref (R 22)), (1, .int (nI a)), (2, .int (nI en)), (3, .int (nI sn)), (4, .int 4)]) hx hb dX0_paths_20 hl (by decide) rfl (fun ls hl => ?_)
      have K22 : ∀ (kn : Nat) (v : Nat) (y5 : Int32) (ls : Array Slot) (H : Heap) (locs : List Loc), 16 - v < kn → (v ≤ 16 ∧ y5 = nI (pthS bw en 11 a sn v)) → va_P (dC, dI) vwCl (HW cI cJ cII cJJ R (I, A, B, C, T)) H → va_D Aa (HW cI cJ cII cJJ R (I, A, B, C, T)) → va_S Aa s.heap H locs → lv_has ls 7 [(0, .ref (R 22)), (1, .int (nI a)), (2, .int (nI en)), (3, .int (nI sn)), (4, .int 4), (5, .int y5), (6, .int (nI v))] → W p l e (ctR (12, 480)) s m #[.ref (R 22), .int (nI a), .int (nI en), .int (nI sn), .int 4] below meth c H locs 0 0 Q (F0 m 22 ls []) := by
        intro kn
        induction kn with
        | zero => intro v y5 ls H locs hmu; exact absurd hmu (Nat.not_lt_zero _)
        | succ kn ih22 =>
          intro v y5 ls H locs mu22 inv22 hP hD hS hl
          obtain ⟨hv16, hy5⟩ := inv22
          refine lv_iload hx hb dX0_paths_22 (lv_at hl 6 rfl) ?_
          refine lv_bipush (v := 16) hx hb dX0_paths_24 (by decide) ?_
          refine lv_icmp_ge (tgt := 82) hx hb dX0_paths_26 (by decide) (fun c26 => ?_) (fun c26 => ?_)
          · -- 26 taken
            have hge : v = 16 := by have := (nI_leI (a := 16) (by omega) (by omega)).mp c26; omega
            refine lv_iload hx hb dX0_paths_82 (lv_at hl 5 rfl) ?_
            refine hret 84 ls _ _ y5 (I, A, B, C, T) dX0_paths_84 rfl ?_ hP hD hS
            try dsimp only
            exact ⟨by rw [hy5, pth_s c2, hge], rfl⟩
          · -- 26 not
            have hv : v < 16 := Nat.lt_of_not_le (fun h => c26 (nI_le (a := 16) h (by omega)))
            have vcl : (nI v).toNatClampNeg = v := nI_clamp (by omega)
            have hbwl := (hC a v ha hv).2
            refine lv_aload_n hx hb dX0_paths_29 rfl (lv_at hl 0 rfl) ?_
            refine lv_iload_n hx hb dX0_paths_30 rfl (lv_at hl 1 rfl) ?_
            refine va_aldr hx hb hK hP 22 3 rfl rfl (vp_in_nI ha (by decide)) dX0_paths_31 ?_
            rw [go_ref (R := R) (b := 200) ha]
            refine lv_iload hx hb dX0_paths_32 (lv_at hl 6 rfl) ?_
            have h34 : vp_in (nI v) 16 := vp_in_nI hv (by decide)
            refine va_iald hx hb hK hP (39 + a) 0 (hw_C ha) rfl h34 dX0_paths_34 ?_
            refine lv_topi (fun x34 ex34 => ?_)
            have ex34 : x34 = C a (nI v).toNatClampNeg := ex34
            have ex34 : x34 = nI (bw a v) := by rw [ex34, vcl]; exact (hC a v ha hv).1
            subst ex34
            refine lv_if_eq (tgt := 76) hx hb dX0_paths_35 (by decide) (fun c35 => ?_) (fun c35 => ?_)
            · -- 35 taken
              have c35 : bw a v = 0 := (nI_eq (b := 0) hbwl (by decide)).mp c35
              obtain ⟨x76, ex76⟩ : ∃ zz : Int32, zz = nI v + (1) := ⟨_, rfl⟩
              refine lv_iinc (v := x76) (lv' := [(6, .int x76), (0, .ref (R 22)), (1, .int (nI a)), (2, .int (nI en)), (3, .int (nI sn)), (4, .int 4), (5, .int y5)]) hx hb dX0_paths_76 hl (k := 6) rfl (by rw [ex76]; rfl) (by decide) rfl (fun ls hl => ?_)
              have ex76 : x76 = nI (v + 1) := by rw [ex76]; exact nI_1 v
              subst ex76
              refine lv_goto (tgt := 22) hx hb dX0_paths_79 (by decide) ?_
              exact ih22 (v + 1) y5 ls _ _ (by omega) ⟨by omega, by rw [pthS_n (fun h => h.1 c35)]; exact hy5⟩ hP hD hS (lv_sub hl [1, 2, 3, 4, 5, 6, 0] rfl)
            · -- 35 not
              have c35 : bw a v ≠ 0 := fun h => c35 (by rw [h]; rfl)
              refine lv_iload_n hx hb dX0_paths_38 rfl (lv_at hl 3 rfl) ?_
              refine lv_iload hx hb dX0_paths_39 (lv_at hl 6 rfl) ?_
              refine lv_ishr hx hb dX0_paths_41 ?_
              refine lv_topi (fun x41 ex41 => ?_)
              refine lv_iconst (v := 1) hx hb dX0_paths_42 (by decide) ?_
              refine lv_iand hx hb dX0_paths_43 ?_
              refine lv_topi (fun x43 ex43 => ?_)
              have ex43 : x43 = nI (if sn.testBit v then 1 else 0) := by rw [ex43, ex41]; exact nm_ibit (by omega) (by omega)
              subst ex43
              refine lv_if_ne (tgt := 76) hx hb dX0_paths_44 (by decide) (fun c44 => ?_) (fun c44 => ?_)
              · -- 44 taken
                have c44 : ¬ sn.testBit v = false := fun h => c44 (by rw [h]; rfl)
                obtain ⟨x76, ex76⟩ : ∃ zz : Int32, zz = nI v + (1) := ⟨_, rfl⟩
                refine lv_iinc (v := x76) (lv' := [(6, .int x76), (0, .ref (R 22)), (1, .int (nI a)), (2, .int (nI en)), (3, .int (nI sn)), (4, .int 4), (5, .int y5)]) hx hb dX0_paths_76 hl (k := 6) rfl (by rw [ex76]; rfl) (by decide) rfl (fun ls hl => ?_)
                have ex76 : x76 = nI (v + 1) := by rw [ex76]; exact nI_1 v
                subst ex76
                refine lv_goto (tgt := 22) hx hb dX0_paths_79 (by decide) ?_
                exact ih22 (v + 1) y5 ls _ _ (by omega) ⟨by omega, by rw [pthS_n (fun h => c44 h.2)]; exact hy5⟩ hP hD hS (lv_sub hl [1, 2, 3, 4, 5, 6, 0] rfl)
              · -- 44 not
                have c44 : sn.testBit v = false := bool_f (fun h => by rw [h] at c44; exact absurd c44 (by decide))
                have hsn2 : sn ||| 2 ^ v < 2 ^ 16 := Nat.or_lt_two_pow hsn (Nat.pow_lt_pow_right (by omega) hv)
                refine lv_iload hx hb dX0_paths_47 (lv_at hl 5 rfl) ?_
                refine lv_aload_n hx hb dX0_paths_49 rfl (lv_at hl 0 rfl) ?_
                refine lv_iload_n hx hb dX0_paths_50 rfl (lv_at hl 1 rfl) ?_
                refine va_aldr hx hb hK hP 22 3 rfl rfl (vp_in_nI ha (by decide)) dX0_paths_51 ?_
                rw [go_ref (R := R) (b := 200) ha]
                refine lv_iload hx hb dX0_paths_52 (lv_at hl 6 rfl) ?_
                have h54 : vp_in (nI v) 16 := vp_in_nI hv (by decide)
                refine va_iald hx hb hK hP (39 + a) 0 (hw_C ha) rfl h54 dX0_paths_54 ?_
                refine lv_topi (fun x54 ex54 => ?_)
                have ex54 : x54 = C a (nI v).toNatClampNeg := ex54
                have ex54 : x54 = nI (bw a v) := by rw [ex54, vcl]; exact (hC a v ha hv).1
                subst ex54
                refine lv_aload_n hx hb dX0_paths_55 rfl (lv_at hl 0 rfl) ?_
                refine lv_iload hx hb dX0_paths_56 (lv_at hl 6 rfl) ?_
                refine lv_iload_n hx hb dX0_paths_58 rfl (lv_at hl 2 rfl) ?_
                refine lv_iload_n hx hb dX0_paths_59 rfl (lv_at hl 3 rfl) ?_
                refine lv_iconst (v := 1) hx hb dX0_paths_60 (by decide) ?_
                refine lv_iload hx hb dX0_paths_61 (lv_at hl 6 rfl) ?_
                refine lv_ishl hx hb dX0_paths_63 ?_
                refine lv_topi (fun x63 ex63 => ?_)
                have ex63 : x63 = nI (2 ^ v) := by rw [ex63]; exact nm_ishl (by omega)
                subst ex63
                refine lv_ior hx hb dX0_paths_64 ?_
                refine lv_topi (fun x64 ex64 => ?_)
                have ex64 : x64 = nI (sn ||| 2 ^ v) := by rw [ex64]; exact nI_orr _ _
                subst ex64
                refine lv_iload hx hb dX0_paths_65 (lv_at hl 4 rfl) ?_
                refine lv_iconst (v := 1) hx hb dX0_paths_67 (by decide) ?_
                refine lv_iadd hx hb dX0_paths_68 ?_
                refine lv_topi (fun x68 ex68 => ?_)
                have ex68 : x68 = 5 := by rw [ex68]; rfl
                subst ex68
                refine ct_calli hD hS hA (va_runS (As := [.ref (R 22), .int (nI v), .int (nI en), .int (nI (sn ||| 2 ^ v)), .int 5]) (rest := [.int (nI (bw a v)), .int y5]) F ((k_X0_paths11 l dC dI cI cJ cZ cII cJJ R I A B C T bw v en (sn ||| 2 ^ v) hC hv hen hsn2) _) (va_cwS 5 hts gX0_paths_X0_paths rfl rfl rfl (by decide +kernel) ⟨(Nat.le_of_ble_eq_true rfl), (Nat.le_of_ble_eq_true rfl)⟩) (ct_preS hK hN hP hD) rfl rfl hl.1 rfl (lv_room (Nat.le_of_ble_eq_true rfl)) dX0_paths_69 ⟨(Nat.le_of_ble_eq_true rfl), (Nat.le_of_ble_eq_true rfl)⟩) (fun r69 u69 H locs w69 hP hD hS => ?_)
                obtain ⟨w69, rfl⟩ := w69
                refine lv_imul hx hb dX0_paths_72 ?_
                refine lv_topi (fun x72 ex72 => ?_)
                have ex72 : x72 = nI (bw a v * pth bw en 11 v (sn ||| 2 ^ v)) := by rw [ex72, w69]; exact nI_ml _ _
                subst ex72
                refine lv_iadd hx hb dX0_paths_73 ?_
                refine lv_topi (fun x73 ex73 => ?_)
                have ex73 : x73 = nI (pthS bw en 11 a sn (v + 1)) := by rw [ex73, hy5, pthS_y c35 c44]; exact nI_add _ _
                subst ex73
                refine lv_istore (lv' := [(5, .int (nI (pthS bw en 11 a sn (v + 1)))), (0, .ref (R 22)), (1, .int (nI a)), (2, .int (nI en)), (3, .int (nI sn)), (4, .int 4), (6, .int (nI v))]) hx hb dX0_paths_74 hl (by decide) rfl (fun ls hl => ?_)
                obtain ⟨x76, ex76⟩ : ∃ zz : Int32, zz = nI v + (1) := ⟨_, rfl⟩
                refine lv_iinc (v := x76) (lv' := [(6, .int x76), (5, .int (nI (pthS bw en 11 a sn (v + 1)))), (0, .ref (R 22)), (1, .int (nI a)), (2, .int (nI en)), (3, .int (nI sn)), (4, .int 4)]) hx hb dX0_paths_76 hl (k := 6) rfl (by rw [ex76]; rfl) (by decide) rfl (fun ls hl => ?_)
                have ex76 : x76 = nI (v + 1) := by rw [ex76]; exact nI_1 v
                subst ex76
                refine lv_goto (tgt := 22) hx hb dX0_paths_79 (by decide) ?_
                exact ih22 (v + 1) (nI (pthS bw en 11 a sn (v + 1))) ls _ _ (by omega) ⟨by omega, rfl⟩ hP hD hS (lv_sub hl [2, 3, 4, 5, 6, 1, 0] rfl)
      exact K22 _ 0 0 ls _ _ (Nat.lt_succ_self _) ⟨Nat.zero_le _, rfl⟩ hP hD hS (lv_sub hl [2, 3, 4, 5, 6, 1, 0] rfl)
    · exact absurd c11 (by decide)
  · -- 2 not
    have c2 : a = en := (nI_eq (by omega) (by omega)).mp c2
    refine lv_iconst (v := 1) hx hb dX0_paths_5 (by decide) ?_
    refine hret 6 ls _ _ 1 (I, A, B, C, T) dX0_paths_6 rfl ?_ hP hD hS
    try dsimp only
    exact ⟨by rw [c2, pth_end]; rfl, rfl⟩
set_option maxHeartbeats 4000000 in
set_option maxRecDepth 100000 in
theorem k_X0_paths13 (l : Launch) (dC : Nat → ClassId) (dI : Nat → Nat → Nat) (cI cJ cZ cII cJJ : ClassId) (R : Nat → Nat) (I : Nat → Int32) (A : Nat → Nat → Int32) (B : Nat → Nat → Int64) (C : Nat → Nat → Int32) (T : Nat → Nat → Int64) (bw : Nat → Nat → Nat) (a en sn : Nat) (hC : rC2 C bw) (ha : a < 16) (hen : en < 16) (hsn : sn < 2 ^ 16) : ctI l (dC, dI) (tyL cI cJ cZ cII cJJ) (HW cI cJ cII cJJ R) yX0_paths wsX0_paths (13, 520) [.ref (R 22), .int (nI a), .int (nI en), .int (nI sn), .int 3] (I, A, B, C, T) (fun r u => r = nI (pth bw en 13 a sn) ∧ u = (I, A, B, C, T)) := by
  refine ctI_intro (cc := cX0_paths) (maxL := 7) (by decide) rfl (Nat.le_of_ble_eq_true rfl) ?_
  intro p e s m below meth c ls Aa Q F hK hN hP hD hS hA hl hret
  have hx := F.1
  have hb := F.2.1
  have hown : s.vm.findClass RX0 = some m.cls := F.2.2.2.1
  have hts := F.2.2.2.2
  have hl : lv_has ls 7 [(0, .ref (R 22)), (1, .int (nI a)), (2, .int (nI en)), (3, .int (nI sn)), (4, .int 3)] := hl
  refine lv_iload_n hx hb dX0_paths_0 rfl (lv_at hl 1 rfl) ?_
  refine lv_iload_n hx hb dX0_paths_1 rfl (lv_at hl 2 rfl) ?_
  refine lv_icmp_ne (tgt := 7) hx hb dX0_paths_2 (by decide) (fun c2 => ?_) (fun c2 => ?_)
  · -- 2 taken
    have c2 : ¬ a = en := fun h => c2 (by rw [h])
    refine lv_iload hx hb dX0_paths_7 (lv_at hl 4 rfl) ?_
    refine lv_bipush (v := 16) hx hb dX0_paths_9 (by decide) ?_
    refine lv_icmp_lt (tgt := 16) hx hb dX0_paths_11 (by decide) (fun c11 => ?_) (fun c11 => ?_)
    · -- 11 taken
      refine lv_iconst (v := 0) hx hb dX0_paths_16 (by decide) ?_
      refine lv_istore (lv' := [(5, .int 0), (0, .ref (R 22)), (1, .int (nI a)), (2, .int (nI en)), (3, .int (nI sn)), (4, .int 3)]) hx hb dX0_paths_17 hl (by decide) rfl (fun ls hl => ?_)
      refine lv_iconst (v := 0) hx hb dX0_paths_19 (by decide) ?_
      refine lv_istore (lv' := [(6, .int 0), (5, .int 0), (0, .ref (R 22)), (1, .int (nI a)), (2, .int (nI en)), (3, .int (nI sn)), (4, .int 3)]) hx hb dX0_paths_20 hl (by decide) rfl (fun ls hl => ?_)
      have K22 : ∀ (kn : Nat) (v : Nat) (y5 : Int32) (ls : Array Slot) (H : Heap) (locs : List Loc), 16 - v < kn → (v ≤ 16 ∧ y5 = nI (pthS bw en 12 a sn v)) → va_P (dC, dI) vwCl (HW cI cJ cII cJJ R (I, A, B, C, T)) H → va_D Aa (HW cI cJ cII cJJ R (I, A, B, C, T)) → va_S Aa s.heap H locs → lv_has ls 7 [(0, .ref (R 22)), (1, .int (nI a)), (2, .int (nI en)), (3, .int (nI sn)), (4, .int 3), (5, .int y5), (6, .int (nI v))] → W p l e (ctR (13, 520)) s m #[.ref (R 22), .int (nI a), .int (nI en), .int (nI sn), .int 3] below meth c H locs 0 0 Q (F0 m 22 ls []) := by
        intro kn
        induction kn with
        | zero => intro v y5 ls H locs hmu; exact absurd hmu (Nat.not_lt_zero _)
        | succ kn ih22 =>
          intro v y5 ls H locs mu22 inv22 hP hD hS hl
          obtain ⟨hv16, hy5⟩ := inv22
          refine lv_iload hx hb dX0_paths_22 (lv_at hl 6 rfl) ?_
          refine lv_bipush (v := 16) hx hb dX0_paths_24 (by decide) ?_
          refine lv_icmp_ge (tgt := 82) hx hb dX0_paths_26 (by decide) (fun c26 => ?_) (fun c26 => ?_)
          · -- 26 taken
            have hge : v = 16 := by have := (nI_leI (a := 16) (by omega) (by omega)).mp c26; omega
            refine lv_iload hx hb dX0_paths_82 (lv_at hl 5 rfl) ?_
            refine hret 84 ls _ _ y5 (I, A, B, C, T) dX0_paths_84 rfl ?_ hP hD hS
            try dsimp only
            exact ⟨by rw [hy5, pth_s c2, hge], rfl⟩
          · -- 26 not
            have hv : v < 16 := Nat.lt_of_not_le (fun h => c26 (nI_le (a := 16) h (by omega)))
            have vcl : (nI v).toNatClampNeg = v := nI_clamp (by omega)
            have hbwl := (hC a v ha hv).2
            refine lv_aload_n hx hb dX0_paths_29 rfl (lv_at hl 0 rfl) ?_
            refine lv_iload_n hx hb dX0_paths_30 rfl (lv_at hl 1 rfl) ?_
            refine va_aldr hx hb hK hP 22 3 rfl rfl (vp_in_nI ha (by decide)) dX0_paths_31 ?_
            rw [go_ref (R := R) (b := 200) ha]
            refine lv_iload hx hb dX0_paths_32 (lv_at hl 6 rfl) ?_
            have h34 : vp_in (nI v) 16 := vp_in_nI hv (by decide)
            refine va_iald hx hb hK hP (39 + a) 0 (hw_C ha) rfl h34 dX0_paths_34 ?_
            refine lv_topi (fun x34 ex34 => ?_)
            have ex34 : x34 = C a (nI v).toNatClampNeg := ex34
            have ex34 : x34 = nI (bw a v) := by rw [ex34, vcl]; exact (hC a v ha hv).1
            subst ex34
            refine lv_if_eq (tgt := 76) hx hb dX0_paths_35 (by decide) (fun c35 => ?_) (fun c35 => ?_)
            · -- 35 taken
              have c35 : bw a v = 0 := (nI_eq (b := 0) hbwl (by decide)).mp c35
              obtain ⟨x76, ex76⟩ : ∃ zz : Int32, zz = nI v + (1) := ⟨_, rfl⟩
              refine lv_iinc (v := x76) (lv' := [(6, .int x76), (0, .ref (R 22)), (1, .int (nI a)), (2, .int (nI en)), (3, .int (nI sn)), (4, .int 3), (5, .int y5)]) hx hb dX0_paths_76 hl (k := 6) rfl (by rw [ex76]; rfl) (by decide) rfl (fun ls hl => ?_)
              have ex76 : x76 = nI (v + 1) := by rw [ex76]; exact nI_1 v
              subst ex76
              refine lv_goto (tgt := 22) hx hb dX0_paths_79 (by decide) ?_
              exact ih22 (v + 1) y5 ls _ _ (by omega) ⟨by omega, by rw [pthS_n (fun h => h.1 c35)]; exact hy5⟩ hP hD hS (lv_sub hl [1, 2, 3, 4, 5, 6, 0] rfl)
            · -- 35 not
              have c35 : bw a v ≠ 0 := fun h => c35 (by rw [h]; rfl)
              refine lv_iload_n hx hb dX0_paths_38 rfl (lv_at hl 3 rfl) ?_
              refine lv_iload hx hb dX0_paths_39 (lv_at hl 6 rfl) ?_
              refine lv_ishr hx hb dX0_paths_41 ?_
              refine lv_topi (fun x41 ex41 => ?_)
              refine lv_iconst (v := 1) hx hb dX0_paths_42 (by decide) ?_
              refine lv_iand hx hb dX0_paths_43 ?_
              refine lv_topi (fun x43 ex43 => ?_)
              have ex43 : x43 = nI (if sn.testBit v then 1 else 0) := by rw [ex43, ex41]; exact nm_ibit (by omega) (by omega)
              subst ex43
              refine lv_if_ne (tgt := 76) hx hb dX0_paths_44 (by decide) (fun c44 => ?_) (fun c44 => ?_)
              · -- 44 taken
                have c44 : ¬ sn.testBit v = false := fun h => c44 (by rw [h]; rfl)
                obtain ⟨x76, ex76⟩ : ∃ zz : Int32, zz = nI v + (1) := ⟨_, rfl⟩
                refine lv_iinc (v := x76) (lv' := [(6, .int x76), (0, .ref (R 22)), (1, .int (nI a)), (2, .int (nI en)), (3, .int (nI sn)), (4, .int 3), (5, .int y5)]) hx hb dX0_paths_76 hl (k := 6) rfl (by rw [ex76]; rfl) (by decide) rfl (fun ls hl => ?_)
                have ex76 : x76 = nI (v + 1) := by rw [ex76]; exact nI_1 v
                subst ex76
                refine lv_goto (tgt := 22) hx hb dX0_paths_79 (by decide) ?_
                exact ih22 (v + 1) y5 ls _ _ (by omega) ⟨by omega, by rw [pthS_n (fun h => c44 h.2)]; exact hy5⟩ hP hD hS (lv_sub hl [1, 2, 3, 4, 5, 6, 0] rfl)
              · -- 44 not
                have c44 : sn.testBit v = false := bool_f (fun h => by rw [h] at c44; exact absurd c44 (by decide))
                have hsn2 : sn ||| 2 ^ v < 2 ^ 16 := Nat.or_lt_two_pow hsn (Nat.pow_lt_pow_right (by omega) hv)
                refine lv_iload hx hb dX0_paths_47 (lv_at hl 5 rfl) ?_
                refine lv_aload_n hx hb dX0_paths_49 rfl (lv_at hl 0 rfl) ?_
                refine lv_iload_n hx hb dX0_paths_50 rfl (lv_at hl 1 rfl) ?_
                refine va_aldr hx hb hK hP 22 3 rfl rfl (vp_in_nI ha (by decide)) dX0_paths_51 ?_
                rw [go_ref (R := R) (b := 200) ha]
                refine lv_iload hx hb dX0_paths_52 (lv_at hl 6 rfl) ?_
                have h54 : vp_in (nI v) 16 := vp_in_nI hv (by decide)
                refine va_iald hx hb hK hP (39 + a) 0 (hw_C ha) rfl h54 dX0_paths_54 ?_
                refine lv_topi (fun x54 ex54 => ?_)
                have ex54 : x54 = C a (nI v).toNatClampNeg := ex54
                have ex54 : x54 = nI (bw a v) := by rw [ex54, vcl]; exact (hC a v ha hv).1
                subst ex54
                refine lv_aload_n hx hb dX0_paths_55 rfl (lv_at hl 0 rfl) ?_
                refine lv_iload hx hb dX0_paths_56 (lv_at hl 6 rfl) ?_
                refine lv_iload_n hx hb dX0_paths_58 rfl (lv_at hl 2 rfl) ?_
                refine lv_iload_n hx hb dX0_paths_59 rfl (lv_at hl 3 rfl) ?_
                refine lv_iconst (v := 1) hx hb dX0_paths_60 (by decide) ?_
                refine lv_iload hx hb dX0_paths_61 (lv_at hl 6 rfl) ?_
                refine lv_ishl hx hb dX0_paths_63 ?_
                refine lv_topi (fun x63 ex63 => ?_)
                have ex63 : x63 = nI (2 ^ v) := by rw [ex63]; exact nm_ishl (by omega)
                subst ex63
                refine lv_ior hx hb dX0_paths_64 ?_
                refine lv_topi (fun x64 ex64 => ?_)
                have ex64 : x64 = nI (sn ||| 2 ^ v) := by rw [ex64]; exact nI_orr _ _
                subst ex64
                refine lv_iload hx hb dX0_paths_65 (lv_at hl 4 rfl) ?_
                refine lv_iconst (v := 1) hx hb dX0_paths_67 (by decide) ?_
                refine lv_iadd hx hb dX0_paths_68 ?_
                refine lv_topi (fun x68 ex68 => ?_)
                have ex68 : x68 = 4 := by rw [ex68]; rfl
                subst ex68
                refine ct_calli hD hS hA (va_runS (As := [.ref (R 22), .int (nI v), .int (nI en), .int (nI (sn ||| 2 ^ v)), .int 4]) (rest := [.int (nI (bw a v)), .int y5]) F ((k_X0_paths12 l dC dI cI cJ cZ cII cJJ R I A B C T bw v en (sn ||| 2 ^ v) hC hv hen hsn2) _) (va_cwS 5 hts gX0_paths_X0_paths rfl rfl rfl (by decide +kernel) ⟨(Nat.le_of_ble_eq_true rfl), (Nat.le_of_ble_eq_true rfl)⟩) (ct_preS hK hN hP hD) rfl rfl hl.1 rfl (lv_room (Nat.le_of_ble_eq_true rfl)) dX0_paths_69 ⟨(Nat.le_of_ble_eq_true rfl), (Nat.le_of_ble_eq_true rfl)⟩) (fun r69 u69 H locs w69 hP hD hS => ?_)
                obtain ⟨w69, rfl⟩ := w69
                refine lv_imul hx hb dX0_paths_72 ?_
                refine lv_topi (fun x72 ex72 => ?_)
                have ex72 : x72 = nI (bw a v * pth bw en 12 v (sn ||| 2 ^ v)) := by rw [ex72, w69]; exact nI_ml _ _
                subst ex72
                refine lv_iadd hx hb dX0_paths_73 ?_
                refine lv_topi (fun x73 ex73 => ?_)
                have ex73 : x73 = nI (pthS bw en 12 a sn (v + 1)) := by rw [ex73, hy5, pthS_y c35 c44]; exact nI_add _ _
                subst ex73
                refine lv_istore (lv' := [(5, .int (nI (pthS bw en 12 a sn (v + 1)))), (0, .ref (R 22)), (1, .int (nI a)), (2, .int (nI en)), (3, .int (nI sn)), (4, .int 3), (6, .int (nI v))]) hx hb dX0_paths_74 hl (by decide) rfl (fun ls hl => ?_)
                obtain ⟨x76, ex76⟩ : ∃ zz : Int32, zz = nI v + (1) := ⟨_, rfl⟩
                refine lv_iinc (v := x76) (lv' := [(6, .int x76), (5, .int (nI (pthS bw en 12 a sn (v + 1)))), (0, .ref (R 22)), (1, .int (nI a)), (2, .int (nI en)), (3, .int (nI sn)), (4, .int 3)]) hx hb dX0_paths_76 hl (k := 6) rfl (by rw [ex76]; rfl) (by decide) rfl (fun ls hl => ?_)
                have ex76 : x76 = nI (v + 1) := by rw [ex76]; exact nI_1 v
                subst ex76
                refine lv_goto (tgt := 22) hx hb dX0_paths_79 (by decide) ?_
                exact ih22 (v + 1) (nI (pthS bw en 12 a sn (v + 1))) ls _ _ (by omega) ⟨by omega, rfl⟩ hP hD hS (lv_sub hl [2, 3, 4, 5, 6, 1, 0] rfl)
      exact K22 _ 0 0 ls _ _ (Nat.lt_succ_self _) ⟨Nat.zero_le _, rfl⟩ hP hD hS (lv_sub hl [2, 3, 4, 5, 6, 1, 0] rfl)
    · exact absurd c11 (by decide)
  · -- 2 not
    have c2 : a = en := (nI_eq (by omega) (by omega)).mp c2
    refine lv_iconst (v := 1) hx hb dX0_paths_5 (by decide) ?_
    refine hret 6 ls _ _ 1 (I, A, B, C, T) dX0_paths_6 rfl ?_ hP hD hS
    try dsimp only
    exact ⟨by rw [c2, pth_end]; rfl, rfl⟩
set_option maxHeartbeats 4000000 in
set_option maxRecDepth 100000 in
theorem k_X0_paths14 (l : Launch) (dC : Nat → ClassId) (dI : Nat → Nat → Nat) (cI cJ cZ cII cJJ : ClassId) (R : Nat → Nat) (I : Nat → Int32) (A : Nat → Nat → Int32) (B : Nat → Nat → Int64) (C : Nat → Nat → Int32) (T : Nat → Nat → Int64) (bw : Nat → Nat → Nat) (a en sn : Nat) (hC : rC2 C bw) (ha : a < 16) (hen : en < 16) (hsn : sn < 2 ^ 16) : ctI l (dC, dI) (tyL cI cJ cZ cII cJJ) (HW cI cJ cII cJJ R) yX0_paths wsX0_paths (14, 560) [.ref (R 22), .int (nI a), .int (nI en), .int (nI sn), .int 2] (I, A, B, C, T) (fun r u => r = nI (pth bw en 14 a sn) ∧ u = (I, A, B, C, T)) := by
  refine ctI_intro (cc := cX0_paths) (maxL := 7) (by decide) rfl (Nat.le_of_ble_eq_true rfl) ?_
  intro p e s m below meth c ls Aa Q F hK hN hP hD hS hA hl hret
  have hx := F.1
  have hb := F.2.1
  have hown : s.vm.findClass RX0 = some m.cls := F.2.2.2.1
  have hts := F.2.2.2.2
  have hl : lv_has ls 7 [(0, .ref (R 22)), (1, .int (nI a)), (2, .int (nI en)), (3, .int (nI sn)), (4, .int 2)] := hl
  refine lv_iload_n hx hb dX0_paths_0 rfl (lv_at hl 1 rfl) ?_
  refine lv_iload_n hx hb dX0_paths_1 rfl (lv_at hl 2 rfl) ?_
  refine lv_icmp_ne (tgt := 7) hx hb dX0_paths_2 (by decide) (fun c2 => ?_) (fun c2 => ?_)
  · -- 2 taken
    have c2 : ¬ a = en := fun h => c2 (by rw [h])
    refine lv_iload hx hb dX0_paths_7 (lv_at hl 4 rfl) ?_
    refine lv_bipush (v := 16) hx hb dX0_paths_9 (by decide) ?_
    refine lv_icmp_lt (tgt := 16) hx hb dX0_paths_11 (by decide) (fun c11 => ?_) (fun c11 => ?_)
    · -- 11 taken
      refine lv_iconst (v := 0) hx hb dX0_paths_16 (by decide) ?_
      refine lv_istore (lv' := [(5, .int 0), (0, .ref (R 22)), (1, .int (nI a)), (2, .int (nI en)), (3, .int (nI sn)), (4, .int 2)]) hx hb dX0_paths_17 hl (by decide) rfl (fun ls hl => ?_)
      refine lv_iconst (v := 0) hx hb dX0_paths_19 (by decide) ?_
      refine lv_istore (lv' := [(6, .int 0), (5, .int 0), (0, .ref (R 22)), (1, .int (nI a)), (2, .int (nI en)), (3, .int (nI sn)), (4, .int 2)]) hx hb dX0_paths_20 hl (by decide) rfl (fun ls hl => ?_)
      have K22 : ∀ (kn : Nat) (v : Nat) (y5 : Int32) (ls : Array Slot) (H : Heap) (locs : List Loc), 16 - v < kn → (v ≤ 16 ∧ y5 = nI (pthS bw en 13 a sn v)) → va_P (dC, dI) vwCl (HW cI cJ cII cJJ R (I, A, B, C, T)) H → va_D Aa (HW cI cJ cII cJJ R (I, A, B, C, T)) → va_S Aa s.heap H locs → lv_has ls 7 [(0, .ref (R 22)), (1, .int (nI a)), (2, .int (nI en)), (3, .int (nI sn)), (4, .int 2), (5, .int y5), (6, .int (nI v))] → W p l e (ctR (14, 560)) s m #[.ref (R 22), .int (nI a), .int (nI en), .int (nI sn), .int 2] below meth c H locs 0 0 Q (F0 m 22 ls []) := by
        intro kn
        induction kn with
        | zero => intro v y5 ls H locs hmu; exact absurd hmu (Nat.not_lt_zero _)
        | succ kn ih22 =>
          intro v y5 ls H locs mu22 inv22 hP hD hS hl
          obtain ⟨hv16, hy5⟩ := inv22
          refine lv_iload hx hb dX0_paths_22 (lv_at hl 6 rfl) ?_
          refine lv_bipush (v := 16) hx hb dX0_paths_24 (by decide) ?_
          refine lv_icmp_ge (tgt := 82) hx hb dX0_paths_26 (by decide) (fun c26 => ?_) (fun c26 => ?_)
          · -- 26 taken
            have hge : v = 16 := by have := (nI_leI (a := 16) (by omega) (by omega)).mp c26; omega
            refine lv_iload hx hb dX0_paths_82 (lv_at hl 5 rfl) ?_
            refine hret 84 ls _ _ y5 (I, A, B, C, T) dX0_paths_84 rfl ?_ hP hD hS
            try dsimp only
            exact ⟨by rw [hy5, pth_s c2, hge], rfl⟩
          · -- 26 not
            have hv : v < 16 := Nat.lt_of_not_le (fun h => c26 (nI_le (a := 16) h (by omega)))
            have vcl : (nI v).toNatClampNeg = v := nI_clamp (by omega)
            have hbwl := (hC a v ha hv).2
            refine lv_aload_n hx hb dX0_paths_29 rfl (lv_at hl 0 rfl) ?_
            refine lv_iload_n hx hb dX0_paths_30 rfl (lv_at hl 1 rfl) ?_
            refine va_aldr hx hb hK hP 22 3 rfl rfl (vp_in_nI ha (by decide)) dX0_paths_31 ?_
            rw [go_ref (R := R) (b := 200) ha]
            refine lv_iload hx hb dX0_paths_32 (lv_at hl 6 rfl) ?_
            have h34 : vp_in (nI v) 16 := vp_in_nI hv (by decide)
            refine va_iald hx hb hK hP (39 + a) 0 (hw_C ha) rfl h34 dX0_paths_34 ?_
            refine lv_topi (fun x34 ex34 => ?_)
            have ex34 : x34 = C a (nI v).toNatClampNeg := ex34
            have ex34 : x34 = nI (bw a v) := by rw [ex34, vcl]; exact (hC a v ha hv).1
            subst ex34
            refine lv_if_eq (tgt := 76) hx hb dX0_paths_35 (by decide) (fun c35 => ?_) (fun c35 => ?_)
            · -- 35 taken
              have c35 : bw a v = 0 := (nI_eq (b := 0) hbwl (by decide)).mp c35
              obtain ⟨x76, ex76⟩ : ∃ zz : Int32, zz = nI v + (1) := ⟨_, rfl⟩
              refine lv_iinc (v := x76) (lv' := [(6, .int x76), (0, .ref (R 22)), (1, .int (nI a)), (2, .int (nI en)), (3, .int (nI sn)), (4, .int 2), (5, .int y5)]) hx hb dX0_paths_76 hl (k := 6) rfl (by rw [ex76]; rfl) (by decide) rfl (fun ls hl => ?_)
              have ex76 : x76 = nI (v + 1) := by rw [ex76]; exact nI_1 v
              subst ex76
              refine lv_goto (tgt := 22) hx hb dX0_paths_79 (by decide) ?_
              exact ih22 (v + 1) y5 ls _ _ (by omega) ⟨by omega, by rw [pthS_n (fun h => h.1 c35)]; exact hy5⟩ hP hD hS (lv_sub hl [1, 2, 3, 4, 5, 6, 0] rfl)
            · -- 35 not
              have c35 : bw a v ≠ 0 := fun h => c35 (by rw [h]; rfl)
              refine lv_iload_n hx hb dX0_paths_38 rfl (lv_at hl 3 rfl) ?_
              refine lv_iload hx hb dX0_paths_39 (lv_at hl 6 rfl) ?_
              refine lv_ishr hx hb dX0_paths_41 ?_
              refine lv_topi (fun x41 ex41 => ?_)
              refine lv_iconst (v := 1) hx hb dX0_paths_42 (by decide) ?_
              refine lv_iand hx hb dX0_paths_43 ?_
              refine lv_topi (fun x43 ex43 => ?_)
              have ex43 : x43 = nI (if sn.testBit v then 1 else 0) := by rw [ex43, ex41]; exact nm_ibit (by omega) (by omega)
              subst ex43
              refine lv_if_ne (tgt := 76) hx hb dX0_paths_44 (by decide) (fun c44 => ?_) (fun c44 => ?_)
              · -- 44 taken
                have c44 : ¬ sn.testBit v = false := fun h => c44 (by rw [h]; rfl)
                obtain ⟨x76, ex76⟩ : ∃ zz : Int32, zz = nI v + (1) := ⟨_, rfl⟩
                refine lv_iinc (v := x76) (lv' := [(6, .int x76), (0, .ref (R 22)), (1, .int (nI a)), (2, .int (nI en)), (3, .int (nI sn)), (4, .int 2), (5, .int y5)]) hx hb dX0_paths_76 hl (k := 6) rfl (by rw [ex76]; rfl) (by decide) rfl (fun ls hl => ?_)
                have ex76 : x76 = nI (v + 1) := by rw [ex76]; exact nI_1 v
                subst ex76
                refine lv_goto (tgt := 22) hx hb dX0_paths_79 (by decide) ?_
                exact ih22 (v + 1) y5 ls _ _ (by omega) ⟨by omega, by rw [pthS_n (fun h => c44 h.2)]; exact hy5⟩ hP hD hS (lv_sub hl [1, 2, 3, 4, 5, 6, 0] rfl)
              · -- 44 not
                have c44 : sn.testBit v = false := bool_f (fun h => by rw [h] at c44; exact absurd c44 (by decide))
                have hsn2 : sn ||| 2 ^ v < 2 ^ 16 := Nat.or_lt_two_pow hsn (Nat.pow_lt_pow_right (by omega) hv)
                refine lv_iload hx hb dX0_paths_47 (lv_at hl 5 rfl) ?_
                refine lv_aload_n hx hb dX0_paths_49 rfl (lv_at hl 0 rfl) ?_
                refine lv_iload_n hx hb dX0_paths_50 rfl (lv_at hl 1 rfl) ?_
                refine va_aldr hx hb hK hP 22 3 rfl rfl (vp_in_nI ha (by decide)) dX0_paths_51 ?_
                rw [go_ref (R := R) (b := 200) ha]
                refine lv_iload hx hb dX0_paths_52 (lv_at hl 6 rfl) ?_
                have h54 : vp_in (nI v) 16 := vp_in_nI hv (by decide)
                refine va_iald hx hb hK hP (39 + a) 0 (hw_C ha) rfl h54 dX0_paths_54 ?_
                refine lv_topi (fun x54 ex54 => ?_)
                have ex54 : x54 = C a (nI v).toNatClampNeg := ex54
                have ex54 : x54 = nI (bw a v) := by rw [ex54, vcl]; exact (hC a v ha hv).1
                subst ex54
                refine lv_aload_n hx hb dX0_paths_55 rfl (lv_at hl 0 rfl) ?_
                refine lv_iload hx hb dX0_paths_56 (lv_at hl 6 rfl) ?_
                refine lv_iload_n hx hb dX0_paths_58 rfl (lv_at hl 2 rfl) ?_
                refine lv_iload_n hx hb dX0_paths_59 rfl (lv_at hl 3 rfl) ?_
                refine lv_iconst (v := 1) hx hb dX0_paths_60 (by decide) ?_
                refine lv_iload hx hb dX0_paths_61 (lv_at hl 6 rfl) ?_
                refine lv_ishl hx hb dX0_paths_63 ?_
                refine lv_topi (fun x63 ex63 => ?_)
                have ex63 : x63 = nI (2 ^ v) := by rw [ex63]; exact nm_ishl (by omega)
                subst ex63
                refine lv_ior hx hb dX0_paths_64 ?_
                refine lv_topi (fun x64 ex64 => ?_)
                have ex64 : x64 = nI (sn ||| 2 ^ v) := by rw [ex64]; exact nI_orr _ _
                subst ex64
                refine lv_iload hx hb dX0_paths_65 (lv_at hl 4 rfl) ?_
                refine lv_iconst (v := 1) hx hb dX0_paths_67 (by decide) ?_
                refine lv_iadd hx hb dX0_paths_68 ?_
                refine lv_topi (fun x68 ex68 => ?_)
                have ex68 : x68 = 3 := by rw [ex68]; rfl
                subst ex68
                refine ct_calli hD hS hA (va_runS (As := [.ref (R 22), .int (nI v), .int (nI en), .int (nI (sn ||| 2 ^ v)), .int 3]) (rest := [.int (nI (bw a v)), .int y5]) F ((k_X0_paths13 l dC dI cI cJ cZ cII cJJ R I A B C T bw v en (sn ||| 2 ^ v) hC hv hen hsn2) _) (va_cwS 5 hts gX0_paths_X0_paths rfl rfl rfl (by decide +kernel) ⟨(Nat.le_of_ble_eq_true rfl), (Nat.le_of_ble_eq_true rfl)⟩) (ct_preS hK hN hP hD) rfl rfl hl.1 rfl (lv_room (Nat.le_of_ble_eq_true rfl)) dX0_paths_69 ⟨(Nat.le_of_ble_eq_true rfl), (Nat.le_of_ble_eq_true rfl)⟩) (fun r69 u69 H locs w69 hP hD hS => ?_)
                obtain ⟨w69, rfl⟩ := w69
                refine lv_imul hx hb dX0_paths_72 ?_
                refine lv_topi (fun x72 ex72 => ?_)
                have ex72 : x72 = nI (bw a v * pth bw en 13 v (sn ||| 2 ^ v)) := by rw [ex72, w69]; exact nI_ml _ _
                subst ex72
                refine lv_iadd hx hb dX0_paths_73 ?_
                refine lv_topi (fun x73 ex73 => ?_)
                have ex73 : x73 = nI (pthS bw en 13 a sn (v + 1)) := by rw [ex73, hy5, pthS_y c35 c44]; exact nI_add _ _
                subst ex73
                refine lv_istore (lv' := [(5, .int (nI (pthS bw en 13 a sn (v + 1)))), (0, .ref (R 22)), (1, .int (nI a)), (2, .int (nI en)), (3, .int (nI sn)), (4, .int 2), (6, .int (nI v))]) hx hb dX0_paths_74 hl (by decide) rfl (fun ls hl => ?_)
                obtain ⟨x76, ex76⟩ : ∃ zz : Int32, zz = nI v + (1) := ⟨_, rfl⟩
                refine lv_iinc (v := x76) (lv' := [(6, .int x76), (5, .int (nI (pthS bw en 13 a sn (v + 1)))), (0, .ref (R 22)), (1, .int (nI a)), (2, .int (nI en)), (3, .int (nI sn)), (4, .int 2)]) hx hb dX0_paths_76 hl (k := 6) rfl (by rw [ex76]; rfl) (by decide) rfl (fun ls hl => ?_)
                have ex76 : x76 = nI (v + 1) := by rw [ex76]; exact nI_1 v
                subst ex76
                refine lv_goto (tgt := 22) hx hb dX0_paths_79 (by decide) ?_
                exact ih22 (v + 1) (nI (pthS bw en 13 a sn (v + 1))) ls _ _ (by omega) ⟨by omega, rfl⟩ hP hD hS (lv_sub hl [2, 3, 4, 5, 6, 1, 0] rfl)
      exact K22 _ 0 0 ls _ _ (Nat.lt_succ_self _) ⟨Nat.zero_le _, rfl⟩ hP hD hS (lv_sub hl [2, 3, 4, 5, 6, 1, 0] rfl)
    · exact absurd c11 (by decide)
  · -- 2 not
    have c2 : a = en := (nI_eq (by omega) (by omega)).mp c2
    refine lv_iconst (v := 1) hx hb dX0_paths_5 (by decide) ?_
    refine hret 6 ls _ _ 1 (I, A, B, C, T) dX0_paths_6 rfl ?_ hP hD hS
    try dsimp only
    exact ⟨by rw [c2, pth_end]; rfl, rfl⟩
set_option maxHeartbeats 4000000 in
set_option maxRecDepth 100000 in
theorem k_X0_paths15 (l : Launch) (dC : Nat → ClassId) (dI : Nat → Nat → Nat) (cI cJ cZ cII cJJ : ClassId) (R : Nat → Nat) (I : Nat → Int32) (A : Nat → Nat → Int32) (B : Nat → Nat → Int64) (C : Nat → Nat → Int32) (T : Nat → Nat → Int64) (bw : Nat → Nat → Nat) (a en sn : Nat) (hC : rC2 C bw) (ha : a < 16) (hen : en < 16) (hsn : sn < 2 ^ 16) : ctI l (dC, dI) (tyL cI cJ cZ cII cJJ) (HW cI cJ cII cJJ R) yX0_paths wsX0_paths (15, 600) [.ref (R 22), .int (nI a), .int (nI en), .int (nI sn), .int 1] (I, A, B, C, T) (fun r u => r = nI (pth bw en 15 a sn) ∧ u = (I, A, B, C, T)) := by
  refine ctI_intro (cc := cX0_paths) (maxL := 7) (by decide) rfl (Nat.le_of_ble_eq_true rfl) ?_
  intro p e s m below meth c ls Aa Q F hK hN hP hD hS hA hl hret
  have hx := F.1
  have hb := F.2.1
  have hown : s.vm.findClass RX0 = some m.cls := F.2.2.2.1
  have hts := F.2.2.2.2
  have hl : lv_has ls 7 [(0, .ref (R 22)), (1, .int (nI a)), (2, .int (nI en)), (3, .int (nI sn)), (4, .int 1)] := hl
  refine lv_iload_n hx hb dX0_paths_0 rfl (lv_at hl 1 rfl) ?_
  refine lv_iload_n hx hb dX0_paths_1 rfl (lv_at hl 2 rfl) ?_
  refine lv_icmp_ne (tgt := 7) hx hb dX0_paths_2 (by decide) (fun c2 => ?_) (fun c2 => ?_)
  · -- 2 taken
    have c2 : ¬ a = en := fun h => c2 (by rw [h])
    refine lv_iload hx hb dX0_paths_7 (lv_at hl 4 rfl) ?_
    refine lv_bipush (v := 16) hx hb dX0_paths_9 (by decide) ?_
    refine lv_icmp_lt (tgt := 16) hx hb dX0_paths_11 (by decide) (fun c11 => ?_) (fun c11 => ?_)
    · -- 11 taken
      refine lv_iconst (v := 0) hx hb dX0_paths_16 (by decide) ?_
      refine lv_istore (lv' := [(5, .int 0), (0, .ref (R 22)), (1, .int (nI a)), (2, .int (nI en)), (3, .int (nI sn)), (4, .int 1)]) hx hb dX0_paths_17 hl (by decide) rfl (fun ls hl => ?_)
      refine lv_iconst (v := 0) hx hb dX0_paths_19 (by decide) ?_
      refine lv_istore (lv' := [(6, .int 0), (5, .int 0), (0, .ref (R 22)), (1, .int (nI a)), (2, .int (nI en)), (3, .int (nI sn)), (4, .int 1)]) hx hb dX0_paths_20 hl (by decide) rfl (fun ls hl => ?_)
      have K22 : ∀ (kn : Nat) (v : Nat) (y5 : Int32) (ls : Array Slot) (H : Heap) (locs : List Loc), 16 - v < kn → (v ≤ 16 ∧ y5 = nI (pthS bw en 14 a sn v)) → va_P (dC, dI) vwCl (HW cI cJ cII cJJ R (I, A, B, C, T)) H → va_D Aa (HW cI cJ cII cJJ R (I, A, B, C, T)) → va_S Aa s.heap H locs → lv_has ls 7 [(0, .ref (R 22)), (1, .int (nI a)), (2, .int (nI en)), (3, .int (nI sn)), (4, .int 1), (5, .int y5), (6, .int (nI v))] → W p l e (ctR (15, 600)) s m #[.ref (R 22), .int (nI a), .int (nI en), .int (nI sn), .int 1] below meth c H locs 0 0 Q (F0 m 22 ls []) := by
        intro kn
        induction kn with
        | zero => intro v y5 ls H locs hmu; exact absurd hmu (Nat.not_lt_zero _)
        | succ kn ih22 =>
          intro v y5 ls H locs mu22 inv22 hP hD hS hl
          obtain ⟨hv16, hy5⟩ := inv22
          refine lv_iload hx hb dX0_paths_22 (lv_at hl 6 rfl) ?_
          refine lv_bipush (v := 16) hx hb dX0_paths_24 (by decide) ?_
          refine lv_icmp_ge (tgt := 82) hx hb dX0_paths_26 (by decide) (fun c26 => ?_) (fun c26 => ?_)
          · -- 26 taken
            have hge : v = 16 := by have := (nI_leI (a := 16) (by omega) (by omega)).mp c26; omega
            refine lv_iload hx hb dX0_paths_82 (lv_at hl 5 rfl) ?_
            refine hret 84 ls _ _ y5 (I, A, B, C, T) dX0_paths_84 rfl ?_ hP hD hS
            try dsimp only
            exact ⟨by rw [hy5, pth_s c2, hge], rfl⟩
          · -- 26 not
            have hv : v < 16 := Nat.lt_of_not_le (fun h => c26 (nI_le (a := 16) h (by omega)))
            have vcl : (nI v).toNatClampNeg = v := nI_clamp (by omega)
            have hbwl := (hC a v ha hv).2
            refine lv_aload_n hx hb dX0_paths_29 rfl (lv_at hl 0 rfl) ?_
            refine lv_iload_n hx hb dX0_paths_30 rfl (lv_at hl 1 rfl) ?_
            refine va_aldr hx hb hK hP 22 3 rfl rfl (vp_in_nI ha (by decide)) dX0_paths_31 ?_
            rw [go_ref (R := R) (b := 200) ha]
            refine lv_iload hx hb dX0_paths_32 (lv_at hl 6 rfl) ?_
            have h34 : vp_in (nI v) 16 := vp_in_nI hv (by decide)
            refine va_iald hx hb hK hP (39 + a) 0 (hw_C ha) rfl h34 dX0_paths_34 ?_
            refine lv_topi (fun x34 ex34 => ?_)
            have ex34 : x34 = C a (nI v).toNatClampNeg := ex34
            have ex34 : x34 = nI (bw a v) := by rw [ex34, vcl]; exact (hC a v ha hv).1
            subst ex34
            refine lv_if_eq (tgt := 76) hx hb dX0_paths_35 (by decide) (fun c35 => ?_) (fun c35 => ?_)
            · -- 35 taken
              have c35 : bw a v = 0 := (nI_eq (b := 0) hbwl (by decide)).mp c35
              obtain ⟨x76, ex76⟩ : ∃ zz : Int32, zz = nI v + (1) := ⟨_, rfl⟩
              refine lv_iinc (v := x76) (lv' := [(6, .int x76), (0, .ref (R 22)), (1, .int (nI a)), (2, .int (nI en)), (3, .int (nI sn)), (4, .int 1), (5, .int y5)]) hx hb dX0_paths_76 hl (k := 6) rfl (by rw [ex76]; rfl) (by decide) rfl (fun ls hl => ?_)
              have ex76 : x76 = nI (v + 1) := by rw [ex76]; exact nI_1 v
              subst ex76
              refine lv_goto (tgt := 22) hx hb dX0_paths_79 (by decide) ?_
              exact ih22 (v + 1) y5 ls _ _ (by omega) ⟨by omega, by rw [pthS_n (fun h => h.1 c35)]; exact hy5⟩ hP hD hS (lv_sub hl [1, 2, 3, 4, 5, 6, 0] rfl)
            · -- 35 not
              have c35 : bw a v ≠ 0 := fun h => c35 (by rw [h]; rfl)
              refine lv_iload_n hx hb dX0_paths_38 rfl (lv_at hl 3 rfl) ?_
              refine lv_iload hx hb dX0_paths_39 (lv_at hl 6 rfl) ?_
              refine lv_ishr hx hb dX0_paths_41 ?_
              refine lv_topi (fun x41 ex41 => ?_)
              refine lv_iconst (v := 1) hx hb dX0_paths_42 (by decide) ?_
              refine lv_iand hx hb dX0_paths_43 ?_
              refine lv_topi (fun x43 ex43 => ?_)
              have ex43 : x43 = nI (if sn.testBit v then 1 else 0) := by rw [ex43, ex41]; exact nm_ibit (by omega) (by omega)
              subst ex43
              refine lv_if_ne (tgt := 76) hx hb dX0_paths_44 (by decide) (fun c44 => ?_) (fun c44 => ?_)
              · -- 44 taken
                have c44 : ¬ sn.testBit v = false := fun h => c44 (by rw [h]; rfl)
                obtain ⟨x76, ex76⟩ : ∃ zz : Int32, zz = nI v + (1) := ⟨_, rfl⟩
                refine lv_iinc (v := x76) (lv' := [(6, .int x76), (0, .ref (R 22)), (1, .int (nI a)), (2, .int (nI en)), (3, .int (nI sn)), (4, .int 1), (5, .int y5)]) hx hb dX0_paths_76 hl (k := 6) rfl (by rw [ex76]; rfl) (by decide) rfl (fun ls hl => ?_)
                have ex76 : x76 = nI (v + 1) := by rw [ex76]; exact nI_1 v
                subst ex76
                refine lv_goto (tgt := 22) hx hb dX0_paths_79 (by decide) ?_
                exact ih22 (v + 1) y5 ls _ _ (by omega) ⟨by omega, by rw [pthS_n (fun h => c44 h.2)]; exact hy5⟩ hP hD hS (lv_sub hl [1, 2, 3, 4, 5, 6, 0] rfl)
              · -- 44 not
                have c44 : sn.testBit v = false := bool_f (fun h => by rw [h] at c44; exact absurd c44 (by decide))
                have hsn2 : sn ||| 2 ^ v < 2 ^ 16 := Nat.or_lt_two_pow hsn (Nat.pow_lt_pow_right (by omega) hv)
                refine lv_iload hx hb dX0_paths_47 (lv_at hl 5 rfl) ?_
                refine lv_aload_n hx hb dX0_paths_49 rfl (lv_at hl 0 rfl) ?_
                refine lv_iload_n hx hb dX0_paths_50 rfl (lv_at hl 1 rfl) ?_
                refine va_aldr hx hb hK hP 22 3 rfl rfl (vp_in_nI ha (by decide)) dX0_paths_51 ?_
                rw [go_ref (R := R) (b := 200) ha]
                refine lv_iload hx hb dX0_paths_52 (lv_at hl 6 rfl) ?_
                have h54 : vp_in (nI v) 16 := vp_in_nI hv (by decide)
                refine va_iald hx hb hK hP (39 + a) 0 (hw_C ha) rfl h54 dX0_paths_54 ?_
                refine lv_topi (fun x54 ex54 => ?_)
                have ex54 : x54 = C a (nI v).toNatClampNeg := ex54
                have ex54 : x54 = nI (bw a v) := by rw [ex54, vcl]; exact (hC a v ha hv).1
                subst ex54
                refine lv_aload_n hx hb dX0_paths_55 rfl (lv_at hl 0 rfl) ?_
                refine lv_iload hx hb dX0_paths_56 (lv_at hl 6 rfl) ?_
                refine lv_iload_n hx hb dX0_paths_58 rfl (lv_at hl 2 rfl) ?_
                refine lv_iload_n hx hb dX0_paths_59 rfl (lv_at hl 3 rfl) ?_
                refine lv_iconst (v := 1) hx hb dX0_paths_60 (by decide) ?_
                refine lv_iload hx hb dX0_paths_61 (lv_at hl 6 rfl) ?_
                refine lv_ishl hx hb dX0_paths_63 ?_
                refine lv_topi (fun x63 ex63 => ?_)
                have ex63 : x63 = nI (2 ^ v) := by rw [ex63]; exact nm_ishl (by omega)
                subst ex63
                refine lv_ior hx hb dX0_paths_64 ?_
                refine lv_topi (fun x64 ex64 => ?_)
                have ex64 : x64 = nI (sn ||| 2 ^ v) := by rw [ex64]; exact nI_orr _ _
                subst ex64
                refine lv_iload hx hb dX0_paths_65 (lv_at hl 4 rfl) ?_
                refine lv_iconst (v := 1) hx hb dX0_paths_67 (by decide) ?_
                refine lv_iadd hx hb dX0_paths_68 ?_
                refine lv_topi (fun x68 ex68 => ?_)
                have ex68 : x68 = 2 := by rw [ex68]; rfl
                subst ex68
                refine ct_calli hD hS hA (va_runS (As := [.ref (R 22), .int (nI v), .int (nI en), .int (nI (sn ||| 2 ^ v)), .int 2]) (rest := [.int (nI (bw a v)), .int y5]) F ((k_X0_paths14 l dC dI cI cJ cZ cII cJJ R I A B C T bw v en (sn ||| 2 ^ v) hC hv hen hsn2) _) (va_cwS 5 hts gX0_paths_X0_paths rfl rfl rfl (by decide +kernel) ⟨(Nat.le_of_ble_eq_true rfl), (Nat.le_of_ble_eq_true rfl)⟩) (ct_preS hK hN hP hD) rfl rfl hl.1 rfl (lv_room (Nat.le_of_ble_eq_true rfl)) dX0_paths_69 ⟨(Nat.le_of_ble_eq_true rfl), (Nat.le_of_ble_eq_true rfl)⟩) (fun r69 u69 H locs w69 hP hD hS => ?_)
                obtain ⟨w69, rfl⟩ := w69
                refine lv_imul hx hb dX0_paths_72 ?_
                refine lv_topi (fun x72 ex72 => ?_)
                have ex72 : x72 = nI (bw a v * pth bw en 14 v (sn ||| 2 ^ v)) := by rw [ex72, w69]; exact nI_ml _ _
                subst ex72
                refine lv_iadd hx hb dX0_paths_73 ?_
                refine lv_topi (fun x73 ex73 => ?_)
                have ex73 : x73 = nI (pthS bw en 14 a sn (v + 1)) := by rw [ex73, hy5, pthS_y c35 c44]; exact nI_add _ _
                subst ex73
                refine lv_istore (lv' := [(5, .int (nI (pthS bw en 14 a sn (v + 1)))), (0, .ref (R 22)), (1, .int (nI a)), (2, .int (nI en)), (3, .int (nI sn)), (4, .int 1), (6, .int (nI v))]) hx hb dX0_paths_74 hl (by decide) rfl (fun ls hl => ?_)
                obtain ⟨x76, ex76⟩ : ∃ zz : Int32, zz = nI v + (1) := ⟨_, rfl⟩
                refine lv_iinc (v := x76) (lv' := [(6, .int x76), (5, .int (nI (pthS bw en 14 a sn (v + 1)))), (0, .ref (R 22)), (1, .int (nI a)), (2, .int (nI en)), (3, .int (nI sn)), (4, .int 1)]) hx hb dX0_paths_76 hl (k := 6) rfl (by rw [ex76]; rfl) (by decide) rfl (fun ls hl => ?_)
                have ex76 : x76 = nI (v + 1) := by rw [ex76]; exact nI_1 v
                subst ex76
                refine lv_goto (tgt := 22) hx hb dX0_paths_79 (by decide) ?_
                exact ih22 (v + 1) (nI (pthS bw en 14 a sn (v + 1))) ls _ _ (by omega) ⟨by omega, rfl⟩ hP hD hS (lv_sub hl [2, 3, 4, 5, 6, 1, 0] rfl)
      exact K22 _ 0 0 ls _ _ (Nat.lt_succ_self _) ⟨Nat.zero_le _, rfl⟩ hP hD hS (lv_sub hl [2, 3, 4, 5, 6, 1, 0] rfl)
    · exact absurd c11 (by decide)
  · -- 2 not
    have c2 : a = en := (nI_eq (by omega) (by omega)).mp c2
    refine lv_iconst (v := 1) hx hb dX0_paths_5 (by decide) ?_
    refine hret 6 ls _ _ 1 (I, A, B, C, T) dX0_paths_6 rfl ?_ hP hD hS
    try dsimp only
    exact ⟨by rw [c2, pth_end]; rfl, rfl⟩
set_option maxHeartbeats 4000000 in
set_option maxRecDepth 100000 in
theorem k_X0_count (l : Launch) (dC : Nat → ClassId) (dI : Nat → Nat → Nat) (cI cJ cZ cII cJJ : ClassId) (R : Nat → Nat) (I : Nat → Int32) (A : Nat → Nat → Int32) (B : Nat → Nat → Int64) (C : Nat → Nat → Int32) (T : Nat → Nat → Int64) (nv ne : Nat) (fr to wt : Nat → Nat) (g : gH nv ne fr to wt I A) : ctI l (dC, dI) (tyL cI cJ cZ cII cJJ) (HW cI cJ cII cJJ R) yX0_count wsX0_count (17, 660) [.ref (R 19), .ref (R 1)] (I, A, B, C, T) (fun r u => r = nI (cyN fr to ne) ∧ u.1 = I ∧ u.2.1 = A ∧ u.2.2.1 = B ∧ u.2.2.2.2 = T) := by
  refine ctI_intro (cc := cX0_count) (maxL := 6) (by decide) rfl (Nat.le_of_ble_eq_true rfl) ?_
  intro p e s m below meth c ls Aa Q F hK hN hP hD hS hA hl hret
  have hx := F.1
  have hb := F.2.1
  have hown : s.vm.findClass RX0 = some m.cls := F.2.2.2.1
  have hts := F.2.2.2.2
  have hinX0 : ∀ w ∈ wsX00, w ∈ wsX0_count := by decide +kernel
  have hinX2 : ∀ w ∈ wsX20, w ∈ wsX0_count := by decide +kernel
  have hf11 := hts (.fieldLink RX0 11 "CycleHouse$CycleCount" "between" "[[I") (by decide +kernel)
  have hl : lv_has ls 6 [(0, .ref (R 19)), (1, .ref (R 1))] := hl
  obtain ⟨g1, g2, g3, g4, g5, g6⟩ := id g
  refine lv_iconst (v := 0) hx hb dX0_count_0 (by decide) ?_
  refine lv_istore_n (lv' := [(2, .int 0), (0, .ref (R 19)), (1, .ref (R 1))]) hx hb dX0_count_1 rfl hl (by decide) rfl (fun ls hl => ?_)
  have K2 : ∀ (kn : Nat) (v : Nat) (C_2 : Nat → Nat → Int32) (ls : Array Slot) (H : Heap) (locs : List Loc), 16 - v < kn → (v ≤ 16 ∧ ∀ i j, i < v → j < 16 → C_2 i j = 0) → va_P (dC, dI) vwCl (HW cI cJ cII cJJ R (I, A, B, C_2, T)) H → va_D Aa (HW cI cJ cII cJJ R (I, A, B, C_2, T)) → va_S Aa s.heap H locs → lv_has ls 6 [(0, .ref (R 19)), (1, .ref (R 1)), (2, .int (nI v))] → W p l e (ctR (17, 660)) s m #[.ref (R 19), .ref (R 1)] below meth c H locs 0 0 Q (F0 m 2 ls []) := by
    intro kn
    induction kn with
    | zero => intro v C_2 ls H locs hmu; exact absurd hmu (Nat.not_lt_zero _)
    | succ kn ih2 =>
      intro v C_2 ls H locs mu2 inv2 hP hD hS hl
      obtain ⟨hv, hz⟩ := inv2
      refine lv_iload_n hx hb dX0_count_2 rfl (lv_at hl 2 rfl) ?_
      refine lv_bipush (v := 16) hx hb dX0_count_3 (by decide) ?_
      refine lv_icmp_ge (tgt := 24) hx hb dX0_count_5 (by decide) (fun c5 => ?_) (fun c5 => ?_)
      · -- 5 taken
        have hgev : v = 16 := by have := (nI_leI (a := 16) (by omega) (by omega)).mp c5; omega
        rw [hgev] at hz
        refine lv_iconst (v := 0) hx hb dX0_count_24 (by decide) ?_
        refine lv_istore_n (lv' := [(2, .int 0), (0, .ref (R 19)), (1, .ref (R 1))]) hx hb dX0_count_25 rfl hl (by decide) rfl (fun ls hl => ?_)
        refine lv_iconst (v := 0) hx hb dX0_count_26 (by decide) ?_
        refine lv_istore_n (lv' := [(3, .int 0), (2, .int 0), (0, .ref (R 19)), (1, .ref (R 1))]) hx hb dX0_count_27 rfl hl (by decide) rfl (fun ls hl => ?_)
        have K28 : ∀ (kn : Nat) (i : Nat) (y2 : Int32) (C_28 : Nat → Nat → Int32) (ls : Array Slot) (H : Heap) (locs : List Loc), ne - i < kn → (i ≤ ne ∧ rC2 C_28 (bwN fr to i) ∧ y2 = nI (cyN fr to i)) → va_P (dC, dI) vwCl (HW cI cJ cII cJJ R (I, A, B, C_28, T)) H → va_D Aa (HW cI cJ cII cJJ R (I, A, B, C_28, T)) → va_S Aa s.heap H locs → lv_has ls 6 [(0, .ref (R 19)), (1, .ref (R 1)), (2, .int y2), (3, .int (nI i))] → W p l e (ctR (17, 660)) s m #[.ref (R 19), .ref (R 1)] below meth c H locs 0 0 Q (F0 m 28 ls []) := by
          intro kn
          induction kn with
          | zero => intro i y2 C_28 ls H locs hmu; exact absurd hmu (Nat.not_lt_zero _)
          | succ kn ih28 =>
            intro i y2 C_28 ls H locs mu28 inv28 hP hD hS hl
            obtain ⟨hi, hC, hy2⟩ := inv28
            refine lv_iload_n hx hb dX0_count_28 rfl (lv_at hl 3 rfl) ?_
            refine lv_aload_n hx hb dX0_count_29 rfl (lv_at hl 1 rfl) ?_
            refine va_getN (D := (dC, dI)) (ci := 2) (v := .int (I 1)) (C := RX2) (T := TX2) (N := 5) hx hb hts hinX2 hown hK hP 1 rfl rfl 1 (by decide) (nwOK.f hN RX0 22 "CycleHouse$Graph" "edges" "I" "CycleHouse" (by decide +kernel)) (fun _ h9 => h9) rfl dX0_count_30 ?_
            refine lv_icmp_ge (tgt := 112) hx hb dX0_count_33 (by decide) (fun c33 => ?_) (fun c33 => ?_)
            · -- 33 taken
              rw [g5, nI_leI (by omega) (by omega)] at c33
              have hge : i = ne := by omega
              refine lv_iload_n hx hb dX0_count_112 rfl (lv_at hl 2 rfl) ?_
              refine hret 113 ls _ _ y2 (I, A, B, C_28, T) dX0_count_113 rfl ?_ hP hD hS
              try dsimp only
              exact ⟨by rw [hy2, hge], rfl, rfl, rfl, rfl⟩
            · -- 33 not
              rw [g5, nI_leI (by omega) (by omega)] at c33
              obtain ⟨⟨ga, ha⟩, ⟨gb, hb2⟩, -⟩ := g6 i (by omega)
              have icl : (nI i).toNatClampNeg = i := nI_clamp (by omega)
              refine lv_aload_n hx hb dX0_count_36 rfl (lv_at hl 1 rfl) ?_
              refine va_getN (D := (dC, dI)) (ci := 2) (v := .ref (R 2)) (C := RX2) (T := TX2) (N := 5) hx hb hts hinX2 hown hK hP 1 rfl rfl 2 (by decide) (nwOK.f hN RX0 28 "CycleHouse$Graph" "from" "[I" "CycleHouse" (by decide +kernel)) (fun _ h9 => h9) rfl dX0_count_37 ?_
              refine lv_iload_n hx hb dX0_count_40 rfl (lv_at hl 3 rfl) ?_
              have h41 : vp_in (nI i) 40 := vp_in_nI (by omega) (by omega)
              refine va_iald hx hb hK hP 2 0 rfl rfl h41 dX0_count_41 ?_
              refine lv_topi (fun x41 ex41 => ?_)
              have ex41 : x41 = A 2 (nI i).toNatClampNeg := ex41
              have ex41 : x41 = nI (fr i) := by rw [ex41, icl]; exact ga
              subst ex41
              refine lv_istore (lv' := [(4, .int (nI (fr i))), (0, .ref (R 19)), (1, .ref (R 1)), (2, .int y2), (3, .int (nI i))]) hx hb dX0_count_42 hl (by decide) rfl (fun ls hl => ?_)
              refine lv_aload_n hx hb dX0_count_44 rfl (lv_at hl 2 rfl) ?_
              refine va_getN (D := (dC, dI)) (ci := 2) (v := .ref (R 3)) (C := RX2) (T := TX2) (N := 5) hx hb hts hinX2 hown hK hP 1 rfl rfl 3 (by decide) (nwOK.f hN RX0 32 "CycleHouse$Graph" "to" "[I" "CycleHouse" (by decide +kernel)) (fun _ h9 => h9) rfl dX0_count_45 ?_
              refine lv_iload_n hx hb dX0_count_48 rfl (lv_at hl 4 rfl) ?_
              have h49 : vp_in (nI i) 40 := vp_in_nI (by omega) (by omega)
              refine va_iald hx hb hK hP 3 0 rfl rfl h49 dX0_count_49 ?_
              refine lv_topi (fun x49 ex49 => ?_)
              have ex49 : x49 = A 3 (nI i).toNatClampNeg := ex49
              have ex49 : x49 = nI (to i) := by rw [ex49, icl]; exact gb
              subst ex49
              refine lv_istore (lv' := [(5, .int (nI (to i))), (4, .int (nI (fr i))), (0, .ref (R 19)), (1, .ref (R 1)), (2, .int y2), (3, .int (nI i))]) hx hb dX0_count_50 hl (by decide) rfl (fun ls hl => ?_)
              refine lv_iload_n hx hb dX0_count_52 rfl (lv_at hl 4 rfl) ?_
              refine lv_aload_n hx hb dX0_count_53 rfl (lv_at hl 2 rfl) ?_
              refine va_get (D := (dC, dI)) (ci := 0) (v := .ref (R 22)) (C := RX0) (T := TX0) (N := 1) hx hb hts hinX0 hown hK hP 19 rfl rfl 0 (by decide) hf11 (fun _ h9 => h9) rfl dX0_count_54 ?_
              refine lv_iload hx hb dX0_count_57 (lv_at hl 1 rfl) ?_
              refine lv_iload hx hb dX0_count_59 (lv_at hl 0 rfl) ?_
              refine lv_iconst (v := 1) hx hb dX0_count_61 (by decide) ?_
              refine lv_iload hx hb dX0_count_62 (lv_at hl 1 rfl) ?_
              refine lv_ishl hx hb dX0_count_64 ?_
              refine lv_topi (fun x64 ex64 => ?_)
              have ex64 : x64 = nI (2 ^ fr i) := by rw [ex64]; exact nm_ishl (by omega)
              subst ex64
              refine lv_iconst (v := 1) hx hb dX0_count_65 (by decide) ?_
              refine ct_calli hD hS hA (va_runS (As := [.ref (R 22), .int (nI (fr i)), .int (nI (to i)), .int (nI (2 ^ fr i)), .int 1]) (rest := [.int y2]) F ((k_X0_paths15 l dC dI cI cJ cZ cII cJJ R I A B C_28 T (bwN fr to i) (fr i) (to i) (2 ^ fr i) hC (by omega) (by omega) (Nat.pow_lt_pow_right (by omega) (by omega))) _) (va_cwS 5 hts gX0_count_X0_paths rfl rfl rfl (by decide +kernel) ⟨(Nat.le_of_ble_eq_true rfl), (Nat.le_of_ble_eq_true rfl)⟩) (ct_preS hK hN hP hD) rfl rfl hl.1 rfl (lv_room (Nat.le_of_ble_eq_true rfl)) dX0_count_66 ⟨(Nat.le_of_ble_eq_true rfl), (Nat.le_of_ble_eq_true rfl)⟩) (fun r66 u66 H locs w66 hP hD hS => ?_)
              obtain ⟨w66, rfl⟩ := w66
              refine lv_iadd hx hb dX0_count_69 ?_
              refine lv_topi (fun x69 ex69 => ?_)
              have ex69 : x69 = nI (cyN fr to (i + 1)) := by rw [ex69, hy2, w66, cyN_s]; exact nI_add _ _
              subst ex69
              refine lv_istore_n (lv' := [(2, .int (nI (cyN fr to (i + 1)))), (5, .int (nI (to i))), (4, .int (nI (fr i))), (0, .ref (R 19)), (1, .ref (R 1)), (3, .int (nI i))]) hx hb dX0_count_70 rfl hl (by decide) rfl (fun ls hl => ?_)
              refine lv_aload_n hx hb dX0_count_71 rfl (lv_at hl 3 rfl) ?_
              refine va_get (D := (dC, dI)) (ci := 0) (v := .ref (R 22)) (C := RX0) (T := TX0) (N := 1) hx hb hts hinX0 hown hK hP 19 rfl rfl 0 (by decide) hf11 (fun _ h9 => h9) rfl dX0_count_72 ?_
              refine lv_iload hx hb dX0_count_75 (lv_at hl 2 rfl) ?_
              refine va_aldr hx hb hK hP 22 3 rfl rfl (vp_in_nI (by omega) (by decide)) dX0_count_77 ?_
              rw [go_ref (R := R) (b := 200) (by omega)]
              refine lv_iload hx hb dX0_count_78 (lv_at hl 1 rfl) ?_
              refine lv_dup2_11 hx hb dX0_count_80 rfl rfl ?_
              have h81 : vp_in (nI (to i)) 16 := vp_in_nI (by omega) (by omega)
              refine va_iald hx hb hK hP (39 + (fr i)) 0 (hw_C (by omega)) rfl h81 dX0_count_81 ?_
              refine lv_topi (fun x81 ex81 => ?_)
              have ex81 : x81 = C_28 ((fr i)) (nI (to i)).toNatClampNeg := ex81
              have ex81 : x81 = nI (bwN fr to i (fr i) (to i)) := by rw [ex81, nI_clamp (by omega)]; exact (hC _ _ (by omega) (by omega)).1
              subst ex81
              refine lv_iconst (v := 1) hx hb dX0_count_82 (by decide) ?_
              refine lv_iadd hx hb dX0_count_83 ?_
              refine lv_topi (fun x83 ex83 => ?_)
              have ex83 : x83 = nI (bwN fr to i (fr i) (to i) + 1) := by rw [ex83]; exact nI_1 _
              subst ex83
              have h84 : vp_in (nI (to i)) 16 := vp_in_nI (by omega) (by omega)
              refine va_iast hx hb hK hP hD hS (39 + (fr i)) 0 (hw_C (by omega)) rfl h84 dX0_count_84 (fun H locs hP hD hS => ?_)
              obtain ⟨C84, eC84⟩ : ∃ zz : Nat → Nat → Int32, zz = va_up C_28 ((fr i)) (upd (C_28 ((fr i))) (nI (to i)).toNatClampNeg (nI (bwN fr to i (fr i) (to i) + 1))) := ⟨_, rfl⟩
              have hP : va_P (dC, dI) vwCl (HW cI cJ cII cJJ R (I, A, B, C84, T)) H := by rw [eC84]; exact Eq.mp (congrArg (fun w => va_P (dC, dI) vwCl w H) (hw_Cset (by omega))) hP
              have hD : va_D Aa (HW cI cJ cII cJJ R (I, A, B, C84, T)) := by rw [eC84]; exact Eq.mp (congrArg (fun w => va_D Aa w) (hw_Cset (by omega))) hD
              refine lv_iload hx hb dX0_count_85 (lv_at hl 2 rfl) ?_
              refine lv_iload hx hb dX0_count_87 (lv_at hl 1 rfl) ?_
              refine lv_icmp_eq (tgt := 106) hx hb dX0_count_89 (by decide) (fun c89 => ?_) (fun c89 => ?_)
              · -- 89 taken
                have c89 : fr i = to i := (nI_eq (by omega) (by omega)).mp c89
                obtain ⟨x106, ex106⟩ : ∃ zz : Int32, zz = nI i + (1) := ⟨_, rfl⟩
                refine lv_iinc (v := x106) (lv' := [(3, .int x106), (2, .int (nI (cyN fr to (i + 1)))), (5, .int (nI (to i))), (4, .int (nI (fr i))), (0, .ref (R 19)), (1, .ref (R 1))]) hx hb dX0_count_106 hl (k := 5) rfl (by rw [ex106]; rfl) (by decide) rfl (fun ls hl => ?_)
                have ex106 : x106 = nI (i + 1) := by rw [ex106]; exact nI_1 i
                subst ex106
                refine lv_goto (tgt := 28) hx hb dX0_count_109 (by decide) ?_
                exact ih28 (i + 1) (nI (cyN fr to (i + 1))) C84 ls _ _ (by omega) ⟨by omega, by rw [eC84, nI_clamp (by omega)]; exact rC2_one (by omega) hC c89 (by omega), rfl⟩ hP hD hS (lv_sub hl [4, 5, 1, 0] rfl)
              · -- 89 not
                have c89 : ¬ fr i = to i := fun h => c89 (by rw [h])
                refine lv_aload_n hx hb dX0_count_92 rfl (lv_at hl 3 rfl) ?_
                refine va_get (D := (dC, dI)) (ci := 0) (v := .ref (R 22)) (C := RX0) (T := TX0) (N := 1) hx hb hts hinX0 hown hK hP 19 rfl rfl 0 (by decide) hf11 (fun _ h9 => h9) rfl dX0_count_93 ?_
                refine lv_iload hx hb dX0_count_96 (lv_at hl 1 rfl) ?_
                refine va_aldr hx hb hK hP 22 3 rfl rfl (vp_in_nI (by omega) (by decide)) dX0_count_98 ?_
                rw [go_ref (R := R) (b := 200) (by omega)]
                refine lv_iload hx hb dX0_count_99 (lv_at hl 2 rfl) ?_
                refine lv_dup2_11 hx hb dX0_count_101 rfl rfl ?_
                have h102 : vp_in (nI (fr i)) 16 := vp_in_nI (by omega) (by omega)
                refine va_iald hx hb hK hP (39 + (to i)) 0 (hw_C (by omega)) rfl h102 dX0_count_102 ?_
                refine lv_topi (fun x102 ex102 => ?_)
                have ex102 : x102 = C84 ((to i)) (nI (fr i)).toNatClampNeg := ex102
                have ex102 : x102 = nI (bwN fr to i (to i) (fr i)) := by rw [ex102, nI_clamp (by omega), eC84, up_ne (fun h => c89 h.symm)]; exact (hC _ _ (by omega) (by omega)).1
                subst ex102
                refine lv_iconst (v := 1) hx hb dX0_count_103 (by decide) ?_
                refine lv_iadd hx hb dX0_count_104 ?_
                refine lv_topi (fun x104 ex104 => ?_)
                have ex104 : x104 = nI (bwN fr to i (to i) (fr i) + 1) := by rw [ex104]; exact nI_1 _
                subst ex104
                have h105 : vp_in (nI (fr i)) 16 := vp_in_nI (by omega) (by omega)
                refine va_iast hx hb hK hP hD hS (39 + (to i)) 0 (hw_C (by omega)) rfl h105 dX0_count_105 (fun H locs hP hD hS => ?_)
                obtain ⟨C105, eC105⟩ : ∃ zz : Nat → Nat → Int32, zz = va_up C84 ((to i)) (upd (C84 ((to i))) (nI (fr i)).toNatClampNeg (nI (bwN fr to i (to i) (fr i) + 1))) := ⟨_, rfl⟩
                have hP : va_P (dC, dI) vwCl (HW cI cJ cII cJJ R (I, A, B, C105, T)) H := by rw [eC105]; exact Eq.mp (congrArg (fun w => va_P (dC, dI) vwCl w H) (hw_Cset (by omega))) hP
                have hD : va_D Aa (HW cI cJ cII cJJ R (I, A, B, C105, T)) := by rw [eC105]; exact Eq.mp (congrArg (fun w => va_D Aa w) (hw_Cset (by omega))) hD
                obtain ⟨x106, ex106⟩ : ∃ zz : Int32, zz = nI i + (1) := ⟨_, rfl⟩
                refine lv_iinc (v := x106) (lv' := [(3, .int x106), (2, .int (nI (cyN fr to (i + 1)))), (5, .int (nI (to i))), (4, .int (nI (fr i))), (0, .ref (R 19)), (1, .ref (R 1))]) hx hb dX0_count_106 hl (k := 5) rfl (by rw [ex106]; rfl) (by decide) rfl (fun ls hl => ?_)
                have ex106 : x106 = nI (i + 1) := by rw [ex106]; exact nI_1 i
                subst ex106
                refine lv_goto (tgt := 28) hx hb dX0_count_109 (by decide) ?_
                exact ih28 (i + 1) (nI (cyN fr to (i + 1))) C105 ls _ _ (by omega) ⟨by omega, by rw [eC105, nI_clamp (by omega)]; exact rC2_two (by omega) hC c89 (by omega) (by omega) (by rw [eC84, nI_clamp (by omega)]), rfl⟩ hP hD hS (lv_sub hl [4, 5, 1, 0] rfl)
        exact K28 _ 0 0 C_2 ls _ _ (Nat.lt_succ_self _) ⟨Nat.zero_le _, fun i j hi hj => ⟨by rw [hz i j (by omega) (by omega)]; rfl, Nat.two_pow_pos 31⟩, rfl⟩ hP hD hS (lv_sub hl [2, 3, 1, 0] rfl)
      · -- 5 not
        have hvl : v < 16 := Nat.lt_of_not_le (fun h => c5 (nI_le (a := 16) h (by omega)))
        refine lv_aload_n hx hb dX0_count_8 rfl (lv_at hl 0 rfl) ?_
        refine va_get (D := (dC, dI)) (ci := 0) (v := .ref (R 22)) (C := RX0) (T := TX0) (N := 1) hx hb hts hinX0 hown hK hP 19 rfl rfl 0 (by decide) hf11 (fun _ h9 => h9) rfl dX0_count_9 ?_
        refine lv_iload_n hx hb dX0_count_12 rfl (lv_at hl 2 rfl) ?_
        refine va_aldr hx hb hK hP 22 3 rfl rfl (vp_in_nI (by omega) (by decide)) dX0_count_13 ?_
        rw [go_ref (R := R) (b := 200) (by omega)]
        refine lv_iconst (v := 0) hx hb dX0_count_14 (by decide) ?_
        refine ct_callv hD hS hA (va_runS (As := [.ref (R (200 + v)), .int 0]) (rest := []) F ((k_fillC l dC dI cI cJ cZ cII cJJ R I A B C_2 T v hvl) _) (va_cwS 2 hts gX0_count_J7_fill_53178 rfl rfl rfl (by decide +kernel) ⟨(Nat.le_of_ble_eq_true rfl), (Nat.le_of_ble_eq_true rfl)⟩) (ct_preS hK hN hP hD) rfl rfl hl.1 rfl (lv_room (Nat.le_of_ble_eq_true rfl)) dX0_count_15 ⟨(Nat.le_of_ble_eq_true rfl), (Nat.le_of_ble_eq_true rfl)⟩) (fun u15 H locs w15 hP hD hS => ?_)
        obtain ⟨I15, A15, B15, C15, T15⟩ := u15
        have eI15 : I = I15 := (w15.1).symm
        subst eI15
        have eA15 : A = A15 := (w15.2.1).symm
        subst eA15
        have eB15 : B = B15 := (w15.2.2.1).symm
        subst eB15
        have eT15 : T = T15 := (w15.2.2.2.1).symm
        subst eT15
        obtain ⟨x18, ex18⟩ : ∃ zz : Int32, zz = nI v + (1) := ⟨_, rfl⟩
        refine lv_iinc (v := x18) (lv' := [(2, .int x18), (0, .ref (R 19)), (1, .ref (R 1))]) hx hb dX0_count_18 hl (k := 2) rfl (by rw [ex18]; rfl) (by decide) rfl (fun ls hl => ?_)
        have ex18 : x18 = nI (v + 1) := by rw [ex18]; exact nI_1 v
        subst ex18
        refine lv_goto (tgt := 2) hx hb dX0_count_21 (by decide) ?_
        exact ih2 (v + 1) C15 ls _ _ (by omega) ⟨by omega, fun i j hi hj => by
        by_cases e1 : i = v
        · rw [e1]; exact w15.2.2.2.2.2 j hj
        · rw [show C15 i = C_2 i from w15.2.2.2.2.1 i e1]; exact hz i j (by omega) hj⟩ hP hD hS (lv_sub hl [1, 2, 0] rfl)
  exact K2 _ 0 C ls _ _ (Nat.lt_succ_self _) ⟨Nat.zero_le _, fun i j h => absurd h (Nat.not_lt_zero _)⟩ hP hD hS (lv_sub hl [1, 2, 0] rfl)
set_option maxHeartbeats 4000000 in
set_option maxRecDepth 100000 in
theorem k_X7_cycles (l : Launch) (dC : Nat → ClassId) (dI : Nat → Nat → Nat) (cI cJ cZ cII cJJ : ClassId) (R : Nat → Nat) (I : Nat → Int32) (A : Nat → Nat → Int32) (B : Nat → Nat → Int64) (C : Nat → Nat → Int32) (T : Nat → Nat → Int64) (nv ne : Nat) (fr to wt : Nat → Nat) (g : gH nv ne fr to wt I A) : ctI l (dC, dI) (tyL cI cJ cZ cII cJJ) (HW cI cJ cII cJJ R) yX7_cycles wsX7_cycles (18, 690) [.ref (R 0)] (I, A, B, C, T) (fun r u => r = nI (cyN fr to ne) ∧ u.1 = I ∧ u.2.1 = A ∧ u.2.2.1 = B ∧ u.2.2.2.2 = T) := by
  refine ctI_intro (cc := cX7_cycles) (maxL := 1) (by decide) rfl (Nat.le_of_ble_eq_true rfl) ?_
  intro p e s m below meth c ls Aa Q F hK hN hP hD hS hA hl hret
  have hx := F.1
  have hb := F.2.1
  have hown : s.vm.findClass RX7 = some m.cls := F.2.2.2.1
  have hts := F.2.2.2.2
  have hinX0 : ∀ w ∈ wsX00, w ∈ wsX7_cycles := by decide +kernel
  have hinX2 : ∀ w ∈ wsX20, w ∈ wsX7_cycles := by decide +kernel
  have hinX7 : ∀ w ∈ wsX70, w ∈ wsX7_cycles := by decide +kernel
  have hf54 := hts (.fieldLink RX7 54 "CycleHouse" "cycleCount" "LCycleHouse$CycleCount;") (by decide +kernel)
  have hf10 := hts (.fieldLink RX7 10 "CycleHouse" "graph" "LCycleHouse$Graph;") (by decide +kernel)
  have hl : lv_has ls 1 [(0, .ref (R 0))] := hl
  refine lv_aload_n hx hb dX7_cycles_0 rfl (lv_at hl 0 rfl) ?_
  refine va_get (D := (dC, dI)) (ci := 7) (v := .ref (R 19)) (C := RX7) (T := TX7) (N := 8) hx hb hts hinX7 hown hK hP 0 rfl rfl 6 (by decide) hf54 (fun _ h9 => h9) rfl dX7_cycles_1 ?_
  refine lv_aload_n hx hb dX7_cycles_4 rfl (lv_at hl 0 rfl) ?_
  refine va_get (D := (dC, dI)) (ci := 7) (v := .ref (R 1)) (C := RX7) (T := TX7) (N := 8) hx hb hts hinX7 hown hK hP 0 rfl rfl 0 (by decide) hf10 (fun _ h9 => h9) rfl dX7_cycles_5 ?_
  refine ct_calli hD hS hA (va_runV (As := [.ref (R 1)]) (rest := []) F ((k_X0_count l dC dI cI cJ cZ cII cJJ R I A B C T nv ne fr to wt g) _) (cwV 1 hts gX7_cycles_X0_count rfl rfl rfl (by decide +kernel) ⟨(Nat.le_of_ble_eq_true rfl), (Nat.le_of_ble_eq_true rfl)⟩) (ct_preV 19 0 hK hN hP hD rfl rfl) rfl rfl hl.1 rfl (lv_room (Nat.le_of_ble_eq_true rfl)) dX7_cycles_8 ⟨(Nat.le_of_ble_eq_true rfl), (Nat.le_of_ble_eq_true rfl)⟩) (fun r8 u8 H locs w8 hP hD hS => ?_)
  obtain ⟨I8, A8, B8, C8, T8⟩ := u8
  refine hret 11 ls _ _ r8 (I8, A8, B8, C8, T8) dX7_cycles_11 rfl ?_ hP hD hS
  try dsimp only
  exact w8
