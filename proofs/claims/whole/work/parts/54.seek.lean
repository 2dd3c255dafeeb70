set_option maxHeartbeats 4000000 in
set_option maxRecDepth 100000 in
theorem k_X6_seek (l : Launch) (dC : Nat → ClassId) (dI : Nat → Nat → Nat) (cI cJ cZ cII cJJ : ClassId) (R : Nat → Nat) (I : Nat → Int32) (A : Nat → Nat → Int32) (B : Nat → Nat → Int64) (C : Nat → Nat → Int32) (T : Nat → Nat → Int64) (nv ne : Nat) (fr to wt : Nat → Nat) (a x2 : Nat) (xo : Int32) (g : gH nv ne fr to wt I A) (ha : a < nv) (hxo : ∀ e, e < ne → (nI e = xo ↔ e = x2)) : ctV l (dC, dI) (tyL cI cJ cZ cII cJJ) (HW cI cJ cII cJJ R) yX6_seek wsX6_seek (2, 60) [.ref (R 10), .ref (R 1), .int (nI a), .int xo] (I, A, B, C, T) (fun u => rWy nv (sek fr to wt x2 ne nv a) u.2.2.1 ∧ fW I A B C T u) := by
  refine ctV_intro (cc := cX6_seek) (maxL := 6) (by decide) rfl (Nat.le_of_ble_eq_true rfl) ?_
  intro p e s m below meth c ls Aa Q F hK hN hP hD hS hA hl hret
  have hx := F.1
  have hb := F.2.1
  have hown : s.vm.findClass RX6 = some m.cls := F.2.2.2.1
  have hts := F.2.2.2.2
  have hinX2 : ∀ w ∈ wsX20, w ∈ wsX6_seek := by decide +kernel
  have hinX6 : ∀ w ∈ wsX60, w ∈ wsX6_seek := by decide +kernel
  have hf9 := hts (.fieldLink RX6 9 "CycleHouse$Ways" "length" "[J") (by decide +kernel)
  have hf15 := hts (.fieldLink RX6 15 "CycleHouse$Ways" "way" "[J") (by decide +kernel)
  have hl : lv_has ls 6 [(0, .ref (R 10)), (1, .ref (R 1)), (2, .int (nI a)), (3, .int xo)] := hl
  obtain ⟨g1, g2, g3, g4, g5, g6⟩ := id g
  refine lv_iconst (v := 0) hx hb dX6_seek_0 (by decide) ?_
  refine lv_istore (lv' := [(4, .int 0), (0, .ref (R 10)), (1, .ref (R 1)), (2, .int (nI a)), (3, .int xo)]) hx hb dX6_seek_1 hl (by decide) rfl (fun ls hl => ?_)
  have K3 : ∀ (kn : Nat) (i : Nat) (B_3 : Nat → Nat → Int64) (ls : Array Slot) (H : Heap) (locs : List Loc), nv - i < kn → (i ≤ nv ∧ (∀ v, v < i → B_3 11 v = lN (2 ^ 60) ∧ B_3 12 v = 0) ∧ ∀ k, k ≠ 11 → k ≠ 12 → B_3 k = B k) → va_P (dC, dI) vwCl (HW cI cJ cII cJJ R (I, A, B_3, C, T)) H → va_D Aa (HW cI cJ cII cJJ R (I, A, B_3, C, T)) → va_S Aa s.heap H locs → lv_has ls 6 [(0, .ref (R 10)), (1, .ref (R 1)), (2, .int (nI a)), (3, .int xo), (4, .int (nI i))] → W p l e (ctR (2, 60)) s m #[.ref (R 10), .ref (R 1), .int (nI a), .int xo] below meth c H locs 0 0 Q (F0 m 3 ls []) := by
    intro kn
    induction kn with
    | zero => intro i B_3 ls H locs hmu; exact absurd hmu (Nat.not_lt_zero _)
    | succ kn ih3 =>
      intro i B_3 ls H locs mu3 inv3 hP hD hS hl
      obtain ⟨hi, b1, b2⟩ := inv3
      refine lv_iload hx hb dX6_seek_3 (lv_at hl 4 rfl) ?_
      refine lv_aload_n hx hb dX6_seek_5 rfl (lv_at hl 1 rfl) ?_
      refine va_getN (D := (dC, dI)) (ci := 2) (v := .int (I 0)) (C := RX2) (T := TX2) (N := 5) hx hb hts hinX2 hown hK hP 1 rfl rfl 0 (by decide) (nwOK.f hN RX6 18 "CycleHouse$Graph" "vertices" "I" "CycleHouse" (by decide +kernel)) (fun _ h9 => h9) rfl dX6_seek_6 ?_
      refine lv_icmp_ge (tgt := 36) hx hb dX6_seek_9 (by decide) (fun c9 => ?_) (fun c9 => ?_)
      · -- 9 taken
        rw [g4, nI_leI (by omega) (by omega)] at c9
        have hge : i = nv := by omega
        rw [hge] at b1
        refine lv_aload_n hx hb dX6_seek_36 rfl (lv_at hl 0 rfl) ?_
        refine va_get (D := (dC, dI)) (ci := 6) (v := .ref (R 11)) (C := RX6) (T := TX6) (N := 2) hx hb hts hinX6 hown hK hP 10 rfl rfl 0 (by decide) hf9 (fun _ h9 => h9) rfl dX6_seek_37 ?_
        refine lv_iload_n hx hb dX6_seek_40 rfl (lv_at hl 2 rfl) ?_
        refine lv_lconst (v := 0) hx hb dX6_seek_41 (by decide) ?_
        have h42 : vp_in (nI a) 16 := vp_in_nI (by omega) (by omega)
        refine va_last hx hb hK hP hD hS 11 1 rfl rfl h42 dX6_seek_42 (fun H locs hP hD hS => ?_)
        obtain ⟨B42, eB42⟩ : ∃ zz : Nat → Nat → Int64, zz = va_up B_3 11 (vp_updL (B_3 11) (nI a).toNatClampNeg 0) := ⟨_, rfl⟩
        have hP : va_P (dC, dI) vwCl (HW cI cJ cII cJJ R (I, A, B42, C, T)) H := by rw [eB42]; exact hP
        have hD : va_D Aa (HW cI cJ cII cJJ R (I, A, B42, C, T)) := by rw [eB42]; exact hD
        have f1 : B42 11 = vp_updL (B_3 11) a 0 := by rw [eB42, up_self, nI_clamp (show a < 2 ^ 31 by omega)]
        have f2 : B42 12 = B_3 12 := by rw [eB42, up_ne (by decide)]
        refine lv_iconst (v := 1) hx hb dX6_seek_43 (by decide) ?_
        refine lv_istore (lv' := [(4, .int 1), (0, .ref (R 10)), (1, .ref (R 1)), (2, .int (nI a)), (3, .int xo)]) hx hb dX6_seek_44 hl (by decide) rfl (fun ls hl => ?_)
        refine lv_iconst (v := 1) hx hb dX6_seek_46 (by decide) ?_
        refine lv_istore (lv' := [(5, .int 1), (4, .int 1), (0, .ref (R 10)), (1, .ref (R 1)), (2, .int (nI a)), (3, .int xo)]) hx hb dX6_seek_47 hl (by decide) rfl (fun ls hl => ?_)
        have K49 : ∀ (kn : Nat) (r : Nat) (p2 : WSt) (y : Int32) (B_49 : Nat → Nat → Int64) (ls : Array Slot) (H : Heap) (locs : List Loc), nv - r < kn → (1 ≤ r ∧ r ≤ nv ∧ rWy nv p2 B_49 ∧ (∀ k, k ≠ 11 → k ≠ 12 → B_49 k = B k) ∧ ((y = 1 ∧ sek fr to wt x2 ne nv a = skR fr to wt x2 ne (nv - r) p2) ∨ (y = 0 ∧ sek fr to wt x2 ne nv a = p2))) → va_P (dC, dI) vwCl (HW cI cJ cII cJJ R (I, A, B_49, C, T)) H → va_D Aa (HW cI cJ cII cJJ R (I, A, B_49, C, T)) → va_S Aa s.heap H locs → lv_has ls 6 [(0, .ref (R 10)), (1, .ref (R 1)), (2, .int (nI a)), (3, .int xo), (4, .int y), (5, .int (nI r))] → W p l e (ctR (2, 60)) s m #[.ref (R 10), .ref (R 1), .int (nI a), .int xo] below meth c H locs 0 0 Q (F0 m 49 ls []) := by
          intro kn
          induction kn with
          | zero => intro r p2 y B_49 ls H locs hmu; exact absurd hmu (Nat.not_lt_zero _)
          | succ kn ih49 =>
            intro r p2 y B_49 ls H locs mu49 inv49 hP hD hS hl
            obtain ⟨hr1, hr2, hw, hB, hres⟩ := inv49
            refine lv_iload hx hb dX6_seek_49 (lv_at hl 5 rfl) ?_
            refine lv_aload_n hx hb dX6_seek_51 rfl (lv_at hl 1 rfl) ?_
            refine va_getN (D := (dC, dI)) (ci := 2) (v := .int (I 0)) (C := RX2) (T := TX2) (N := 5) hx hb hts hinX2 hown hK hP 1 rfl rfl 0 (by decide) (nwOK.f hN RX6 18 "CycleHouse$Graph" "vertices" "I" "CycleHouse" (by decide +kernel)) (fun _ h9 => h9) rfl dX6_seek_52 ?_
            refine lv_icmp_ge (tgt := 77) hx hb dX6_seek_55 (by decide) (fun c55 => ?_) (fun c55 => ?_)
            · -- 55 taken
              rw [g4, nI_leI (by omega) (by omega)] at c55
              have hfin : sek fr to wt x2 ne nv a = p2 := hres.elim (fun h => by rw [h.2, show nv - r = 0 by omega]; rfl) (fun h => h.2)
              refine hret 77 ls _ _ (I, A, B_49, C, T) dX6_seek_77 ?_ hP hD hS
              try dsimp only
              exact ⟨by rw [hfin]; exact hw, fW.of rfl rfl hB rfl rfl⟩
            · -- 55 not
              rw [g4, nI_leI (by omega) (by omega)] at c55
              refine lv_iload hx hb dX6_seek_58 (lv_at hl 4 rfl) ?_
              refine lv_if_eq (tgt := 77) hx hb dX6_seek_60 (by decide) (fun c60 => ?_) (fun c60 => ?_)
              · -- 60 taken
                have hfin : sek fr to wt x2 ne nv a = p2 := hres.elim (fun h => by rw [h.1] at c60; exact absurd c60 (by decide)) (fun h => h.2)
                refine hret 77 ls _ _ (I, A, B_49, C, T) dX6_seek_77 ?_ hP hD hS
                try dsimp only
                exact ⟨by rw [hfin]; exact hw, fW.of rfl rfl hB rfl rfl⟩
              · -- 60 not
                have hres1 : sek fr to wt x2 ne nv a = skR fr to wt x2 ne (nv - r) p2 := hres.elim (fun h => h.2) (fun h => absurd h.1 c60)
                refine lv_aload_n hx hb dX6_seek_63 rfl (lv_at hl 0 rfl) ?_
                refine lv_aload_n hx hb dX6_seek_64 rfl (lv_at hl 1 rfl) ?_
                refine lv_iload_n hx hb dX6_seek_65 rfl (lv_at hl 3 rfl) ?_
                refine ct_calli hD hS hA (va_runV (As := [.ref (R 1), .int xo]) (rest := []) F ((k_X6_shortenAll l dC dI cI cJ cZ cII cJJ R I A B_49 C T nv ne fr to wt p2 x2 xo g hw hxo) _) (cwV 2 hts gX6_seek_X6_shortenAll rfl rfl rfl (by decide +kernel) ⟨(Nat.le_of_ble_eq_true rfl), (Nat.le_of_ble_eq_true rfl)⟩) (ct_preV 10 6 hK hN hP hD rfl rfl) rfl rfl hl.1 rfl (lv_room (Nat.le_of_ble_eq_true rfl)) dX6_seek_66 ⟨(Nat.le_of_ble_eq_true rfl), (Nat.le_of_ble_eq_true rfl)⟩) (fun r66 u66 H locs w66 hP hD hS => ?_)
                obtain ⟨I66, A66, B66, C66, T66⟩ := u66
                have eI66 : I = I66 := w66.2.2.1.symm
                subst eI66
                have eA66 : A = A66 := w66.2.2.2.1.symm
                subst eA66
                have eC66 : C = C66 := w66.2.2.2.2.2.1.symm
                subst eC66
                have eT66 : T = T66 := w66.2.2.2.2.2.2.symm
                subst eT66
                refine lv_istore (lv' := [(4, .int r66), (0, .ref (R 10)), (1, .ref (R 1)), (2, .int (nI a)), (3, .int xo), (5, .int (nI r))]) hx hb dX6_seek_69 hl (by decide) rfl (fun ls hl => ?_)
                obtain ⟨x71, ex71⟩ : ∃ zz : Int32, zz = nI r + (1) := ⟨_, rfl⟩
                refine lv_iinc (v := x71) (lv' := [(5, .int x71), (4, .int r66), (0, .ref (R 10)), (1, .ref (R 1)), (2, .int (nI a)), (3, .int xo)]) hx hb dX6_seek_71 hl (k := 5) rfl (by rw [ex71]; rfl) (by decide) rfl (fun ls hl => ?_)
                have ex71 : x71 = nI (r + 1) := by rw [ex71]; exact nI_1 r
                subst ex71
                refine lv_goto (tgt := 49) hx hb dX6_seek_74 (by decide) ?_
                exact ih49 (r + 1) ((shA fr to wt x2 ne p2).1) r66 B66 ls _ _ (by omega) ⟨by omega, by omega, w66.2.1, fun k h1 h2 => (w66.2.2.2.2.1 k h1 h2).trans (hB k h1 h2), by rw [w66.1, hres1, show nv - r = (nv - (r + 1)) + 1 by omega, skR]; split; exact Or.inl ⟨rfl, rfl⟩; exact Or.inr ⟨rfl, rfl⟩⟩ hP hD hS (lv_sub hl [2, 3, 4, 5, 1, 0] rfl)
        exact K49 _ 1 (sk0 a) 1 B42 ls _ _ (Nat.lt_succ_self _) ⟨Nat.le_refl 1, g1, fun v hv => by
          show B42 11 v = lN (va_up (fun _ => 2 ^ 60) a 0 v) ∧ va_up (fun _ => 2 ^ 60) a 0 v ≤ 2 ^ 60 ∧ B42 12 v = lN 0
          rw [f1, f2]
          by_cases e1 : v = a
          · subst e1; rw [pk_uLs, up_self]; exact ⟨rfl, Nat.zero_le _, (b1 v hv).2⟩
          · rw [pk_uLn e1, up_ne e1]; exact ⟨(b1 v hv).1, Nat.le_refl _, (b1 v hv).2⟩, fun k h1 h2 => by rw [eB42, up_ne h1]; exact b2 k h1 h2, Or.inl ⟨rfl, rfl⟩⟩ hP hD hS (lv_sub hl [2, 3, 4, 5, 1, 0] rfl)
      · -- 9 not
        rw [g4, nI_leI (by omega) (by omega)] at c9
        have icl : (nI i).toNatClampNeg = i := nI_clamp (by omega)
        have iin : vp_in (nI i) 16 := vp_in_nI (by omega) (by omega)
        refine lv_aload_n hx hb dX6_seek_12 rfl (lv_at hl 0 rfl) ?_
        refine va_get (D := (dC, dI)) (ci := 6) (v := .ref (R 11)) (C := RX6) (T := TX6) (N := 2) hx hb hts hinX6 hown hK hP 10 rfl rfl 0 (by decide) hf9 (fun _ h9 => h9) rfl dX6_seek_13 ?_
        refine lv_iload hx hb dX6_seek_16 (lv_at hl 4 rfl) ?_
        refine lv_ldc2 (v := 1152921504606846976) hx hb hown (hts (.constantLong RX6 24 1152921504606846976) (by decide +kernel)) dX6_seek_18 ?_
        rw [show (1152921504606846976 : Int64) = lN (2 ^ 60) from rfl]
        have h21 : vp_in (nI i) 16 := iin
        refine va_last hx hb hK hP hD hS 11 1 rfl rfl h21 dX6_seek_21 (fun H locs hP hD hS => ?_)
        obtain ⟨B21, eB21⟩ : ∃ zz : Nat → Nat → Int64, zz = va_up B_3 11 (vp_updL (B_3 11) (nI i).toNatClampNeg (lN (2 ^ 60))) := ⟨_, rfl⟩
        have hP : va_P (dC, dI) vwCl (HW cI cJ cII cJJ R (I, A, B21, C, T)) H := by rw [eB21]; exact hP
        have hD : va_D Aa (HW cI cJ cII cJJ R (I, A, B21, C, T)) := by rw [eB21]; exact hD
        refine lv_aload_n hx hb dX6_seek_22 rfl (lv_at hl 0 rfl) ?_
        refine va_get (D := (dC, dI)) (ci := 6) (v := .ref (R 12)) (C := RX6) (T := TX6) (N := 2) hx hb hts hinX6 hown hK hP 10 rfl rfl 1 (by decide) hf15 (fun _ h9 => h9) rfl dX6_seek_23 ?_
        refine lv_iload hx hb dX6_seek_26 (lv_at hl 4 rfl) ?_
        refine lv_lconst (v := 0) hx hb dX6_seek_28 (by decide) ?_
        have h29 : vp_in (nI i) 16 := iin
        refine va_last hx hb hK hP hD hS 12 1 rfl rfl h29 dX6_seek_29 (fun H locs hP hD hS => ?_)
        obtain ⟨B29, eB29⟩ : ∃ zz : Nat → Nat → Int64, zz = va_up B21 12 (vp_updL (B21 12) (nI i).toNatClampNeg 0) := ⟨_, rfl⟩
        have hP : va_P (dC, dI) vwCl (HW cI cJ cII cJJ R (I, A, B29, C, T)) H := by rw [eB29]; exact hP
        have hD : va_D Aa (HW cI cJ cII cJJ R (I, A, B29, C, T)) := by rw [eB29]; exact hD
        obtain ⟨x30, ex30⟩ : ∃ zz : Int32, zz = nI i + (1) := ⟨_, rfl⟩
        refine lv_iinc (v := x30) (lv' := [(4, .int x30), (0, .ref (R 10)), (1, .ref (R 1)), (2, .int (nI a)), (3, .int xo)]) hx hb dX6_seek_30 hl (k := 4) rfl (by rw [ex30]; rfl) (by decide) rfl (fun ls hl => ?_)
        have ex30 : x30 = nI (i + 1) := by rw [ex30]; exact nI_1 i
        subst ex30
        refine lv_goto (tgt := 3) hx hb dX6_seek_33 (by decide) ?_
        exact ih3 (i + 1) B29 ls _ _ (by omega) ⟨by omega, fun v hv => by
            rw [eB29, up_ne (by decide), up_self, eB21, up_self, up_ne (by decide), icl]
            by_cases e1 : v = i
            · subst e1; rw [pk_uLs, pk_uLs]; exact ⟨rfl, rfl⟩
            · rw [pk_uLn e1, pk_uLn e1]; exact b1 v (by omega), fun k h1 h2 => by rw [eB29, up_ne h2, eB21, up_ne h1]; exact b2 k h1 h2⟩ hP hD hS (lv_sub hl [1, 2, 3, 4, 0] rfl)
  exact K3 _ 0 B ls _ _ (Nat.lt_succ_self _) ⟨Nat.zero_le _, fun v h => absurd h (by omega), fun _ _ _ => rfl⟩ hP hD hS (lv_sub hl [1, 2, 3, 4, 0] rfl)
set_option maxHeartbeats 4000000 in
set_option maxRecDepth 100000 in
theorem k_X6_reaches (l : Launch) (dC : Nat → ClassId) (dI : Nat → Nat → Nat) (cI cJ cZ cII cJJ : ClassId) (R : Nat → Nat) (I : Nat → Int32) (A : Nat → Nat → Int32) (B : Nat → Nat → Int64) (C : Nat → Nat → Int32) (T : Nat → Nat → Int64) (N : Nat) (p2 : WSt) (v : Nat) (hN : N ≤ 16) (hw : rWy N p2 B) (hv : v < N) : ctI l (dC, dI) (tyL cI cJ cZ cII cJJ) (HW cI cJ cII cJJ R) yX6_reaches wsX6_reaches (0, 0) [.ref (R 10), .int (nI v)] (I, A, B, C, T) (fun r u => r = (if p2.1 v < 2 ^ 60 then 1 else 0) ∧ u = (I, A, B, C, T)) := by
  refine ctI_intro (cc := cX6_reaches) (maxL := 2) (by decide) rfl (Nat.le_of_ble_eq_true rfl) ?_
  intro p e s m below meth c ls Aa Q F hK hN hP hD hS hA hl hret
  have hx := F.1
  have hb := F.2.1
  have hown : s.vm.findClass RX6 = some m.cls := F.2.2.2.1
  have hts := F.2.2.2.2
  have hinX6 : ∀ w ∈ wsX60, w ∈ wsX6_reaches := by decide +kernel
  have hf9 := hts (.fieldLink RX6 9 "CycleHouse$Ways" "length" "[J") (by decide +kernel)
  have hl : lv_has ls 2 [(0, .ref (R 10)), (1, .int (nI v))] := hl
  have l1 := (hw v hv).2.1
  refine lv_aload_n hx hb dX6_reaches_0 rfl (lv_at hl 0 rfl) ?_
  refine va_get (D := (dC, dI)) (ci := 6) (v := .ref (R 11)) (C := RX6) (T := TX6) (N := 2) hx hb hts hinX6 hown hK hP 10 rfl rfl 0 (by decide) hf9 (fun _ h9 => h9) rfl dX6_reaches_1 ?_
  refine lv_iload_n hx hb dX6_reaches_4 rfl (lv_at hl 1 rfl) ?_
  have h5 : vp_in (nI v) 16 := vp_in_nI (by omega) (by omega)
  refine va_lald hx hb hK hP 11 1 rfl rfl h5 dX6_reaches_5 ?_
  refine lv_topl (fun x5 ex5 => ?_)
  have ex5 : x5 = B 11 (nI v).toNatClampNeg := ex5
  have ex5 : x5 = lN (p2.1 v) := by rw [ex5, nI_clamp (by omega)]; exact (hw v hv).1
  subst ex5
  refine lv_ldc2 (v := 1152921504606846976) hx hb hown (hts (.constantLong RX6 24 1152921504606846976) (by decide +kernel)) dX6_reaches_6 ?_
  rw [show (1152921504606846976 : Int64) = lN (2 ^ 60) from rfl]
  refine W.lcmp hx hb dX6_reaches_9 ?_
  refine lv_if_ge (tgt := 17) hx hb dX6_reaches_10 (by decide) (fun c10 => ?_) (fun c10 => ?_)
  · -- 10 taken
    rw [lg_cmp_ge] at c10
    rw [pk_lLE (by decide) (by omega)] at c10
    refine lv_iconst (v := 0) hx hb dX6_reaches_17 (by decide) ?_
    refine hret 18 ls _ _ 0 (I, A, B, C, T) dX6_reaches_18 rfl ?_ hP hD hS
    try dsimp only
    exact ⟨by rw [if_neg (by omega)], rfl⟩
  · -- 10 not
    rw [lg_cmp_ge] at c10
    rw [pk_lLE (by decide) (by omega)] at c10
    refine lv_iconst (v := 1) hx hb dX6_reaches_13 (by decide) ?_
    refine lv_goto (tgt := 18) hx hb dX6_reaches_14 (by decide) ?_
    refine hret 18 ls _ _ 1 (I, A, B, C, T) dX6_reaches_18 rfl ?_ hP hD hS
    try dsimp only
    exact ⟨by rw [if_pos (by omega)], rfl⟩
