set_option maxHeartbeats 4000000 in
set_option maxRecDepth 100000 in
theorem k_X8_forests (l : Launch) (dC : Nat → ClassId) (dI : Nat → Nat → Nat) (cI cJ cZ cII cJJ : ClassId) (R : Nat → Nat) (I : Nat → Int32) (A : Nat → Nat → Int32) (B : Nat → Nat → Int64) (nv ne : Nat) (fr to wt : Nat → Nat) (z : Nat) (g : gM nv ne fr to wt I A) (hz : z < 2 ^ 64) (hC : z < 2 ^ ne → (jRun fr to z ne).2.2.1 = 0 → bC (plc fr to ne (jRun fr to z ne) nv).1 (lapM fr to ne nv (jRun fr to z ne) ne)) : ctL l (dC, dI) (tyL cI cJ cZ cII cJJ) (MW cI cJ cZ R) yX8_forests wsX8_forests (3, 90) [.ref (R 0), .long (lN z)] (I, A, B) (fun r u => (z < 2 ^ ne → u.1 0 = 0 ∧ fP I A B u ∧ r = (if (jRun fr to z ne).2.2.1 = 0 then iL (bs (plc fr to ne (jRun fr to z ne) nv).1 (lapM fr to ne nv (jRun fr to z ne) ne) (plc fr to ne (jRun fr to z ne) nv).1).2 else 0)) ∧ (¬ z < 2 ^ ne → u.1 0 = 1 ∧ fP I A B u)) := by
  refine ctL_intro (cc := cX8_forests) (maxL := 7) (by decide) rfl (Nat.le_of_ble_eq_true rfl) ?_
  intro p e s m below meth c ls Aa Q F hK hN hP hD hS hA hl hret
  have hx := F.1
  have hb := F.2.1
  have hown : s.vm.findClass RX8 = some m.cls := F.2.2.2.1
  have hts := F.2.2.2.2
  have hinX8 : ∀ w ∈ wsX80, w ∈ wsX8_forests := by decide +kernel
  have hf7 := hts (.fieldLink RX8 7 "CycleHouseModel" "n" "I") (by decide +kernel)
  have hf51 := hts (.fieldLink RX8 51 "CycleHouseModel" "place" "[I") (by decide +kernel)
  have hf27 := hts (.fieldLink RX8 27 "CycleHouseModel" "group" "[I") (by decide +kernel)
  have hf48 := hts (.fieldLink RX8 48 "CycleHouseModel" "matrix" "[J") (by decide +kernel)
  have hf61 := hts (.fieldLink RX8 61 "CycleHouseModel" "m" "I") (by decide +kernel)
  have hf13 := hts (.fieldLink RX8 13 "CycleHouseModel" "from" "[I") (by decide +kernel)
  have hf17 := hts (.fieldLink RX8 17 "CycleHouseModel" "to" "[I") (by decide +kernel)
  have hl : lv_has ls 7 [(0, .ref (R 0)), (1, .long (lN z))] := hl
  refine lv_aload_n hx hb dX8_forests_0 rfl (lv_at hl 0 rfl) ?_
  refine lv_aload_n hx hb dX8_forests_1 rfl (lv_at hl 0 rfl) ?_
  refine lv_lload_n hx hb dX8_forests_2 rfl (lv_at hl 1 rfl) ?_
  have K14 : ∀ (o : Int32) (ls : Array Slot) (H : Heap) (locs : List Loc), (o = (if z < 2 ^ ne then 0 else 1)) → va_P (dC, dI) vwCl (MW cI cJ cZ R (I, A, B)) H → va_D Aa (MW cI cJ cZ R (I, A, B)) → va_S Aa s.heap H locs → lv_has ls 7 [(0, .ref (R 0)), (1, .long (lN z))] → W p l e (ctR (3, 90)) s m #[.ref (R 0), .long (lN z)] below meth c H locs 0 0 Q (F0 m 14 ls [.int o, .ref (R 0)]) := by
    intro o ls H locs inv14 hP hD hS hl
    refine lv_iconst (v := 0) hx hb dX8_forests_14 (by decide) ?_
    refine ct_calli hD hS hA (va_runV (As := [.int o, .int 0]) (rest := []) F ((k_X8_throwing l dC dI cI cJ cZ cII cJJ R I A B o 0) _) (cwV 2 hts gX8_forests_X8_throwing rfl rfl rfl (by decide +kernel) ⟨(Nat.le_of_ble_eq_true rfl), (Nat.le_of_ble_eq_true rfl)⟩) (ct_preV 0 8 hK hN hP hD rfl rfl) rfl rfl hl.1 rfl (lv_room (Nat.le_of_ble_eq_true rfl)) dX8_forests_15 ⟨(Nat.le_of_ble_eq_true rfl), (Nat.le_of_ble_eq_true rfl)⟩) (fun r15 u15 H locs w15 hP hD hS => ?_)
    obtain ⟨w15, hu15⟩ := w15
    obtain ⟨I15, A15, B15⟩ := u15
    have eI15 := congrArg (fun z => z.1) hu15
    dsimp only at eI15
    have eA15 : A = A15 := (congrArg (fun z => z.2.1) hu15).symm
    subst eA15
    have eB15 : B = B15 := (congrArg (fun z => z.2.2) hu15).symm
    subst eB15
    clear hu15
    refine lv_if_eq (tgt := 23) hx hb dX8_forests_18 (by decide) (fun c18 => ?_) (fun c18 => ?_)
    · -- 18 taken
      rw [w15, inv14] at c18
      have hv : z < 2 ^ ne := Classical.byContradiction (fun h => by rw [if_neg h] at c18; exact absurd c18 (by decide))
      have hz2 : z < 2 ^ 62 := pw40 hv g.2.2.1
      have eT : I15 = va_up I 0 0 := by rw [eI15, inv14, if_pos hv]; rfl
      have hfT : fP I A B (I15, A, B) := fP.rf0 eT
      have gT := g.fp hfT
      have e0 : I15 0 = 0 := by rw [eT]; exact up_self
      refine lv_aload_n hx hb dX8_forests_23 rfl (lv_at hl 0 rfl) ?_
      refine lv_lload_n hx hb dX8_forests_24 rfl (lv_at hl 1 rfl) ?_
      refine ct_calli hD hS hA (va_runV (As := [.long (lN z)]) (rest := []) F ((k_X8_beginsWith l dC dI cI cJ cZ cII cJJ R I15 A B nv ne fr to wt z gT hz2) _) (cwV 1 hts gX8_forests_X8_beginsWith rfl rfl rfl (by decide +kernel) ⟨(Nat.le_of_ble_eq_true rfl), (Nat.le_of_ble_eq_true rfl)⟩) (ct_preV 0 8 hK hN hP hD rfl rfl) rfl rfl hl.1 rfl (lv_room (Nat.le_of_ble_eq_true rfl)) dX8_forests_25 ⟨(Nat.le_of_ble_eq_true rfl), (Nat.le_of_ble_eq_true rfl)⟩) (fun r25 u25 H locs w25 hP hD hS => ?_)
      obtain ⟨I25, A25, B25⟩ := u25
      refine lv_if_ne (tgt := 33) hx hb dX8_forests_28 (by decide) (fun c28 => ?_) (fun c28 => ?_)
      · -- 28 taken
        have c28 : (jRun fr to z ne).2.2.1 = 0 := Classical.byContradiction (fun h => by rw [w25.1, if_neg h] at c28; exact c28 rfl)
        have hq := w25.2.1
        obtain ⟨g1, g2, g3, g4, g5, g6⟩ := gT.fj w25.2.2
        have gg := gT.fj w25.2.2
        have e1 : I25 0 = 0 := (w25.2.2.1 0 (by decide)).trans e0
        refine lv_iconst (v := 0) hx hb dX8_forests_33 (by decide) ?_
        refine lv_istore_n (lv' := [(3, .int 0), (0, .ref (R 0)), (1, .long (lN z))]) hx hb dX8_forests_34 rfl hl (by decide) rfl (fun ls hl => ?_)
        refine lv_iconst (v := 0) hx hb dX8_forests_35 (by decide) ?_
        refine lv_istore (lv' := [(4, .int 0), (3, .int 0), (0, .ref (R 0)), (1, .long (lN z))]) hx hb dX8_forests_36 hl (by decide) rfl (fun ls hl => ?_)
        have K38 : ∀ (kn : Nat) (v : Nat) (pts : Int32) (A_38 : Nat → Nat → Int32) (ls : Array Slot) (H : Heap) (locs : List Loc), nv - v < kn → (v ≤ nv ∧ (∀ w, w < v → A_38 18 w = oI ((plc fr to ne (jRun fr to z ne) v).2 w)) ∧ (∀ k, k ≠ 18 → k ≠ 19 → A_38 k = A25 k) ∧ pts = nI (plc fr to ne (jRun fr to z ne) v).1) → va_P (dC, dI) vwCl (MW cI cJ cZ R (I25, A_38, B25)) H → va_D Aa (MW cI cJ cZ R (I25, A_38, B25)) → va_S Aa s.heap H locs → lv_has ls 7 [(0, .ref (R 0)), (1, .long (lN z)), (3, .int pts), (4, .int (nI v))] → W p l e (ctR (3, 90)) s m #[.ref (R 0), .long (lN z)] below meth c H locs 0 0 Q (F0 m 38 ls []) := by
          intro kn
          induction kn with
          | zero => intro v pts A_38 ls H locs hmu; exact absurd hmu (Nat.not_lt_zero _)
          | succ kn ih38 =>
            intro v pts A_38 ls H locs mu38 inv38 hP hD hS hl
            obtain ⟨hv2, hpl, hAk, ept⟩ := inv38
            have hA8 : A_38 8 = A25 8 := hAk 8 (by decide) (by decide)
            have hple := plc_le fr to ne (jRun fr to z ne) v
            refine lv_iload hx hb dX8_forests_38 (lv_at hl 3 rfl) ?_
            refine lv_aload_n hx hb dX8_forests_40 rfl (lv_at hl 0 rfl) ?_
            refine va_get (D := (dC, dI)) (ci := 8) (v := .int (I25 1)) (C := RX8) (T := TX8) (N := 20) hx hb hts hinX8 hown hK hP 0 rfl rfl 1 (by decide) hf7 (fun _ h9 => h9) rfl dX8_forests_41 ?_
            refine lv_icmp_ge (tgt := 114) hx hb dX8_forests_44 (by decide) (fun c44 => ?_) (fun c44 => ?_)
            · -- 44 taken
              rw [show I25 1 = nI nv from g4, nI_leI (by omega) (by omega)] at c44
              have hge : v = nv := by omega
              rw [hge] at hpl hple ept
              subst ept
              refine lv_iconst (v := 0) hx hb dX8_forests_114 (by decide) ?_
              refine lv_istore (lv' := [(4, .int 0), (0, .ref (R 0)), (1, .long (lN z)), (3, .int (nI (plc fr to ne (jRun fr to z ne) nv).1))]) hx hb dX8_forests_115 hl (by decide) rfl (fun ls hl => ?_)
              have K117 : ∀ (kn : Nat) (k : Nat) (B_117 : Nat → Nat → Int64) (ls : Array Slot) (H : Heap) (locs : List Loc), 256 - k < kn → (k ≤ 256 ∧ (∀ w, w < k → B_117 17 w = 0) ∧ ∀ x, x ≠ 17 → B_117 x = B25 x) → va_P (dC, dI) vwCl (MW cI cJ cZ R (I25, A_38, B_117)) H → va_D Aa (MW cI cJ cZ R (I25, A_38, B_117)) → va_S Aa s.heap H locs → lv_has ls 7 [(0, .ref (R 0)), (1, .long (lN z)), (3, .int (nI (plc fr to ne (jRun fr to z ne) nv).1)), (4, .int (nI k))] → W p l e (ctR (3, 90)) s m #[.ref (R 0), .long (lN z)] below meth c H locs 0 0 Q (F0 m 117 ls []) := by
                intro kn
                induction kn with
                | zero => intro k B_117 ls H locs hmu; exact absurd hmu (Nat.not_lt_zero _)
                | succ kn ih117 =>
                  intro k B_117 ls H locs mu117 inv117 hP hD hS hl
                  obtain ⟨hk, b1, b2⟩ := inv117
                  refine lv_iload hx hb dX8_forests_117 (lv_at hl 3 rfl) ?_
                  refine lv_sipush (v := 256) hx hb dX8_forests_119 (by decide) ?_
                  refine lv_icmp_ge (tgt := 139) hx hb dX8_forests_122 (by decide) (fun c122 => ?_) (fun c122 => ?_)
                  · -- 122 taken
                    have hge2 : k = 256 := by have := (nI_leI (a := 256) (by omega) (by omega)).mp c122; omega
                    rw [hge2] at b1
                    refine lv_iconst (v := 0) hx hb dX8_forests_139 (by decide) ?_
                    refine lv_istore (lv' := [(4, .int 0), (0, .ref (R 0)), (1, .long (lN z)), (3, .int (nI (plc fr to ne (jRun fr to z ne) nv).1))]) hx hb dX8_forests_140 hl (by decide) rfl (fun ls hl => ?_)
                    have K142 : ∀ (kn : Nat) (i : Nat) (A_142 : Nat → Nat → Int32) (B_142 : Nat → Nat → Int64) (ls : Array Slot) (H : Heap) (locs : List Loc), ne - i < kn → (i ≤ ne ∧ rM (B_142 17) (lapM fr to ne nv (jRun fr to z ne) i) ∧ (∀ x, x ≠ 17 → B_142 x = B25 x) ∧ A_142 = A_38) → va_P (dC, dI) vwCl (MW cI cJ cZ R (I25, A_142, B_142)) H → va_D Aa (MW cI cJ cZ R (I25, A_142, B_142)) → va_S Aa s.heap H locs → lv_has ls 7 [(0, .ref (R 0)), (1, .long (lN z)), (3, .int (nI (plc fr to ne (jRun fr to z ne) nv).1)), (4, .int (nI i))] → W p l e (ctR (3, 90)) s m #[.ref (R 0), .long (lN z)] below meth c H locs 0 0 Q (F0 m 142 ls []) := by
                      intro kn
                      induction kn with
                      | zero => intro i A_142 B_142 ls H locs hmu; exact absurd hmu (Nat.not_lt_zero _)
                      | succ kn ih142 =>
                        intro i A_142 B_142 ls H locs mu142 inv142 hP hD hS hl
                        obtain ⟨hi, hM, b3, eAA⟩ := inv142
                        have hAk2 : ∀ k, k ≠ 18 → k ≠ 19 → A_142 k = A25 k := fun k h1 h2 => by rw [eAA]; exact hAk k h1 h2
                        have hpl : ∀ w, w < nv → A_142 18 w = oI ((plc fr to ne (jRun fr to z ne) nv).2 w) := by rw [eAA]; exact hpl
                        refine lv_iload hx hb dX8_forests_142 (lv_at hl 3 rfl) ?_
                        refine lv_aload_n hx hb dX8_forests_144 rfl (lv_at hl 0 rfl) ?_
                        refine va_get (D := (dC, dI)) (ci := 8) (v := .int (I25 2)) (C := RX8) (T := TX8) (N := 20) hx hb hts hinX8 hown hK hP 0 rfl rfl 2 (by decide) hf61 (fun _ h9 => h9) rfl dX8_forests_145 ?_
                        refine lv_icmp_ge (tgt := 213) hx hb dX8_forests_148 (by decide) (fun c148 => ?_) (fun c148 => ?_)
                        · -- 148 taken
                          rw [show I25 2 = nI ne from g5, nI_leI (by omega) (by omega)] at c148
                          have hge3 : i = ne := by omega
                          rw [hge3] at hM
                          refine lv_aload_n hx hb dX8_forests_213 rfl (lv_at hl 0 rfl) ?_
                          refine lv_iload_n hx hb dX8_forests_214 rfl (lv_at hl 2 rfl) ?_
                          refine ct_calll hD hS hA (va_runV (As := [.int (nI (plc fr to ne (jRun fr to z ne) nv).1)]) (rest := []) F ((k_X8_determinant l dC dI cI cJ cZ cII cJJ R I25 A_142 B_142 (plc fr to ne (jRun fr to z ne) nv).1 (lapM fr to ne nv (jRun fr to z ne) ne) (by omega) hM (hC hv c28)) _) (cwV 1 hts gX8_forests_X8_determinant rfl rfl rfl (by decide +kernel) ⟨(Nat.le_of_ble_eq_true rfl), (Nat.le_of_ble_eq_true rfl)⟩) (ct_preV 0 8 hK hN hP hD rfl rfl) rfl rfl hl.1 rfl (lv_room (Nat.le_of_ble_eq_true rfl)) dX8_forests_215 ⟨(Nat.le_of_ble_eq_true rfl), (Nat.le_of_ble_eq_true rfl)⟩) (fun r215 u215 H locs w215 hP hD hS => ?_)
                          obtain ⟨I215, A215, B215⟩ := u215
                          refine hret 218 ls _ _ r215 (I215, A215, B215) dX8_forests_218 ?_ hP hD hS
                          try dsimp only
                          exact ⟨fun _ => ⟨by rw [show I215 = I25 from w215.2.1]; exact e1, hfT.tr (w25.2.2.fp.tr (fP.of (fun k _ _ _ => by rw [show I215 = I25 from w215.2.1]) (fun k _ _ h1 h2 => by rw [show A215 = A_142 from w215.2.2.1]; exact hAk2 k h1 h2) (fun k _ _ _ _ _ h => (w215.2.2.2 k h).trans (b3 k h)))), by rw [if_pos c28]; exact w215.1⟩, fun h => absurd hv h⟩
                        · -- 148 not
                          rw [show I25 2 = nI ne from g5, nI_leI (by omega) (by omega)] at c148
                          have icl : (nI i).toNatClampNeg = i := nI_clamp (by omega)
                          have iin : vp_in (nI i) 40 := vp_in_nI (by omega) (by omega)
                          have gi := g6 i (by omega)
                          have l1 := gi.1.2
                          have l2 := gi.2.1.2
                          have l3 := (hq.1 _ gi.1.2).2
                          have l4 := (hq.1 _ gi.2.1.2).2
                          refine lv_aload_n hx hb dX8_forests_151 rfl (lv_at hl 0 rfl) ?_
                          refine va_get (D := (dC, dI)) (ci := 8) (v := .ref (R 8)) (C := RX8) (T := TX8) (N := 20) hx hb hts hinX8 hown hK hP 0 rfl rfl 8 (by decide) hf27 (fun _ h9 => h9) rfl dX8_forests_152 ?_
                          refine lv_aload_n hx hb dX8_forests_155 rfl (lv_at hl 0 rfl) ?_
                          refine va_get (D := (dC, dI)) (ci := 8) (v := .ref (R 3)) (C := RX8) (T := TX8) (N := 20) hx hb hts hinX8 hown hK hP 0 rfl rfl 3 (by decide) hf13 (fun _ h9 => h9) rfl dX8_forests_156 ?_
                          refine lv_iload hx hb dX8_forests_159 (lv_at hl 3 rfl) ?_
                          have h161 : vp_in (nI i) 40 := iin
                          refine va_iald hx hb hK hP 1 0 rfl rfl h161 dX8_forests_161 ?_
                          refine lv_topi (fun x161 ex161 => ?_)
                          have ex161 : x161 = A_142 3 (nI i).toNatClampNeg := ex161
                          have ex161 : x161 = nI (fr i) := by rw [ex161, icl, hAk2 3 (by decide) (by decide)]; exact gi.1.1
                          subst ex161
                          have h162 : vp_in (nI (fr i)) 16 := vp_in_nI (by omega) (by omega)
                          refine va_iald hx hb hK hP 5 0 rfl rfl h162 dX8_forests_162 ?_
                          refine lv_topi (fun x162 ex162 => ?_)
                          have ex162 : x162 = A_142 8 (nI (fr i)).toNatClampNeg := ex162
                          have ex162 : x162 = nI ((jRun fr to z ne).1 (fr i)) := by rw [ex162, nI_clamp (by omega), hAk2 8 (by decide) (by decide)]; exact (hq.1 _ gi.1.2).1
                          subst ex162
                          refine lv_istore (lv' := [(5, .int (nI ((jRun fr to z ne).1 (fr i)))), (0, .ref (R 0)), (1, .long (lN z)), (3, .int (nI (plc fr to ne (jRun fr to z ne) nv).1)), (4, .int (nI i))]) hx hb dX8_forests_163 hl (by decide) rfl (fun ls hl => ?_)
                          refine lv_aload_n hx hb dX8_forests_165 rfl (lv_at hl 1 rfl) ?_
                          refine va_get (D := (dC, dI)) (ci := 8) (v := .ref (R 8)) (C := RX8) (T := TX8) (N := 20) hx hb hts hinX8 hown hK hP 0 rfl rfl 8 (by decide) hf27 (fun _ h9 => h9) rfl dX8_forests_166 ?_
                          refine lv_aload_n hx hb dX8_forests_169 rfl (lv_at hl 1 rfl) ?_
                          refine va_get (D := (dC, dI)) (ci := 8) (v := .ref (R 4)) (C := RX8) (T := TX8) (N := 20) hx hb hts hinX8 hown hK hP 0 rfl rfl 4 (by decide) hf17 (fun _ h9 => h9) rfl dX8_forests_170 ?_
                          refine lv_iload hx hb dX8_forests_173 (lv_at hl 4 rfl) ?_
                          have h175 : vp_in (nI i) 40 := iin
                          refine va_iald hx hb hK hP 2 0 rfl rfl h175 dX8_forests_175 ?_
                          refine lv_topi (fun x175 ex175 => ?_)
                          have ex175 : x175 = A_142 4 (nI i).toNatClampNeg := ex175
                          have ex175 : x175 = nI (to i) := by rw [ex175, icl, hAk2 4 (by decide) (by decide)]; exact gi.2.1.1
                          subst ex175
                          have h176 : vp_in (nI (to i)) 16 := vp_in_nI (by omega) (by omega)
                          refine va_iald hx hb hK hP 5 0 rfl rfl h176 dX8_forests_176 ?_
                          refine lv_topi (fun x176 ex176 => ?_)
                          have ex176 : x176 = A_142 8 (nI (to i)).toNatClampNeg := ex176
                          have ex176 : x176 = nI ((jRun fr to z ne).1 (to i)) := by rw [ex176, nI_clamp (by omega), hAk2 8 (by decide) (by decide)]; exact (hq.1 _ gi.2.1.2).1
                          subst ex176
                          refine lv_istore (lv' := [(6, .int (nI ((jRun fr to z ne).1 (to i)))), (5, .int (nI ((jRun fr to z ne).1 (fr i)))), (0, .ref (R 0)), (1, .long (lN z)), (3, .int (nI (plc fr to ne (jRun fr to z ne) nv).1)), (4, .int (nI i))]) hx hb dX8_forests_177 hl (by decide) rfl (fun ls hl => ?_)
                          refine lv_iload hx hb dX8_forests_179 (lv_at hl 1 rfl) ?_
                          refine lv_iload hx hb dX8_forests_181 (lv_at hl 0 rfl) ?_
                          refine lv_icmp_ne (tgt := 189) hx hb dX8_forests_183 (by decide) (fun c183 => ?_) (fun c183 => ?_)
                          · -- 183 taken
                            rw [nI_eq (by omega) (by omega)] at c183
                            refine lv_aload_n hx hb dX8_forests_189 rfl (lv_at hl 2 rfl) ?_
                            refine lv_aload_n hx hb dX8_forests_190 rfl (lv_at hl 2 rfl) ?_
                            refine va_get (D := (dC, dI)) (ci := 8) (v := .ref (R 18)) (C := RX8) (T := TX8) (N := 20) hx hb hts hinX8 hown hK hP 0 rfl rfl 18 (by decide) hf51 (fun _ h9 => h9) rfl dX8_forests_191 ?_
                            refine lv_iload hx hb dX8_forests_194 (lv_at hl 1 rfl) ?_
                            have h196 : vp_in (nI ((jRun fr to z ne).1 (fr i))) 16 := vp_in_nI (by omega) (by omega)
                            refine va_iald hx hb hK hP 13 0 rfl rfl h196 dX8_forests_196 ?_
                            refine lv_topi (fun x196 ex196 => ?_)
                            have ex196 : x196 = A_142 18 (nI ((jRun fr to z ne).1 (fr i))).toNatClampNeg := ex196
                            have ex196 : x196 = oI ((plc fr to ne (jRun fr to z ne) nv).2 ((jRun fr to z ne).1 (fr i))) := by rw [ex196, nI_clamp (by omega)]; exact hpl _ l3
                            subst ex196
                            refine lv_aload_n hx hb dX8_forests_197 rfl (lv_at hl 2 rfl) ?_
                            refine va_get (D := (dC, dI)) (ci := 8) (v := .ref (R 18)) (C := RX8) (T := TX8) (N := 20) hx hb hts hinX8 hown hK hP 0 rfl rfl 18 (by decide) hf51 (fun _ h9 => h9) rfl dX8_forests_198 ?_
                            refine lv_iload hx hb dX8_forests_201 (lv_at hl 0 rfl) ?_
                            have h203 : vp_in (nI ((jRun fr to z ne).1 (to i))) 16 := vp_in_nI (by omega) (by omega)
                            refine va_iald hx hb hK hP 13 0 rfl rfl h203 dX8_forests_203 ?_
                            refine lv_topi (fun x203 ex203 => ?_)
                            have ex203 : x203 = A_142 18 (nI ((jRun fr to z ne).1 (to i))).toNatClampNeg := ex203
                            have ex203 : x203 = oI ((plc fr to ne (jRun fr to z ne) nv).2 ((jRun fr to z ne).1 (to i))) := by rw [ex203, nI_clamp (by omega)]; exact hpl _ l4
                            subst ex203
                            refine ct_callv hD hS hA (va_runV (As := [.int (oI ((plc fr to ne (jRun fr to z ne) nv).2 ((jRun fr to z ne).1 (fr i)))), .int (oI ((plc fr to ne (jRun fr to z ne) nv).2 ((jRun fr to z ne).1 (to i))))]) (rest := []) F ((k_X8_lay l dC dI cI cJ cZ cII cJJ R I25 A_142 B_142 ((plc fr to ne (jRun fr to z ne) nv).2 ((jRun fr to z ne).1 (fr i))) ((plc fr to ne (jRun fr to z ne) nv).2 ((jRun fr to z ne).1 (to i))) _ _ (lapM fr to ne nv (jRun fr to z ne) i) hM rfl rfl (fun a h => by have := plc_lt _ _ _ _ _ _ _ h; omega) (fun a h => by have := plc_lt _ _ _ _ _ _ _ h; omega)) _) (cwV 2 hts gX8_forests_X8_lay rfl rfl rfl (by decide +kernel) ⟨(Nat.le_of_ble_eq_true rfl), (Nat.le_of_ble_eq_true rfl)⟩) (ct_preV 0 8 hK hN hP hD rfl rfl) rfl rfl hl.1 rfl (lv_room (Nat.le_of_ble_eq_true rfl)) dX8_forests_204 ⟨(Nat.le_of_ble_eq_true rfl), (Nat.le_of_ble_eq_true rfl)⟩) (fun u204 H locs w204 hP hD hS => ?_)
                            obtain ⟨I204, A204, B204⟩ := u204
                            have eI204 : I25 = I204 := w204.2.1.symm
                            subst eI204
                            obtain ⟨x207, ex207⟩ : ∃ zz : Int32, zz = nI i + (1) := ⟨_, rfl⟩
                            refine lv_iinc (v := x207) (lv' := [(4, .int x207), (6, .int (nI ((jRun fr to z ne).1 (to i)))), (5, .int (nI ((jRun fr to z ne).1 (fr i)))), (0, .ref (R 0)), (1, .long (lN z)), (3, .int (nI (plc fr to ne (jRun fr to z ne) nv).1))]) hx hb dX8_forests_207 hl (k := 5) rfl (by rw [ex207]; rfl) (by decide) rfl (fun ls hl => ?_)
                            have ex207 : x207 = nI (i + 1) := by rw [ex207]; exact nI_1 i
                            subst ex207
                            refine lv_goto (tgt := 142) hx hb dX8_forests_210 (by decide) ?_
                            exact ih142 (i + 1) A204 B204 ls _ _ (by omega) ⟨by omega, by rw [lapM_d c183]; exact w204.1, fun x hx => (w204.2.2.2 x hx).trans (b3 x hx), w204.2.2.1.trans eAA⟩ hP hD hS (lv_sub hl [3, 4, 5, 0] rfl)
                          · -- 183 not
                            rw [nI_eq (by omega) (by omega)] at c183
                            refine lv_goto (tgt := 207) hx hb dX8_forests_186 (by decide) ?_
                            obtain ⟨x207, ex207⟩ : ∃ zz : Int32, zz = nI i + (1) := ⟨_, rfl⟩
                            refine lv_iinc (v := x207) (lv' := [(4, .int x207), (6, .int (nI ((jRun fr to z ne).1 (to i)))), (5, .int (nI ((jRun fr to z ne).1 (fr i)))), (0, .ref (R 0)), (1, .long (lN z)), (3, .int (nI (plc fr to ne (jRun fr to z ne) nv).1))]) hx hb dX8_forests_207 hl (k := 5) rfl (by rw [ex207]; rfl) (by decide) rfl (fun ls hl => ?_)
                            have ex207 : x207 = nI (i + 1) := by rw [ex207]; exact nI_1 i
                            subst ex207
                            refine lv_goto (tgt := 142) hx hb dX8_forests_210 (by decide) ?_
                            exact ih142 (i + 1) A_142 B_142 ls _ _ (by omega) ⟨by omega, by rw [lapM_s c183]; exact hM, b3, eAA⟩ hP hD hS (lv_sub hl [3, 4, 5, 0] rfl)
                    exact K142 _ 0 A_38 B_117 ls _ _ (Nat.lt_succ_self _) ⟨Nat.zero_le _, fun i j hi hj => b1 _ (by omega), b2, rfl⟩ hP hD hS (lv_sub hl [1, 2, 3, 0] rfl)
                  · -- 122 not
                    have hlt : k < 256 := Nat.lt_of_not_le (fun h => c122 (nI_le (a := 256) h (by omega)))
                    refine lv_aload_n hx hb dX8_forests_125 rfl (lv_at hl 0 rfl) ?_
                    refine va_get (D := (dC, dI)) (ci := 8) (v := .ref (R 17)) (C := RX8) (T := TX8) (N := 20) hx hb hts hinX8 hown hK hP 0 rfl rfl 17 (by decide) hf48 (fun _ h9 => h9) rfl dX8_forests_126 ?_
                    refine lv_iload hx hb dX8_forests_129 (lv_at hl 3 rfl) ?_
                    refine lv_lconst (v := 0) hx hb dX8_forests_131 (by decide) ?_
                    have h132 : vp_in (nI k) 256 := vp_in_nI (by omega) (by omega)
                    refine va_last hx hb hK hP hD hS 12 1 rfl rfl h132 dX8_forests_132 (fun H locs hP hD hS => ?_)
                    obtain ⟨B132, eB132⟩ : ∃ zz : Nat → Nat → Int64, zz = va_up B_117 17 (vp_updL (B_117 17) (nI k).toNatClampNeg 0) := ⟨_, rfl⟩
                    have hP : va_P (dC, dI) vwCl (MW cI cJ cZ R (I25, A_38, B132)) H := by rw [eB132]; exact hP
                    have hD : va_D Aa (MW cI cJ cZ R (I25, A_38, B132)) := by rw [eB132]; exact hD
                    obtain ⟨x133, ex133⟩ : ∃ zz : Int32, zz = nI k + (1) := ⟨_, rfl⟩
                    refine lv_iinc (v := x133) (lv' := [(4, .int x133), (0, .ref (R 0)), (1, .long (lN z)), (3, .int (nI (plc fr to ne (jRun fr to z ne) nv).1))]) hx hb dX8_forests_133 hl (k := 3) rfl (by rw [ex133]; rfl) (by decide) rfl (fun ls hl => ?_)
                    have ex133 : x133 = nI (k + 1) := by rw [ex133]; exact nI_1 k
                    subst ex133
                    refine lv_goto (tgt := 117) hx hb dX8_forests_136 (by decide) ?_
                    exact ih117 (k + 1) B132 ls _ _ (by omega) ⟨by omega, fun w hw => by
              rw [eB132, up_self, nI_clamp (show k < 2 ^ 31 by omega)]
              by_cases e1 : w = k
              · rw [e1, pk_uLs]
              · rw [pk_uLn e1]; exact b1 w (by omega), fun x hx => by rw [eB132, up_ne hx]; exact b2 x hx⟩ hP hD hS (lv_sub hl [1, 2, 3, 0] rfl)
              exact K117 _ 0 B25 ls _ _ (Nat.lt_succ_self _) ⟨Nat.zero_le _, fun w h => absurd h (Nat.not_lt_zero _), fun _ _ => rfl⟩ hP hD hS (lv_sub hl [1, 2, 3, 0] rfl)
            · -- 44 not
              rw [show I25 1 = nI nv from g4, nI_leI (by omega) (by omega)] at c44
              have vcl : (nI v).toNatClampNeg = v := nI_clamp (by omega)
              have vin : vp_in (nI v) 16 := vp_in_nI (by omega) (by omega)
              have lq := (hq.1 v (by omega)).2
              refine lv_aload_n hx hb dX8_forests_47 rfl (lv_at hl 0 rfl) ?_
              refine va_get (D := (dC, dI)) (ci := 8) (v := .ref (R 18)) (C := RX8) (T := TX8) (N := 20) hx hb hts hinX8 hown hK hP 0 rfl rfl 18 (by decide) hf51 (fun _ h9 => h9) rfl dX8_forests_48 ?_
              refine lv_iload hx hb dX8_forests_51 (lv_at hl 3 rfl) ?_
              refine lv_iconst (v := (-1)) hx hb dX8_forests_53 (by decide) ?_
              have h54 : vp_in (nI v) 16 := vin
              refine va_iast hx hb hK hP hD hS 13 0 rfl rfl h54 dX8_forests_54 (fun H locs hP hD hS => ?_)
              obtain ⟨A54, eA54⟩ : ∃ zz : Nat → Nat → Int32, zz = va_up A_38 18 (upd (A_38 18) (nI v).toNatClampNeg ((-1))) := ⟨_, rfl⟩
              have hP : va_P (dC, dI) vwCl (MW cI cJ cZ R (I25, A54, B25)) H := by rw [eA54]; exact hP
              have hD : va_D Aa (MW cI cJ cZ R (I25, A54, B25)) := by rw [eA54]; exact hD
              have hAk3 : ∀ k, k ≠ 18 → k ≠ 19 → A54 k = A25 k := fun k h1 h2 => by rw [eA54, up_ne h1]; exact hAk k h1 h2
              have gg3 : gM nv ne fr to wt I25 A54 := ⟨g1, g2, g3, g4, g5, by rw [hAk3 3 (by decide) (by decide), hAk3 4 (by decide) (by decide), hAk3 5 (by decide) (by decide)]; exact g6⟩
              have hq3 : rG nv (jRun fr to z ne).1 (A54 8) := by rw [hAk3 8 (by decide) (by decide)]; exact hq.1
              refine lv_aload_n hx hb dX8_forests_55 rfl (lv_at hl 0 rfl) ?_
              refine va_get (D := (dC, dI)) (ci := 8) (v := .ref (R 8)) (C := RX8) (T := TX8) (N := 20) hx hb hts hinX8 hown hK hP 0 rfl rfl 8 (by decide) hf27 (fun _ h9 => h9) rfl dX8_forests_56 ?_
              refine lv_iload hx hb dX8_forests_59 (lv_at hl 3 rfl) ?_
              have h61 : vp_in (nI v) 16 := vin
              refine va_iald hx hb hK hP 5 0 rfl rfl h61 dX8_forests_61 ?_
              refine lv_topi (fun x61 ex61 => ?_)
              have ex61 : x61 = A54 8 (nI v).toNatClampNeg := ex61
              have ex61 : x61 = nI ((jRun fr to z ne).1 v) := by rw [ex61, vcl, eA54, up_ne (by decide), hA8]; exact (hq.1 v (by omega)).1
              subst ex61
              refine lv_iload hx hb dX8_forests_62 (lv_at hl 3 rfl) ?_
              refine lv_icmp_eq (tgt := 70) hx hb dX8_forests_64 (by decide) (fun c64 => ?_) (fun c64 => ?_)
              · -- 64 taken
                rw [nI_eq (by omega) (by omega)] at c64
                refine lv_aload_n hx hb dX8_forests_70 rfl (lv_at hl 0 rfl) ?_
                refine va_get (D := (dC, dI)) (ci := 8) (v := .ref (R 18)) (C := RX8) (T := TX8) (N := 20) hx hb hts hinX8 hown hK hP 0 rfl rfl 18 (by decide) hf51 (fun _ h9 => h9) rfl dX8_forests_71 ?_
                refine lv_iload hx hb dX8_forests_74 (lv_at hl 3 rfl) ?_
                refine lv_aload_n hx hb dX8_forests_76 rfl (lv_at hl 0 rfl) ?_
                refine lv_iload hx hb dX8_forests_77 (lv_at hl 3 rfl) ?_
                refine ct_calli hD hS hA (va_runV (As := [.int (nI v)]) (rest := [.int (nI v), .ref (R 18)]) F ((k_X8_isFirst l dC dI cI cJ cZ cII cJJ R I25 A54 B25 nv ne fr to wt (jRun fr to z ne) v gg3 hq3 (by omega)) _) (cwV 1 hts gX8_forests_X8_isFirst rfl rfl rfl (by decide +kernel) ⟨(Nat.le_of_ble_eq_true rfl), (Nat.le_of_ble_eq_true rfl)⟩) (ct_preV 0 8 hK hN hP hD rfl rfl) rfl rfl hl.1 rfl (lv_room (Nat.le_of_ble_eq_true rfl)) dX8_forests_79 ⟨(Nat.le_of_ble_eq_true rfl), (Nat.le_of_ble_eq_true rfl)⟩) (fun r79 u79 H locs w79 hP hD hS => ?_)
                obtain ⟨I79, A79, B79⟩ := u79
                have eI79 : I25 = I79 := w79.2.1.symm
                subst eI79
                have eB79 : B25 = B79 := w79.2.2.2.symm
                subst eB79
                refine lv_if_eq (tgt := 89) hx hb dX8_forests_82 (by decide) (fun c82 => ?_) (fun c82 => ?_)
                · -- 82 taken
                  have hff : fsP fr to ne (jRun fr to z ne) v v := w79.1.elim (fun h => h.2) (fun h => by rw [h.1] at c82; exact absurd c82 (by decide))
                  refine lv_iload_n hx hb dX8_forests_89 rfl (lv_at hl 2 rfl) ?_
                  have h90 : vp_in (nI v) 16 := vin
                  refine va_iast hx hb hK hP hD hS 13 0 rfl rfl h90 dX8_forests_90 (fun H locs hP hD hS => ?_)
                  obtain ⟨A90, eA90⟩ : ∃ zz : Nat → Nat → Int32, zz = va_up A79 18 (upd (A79 18) (nI v).toNatClampNeg pts) := ⟨_, rfl⟩
                  have hP : va_P (dC, dI) vwCl (MW cI cJ cZ R (I25, A90, B25)) H := by rw [eA90]; exact hP
                  have hD : va_D Aa (MW cI cJ cZ R (I25, A90, B25)) := by rw [eA90]; exact hD
                  have hAk4 : ∀ k, k ≠ 18 → k ≠ 19 → A90 k = A25 k := fun k h1 h2 => by rw [eA90, up_ne h1, show A79 k = A54 k from w79.2.2.1 k h2]; exact hAk3 k h1 h2
                  have gg4 : gM nv ne fr to wt I25 A90 := ⟨g1, g2, g3, g4, g5, by rw [hAk4 3 (by decide) (by decide), hAk4 4 (by decide) (by decide), hAk4 5 (by decide) (by decide)]; exact g6⟩
                  have hq4 : rG nv (jRun fr to z ne).1 (A90 8) := by rw [hAk4 8 (by decide) (by decide)]; exact hq.1
                  refine lv_iload_n hx hb dX8_forests_91 rfl (lv_at hl 2 rfl) ?_
                  refine lv_aload_n hx hb dX8_forests_92 rfl (lv_at hl 0 rfl) ?_
                  refine lv_iload hx hb dX8_forests_93 (lv_at hl 3 rfl) ?_
                  refine ct_calli hD hS hA (va_runV (As := [.int (nI v)]) (rest := [.int pts]) F ((k_X8_isFirst l dC dI cI cJ cZ cII cJJ R I25 A90 B25 nv ne fr to wt (jRun fr to z ne) v gg4 hq4 (by omega)) _) (cwV 1 hts gX8_forests_X8_isFirst rfl rfl rfl (by decide +kernel) ⟨(Nat.le_of_ble_eq_true rfl), (Nat.le_of_ble_eq_true rfl)⟩) (ct_preV 0 8 hK hN hP hD rfl rfl) rfl rfl hl.1 rfl (lv_room (Nat.le_of_ble_eq_true rfl)) dX8_forests_95 ⟨(Nat.le_of_ble_eq_true rfl), (Nat.le_of_ble_eq_true rfl)⟩) (fun r95 u95 H locs w95 hP hD hS => ?_)
                  obtain ⟨I95, A95, B95⟩ := u95
                  have eI95 : I25 = I95 := w95.2.1.symm
                  subst eI95
                  have eB95 : B25 = B95 := w95.2.2.2.symm
                  subst eB95
                  refine lv_if_eq (tgt := 105) hx hb dX8_forests_98 (by decide) (fun c98 => ?_) (fun c98 => ?_)
                  · -- 98 taken
                    refine lv_iconst (v := 1) hx hb dX8_forests_105 (by decide) ?_
                    refine lv_iadd hx hb dX8_forests_106 ?_
                    refine lv_topi (fun x106 ex106 => ?_)
                    refine lv_istore_n (lv' := [(3, .int x106), (0, .ref (R 0)), (1, .long (lN z)), (4, .int (nI v))]) hx hb dX8_forests_107 rfl hl (by decide) rfl (fun ls hl => ?_)
                    obtain ⟨x108, ex108⟩ : ∃ zz : Int32, zz = nI v + (1) := ⟨_, rfl⟩
                    refine lv_iinc (v := x108) (lv' := [(4, .int x108), (3, .int x106), (0, .ref (R 0)), (1, .long (lN z))]) hx hb dX8_forests_108 hl (k := 3) rfl (by rw [ex108]; rfl) (by decide) rfl (fun ls hl => ?_)
                    have ex108 : x108 = nI (v + 1) := by rw [ex108]; exact nI_1 v
                    subst ex108
                    refine lv_goto (tgt := 38) hx hb dX8_forests_111 (by decide) ?_
                    exact ih38 (v + 1) x106 A95 ls _ _ (by omega) ⟨by omega, fun w hw => by
                rw [plc_y ⟨c64, hff⟩, show A95 18 = A90 18 from w95.2.2.1 18 (by decide), eA90, up_self, vcl, show A79 18 = A54 18 from w79.2.2.1 18 (by decide), eA54, up_self, vcl]
                show upd (upd (A_38 18) v (-1)) v pts w = oI (va_up (plc fr to ne (jRun fr to z ne) v).2 v (some (plc fr to ne (jRun fr to z ne) v).1) w)
                by_cases e1 : w = v
                · rw [e1, pk_us, up_self, ept]; rfl
                · rw [pk_un e1, pk_un e1, up_ne e1]; exact hpl w (by omega), fun k h1 h2 => by rw [show A95 k = A90 k from w95.2.2.1 k h2, eA90, up_ne h1, show A79 k = A54 k from w79.2.2.1 k h2, eA54, up_ne h1]; exact hAk k h1 h2, by rw [plc_y ⟨c64, hff⟩, ex106, ept]; exact nI_1 _⟩ hP hD hS (lv_sub hl [2, 3, 1, 0] rfl)
                  · exact absurd c98 (Classical.not_not.mpr (w95.1.elim (fun q => q.1) (fun q => absurd hff q.2)))
                · -- 82 not
                  have hff : ¬ fsP fr to ne (jRun fr to z ne) v v := w79.1.elim (fun h => absurd h.1 c82) (fun h => h.2)
                  refine lv_iconst (v := (-1)) hx hb dX8_forests_85 (by decide) ?_
                  refine lv_goto (tgt := 90) hx hb dX8_forests_86 (by decide) ?_
                  have h90 : vp_in (nI v) 16 := vin
                  refine va_iast hx hb hK hP hD hS 13 0 rfl rfl h90 dX8_forests_90 (fun H locs hP hD hS => ?_)
                  obtain ⟨A90, eA90⟩ : ∃ zz : Nat → Nat → Int32, zz = va_up A79 18 (upd (A79 18) (nI v).toNatClampNeg ((-1))) := ⟨_, rfl⟩
                  have hP : va_P (dC, dI) vwCl (MW cI cJ cZ R (I25, A90, B25)) H := by rw [eA90]; exact hP
                  have hD : va_D Aa (MW cI cJ cZ R (I25, A90, B25)) := by rw [eA90]; exact hD
                  have hAk4 : ∀ k, k ≠ 18 → k ≠ 19 → A90 k = A25 k := fun k h1 h2 => by rw [eA90, up_ne h1, show A79 k = A54 k from w79.2.2.1 k h2]; exact hAk3 k h1 h2
                  have gg4 : gM nv ne fr to wt I25 A90 := ⟨g1, g2, g3, g4, g5, by rw [hAk4 3 (by decide) (by decide), hAk4 4 (by decide) (by decide), hAk4 5 (by decide) (by decide)]; exact g6⟩
                  have hq4 : rG nv (jRun fr to z ne).1 (A90 8) := by rw [hAk4 8 (by decide) (by decide)]; exact hq.1
                  refine lv_iload_n hx hb dX8_forests_91 rfl (lv_at hl 2 rfl) ?_
                  refine lv_aload_n hx hb dX8_forests_92 rfl (lv_at hl 0 rfl) ?_
                  refine lv_iload hx hb dX8_forests_93 (lv_at hl 3 rfl) ?_
                  refine ct_calli hD hS hA (va_runV (As := [.int (nI v)]) (rest := [.int pts]) F ((k_X8_isFirst l dC dI cI cJ cZ cII cJJ R I25 A90 B25 nv ne fr to wt (jRun fr to z ne) v gg4 hq4 (by omega)) _) (cwV 1 hts gX8_forests_X8_isFirst rfl rfl rfl (by decide +kernel) ⟨(Nat.le_of_ble_eq_true rfl), (Nat.le_of_ble_eq_true rfl)⟩) (ct_preV 0 8 hK hN hP hD rfl rfl) rfl rfl hl.1 rfl (lv_room (Nat.le_of_ble_eq_true rfl)) dX8_forests_95 ⟨(Nat.le_of_ble_eq_true rfl), (Nat.le_of_ble_eq_true rfl)⟩) (fun r95 u95 H locs w95 hP hD hS => ?_)
                  obtain ⟨I95, A95, B95⟩ := u95
                  have eI95 : I25 = I95 := w95.2.1.symm
                  subst eI95
                  have eB95 : B25 = B95 := w95.2.2.2.symm
                  subst eB95
                  refine lv_if_eq (tgt := 105) hx hb dX8_forests_98 (by decide) (fun c98 => ?_) (fun c98 => ?_)
                  · exact absurd c98 (fun h => w95.1.elim (fun q => hff q.2) (fun q => by rw [q.1] at h; exact absurd h (by decide)))
                  · -- 98 not
                    refine lv_iconst (v := 0) hx hb dX8_forests_101 (by decide) ?_
                    refine lv_goto (tgt := 106) hx hb dX8_forests_102 (by decide) ?_
                    refine lv_iadd hx hb dX8_forests_106 ?_
                    refine lv_topi (fun x106 ex106 => ?_)
                    refine lv_istore_n (lv' := [(3, .int x106), (0, .ref (R 0)), (1, .long (lN z)), (4, .int (nI v))]) hx hb dX8_forests_107 rfl hl (by decide) rfl (fun ls hl => ?_)
                    obtain ⟨x108, ex108⟩ : ∃ zz : Int32, zz = nI v + (1) := ⟨_, rfl⟩
                    refine lv_iinc (v := x108) (lv' := [(4, .int x108), (3, .int x106), (0, .ref (R 0)), (1, .long (lN z))]) hx hb dX8_forests_108 hl (k := 3) rfl (by rw [ex108]; rfl) (by decide) rfl (fun ls hl => ?_)
                    have ex108 : x108 = nI (v + 1) := by rw [ex108]; exact nI_1 v
                    subst ex108
                    refine lv_goto (tgt := 38) hx hb dX8_forests_111 (by decide) ?_
                    exact ih38 (v + 1) x106 A95 ls _ _ (by omega) ⟨by omega, fun w hw => by
                rw [plc_n (fun h => hff h.2), show A95 18 = A90 18 from w95.2.2.1 18 (by decide), eA90, up_self, vcl, show A79 18 = A54 18 from w79.2.2.1 18 (by decide), eA54, up_self, vcl]
                by_cases e1 : w = v
                · rw [e1, pk_us, plc_hi _ _ _ _ v v (Nat.le_refl v)]; rfl
                · rw [pk_un e1, pk_un e1]; exact hpl w (by omega), fun k h1 h2 => by rw [show A95 k = A90 k from w95.2.2.1 k h2, eA90, up_ne h1, show A79 k = A54 k from w79.2.2.1 k h2, eA54, up_ne h1]; exact hAk k h1 h2, by rw [plc_n (fun h => hff h.2), ex106, ept]; exact Int32.add_zero _⟩ hP hD hS (lv_sub hl [2, 3, 1, 0] rfl)
              · -- 64 not
                rw [nI_eq (by omega) (by omega)] at c64
                refine lv_goto (tgt := 108) hx hb dX8_forests_67 (by decide) ?_
                obtain ⟨x108, ex108⟩ : ∃ zz : Int32, zz = nI v + (1) := ⟨_, rfl⟩
                refine lv_iinc (v := x108) (lv' := [(4, .int x108), (0, .ref (R 0)), (1, .long (lN z)), (3, .int pts)]) hx hb dX8_forests_108 hl (k := 3) rfl (by rw [ex108]; rfl) (by decide) rfl (fun ls hl => ?_)
                have ex108 : x108 = nI (v + 1) := by rw [ex108]; exact nI_1 v
                subst ex108
                refine lv_goto (tgt := 38) hx hb dX8_forests_111 (by decide) ?_
                exact ih38 (v + 1) pts A54 ls _ _ (by omega) ⟨by omega, fun w hw => by
                rw [plc_n (fun h => c64 h.1), eA54, up_self, vcl]
                by_cases e1 : w = v
                · rw [e1, pk_us, plc_hi _ _ _ _ v v (Nat.le_refl v)]; rfl
                · rw [pk_un e1]; exact hpl w (by omega), fun k h1 h2 => by rw [eA54, up_ne h1]; exact hAk k h1 h2, by rw [plc_n (fun h => c64 h.1)]; exact ept⟩ hP hD hS (lv_sub hl [1, 2, 3, 0] rfl)
        exact K38 _ 0 0 A25 ls _ _ (Nat.lt_succ_self _) ⟨Nat.zero_le _, fun w h => absurd h (Nat.not_lt_zero _), fun _ _ _ => rfl, rfl⟩ hP hD hS (lv_sub hl [2, 3, 1, 0] rfl)
      · -- 28 not
        have c28 : ¬ (jRun fr to z ne).2.2.1 = 0 := fun h => by rw [w25.1, if_pos h] at c28; exact absurd c28 (by decide)
        refine lv_lconst (v := 0) hx hb dX8_forests_31 (by decide) ?_
        refine hret 32 ls _ _ 0 (I25, A25, B25) dX8_forests_32 ?_ hP hD hS
        try dsimp only
        exact ⟨fun _ => ⟨(w25.2.2.1 0 (by decide)).trans e0, hfT.tr w25.2.2.fp, by rw [if_neg c28]⟩, fun h => absurd hv h⟩
    · -- 18 not
      rw [w15, inv14] at c18
      have hv : ¬ z < 2 ^ ne := fun h => by rw [if_pos h] at c18; exact c18 rfl
      have eT : I15 = va_up I 0 1 := by rw [eI15, inv14, if_neg hv]; rfl
      refine lv_lconst (v := 0) hx hb dX8_forests_21 (by decide) ?_
      refine hret 22 ls _ _ 0 (I15, A, B) dX8_forests_22 ?_ hP hD hS
      try dsimp only
      exact ⟨fun h => absurd h hv, fun _ => ⟨by rw [eT]; exact up_self, fP.rf0 eT⟩⟩
  refine ct_calli hD hS hA (va_runV (As := [.long (lN z)]) (rest := [.ref (R 0)]) F ((k_X8_isSet l dC dI cI cJ cZ cII cJJ R I A B (lN z)) _) (cwV 1 hts gX8_forests_X8_isSet rfl rfl rfl (by decide +kernel) ⟨(Nat.le_of_ble_eq_true rfl), (Nat.le_of_ble_eq_true rfl)⟩) (ct_preV 0 8 hK hN hP hD rfl rfl) rfl rfl hl.1 rfl (lv_room (Nat.le_of_ble_eq_true rfl)) dX8_forests_3 ⟨(Nat.le_of_ble_eq_true rfl), (Nat.le_of_ble_eq_true rfl)⟩) (fun r3 u3 H locs w3 hP hD hS => ?_)
  obtain ⟨w3, rfl⟩ := w3
  refine lv_if_ne (tgt := 13) hx hb dX8_forests_6 (by decide) (fun c6 => ?_) (fun c6 => ?_)
  · -- 6 taken
    rw [w3, g.2.2.2.2.1] at c6
    have c6 : z < 2 ^ ne := (nm_set hz g.2.2.1).mp (Classical.byContradiction (fun h => by rw [if_neg h] at c6; exact c6 rfl))
    refine lv_iconst (v := 0) hx hb dX8_forests_13 (by decide) ?_
    exact K14 0 ls _ _  (by rw [if_pos c6]) hP hD hS (lv_sub hl [0, 1] rfl)
  · -- 6 not
    rw [w3, g.2.2.2.2.1] at c6
    have c6 : ¬ z < 2 ^ ne := fun h => by rw [if_pos ((nm_set hz g.2.2.1).mpr h)] at c6; exact absurd c6 (by decide)
    refine lv_iconst (v := 1) hx hb dX8_forests_9 (by decide) ?_
    refine lv_goto (tgt := 14) hx hb dX8_forests_10 (by decide) ?_
    exact K14 1 ls _ _  (by rw [if_neg c6]) hP hD hS (lv_sub hl [0, 1] rfl)
