set_option maxHeartbeats 4000000 in
set_option maxRecDepth 100000 in
theorem k_X8_lightest (l : Launch) (dC : Nat → ClassId) (dI : Nat → Nat → Nat) (cI cJ cZ cII cJJ : ClassId) (R : Nat → Nat) (I : Nat → Int32) (A : Nat → Nat → Int32) (B : Nat → Nat → Int64) (nv ne : Nat) (fr to wt : Nat → Nat) (z : Nat) (g : gM nv ne fr to wt I A) (hz : z < 2 ^ 64) : ctL l (dC, dI) (tyL cI cJ cZ cII cJJ) (MW cI cJ cZ R) yX8_lightest wsX8_lightest (2, 60) [.ref (R 0), .long (lN z)] (I, A, B) (fun r u => (z < 2 ^ ne → u.1 0 = 0 ∧ fP I A B u ∧ r = (if (jRun fr to z ne).2.2.1 = 0 then lN (lgo fr to wt ne (gc nv (jRun fr to z ne)) (jRun fr to z ne) (wsum wt z ne)) else -1)) ∧ (¬ z < 2 ^ ne → u.1 0 = 1 ∧ fP I A B u)) := by
  refine ctL_intro (cc := cX8_lightest) (maxL := 8) (by decide) rfl (Nat.le_of_ble_eq_true rfl) ?_
  intro p e s m below meth c ls Aa Q F hK hN hP hD hS hA hl hret
  have hx := F.1
  have hb := F.2.1
  have hown : s.vm.findClass RX8 = some m.cls := F.2.2.2.1
  have hts := F.2.2.2.2
  have hinX8 : ∀ w ∈ wsX80, w ∈ wsX8_lightest := by decide +kernel
  have hf61 := hts (.fieldLink RX8 61 "CycleHouseModel" "m" "I") (by decide +kernel)
  have hf27 := hts (.fieldLink RX8 27 "CycleHouseModel" "group" "[I") (by decide +kernel)
  have hf13 := hts (.fieldLink RX8 13 "CycleHouseModel" "from" "[I") (by decide +kernel)
  have hf17 := hts (.fieldLink RX8 17 "CycleHouseModel" "to" "[I") (by decide +kernel)
  have hf20 := hts (.fieldLink RX8 20 "CycleHouseModel" "weight" "[I") (by decide +kernel)
  have hl : lv_has ls 8 [(0, .ref (R 0)), (1, .long (lN z))] := hl
  refine lv_aload_n hx hb dX8_lightest_0 rfl (lv_at hl 0 rfl) ?_
  refine lv_aload_n hx hb dX8_lightest_1 rfl (lv_at hl 0 rfl) ?_
  refine lv_lload_n hx hb dX8_lightest_2 rfl (lv_at hl 1 rfl) ?_
  have K14 : ∀ (o : Int32) (ls : Array Slot) (H : Heap) (locs : List Loc), (o = (if z < 2 ^ ne then 0 else 1)) → va_P (dC, dI) vwCl (MW cI cJ cZ R (I, A, B)) H → va_D Aa (MW cI cJ cZ R (I, A, B)) → va_S Aa s.heap H locs → lv_has ls 8 [(0, .ref (R 0)), (1, .long (lN z))] → W p l e (ctR (2, 60)) s m #[.ref (R 0), .long (lN z)] below meth c H locs 0 0 Q (F0 m 14 ls [.int o, .ref (R 0)]) := by
    intro o ls H locs inv14 hP hD hS hl
    refine lv_iconst (v := 0) hx hb dX8_lightest_14 (by decide) ?_
    refine ct_calli hD hS hA (va_runV (As := [.int o, .int 0]) (rest := []) F ((k_X8_throwing l dC dI cI cJ cZ cII cJJ R I A B o 0) _) (cwV 2 hts gX8_lightest_X8_throwing rfl rfl rfl (by decide +kernel) ⟨(Nat.le_of_ble_eq_true rfl), (Nat.le_of_ble_eq_true rfl)⟩) (ct_preV 0 8 hK hN hP hD rfl rfl) rfl rfl hl.1 rfl (lv_room (Nat.le_of_ble_eq_true rfl)) dX8_lightest_15 ⟨(Nat.le_of_ble_eq_true rfl), (Nat.le_of_ble_eq_true rfl)⟩) (fun r15 u15 H locs w15 hP hD hS => ?_)
    obtain ⟨w15, hu15⟩ := w15
    obtain ⟨I15, A15, B15⟩ := u15
    have eI15 := congrArg (fun z => z.1) hu15
    dsimp only at eI15
    have eA15 : A = A15 := (congrArg (fun z => z.2.1) hu15).symm
    subst eA15
    have eB15 : B = B15 := (congrArg (fun z => z.2.2) hu15).symm
    subst eB15
    clear hu15
    refine lv_if_eq (tgt := 23) hx hb dX8_lightest_18 (by decide) (fun c18 => ?_) (fun c18 => ?_)
    · -- 18 taken
      rw [w15, inv14] at c18
      have hv : z < 2 ^ ne := Classical.byContradiction (fun h => by rw [if_neg h] at c18; exact absurd c18 (by decide))
      have hz2 : z < 2 ^ 62 := pw40 hv g.2.2.1
      have eT : I15 = va_up I 0 0 := by rw [eI15, inv14, if_pos hv]; rfl
      have hfT : fP I A B (I15, A, B) := fP.rf0 eT
      have gT := g.fp hfT
      have e0 : I15 0 = 0 := by rw [eT]; exact up_self
      refine lv_aload_n hx hb dX8_lightest_23 rfl (lv_at hl 0 rfl) ?_
      refine lv_lload_n hx hb dX8_lightest_24 rfl (lv_at hl 1 rfl) ?_
      refine ct_calli hD hS hA (va_runV (As := [.long (lN z)]) (rest := []) F ((k_X8_beginsWith l dC dI cI cJ cZ cII cJJ R I15 A B nv ne fr to wt z gT hz2) _) (cwV 1 hts gX8_lightest_X8_beginsWith rfl rfl rfl (by decide +kernel) ⟨(Nat.le_of_ble_eq_true rfl), (Nat.le_of_ble_eq_true rfl)⟩) (ct_preV 0 8 hK hN hP hD rfl rfl) rfl rfl hl.1 rfl (lv_room (Nat.le_of_ble_eq_true rfl)) dX8_lightest_25 ⟨(Nat.le_of_ble_eq_true rfl), (Nat.le_of_ble_eq_true rfl)⟩) (fun r25 u25 H locs w25 hP hD hS => ?_)
      obtain ⟨I25, A25, B25⟩ := u25
      refine lv_if_ne (tgt := 35) hx hb dX8_lightest_28 (by decide) (fun c28 => ?_) (fun c28 => ?_)
      · -- 28 taken
        have c28 : (jRun fr to z ne).2.2.1 = 0 := Classical.byContradiction (fun h => by rw [w25.1, if_neg h] at c28; exact c28 rfl)
        refine lv_aload_n hx hb dX8_lightest_35 rfl (lv_at hl 0 rfl) ?_
        refine lv_lload_n hx hb dX8_lightest_36 rfl (lv_at hl 1 rfl) ?_
        refine ct_calll hD hS hA (va_runV (As := [.long (lN z)]) (rest := []) F ((k_X8_weightOf l dC dI cI cJ cZ cII cJJ R I25 A25 B25 nv ne fr to wt z (gT.fj w25.2.2) hz2) _) (cwV 1 hts gX8_lightest_X8_weightOf rfl rfl rfl (by decide +kernel) ⟨(Nat.le_of_ble_eq_true rfl), (Nat.le_of_ble_eq_true rfl)⟩) (ct_preV 0 8 hK hN hP hD rfl rfl) rfl rfl hl.1 rfl (lv_room (Nat.le_of_ble_eq_true rfl)) dX8_lightest_37 ⟨(Nat.le_of_ble_eq_true rfl), (Nat.le_of_ble_eq_true rfl)⟩) (fun r37 u37 H locs w37 hP hD hS => ?_)
        obtain ⟨w37, rfl⟩ := w37
        have er37 : r37 = lN (wsum wt z ne) := w37
        subst er37
        refine lv_lstore_n (lv' := [(3, .long (lN (wsum wt z ne))), (0, .ref (R 0)), (1, .long (lN z))]) hx hb dX8_lightest_40 rfl hl (by decide) rfl (fun ls hl => ?_)
        refine lv_iconst (v := 1) hx hb dX8_lightest_41 (by decide) ?_
        refine lv_istore (lv' := [(5, .int 1), (3, .long (lN (wsum wt z ne))), (0, .ref (R 0)), (1, .long (lN z))]) hx hb dX8_lightest_42 hl (by decide) rfl (fun ls hl => ?_)
        have K44 : ∀ (kn : Nat) (q : JS) (acc : Nat) (y : Int64) (mo : Int32) (I_44 : Nat → Int32) (A_44 : Nat → Nat → Int32) (B_44 : Nat → Nat → Int64) (ls : Array Slot) (H : Heap) (locs : List Loc), (if mo = 1 then gc nv q + 1 else 0) < kn → (y = lN acc ∧ rJ nv q I_44 A_44 B_44 ∧ jI nv q ∧ q.2.2.1 = 0 ∧ fP I A B (I_44, A_44, B_44) ∧ I_44 0 = 0 ∧ ((mo = 1 ∧ lgo fr to wt ne (gc nv (jRun fr to z ne)) (jRun fr to z ne) (wsum wt z ne) = lgo fr to wt ne (gc nv q) q acc) ∨ (mo = 0 ∧ lgo fr to wt ne (gc nv (jRun fr to z ne)) (jRun fr to z ne) (wsum wt z ne) = acc))) → va_P (dC, dI) vwCl (MW cI cJ cZ R (I_44, A_44, B_44)) H → va_D Aa (MW cI cJ cZ R (I_44, A_44, B_44)) → va_S Aa s.heap H locs → lv_has ls 8 [(0, .ref (R 0)), (1, .long (lN z)), (3, .long y), (5, .int mo)] → W p l e (ctR (2, 60)) s m #[.ref (R 0), .long (lN z)] below meth c H locs 0 0 Q (F0 m 44 ls []) := by
          intro kn
          induction kn with
          | zero => intro q acc y mo I_44 A_44 B_44 ls H locs hmu; exact absurd hmu (Nat.not_lt_zero _)
          | succ kn ih44 =>
            intro q acc y mo I_44 A_44 B_44 ls H locs mu44 inv44 hP hD hS hl
            obtain ⟨ey, hq, hji, hqd, hf, e0, hres⟩ := inv44
            obtain ⟨g1, g2, g3, g4, g5, g6⟩ := g.fp hf
            have gg := g.fp hf
            refine lv_iload hx hb dX8_lightest_44 (lv_at hl 3 rfl) ?_
            refine lv_if_eq (tgt := 170) hx hb dX8_lightest_46 (by decide) (fun c46 => ?_) (fun c46 => ?_)
            · -- 46 taken
              have hfin : lgo fr to wt ne (gc nv (jRun fr to z ne)) (jRun fr to z ne) (wsum wt z ne) = acc := hres.elim (fun h => by rw [h.1] at c46; exact absurd c46 (by decide)) (fun h => h.2)
              refine lv_lload_n hx hb dX8_lightest_170 rfl (lv_at hl 2 rfl) ?_
              refine hret 171 ls _ _ y (I_44, A_44, B_44) dX8_lightest_171 ?_ hP hD hS
              try dsimp only
              exact ⟨fun _ => ⟨e0, hf, by rw [if_pos c28, ey, hfin]⟩, fun h => absurd hv h⟩
            · -- 46 not
              have hmo : mo = 1 := hres.elim (fun h => h.1) (fun h => absurd h.1 c46)
              have hres1 : lgo fr to wt ne (gc nv (jRun fr to z ne)) (jRun fr to z ne) (wsum wt z ne) = lgo fr to wt ne (gc nv q) q acc := hres.elim (fun h => h.2) (fun h => absurd h.1 c46)
              refine lv_iconst (v := (-1)) hx hb dX8_lightest_49 (by decide) ?_
              refine lv_istore (lv' := [(6, .int ((-1))), (0, .ref (R 0)), (1, .long (lN z)), (3, .long y), (5, .int mo)]) hx hb dX8_lightest_50 hl (by decide) rfl (fun ls hl => ?_)
              refine lv_iconst (v := 0) hx hb dX8_lightest_52 (by decide) ?_
              refine lv_istore (lv' := [(7, .int 0), (6, .int ((-1))), (0, .ref (R 0)), (1, .long (lN z)), (3, .long y), (5, .int mo)]) hx hb dX8_lightest_53 hl (by decide) rfl (fun ls hl => ?_)
              have K55 : ∀ (kn : Nat) (i : Nat) (bb : Int32) (ls : Array Slot) (H : Heap) (locs : List Loc), ne - i < kn → (i ≤ ne ∧ bb = oI (bE1 fr to wt q i)) → va_P (dC, dI) vwCl (MW cI cJ cZ R (I_44, A_44, B_44)) H → va_D Aa (MW cI cJ cZ R (I_44, A_44, B_44)) → va_S Aa s.heap H locs → lv_has ls 8 [(0, .ref (R 0)), (1, .long (lN z)), (3, .long y), (5, .int mo), (6, .int bb), (7, .int (nI i))] → W p l e (ctR (2, 60)) s m #[.ref (R 0), .long (lN z)] below meth c H locs 0 0 Q (F0 m 55 ls []) := by
                intro kn
                induction kn with
                | zero => intro i bb ls H locs hmu; exact absurd hmu (Nat.not_lt_zero _)
                | succ kn ih55 =>
                  intro i bb ls H locs mu55 inv55 hP hD hS hl
                  obtain ⟨hi, eb⟩ := inv55
                  refine lv_iload hx hb dX8_lightest_55 (lv_at hl 5 rfl) ?_
                  refine lv_aload_n hx hb dX8_lightest_57 rfl (lv_at hl 0 rfl) ?_
                  refine va_get (D := (dC, dI)) (ci := 8) (v := .int (I_44 2)) (C := RX8) (T := TX8) (N := 20) hx hb hts hinX8 hown hK hP 0 rfl rfl 2 (by decide) hf61 (fun _ h9 => h9) rfl dX8_lightest_58 ?_
                  refine lv_icmp_ge (tgt := 126) hx hb dX8_lightest_61 (by decide) (fun c61 => ?_) (fun c61 => ?_)
                  · -- 61 taken
                    rw [show I_44 2 = nI ne from g5, nI_leI (by omega) (by omega)] at c61
                    have hge : i = ne := by omega
                    rw [hge] at eb
                    refine lv_iload hx hb dX8_lightest_126 (lv_at hl 4 rfl) ?_
                    refine lv_if_lt (tgt := 144) hx hb dX8_lightest_128 (by decide) (fun c128 => ?_) (fun c128 => ?_)
                    · -- 128 taken
                      have hbn : bE1 fr to wt q ne = none := by
                        cases h : bE1 fr to wt q ne with
                        | none => rfl
                        | some b1 => rw [eb, h] at c128; exact absurd c128 (nI_pos (by have := (bE1_in h).1; omega))
                      refine lv_iconst (v := 0) hx hb dX8_lightest_144 (by decide) ?_
                      refine lv_istore (lv' := [(5, .int 0), (0, .ref (R 0)), (1, .long (lN z)), (3, .long y), (6, .int bb), (7, .int (nI i))]) hx hb dX8_lightest_145 hl (by decide) rfl (fun ls hl => ?_)
                      refine lv_lload_n hx hb dX8_lightest_147 rfl (lv_at hl 3 rfl) ?_
                      refine lv_iload hx hb dX8_lightest_148 (lv_at hl 0 rfl) ?_
                      refine lv_if_eq (tgt := 164) hx hb dX8_lightest_150 (by decide) (fun c150 => ?_) (fun c150 => ?_)
                      · -- 150 taken
                        refine lv_lconst (v := 0) hx hb dX8_lightest_164 (by decide) ?_
                        refine lv_ladd hx hb dX8_lightest_165 ?_
                        refine lv_topl (fun x165 ex165 => ?_)
                        refine lv_lstore_n (lv' := [(3, .long x165), (5, .int 0), (0, .ref (R 0)), (1, .long (lN z)), (6, .int bb), (7, .int (nI i))]) hx hb dX8_lightest_166 rfl hl (by decide) rfl (fun ls hl => ?_)
                        refine lv_goto (tgt := 44) hx hb dX8_lightest_167 (by decide) ?_
                        exact ih44 q acc x165 0 I_44 A_44 B_44 ls _ _ (by rw [if_neg (by decide)]; rw [if_pos hmo] at mu44; omega) ⟨by rw [ex165, ey]; exact Int64.add_zero _, hq, hji, hqd, hf, e0, Or.inr ⟨rfl, by rw [hres1, lgo_none hbn]⟩⟩ hP hD hS (lv_sub hl [2, 3, 0, 1] rfl)
                      · exact absurd c150 (Classical.not_not.mpr rfl)
                    · -- 128 not
                      obtain ⟨b0, hbs⟩ : ∃ b0, bE1 fr to wt q ne = some b0 := by
                        cases h : bE1 fr to wt q ne with
                        | some b1 => exact ⟨b1, rfl⟩
                        | none => rw [eb, h] at c128; exact absurd (by decide) c128
                      have hb0 := (bE1_in hbs).1
                      have hb2 := (bE1_in hbs).2
                      have eb2 : bb = nI b0 := by rw [eb, hbs]; rfl
                      have bcl2 : (nI b0).toNatClampNeg = b0 := nI_clamp (by omega)
                      have gb0 := g6 b0 hb0
                      have hgc := gc_join (N := nv) (e := b0) hji gb0.1.2 gb0.2.1.2 hb2
                      subst eb2
                      refine lv_aload_n hx hb dX8_lightest_131 rfl (lv_at hl 0 rfl) ?_
                      refine lv_iload hx hb dX8_lightest_132 (lv_at hl 4 rfl) ?_
                      refine ct_calli hD hS hA (va_runV (As := [.int (nI b0)]) (rest := []) F ((k_X8_joins l dC dI cI cJ cZ cII cJJ R I_44 A_44 B_44 nv ne fr to wt b0 q gg hb0 hq (by rw [hqd]; decide)) _) (cwV 1 hts gX8_lightest_X8_joins rfl rfl rfl (by decide +kernel) ⟨(Nat.le_of_ble_eq_true rfl), (Nat.le_of_ble_eq_true rfl)⟩) (ct_preV 0 8 hK hN hP hD rfl rfl) rfl rfl hl.1 rfl (lv_room (Nat.le_of_ble_eq_true rfl)) dX8_lightest_134 ⟨(Nat.le_of_ble_eq_true rfl), (Nat.le_of_ble_eq_true rfl)⟩) (fun r134 u134 H locs w134 hP hD hS => ?_)
                      obtain ⟨I134, A134, B134⟩ := u134
                      have gb := (gg.fj w134.2.2).2.2.2.2.2 b0 hb0
                      refine lv_if_eq (tgt := 144) hx hb dX8_lightest_137 (by decide) (fun c137 => ?_) (fun c137 => ?_)
                      · exact absurd c137 (by rw [w134.1, if_neg hb2]; decide)
                      · -- 137 not
                        refine lv_iconst (v := 1) hx hb dX8_lightest_140 (by decide) ?_
                        refine lv_goto (tgt := 145) hx hb dX8_lightest_141 (by decide) ?_
                        refine lv_istore (lv' := [(5, .int 1), (0, .ref (R 0)), (1, .long (lN z)), (3, .long y), (6, .int (nI b0)), (7, .int (nI i))]) hx hb dX8_lightest_145 hl (by decide) rfl (fun ls hl => ?_)
                        refine lv_lload_n hx hb dX8_lightest_147 rfl (lv_at hl 3 rfl) ?_
                        refine lv_iload hx hb dX8_lightest_148 (lv_at hl 0 rfl) ?_
                        refine lv_if_eq (tgt := 164) hx hb dX8_lightest_150 (by decide) (fun c150 => ?_) (fun c150 => ?_)
                        · exact absurd c150 (by decide)
                        · -- 150 not
                          refine lv_aload_n hx hb dX8_lightest_153 rfl (lv_at hl 1 rfl) ?_
                          refine va_get (D := (dC, dI)) (ci := 8) (v := .ref (R 5)) (C := RX8) (T := TX8) (N := 20) hx hb hts hinX8 hown hK hP 0 rfl rfl 5 (by decide) hf20 (fun _ h9 => h9) rfl dX8_lightest_154 ?_
                          refine lv_iload hx hb dX8_lightest_157 (lv_at hl 4 rfl) ?_
                          have h159 : vp_in (nI b0) 40 := vp_in_nI (by omega) (by omega)
                          refine va_iald hx hb hK hP 3 0 rfl rfl h159 dX8_lightest_159 ?_
                          refine lv_topi (fun x159 ex159 => ?_)
                          have ex159 : x159 = A134 5 (nI b0).toNatClampNeg := ex159
                          refine lv_i2l hx hb dX8_lightest_160 rfl ?_
                          refine lv_topl (fun x160 ex160 => ?_)
                          refine lv_goto (tgt := 165) hx hb dX8_lightest_161 (by decide) ?_
                          refine lv_ladd hx hb dX8_lightest_165 ?_
                          refine lv_topl (fun x165 ex165 => ?_)
                          refine lv_lstore_n (lv' := [(3, .long x165), (5, .int 1), (0, .ref (R 0)), (1, .long (lN z)), (6, .int (nI b0)), (7, .int (nI i))]) hx hb dX8_lightest_166 rfl hl (by decide) rfl (fun ls hl => ?_)
                          refine lv_goto (tgt := 44) hx hb dX8_lightest_167 (by decide) ?_
                          exact ih44 (jStep (fr b0) (to b0) b0 q) (acc + wt b0) x165 1 I134 A134 B134 ls _ _ (by rw [if_pos rfl]; rw [if_pos hmo] at mu44; omega) ⟨by rw [ex165, ey, ex160, ex159, bcl2, show A134 5 b0 = nI (wt b0) from (gb).2.2.1, nm_il (by have := gb.2.2.2; omega), lN_add], w134.2.1, jI_step hji gb.1.2 gb.2.1.2, by rw [jd_join hb2]; exact hqd, hf.tr w134.2.2.fp, (w134.2.2.1 0 (by decide)).trans e0, Or.inl ⟨rfl, by rw [hres1, ← hgc, lgo_some hbs]⟩⟩ hP hD hS (lv_sub hl [2, 3, 0, 1] rfl)
                  · -- 61 not
                    rw [show I_44 2 = nI ne from g5, nI_leI (by omega) (by omega)] at c61
                    have icl : (nI i).toNatClampNeg = i := nI_clamp (by omega)
                    have iin : vp_in (nI i) 40 := vp_in_nI (by omega) (by omega)
                    have gi := g6 i (by omega)
                    have acl : (nI (fr i)).toNatClampNeg = fr i := nI_clamp (by have := gi.1.2; omega)
                    have bcl : (nI (to i)).toNatClampNeg = to i := nI_clamp (by have := gi.2.1.2; omega)
                    have l1 := (hq.1 _ gi.1.2).2
                    have l2 := (hq.1 _ gi.2.1.2).2
                    refine lv_aload_n hx hb dX8_lightest_64 rfl (lv_at hl 0 rfl) ?_
                    refine va_get (D := (dC, dI)) (ci := 8) (v := .ref (R 8)) (C := RX8) (T := TX8) (N := 20) hx hb hts hinX8 hown hK hP 0 rfl rfl 8 (by decide) hf27 (fun _ h9 => h9) rfl dX8_lightest_65 ?_
                    refine lv_aload_n hx hb dX8_lightest_68 rfl (lv_at hl 0 rfl) ?_
                    refine va_get (D := (dC, dI)) (ci := 8) (v := .ref (R 3)) (C := RX8) (T := TX8) (N := 20) hx hb hts hinX8 hown hK hP 0 rfl rfl 3 (by decide) hf13 (fun _ h9 => h9) rfl dX8_lightest_69 ?_
                    refine lv_iload hx hb dX8_lightest_72 (lv_at hl 5 rfl) ?_
                    have h74 : vp_in (nI i) 40 := iin
                    refine va_iald hx hb hK hP 1 0 rfl rfl h74 dX8_lightest_74 ?_
                    refine lv_topi (fun x74 ex74 => ?_)
                    have ex74 : x74 = A_44 3 (nI i).toNatClampNeg := ex74
                    have ex74 : x74 = nI (fr i) := by rw [ex74, icl]; exact gi.1.1
                    subst ex74
                    have h75 : vp_in (nI (fr i)) 16 := vp_in_nI (by have := gi.1.2; omega) (by omega)
                    refine va_iald hx hb hK hP 5 0 rfl rfl h75 dX8_lightest_75 ?_
                    refine lv_topi (fun x75 ex75 => ?_)
                    have ex75 : x75 = A_44 8 (nI (fr i)).toNatClampNeg := ex75
                    have ex75 : x75 = nI (q.1 (fr i)) := by rw [ex75, acl]; exact (hq.1 _ gi.1.2).1
                    subst ex75
                    refine lv_aload_n hx hb dX8_lightest_76 rfl (lv_at hl 0 rfl) ?_
                    refine va_get (D := (dC, dI)) (ci := 8) (v := .ref (R 8)) (C := RX8) (T := TX8) (N := 20) hx hb hts hinX8 hown hK hP 0 rfl rfl 8 (by decide) hf27 (fun _ h9 => h9) rfl dX8_lightest_77 ?_
                    refine lv_aload_n hx hb dX8_lightest_80 rfl (lv_at hl 0 rfl) ?_
                    refine va_get (D := (dC, dI)) (ci := 8) (v := .ref (R 4)) (C := RX8) (T := TX8) (N := 20) hx hb hts hinX8 hown hK hP 0 rfl rfl 4 (by decide) hf17 (fun _ h9 => h9) rfl dX8_lightest_81 ?_
                    refine lv_iload hx hb dX8_lightest_84 (lv_at hl 5 rfl) ?_
                    have h86 : vp_in (nI i) 40 := iin
                    refine va_iald hx hb hK hP 2 0 rfl rfl h86 dX8_lightest_86 ?_
                    refine lv_topi (fun x86 ex86 => ?_)
                    have ex86 : x86 = A_44 4 (nI i).toNatClampNeg := ex86
                    have ex86 : x86 = nI (to i) := by rw [ex86, icl]; exact gi.2.1.1
                    subst ex86
                    have h87 : vp_in (nI (to i)) 16 := vp_in_nI (by have := gi.2.1.2; omega) (by omega)
                    refine va_iald hx hb hK hP 5 0 rfl rfl h87 dX8_lightest_87 ?_
                    refine lv_topi (fun x87 ex87 => ?_)
                    have ex87 : x87 = A_44 8 (nI (to i)).toNatClampNeg := ex87
                    have ex87 : x87 = nI (q.1 (to i)) := by rw [ex87, bcl]; exact (hq.1 _ gi.2.1.2).1
                    subst ex87
                    refine lv_icmp_ne (tgt := 94) hx hb dX8_lightest_88 (by decide) (fun c88 => ?_) (fun c88 => ?_)
                    · -- 88 taken
                      rw [nI_eq (by omega) (by omega)] at c88
                      refine lv_iload hx hb dX8_lightest_94 (lv_at hl 4 rfl) ?_
                      refine lv_if_lt (tgt := 116) hx hb dX8_lightest_96 (by decide) (fun c96 => ?_) (fun c96 => ?_)
                      · -- 96 taken
                        have c96 : bE1 fr to wt q i = none := by
                          cases h : bE1 fr to wt q i with
                          | none => rfl
                          | some b1 => rw [eb, h] at c96; exact absurd c96 (nI_pos (by have := (bE1_in h).1; omega))
                        refine lv_iload hx hb dX8_lightest_116 (lv_at hl 5 rfl) ?_
                        refine lv_istore (lv' := [(6, .int (nI i)), (0, .ref (R 0)), (1, .long (lN z)), (3, .long y), (5, .int mo), (7, .int (nI i))]) hx hb dX8_lightest_118 hl (by decide) rfl (fun ls hl => ?_)
                        obtain ⟨x120, ex120⟩ : ∃ zz : Int32, zz = nI i + (1) := ⟨_, rfl⟩
                        refine lv_iinc (v := x120) (lv' := [(7, .int x120), (6, .int (nI i)), (0, .ref (R 0)), (1, .long (lN z)), (3, .long y), (5, .int mo)]) hx hb dX8_lightest_120 hl (k := 5) rfl (by rw [ex120]; rfl) (by decide) rfl (fun ls hl => ?_)
                        have ex120 : x120 = nI (i + 1) := by rw [ex120]; exact nI_1 i
                        subst ex120
                        refine lv_goto (tgt := 55) hx hb dX8_lightest_123 (by decide) ?_
                        exact ih55 (i + 1) (nI i) ls _ _ (by omega) ⟨by omega, by rw [bE1_first c88 c96]; rfl⟩ hP hD hS (lv_sub hl [2, 3, 4, 5, 1, 0] rfl)
                      · -- 96 not
                        obtain ⟨b0, hbs⟩ : ∃ b0, bE1 fr to wt q i = some b0 := by
                          cases h : bE1 fr to wt q i with
                          | some b1 => exact ⟨b1, rfl⟩
                          | none => rw [eb, h] at c96; exact absurd (by decide) c96
                        have hb0 := (bE1_in hbs).1
                        have eb2 : bb = nI b0 := by rw [eb, hbs]; rfl
                        have bcl2 : bb.toNatClampNeg = b0 := by rw [eb2]; exact nI_clamp (by omega)
                        have gb := g6 b0 (by omega)
                        refine lv_aload_n hx hb dX8_lightest_99 rfl (lv_at hl 0 rfl) ?_
                        refine va_get (D := (dC, dI)) (ci := 8) (v := .ref (R 5)) (C := RX8) (T := TX8) (N := 20) hx hb hts hinX8 hown hK hP 0 rfl rfl 5 (by decide) hf20 (fun _ h9 => h9) rfl dX8_lightest_100 ?_
                        refine lv_iload hx hb dX8_lightest_103 (lv_at hl 5 rfl) ?_
                        have h105 : vp_in (nI i) 40 := iin
                        refine va_iald hx hb hK hP 3 0 rfl rfl h105 dX8_lightest_105 ?_
                        refine lv_topi (fun x105 ex105 => ?_)
                        have ex105 : x105 = A_44 5 (nI i).toNatClampNeg := ex105
                        have ex105 : x105 = nI (wt i) := by rw [ex105, icl]; exact gi.2.2.1
                        subst ex105
                        refine lv_aload_n hx hb dX8_lightest_106 rfl (lv_at hl 0 rfl) ?_
                        refine va_get (D := (dC, dI)) (ci := 8) (v := .ref (R 5)) (C := RX8) (T := TX8) (N := 20) hx hb hts hinX8 hown hK hP 0 rfl rfl 5 (by decide) hf20 (fun _ h9 => h9) rfl dX8_lightest_107 ?_
                        refine lv_iload hx hb dX8_lightest_110 (lv_at hl 4 rfl) ?_
                        have h112 : vp_in bb 40 := by rw [eb2]; exact vp_in_nI (by omega) (by omega)
                        refine va_iald hx hb hK hP 3 0 rfl rfl h112 dX8_lightest_112 ?_
                        refine lv_topi (fun x112 ex112 => ?_)
                        have ex112 : x112 = A_44 5 bb.toNatClampNeg := ex112
                        have ex112 : x112 = nI (wt b0) := by rw [ex112, bcl2]; exact gb.2.2.1
                        have l3 := gb.2.2.2
                        have l4 := gi.2.2.2
                        refine lv_icmp_ge (tgt := 120) hx hb dX8_lightest_113 (by decide) (fun c113 => ?_) (fun c113 => ?_)
                        · -- 113 taken
                          rw [ex112, nI_leI (by omega) (by omega)] at c113
                          obtain ⟨x120, ex120⟩ : ∃ zz : Int32, zz = nI i + (1) := ⟨_, rfl⟩
                          refine lv_iinc (v := x120) (lv' := [(7, .int x120), (0, .ref (R 0)), (1, .long (lN z)), (3, .long y), (5, .int mo), (6, .int bb)]) hx hb dX8_lightest_120 hl (k := 5) rfl (by rw [ex120]; rfl) (by decide) rfl (fun ls hl => ?_)
                          have ex120 : x120 = nI (i + 1) := by rw [ex120]; exact nI_1 i
                          subst ex120
                          refine lv_goto (tgt := 55) hx hb dX8_lightest_123 (by decide) ?_
                          exact ih55 (i + 1) bb ls _ _ (by omega) ⟨by omega, by rw [bE1_keep c88 hbs (by omega), eb, hbs]⟩ hP hD hS (lv_sub hl [1, 2, 3, 4, 5, 0] rfl)
                        · -- 113 not
                          rw [ex112, nI_leI (by omega) (by omega)] at c113
                          refine lv_iload hx hb dX8_lightest_116 (lv_at hl 5 rfl) ?_
                          refine lv_istore (lv' := [(6, .int (nI i)), (0, .ref (R 0)), (1, .long (lN z)), (3, .long y), (5, .int mo), (7, .int (nI i))]) hx hb dX8_lightest_118 hl (by decide) rfl (fun ls hl => ?_)
                          obtain ⟨x120, ex120⟩ : ∃ zz : Int32, zz = nI i + (1) := ⟨_, rfl⟩
                          refine lv_iinc (v := x120) (lv' := [(7, .int x120), (6, .int (nI i)), (0, .ref (R 0)), (1, .long (lN z)), (3, .long y), (5, .int mo)]) hx hb dX8_lightest_120 hl (k := 5) rfl (by rw [ex120]; rfl) (by decide) rfl (fun ls hl => ?_)
                          have ex120 : x120 = nI (i + 1) := by rw [ex120]; exact nI_1 i
                          subst ex120
                          refine lv_goto (tgt := 55) hx hb dX8_lightest_123 (by decide) ?_
                          exact ih55 (i + 1) (nI i) ls _ _ (by omega) ⟨by omega, by rw [bE1_less c88 hbs (by omega)]; rfl⟩ hP hD hS (lv_sub hl [2, 3, 4, 5, 1, 0] rfl)
                    · -- 88 not
                      rw [nI_eq (by omega) (by omega)] at c88
                      refine lv_goto (tgt := 120) hx hb dX8_lightest_91 (by decide) ?_
                      obtain ⟨x120, ex120⟩ : ∃ zz : Int32, zz = nI i + (1) := ⟨_, rfl⟩
                      refine lv_iinc (v := x120) (lv' := [(7, .int x120), (0, .ref (R 0)), (1, .long (lN z)), (3, .long y), (5, .int mo), (6, .int bb)]) hx hb dX8_lightest_120 hl (k := 5) rfl (by rw [ex120]; rfl) (by decide) rfl (fun ls hl => ?_)
                      have ex120 : x120 = nI (i + 1) := by rw [ex120]; exact nI_1 i
                      subst ex120
                      refine lv_goto (tgt := 55) hx hb dX8_lightest_123 (by decide) ?_
                      exact ih55 (i + 1) bb ls _ _ (by omega) ⟨by omega, by rw [bE1_same c88]; exact eb⟩ hP hD hS (lv_sub hl [1, 2, 3, 4, 5, 0] rfl)
              exact K55 _ 0 ((-1)) ls _ _ (Nat.lt_succ_self _) ⟨Nat.zero_le _, rfl⟩ hP hD hS (lv_sub hl [2, 3, 4, 5, 1, 0] rfl)
        exact K44 _ (jRun fr to z ne) (wsum wt z ne) (lN (wsum wt z ne)) 1 I25 A25 B25 ls _ _ (Nat.lt_succ_self _) ⟨rfl, w25.2.1, jI_run ne (fun e he _ => g.en e he), c28, hfT.tr w25.2.2.fp, (w25.2.2.1 0 (by decide)).trans e0, Or.inl ⟨rfl, rfl⟩⟩ hP hD hS (lv_sub hl [2, 3, 1, 0] rfl)
      · -- 28 not
        have c28 : ¬ (jRun fr to z ne).2.2.1 = 0 := fun h => by rw [w25.1, if_pos h] at c28; exact absurd c28 (by decide)
        refine lv_ldc2 (v := (-1)) hx hb hown (hts (.constantLong RX8 111 (-1)) (by decide +kernel)) dX8_lightest_31 ?_
        refine hret 34 ls _ _ ((-1)) (I25, A25, B25) dX8_lightest_34 ?_ hP hD hS
        try dsimp only
        exact ⟨fun _ => ⟨(w25.2.2.1 0 (by decide)).trans e0, hfT.tr w25.2.2.fp, by rw [if_neg c28]⟩, fun h => absurd hv h⟩
    · -- 18 not
      rw [w15, inv14] at c18
      have hv : ¬ z < 2 ^ ne := fun h => by rw [if_pos h] at c18; exact c18 rfl
      have eT : I15 = va_up I 0 1 := by rw [eI15, inv14, if_neg hv]; rfl
      refine lv_lconst (v := 0) hx hb dX8_lightest_21 (by decide) ?_
      refine hret 22 ls _ _ 0 (I15, A, B) dX8_lightest_22 ?_ hP hD hS
      try dsimp only
      exact ⟨fun h => absurd h hv, fun _ => ⟨by rw [eT]; exact up_self, fP.rf0 eT⟩⟩
  refine ct_calli hD hS hA (va_runV (As := [.long (lN z)]) (rest := [.ref (R 0)]) F ((k_X8_isSet l dC dI cI cJ cZ cII cJJ R I A B (lN z)) _) (cwV 1 hts gX8_lightest_X8_isSet rfl rfl rfl (by decide +kernel) ⟨(Nat.le_of_ble_eq_true rfl), (Nat.le_of_ble_eq_true rfl)⟩) (ct_preV 0 8 hK hN hP hD rfl rfl) rfl rfl hl.1 rfl (lv_room (Nat.le_of_ble_eq_true rfl)) dX8_lightest_3 ⟨(Nat.le_of_ble_eq_true rfl), (Nat.le_of_ble_eq_true rfl)⟩) (fun r3 u3 H locs w3 hP hD hS => ?_)
  obtain ⟨w3, rfl⟩ := w3
  refine lv_if_ne (tgt := 13) hx hb dX8_lightest_6 (by decide) (fun c6 => ?_) (fun c6 => ?_)
  · -- 6 taken
    rw [w3, g.2.2.2.2.1] at c6
    have c6 : z < 2 ^ ne := (nm_set hz g.2.2.1).mp (Classical.byContradiction (fun h => by rw [if_neg h] at c6; exact c6 rfl))
    refine lv_iconst (v := 0) hx hb dX8_lightest_13 (by decide) ?_
    exact K14 0 ls _ _  (by rw [if_pos c6]) hP hD hS (lv_sub hl [0, 1] rfl)
  · -- 6 not
    rw [w3, g.2.2.2.2.1] at c6
    have c6 : ¬ z < 2 ^ ne := fun h => by rw [if_pos ((nm_set hz g.2.2.1).mpr h)] at c6; exact absurd c6 (by decide)
    refine lv_iconst (v := 1) hx hb dX8_lightest_9 (by decide) ?_
    refine lv_goto (tgt := 14) hx hb dX8_lightest_10 (by decide) ?_
    exact K14 1 ls _ _  (by rw [if_neg c6]) hP hD hS (lv_sub hl [0, 1] rfl)
