set_option maxHeartbeats 4000000 in
set_option maxRecDepth 100000 in
theorem k_X8_isRing (l : Launch) (dC : Nat → ClassId) (dI : Nat → Nat → Nat) (cI cJ cZ cII cJJ : ClassId) (R : Nat → Nat) (I : Nat → Int32) (A : Nat → Nat → Int32) (B : Nat → Nat → Int64) (nv ne : Nat) (fr to wt : Nat → Nat) (z : Nat) (g : gM nv ne fr to wt I A) (hz : z < 2 ^ 62) : ctI l (dC, dI) (tyL cI cJ cZ cII cJJ) (MW cI cJ cZ R) yX8_isRing wsX8_isRing (1, 30) [.ref (R 0), .long (lN z)] (I, A, B) (fun r u => r = (if rng fr to nv ne z then 1 else 0) ∧ fJ I A B u) := by
  refine ctI_intro (cc := cX8_isRing) (maxL := 7) (by decide) rfl (Nat.le_of_ble_eq_true rfl) ?_
  intro p e s m below meth c ls Aa Q F hK hN hP hD hS hA hl hret
  have hx := F.1
  have hb := F.2.1
  have hown : s.vm.findClass RX8 = some m.cls := F.2.2.2.1
  have hts := F.2.2.2.2
  have hinX8 : ∀ w ∈ wsX80, w ∈ wsX8_isRing := by decide +kernel
  have hf7 := hts (.fieldLink RX8 7 "CycleHouseModel" "n" "I") (by decide +kernel)
  have hf61 := hts (.fieldLink RX8 61 "CycleHouseModel" "m" "I") (by decide +kernel)
  have hl : lv_has ls 7 [(0, .ref (R 0)), (1, .long (lN z))] := hl
  obtain ⟨g1, g2, g3, g4, g5, g6⟩ := id g
  refine lv_lload_n hx hb dX8_isRing_0 rfl (lv_at hl 1 rfl) ?_
  refine lv_lconst (v := 0) hx hb dX8_isRing_1 (by decide) ?_
  refine W.lcmp hx hb dX8_isRing_2 ?_
  refine lv_if_ne (tgt := 8) hx hb dX8_isRing_3 (by decide) (fun c3 => ?_) (fun c3 => ?_)
  · -- 3 taken
    rw [lg_cmp_eq] at c3
    have c3 : z ≠ 0 := fun h => c3 (by rw [h]; rfl)
    refine lv_iconst (v := 1) hx hb dX8_isRing_8 (by decide) ?_
    refine lv_istore_n (lv' := [(3, .int 1), (0, .ref (R 0)), (1, .long (lN z))]) hx hb dX8_isRing_9 rfl hl (by decide) rfl (fun ls hl => ?_)
    refine lv_iconst (v := 0) hx hb dX8_isRing_10 (by decide) ?_
    refine lv_istore (lv' := [(4, .int 0), (3, .int 1), (0, .ref (R 0)), (1, .long (lN z))]) hx hb dX8_isRing_11 hl (by decide) rfl (fun ls hl => ?_)
    have K13 : ∀ (kn : Nat) (i : Nat) (x : Int32) (ls : Array Slot) (H : Heap) (locs : List Loc), nv - i < kn → (i ≤ nv ∧ x = (if (∀ v, v < i → dg fr to z ne v ≤ 2) then 1 else 0)) → va_P (dC, dI) vwCl (MW cI cJ cZ R (I, A, B)) H → va_D Aa (MW cI cJ cZ R (I, A, B)) → va_S Aa s.heap H locs → lv_has ls 7 [(0, .ref (R 0)), (1, .long (lN z)), (3, .int x), (4, .int (nI i))] → W p l e (ctR (1, 30)) s m #[.ref (R 0), .long (lN z)] below meth c H locs 0 0 Q (F0 m 13 ls []) := by
      intro kn
      induction kn with
      | zero => intro i x ls H locs hmu; exact absurd hmu (Nat.not_lt_zero _)
      | succ kn ih13 =>
        intro i x ls H locs mu13 inv13 hP hD hS hl
        obtain ⟨hi, ex⟩ := inv13
        refine lv_iload hx hb dX8_isRing_13 (lv_at hl 3 rfl) ?_
        refine lv_aload_n hx hb dX8_isRing_15 rfl (lv_at hl 0 rfl) ?_
        refine va_get (D := (dC, dI)) (ci := 8) (v := .int (I 1)) (C := RX8) (T := TX8) (N := 20) hx hb hts hinX8 hown hK hP 0 rfl rfl 1 (by decide) hf7 (fun _ h9 => h9) rfl dX8_isRing_16 ?_
        refine lv_icmp_ge (tgt := 49) hx hb dX8_isRing_19 (by decide) (fun c19 => ?_) (fun c19 => ?_)
        · -- 19 taken
          rw [g4, nI_leI (by omega) (by omega)] at c19
          have hge : i = nv := by omega
          rw [hge] at ex
          refine lv_iconst (v := 0) hx hb dX8_isRing_49 (by decide) ?_
          refine lv_istore (lv' := [(4, .int 0), (0, .ref (R 0)), (1, .long (lN z)), (3, .int x)]) hx hb dX8_isRing_50 hl (by decide) rfl (fun ls hl => ?_)
          refine lv_iconst (v := 0) hx hb dX8_isRing_52 (by decide) ?_
          refine lv_istore (lv' := [(5, .int 0), (4, .int 0), (0, .ref (R 0)), (1, .long (lN z)), (3, .int x)]) hx hb dX8_isRing_53 hl (by decide) rfl (fun ls hl => ?_)
          have K55 : ∀ (kn : Nat) (i : Nat) (y : Int32) (ls : Array Slot) (H : Heap) (locs : List Loc), ne - i < kn → (i ≤ ne ∧ y = nI (sz z i)) → va_P (dC, dI) vwCl (MW cI cJ cZ R (I, A, B)) H → va_D Aa (MW cI cJ cZ R (I, A, B)) → va_S Aa s.heap H locs → lv_has ls 7 [(0, .ref (R 0)), (1, .long (lN z)), (3, .int x), (4, .int y), (5, .int (nI i))] → W p l e (ctR (1, 30)) s m #[.ref (R 0), .long (lN z)] below meth c H locs 0 0 Q (F0 m 55 ls []) := by
            intro kn
            induction kn with
            | zero => intro i y ls H locs hmu; exact absurd hmu (Nat.not_lt_zero _)
            | succ kn ih55 =>
              intro i y ls H locs mu55 inv55 hP hD hS hl
              obtain ⟨hi, ey⟩ := inv55
              refine lv_iload hx hb dX8_isRing_55 (lv_at hl 4 rfl) ?_
              refine lv_aload_n hx hb dX8_isRing_57 rfl (lv_at hl 0 rfl) ?_
              refine va_get (D := (dC, dI)) (ci := 8) (v := .int (I 2)) (C := RX8) (T := TX8) (N := 20) hx hb hts hinX8 hown hK hP 0 rfl rfl 2 (by decide) hf61 (fun _ h9 => h9) rfl dX8_isRing_58 ?_
              refine lv_icmp_ge (tgt := 82) hx hb dX8_isRing_61 (by decide) (fun c61 => ?_) (fun c61 => ?_)
              · -- 61 taken
                rw [g5, nI_leI (by omega) (by omega)] at c61
                have hge : i = ne := by omega
                rw [hge] at ey
                refine lv_aload_n hx hb dX8_isRing_82 rfl (lv_at hl 0 rfl) ?_
                refine ct_callv hD hS hA (va_runV (As := []) (rest := []) F ((k_X8_beginGroups l dC dI cI cJ cZ cII cJJ R I A B ) _) (cwV 0 hts gX8_isRing_X8_beginGroups rfl rfl rfl (by decide +kernel) ⟨(Nat.le_of_ble_eq_true rfl), (Nat.le_of_ble_eq_true rfl)⟩) (ct_preV 0 8 hK hN hP hD rfl rfl) rfl rfl hl.1 rfl (lv_room (Nat.le_of_ble_eq_true rfl)) dX8_isRing_83 ⟨(Nat.le_of_ble_eq_true rfl), (Nat.le_of_ble_eq_true rfl)⟩) (fun u83 H locs w83 hP hD hS => ?_)
                obtain ⟨I83, A83, B83⟩ := u83
                refine lv_iconst (v := 0) hx hb dX8_isRing_86 (by decide) ?_
                refine lv_istore (lv' := [(5, .int 0), (0, .ref (R 0)), (1, .long (lN z)), (3, .int x), (4, .int y)]) hx hb dX8_isRing_87 hl (by decide) rfl (fun ls hl => ?_)
                refine lv_iconst (v := 0) hx hb dX8_isRing_89 (by decide) ?_
                refine lv_istore (lv' := [(6, .int 0), (5, .int 0), (0, .ref (R 0)), (1, .long (lN z)), (3, .int x), (4, .int y)]) hx hb dX8_isRing_90 hl (by decide) rfl (fun ls hl => ?_)
                have K92 : ∀ (kn : Nat) (i : Nat) (j : Int32) (I_92 : Nat → Int32) (A_92 : Nat → Nat → Int32) (B_92 : Nat → Nat → Int64) (ls : Array Slot) (H : Heap) (locs : List Loc), ne - i < kn → (i ≤ ne ∧ j + nI (jRun fr to z i).2.2.1 = nI (sz z i) ∧ rJ nv (jRun fr to z i) I_92 A_92 B_92 ∧ fJ I A B (I_92, A_92, B_92)) → va_P (dC, dI) vwCl (MW cI cJ cZ R (I_92, A_92, B_92)) H → va_D Aa (MW cI cJ cZ R (I_92, A_92, B_92)) → va_S Aa s.heap H locs → lv_has ls 7 [(0, .ref (R 0)), (1, .long (lN z)), (3, .int x), (4, .int y), (5, .int j), (6, .int (nI i))] → W p l e (ctR (1, 30)) s m #[.ref (R 0), .long (lN z)] below meth c H locs 0 0 Q (F0 m 92 ls []) := by
                  intro kn
                  induction kn with
                  | zero => intro i j I_92 A_92 B_92 ls H locs hmu; exact absurd hmu (Nat.not_lt_zero _)
                  | succ kn ih92 =>
                    intro i j I_92 A_92 B_92 ls H locs mu92 inv92 hP hD hS hl
                    obtain ⟨hi, ej, hq, hf⟩ := inv92
                    have gg := g.fj hf
                    refine lv_iload hx hb dX8_isRing_92 (lv_at hl 5 rfl) ?_
                    refine lv_aload_n hx hb dX8_isRing_94 rfl (lv_at hl 0 rfl) ?_
                    refine va_get (D := (dC, dI)) (ci := 8) (v := .int (I_92 2)) (C := RX8) (T := TX8) (N := 20) hx hb hts hinX8 hown hK hP 0 rfl rfl 2 (by decide) hf61 (fun _ h9 => h9) rfl dX8_isRing_95 ?_
                    refine lv_icmp_ge (tgt := 137) hx hb dX8_isRing_98 (by decide) (fun c98 => ?_) (fun c98 => ?_)
                    · -- 98 taken
                      rw [show I_92 2 = nI ne from gg.2.2.2.2.1, nI_leI (by omega) (by omega)] at c98
                      have hge : i = ne := by omega
                      rw [hge] at ej
                      have hsz := sz_le z ne
                      have hdd := jd_lt (fr := fr) (to := to) (s := z) (k := ne)
                      refine lv_iload_n hx hb dX8_isRing_137 rfl (lv_at hl 2 rfl) ?_
                      refine lv_if_eq (tgt := 154) hx hb dX8_isRing_138 (by decide) (fun c138 => ?_) (fun c138 => ?_)
                      · -- 138 taken
                        have c138 : ¬ (∀ v, v < nv → dg fr to z ne v ≤ 2) := fun h => by rw [ex, if_pos h] at c138; exact absurd c138 (by decide)
                        refine lv_iconst (v := 0) hx hb dX8_isRing_154 (by decide) ?_
                        refine hret 155 ls _ _ 0 (I_92, A_92, B_92) dX8_isRing_155 rfl ?_ hP hD hS
                        try dsimp only
                        exact ⟨by rw [if_neg (fun h => c138 h.2.1)], hf⟩
                      · -- 138 not
                        have c138 : (∀ v, v < nv → dg fr to z ne v ≤ 2) := Classical.byContradiction (fun h => by rw [ex, if_neg h] at c138; exact c138 rfl)
                        refine lv_iload hx hb dX8_isRing_141 (lv_at hl 4 rfl) ?_
                        refine lv_iload hx hb dX8_isRing_143 (lv_at hl 3 rfl) ?_
                        refine lv_iconst (v := 1) hx hb dX8_isRing_145 (by decide) ?_
                        refine lv_isub hx hb dX8_isRing_146 ?_
                        refine lv_topi (fun x146 ex146 => ?_)
                        refine lv_icmp_ne (tgt := 154) hx hb dX8_isRing_147 (by decide) (fun c147 => ?_) (fun c147 => ?_)
                        · -- 147 taken
                          have c147 : ¬ (jRun fr to z ne).2.2.1 = 1 := fun h => c147 (by rw [ex146, ey]; rw [h] at ej; have e1 : nI 1 = 1 := rfl; grind)
                          refine lv_iconst (v := 0) hx hb dX8_isRing_154 (by decide) ?_
                          refine hret 155 ls _ _ 0 (I_92, A_92, B_92) dX8_isRing_155 rfl ?_ hP hD hS
                          try dsimp only
                          exact ⟨by rw [if_neg (fun h => c147 h.2.2)], hf⟩
                        · -- 147 not
                          have c147 : (jRun fr to z ne).2.2.1 = 1 := (nI_eq (by omega) (by omega)).mp (by rw [ex146, ey] at c147; have e1 : nI 1 = 1 := rfl; grind)
                          refine lv_iconst (v := 1) hx hb dX8_isRing_150 (by decide) ?_
                          refine lv_goto (tgt := 155) hx hb dX8_isRing_151 (by decide) ?_
                          refine hret 155 ls _ _ 1 (I_92, A_92, B_92) dX8_isRing_155 rfl ?_ hP hD hS
                          try dsimp only
                          exact ⟨by rw [if_pos ⟨c3, c138, c147⟩], hf⟩
                    · -- 98 not
                      rw [show I_92 2 = nI ne from gg.2.2.2.2.1, nI_leI (by omega) (by omega)] at c98
                      refine lv_lload_n hx hb dX8_isRing_101 rfl (lv_at hl 1 rfl) ?_
                      refine lv_iload hx hb dX8_isRing_102 (lv_at hl 5 rfl) ?_
                      refine lv_lshr hx hb dX8_isRing_104 rfl ?_
                      refine lv_topl (fun x104 ex104 => ?_)
                      refine lv_lconst (v := 1) hx hb dX8_isRing_105 (by decide) ?_
                      refine lv_land hx hb dX8_isRing_106 ?_
                      refine lv_topl (fun x106 ex106 => ?_)
                      refine lv_lconst (v := 1) hx hb dX8_isRing_107 (by decide) ?_
                      refine W.lcmp hx hb dX8_isRing_108 ?_
                      refine lv_if_ne (tgt := 131) hx hb dX8_isRing_109 (by decide) (fun c109 => ?_) (fun c109 => ?_)
                      · -- 109 taken
                        rw [lg_cmp_eq] at c109
                        rw [ex106, ex104, nm_bit1 hz (by omega)] at c109
                        obtain ⟨x131, ex131⟩ : ∃ y : Int32, y = nI i + (1) := ⟨_, rfl⟩
                        refine lv_iinc (v := x131) (lv' := [(6, .int x131), (0, .ref (R 0)), (1, .long (lN z)), (3, .int x), (4, .int y), (5, .int j)]) hx hb dX8_isRing_131 hl (k := 5) rfl (by rw [ex131]; rfl) (by decide) rfl (fun ls hl => ?_)
                        have ex131 : x131 = nI (i + 1) := by rw [ex131]; exact nI_1 i
                        subst ex131
                        refine lv_goto (tgt := 92) hx hb dX8_isRing_134 (by decide) ?_
                        exact ih92 (i + 1) j I_92 A_92 B_92 ls _ _ (by omega) ⟨by omega, by rw [jRun_out c109]; simp only [sz, ct0]; rw [if_neg c109, Nat.add_zero]; exact ej, by rw [jRun_out c109]; exact hq, hf⟩ hP hD hS (lv_sub hl [1, 2, 3, 4, 5, 0] rfl)
                      · -- 109 not
                        rw [lg_cmp_eq] at c109
                        rw [ex106, ex104, nm_bit1 hz (by omega)] at c109
                        refine lv_iload hx hb dX8_isRing_112 (lv_at hl 4 rfl) ?_
                        refine lv_aload_n hx hb dX8_isRing_114 rfl (lv_at hl 0 rfl) ?_
                        refine lv_iload hx hb dX8_isRing_115 (lv_at hl 5 rfl) ?_
                        refine ct_calli hD hS hA (va_runV (As := [.int (nI i)]) (rest := [.int j]) F ((k_X8_joins l dC dI cI cJ cZ cII cJJ R I_92 A_92 B_92 nv ne fr to wt i (jRun fr to z i) gg (by omega) hq (by have := jd_lt (fr := fr) (to := to) (s := z) (k := i); omega)) _) (cwV 1 hts gX8_isRing_X8_joins rfl rfl rfl (by decide +kernel) ⟨(Nat.le_of_ble_eq_true rfl), (Nat.le_of_ble_eq_true rfl)⟩) (ct_preV 0 8 hK hN hP hD rfl rfl) rfl rfl hl.1 rfl (lv_room (Nat.le_of_ble_eq_true rfl)) dX8_isRing_117 ⟨(Nat.le_of_ble_eq_true rfl), (Nat.le_of_ble_eq_true rfl)⟩) (fun r117 u117 H locs w117 hP hD hS => ?_)
                        obtain ⟨I117, A117, B117⟩ := u117
                        refine lv_if_eq (tgt := 127) hx hb dX8_isRing_120 (by decide) (fun c120 => ?_) (fun c120 => ?_)
                        · -- 120 taken
                          rw [w117.1] at c120
                          have c120 : (jRun fr to z i).1 (fr i) = (jRun fr to z i).1 (to i) := Classical.byContradiction (fun h => by rw [if_neg h] at c120; exact absurd c120 (by decide))
                          refine lv_iconst (v := 0) hx hb dX8_isRing_127 (by decide) ?_
                          refine lv_iadd hx hb dX8_isRing_128 ?_
                          refine lv_topi (fun x128 ex128 => ?_)
                          refine lv_istore (lv' := [(5, .int x128), (0, .ref (R 0)), (1, .long (lN z)), (3, .int x), (4, .int y), (6, .int (nI i))]) hx hb dX8_isRing_129 hl (by decide) rfl (fun ls hl => ?_)
                          obtain ⟨x131, ex131⟩ : ∃ y : Int32, y = nI i + (1) := ⟨_, rfl⟩
                          refine lv_iinc (v := x131) (lv' := [(6, .int x131), (5, .int x128), (0, .ref (R 0)), (1, .long (lN z)), (3, .int x), (4, .int y)]) hx hb dX8_isRing_131 hl (k := 5) rfl (by rw [ex131]; rfl) (by decide) rfl (fun ls hl => ?_)
                          have ex131 : x131 = nI (i + 1) := by rw [ex131]; exact nI_1 i
                          subst ex131
                          refine lv_goto (tgt := 92) hx hb dX8_isRing_134 (by decide) ?_
                          exact ih92 (i + 1) x128 I117 A117 B117 ls _ _ (by omega) ⟨by omega, by rw [jRun_in c109, jd_close c120, ex128, ← nI_1]; simp only [sz, ct0]; rw [if_pos c109, ← nI_1]; have ej : j + nI (jRun fr to z i).2.2.1 = nI (ct0 i fun e => z.testBit e) := ej; grind, by rw [jRun_in c109]; exact w117.2.1, hf.tr w117.2.2⟩ hP hD hS (lv_sub hl [2, 3, 4, 5, 1, 0] rfl)
                        · -- 120 not
                          rw [w117.1] at c120
                          have c120 : (jRun fr to z i).1 (fr i) ≠ (jRun fr to z i).1 (to i) := fun h => c120 (if_pos h)
                          refine lv_iconst (v := 1) hx hb dX8_isRing_123 (by decide) ?_
                          refine lv_goto (tgt := 128) hx hb dX8_isRing_124 (by decide) ?_
                          refine lv_iadd hx hb dX8_isRing_128 ?_
                          refine lv_topi (fun x128 ex128 => ?_)
                          refine lv_istore (lv' := [(5, .int x128), (0, .ref (R 0)), (1, .long (lN z)), (3, .int x), (4, .int y), (6, .int (nI i))]) hx hb dX8_isRing_129 hl (by decide) rfl (fun ls hl => ?_)
                          obtain ⟨x131, ex131⟩ : ∃ y : Int32, y = nI i + (1) := ⟨_, rfl⟩
                          refine lv_iinc (v := x131) (lv' := [(6, .int x131), (5, .int x128), (0, .ref (R 0)), (1, .long (lN z)), (3, .int x), (4, .int y)]) hx hb dX8_isRing_131 hl (k := 5) rfl (by rw [ex131]; rfl) (by decide) rfl (fun ls hl => ?_)
                          have ex131 : x131 = nI (i + 1) := by rw [ex131]; exact nI_1 i
                          subst ex131
                          refine lv_goto (tgt := 92) hx hb dX8_isRing_134 (by decide) ?_
                          exact ih92 (i + 1) x128 I117 A117 B117 ls _ _ (by omega) ⟨by omega, by rw [jRun_in c109, jd_join c120, ex128]; simp only [sz, ct0]; rw [if_pos c109, ← nI_1]; have ej : j + nI (jRun fr to z i).2.2.1 = nI (ct0 i fun e => z.testBit e) := ej; grind, by rw [jRun_in c109]; exact w117.2.1, hf.tr w117.2.2⟩ hP hD hS (lv_sub hl [2, 3, 4, 5, 1, 0] rfl)
                exact K92 _ 0 0 I83 A83 B83 ls _ _ (Nat.lt_succ_self _) ⟨by omega, rfl, w83.1 nv g.2.1, w83.2⟩ hP hD hS (lv_sub hl [2, 3, 4, 5, 1, 0] rfl)
              · -- 61 not
                rw [g5, nI_leI (by omega) (by omega)] at c61
                refine lv_iload hx hb dX8_isRing_64 (lv_at hl 3 rfl) ?_
                refine lv_lload_n hx hb dX8_isRing_66 rfl (lv_at hl 1 rfl) ?_
                refine lv_iload hx hb dX8_isRing_67 (lv_at hl 4 rfl) ?_
                refine lv_lshr hx hb dX8_isRing_69 rfl ?_
                refine lv_topl (fun x69 ex69 => ?_)
                refine lv_lconst (v := 1) hx hb dX8_isRing_70 (by decide) ?_
                refine lv_land hx hb dX8_isRing_71 ?_
                refine lv_topl (fun x71 ex71 => ?_)
                refine lv_l2i hx hb dX8_isRing_72 rfl ?_
                refine lv_topi (fun x72 ex72 => ?_)
                refine lv_iadd hx hb dX8_isRing_73 ?_
                refine lv_topi (fun x73 ex73 => ?_)
                refine lv_istore (lv' := [(4, .int x73), (0, .ref (R 0)), (1, .long (lN z)), (3, .int x), (5, .int (nI i))]) hx hb dX8_isRing_74 hl (by decide) rfl (fun ls hl => ?_)
                obtain ⟨x76, ex76⟩ : ∃ y : Int32, y = nI i + (1) := ⟨_, rfl⟩
                refine lv_iinc (v := x76) (lv' := [(5, .int x76), (4, .int x73), (0, .ref (R 0)), (1, .long (lN z)), (3, .int x)]) hx hb dX8_isRing_76 hl (k := 4) rfl (by rw [ex76]; rfl) (by decide) rfl (fun ls hl => ?_)
                have ex76 : x76 = nI (i + 1) := by rw [ex76]; exact nI_1 i
                subst ex76
                refine lv_goto (tgt := 55) hx hb dX8_isRing_79 (by decide) ?_
                exact ih55 (i + 1) x73 ls _ _ (by omega) ⟨by omega, by rw [ex73, ey, ex72, ex71, ex69, nm_bit hz (by omega), nm_tb, lN_i, nI_add]; rfl⟩ hP hD hS (lv_sub hl [2, 3, 4, 1, 0] rfl)
          exact K55 _ 0 0 ls _ _ (Nat.lt_succ_self _) ⟨by omega, rfl⟩ hP hD hS (lv_sub hl [2, 3, 4, 1, 0] rfl)
        · -- 19 not
          rw [g4, nI_leI (by omega) (by omega)] at c19
          refine lv_iload_n hx hb dX8_isRing_22 rfl (lv_at hl 2 rfl) ?_
          refine lv_if_eq (tgt := 41) hx hb dX8_isRing_23 (by decide) (fun c23 => ?_) (fun c23 => ?_)
          · -- 23 taken
            have c23 : ¬ (∀ v, v < i → dg fr to z ne v ≤ 2) := fun h => by rw [ex, if_pos h] at c23; exact absurd c23 (by decide)
            refine lv_iconst (v := 0) hx hb dX8_isRing_41 (by decide) ?_
            refine lv_istore_n (lv' := [(3, .int 0), (0, .ref (R 0)), (1, .long (lN z)), (4, .int (nI i))]) hx hb dX8_isRing_42 rfl hl (by decide) rfl (fun ls hl => ?_)
            obtain ⟨x43, ex43⟩ : ∃ y : Int32, y = nI i + (1) := ⟨_, rfl⟩
            refine lv_iinc (v := x43) (lv' := [(4, .int x43), (3, .int 0), (0, .ref (R 0)), (1, .long (lN z))]) hx hb dX8_isRing_43 hl (k := 3) rfl (by rw [ex43]; rfl) (by decide) rfl (fun ls hl => ?_)
            have ex43 : x43 = nI (i + 1) := by rw [ex43]; exact nI_1 i
            subst ex43
            refine lv_goto (tgt := 13) hx hb dX8_isRing_46 (by decide) ?_
            exact ih13 (i + 1) 0 ls _ _ (by omega) ⟨by omega, by rw [if_neg (fun h => c23 (fun v hv => h v (by omega)))]⟩ hP hD hS (lv_sub hl [2, 3, 1, 0] rfl)
          · -- 23 not
            have c23 : (∀ v, v < i → dg fr to z ne v ≤ 2) := Classical.byContradiction (fun h => by rw [ex, if_neg h] at c23; exact c23 rfl)
            refine lv_aload_n hx hb dX8_isRing_26 rfl (lv_at hl 0 rfl) ?_
            refine lv_lload_n hx hb dX8_isRing_27 rfl (lv_at hl 1 rfl) ?_
            refine lv_iload hx hb dX8_isRing_28 (lv_at hl 3 rfl) ?_
            refine ct_calli hD hS hA (va_runV (As := [.long (lN z), .int (nI i)]) (rest := []) F ((k_X8_endsAt l dC dI cI cJ cZ cII cJJ R I A B nv ne fr to wt z i g hz (by omega)) _) (cwV 2 hts gX8_isRing_X8_endsAt rfl rfl rfl (by decide +kernel) ⟨(Nat.le_of_ble_eq_true rfl), (Nat.le_of_ble_eq_true rfl)⟩) (ct_preV 0 8 hK hN hP hD rfl rfl) rfl rfl hl.1 rfl (lv_room (Nat.le_of_ble_eq_true rfl)) dX8_isRing_30 ⟨(Nat.le_of_ble_eq_true rfl), (Nat.le_of_ble_eq_true rfl)⟩) (fun r30 u30 H locs w30 hP hD hS => ?_)
            obtain ⟨w30, rfl⟩ := w30
            have hdl := dg_le fr to z i ne
            refine lv_iconst (v := 2) hx hb dX8_isRing_33 (by decide) ?_
            refine lv_icmp_gt (tgt := 41) hx hb dX8_isRing_34 (by decide) (fun c34 => ?_) (fun c34 => ?_)
            · -- 34 taken
              rw [w30, show (2 : Int32) = nI 2 from rfl, nI_ltI (by omega) (by omega)] at c34
              have c34 : ¬ dg fr to z ne i ≤ 2 := by omega
              refine lv_iconst (v := 0) hx hb dX8_isRing_41 (by decide) ?_
              refine lv_istore_n (lv' := [(3, .int 0), (0, .ref (R 0)), (1, .long (lN z)), (4, .int (nI i))]) hx hb dX8_isRing_42 rfl hl (by decide) rfl (fun ls hl => ?_)
              obtain ⟨x43, ex43⟩ : ∃ y : Int32, y = nI i + (1) := ⟨_, rfl⟩
              refine lv_iinc (v := x43) (lv' := [(4, .int x43), (3, .int 0), (0, .ref (R 0)), (1, .long (lN z))]) hx hb dX8_isRing_43 hl (k := 3) rfl (by rw [ex43]; rfl) (by decide) rfl (fun ls hl => ?_)
              have ex43 : x43 = nI (i + 1) := by rw [ex43]; exact nI_1 i
              subst ex43
              refine lv_goto (tgt := 13) hx hb dX8_isRing_46 (by decide) ?_
              exact ih13 (i + 1) 0 ls _ _ (by omega) ⟨by omega, by rw [if_neg (fun h => c34 (h i (by omega)))]⟩ hP hD hS (lv_sub hl [2, 3, 1, 0] rfl)
            · -- 34 not
              rw [w30, show (2 : Int32) = nI 2 from rfl, nI_ltI (by omega) (by omega)] at c34
              have c34 : dg fr to z ne i ≤ 2 := by omega
              refine lv_iconst (v := 1) hx hb dX8_isRing_37 (by decide) ?_
              refine lv_goto (tgt := 42) hx hb dX8_isRing_38 (by decide) ?_
              refine lv_istore_n (lv' := [(3, .int 1), (0, .ref (R 0)), (1, .long (lN z)), (4, .int (nI i))]) hx hb dX8_isRing_42 rfl hl (by decide) rfl (fun ls hl => ?_)
              obtain ⟨x43, ex43⟩ : ∃ y : Int32, y = nI i + (1) := ⟨_, rfl⟩
              refine lv_iinc (v := x43) (lv' := [(4, .int x43), (3, .int 1), (0, .ref (R 0)), (1, .long (lN z))]) hx hb dX8_isRing_43 hl (k := 3) rfl (by rw [ex43]; rfl) (by decide) rfl (fun ls hl => ?_)
              have ex43 : x43 = nI (i + 1) := by rw [ex43]; exact nI_1 i
              subst ex43
              refine lv_goto (tgt := 13) hx hb dX8_isRing_46 (by decide) ?_
              exact ih13 (i + 1) 1 ls _ _ (by omega) ⟨by omega, by rw [if_pos (bll_succ.mpr ⟨c23, c34⟩)]⟩ hP hD hS (lv_sub hl [2, 3, 1, 0] rfl)
    exact K13 _ 0 1 ls _ _ (Nat.lt_succ_self _) ⟨by omega, by rw [if_pos (fun v hv => absurd hv (Nat.not_lt_zero _))]⟩ hP hD hS (lv_sub hl [2, 3, 1, 0] rfl)
  · -- 3 not
    rw [lg_cmp_eq] at c3
    have c3 : z = 0 := (pk_lEQ (b := 0) (by omega) (by omega)).mp c3
    refine lv_iconst (v := 0) hx hb dX8_isRing_6 (by decide) ?_
    refine hret 7 ls _ _ 0 (I, A, B) dX8_isRing_7 rfl ?_ hP hD hS
    try dsimp only
    exact ⟨by rw [if_neg (fun h => h.1 c3)], fJ.rf⟩
