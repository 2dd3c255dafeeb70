theorem wsL_c79 : Cond.constantLong RL 79 4294967295 ∈ wsL_law := by decide +kernel
set_option maxHeartbeats 8000000 in
set_option maxRecDepth 100000 in
theorem law_reset {p : Program} {l : Launch} {e : Env} {s : State} {m : MethodId} {below : List Frame} {meth : Method} {c : Code} {b L : Nat} {xs : Nat → Int32} {dC : Nat → ClassId} {dI : Nat → Nat → Nat} {cI cJ cZ cII cJJ : ClassId} {Q : State → Prop} (LC : lwC p l s m meth c b L xs dC dI cI cJ cZ cII cJJ) (R R2 : Nat → Nat) (o j : Nat) (hj : j + 4 ≤ L) (uH : sgH) (w : Nat → Int64) (uM : sgM) (hsy : SY uH uM) (cells slots : Nat) (hc : cells + 2 ≤ 601024) (hsl : slots + 12 ≤ 7293034) (H : Heap) (locs : List Loc) (ls : Array Slot) (hP : va_P (dC, dI) vwCl (LW cI cJ cII cJJ R o (uH, w) ++ MW cI cJ cZ R2 uM) H) (hD : va_D (fun q => s.heap.size ≤ q) (LW cI cJ cII cJJ R o (uH, w) ++ MW cI cJ cZ R2 uM)) (hS : va_S (fun q => s.heap.size ≤ q) s.heap H locs) (hl : lv_has ls 8 [(0, .ref b), (1, .ref (R 0)), (2, .ref (R2 0)), (3, .ref o), (4, .int (nI j))])
    (kk : ∀ (ls : Array Slot) (H : Heap) (locs : List Loc) (uH : sgH) (w : Nat → Int64) (uM : sgM), SY uH uM → va_P (dC, dI) vwCl (LW cI cJ cII cJJ R o (uH, w) ++ MW cI cJ cZ R2 uM) H → va_D (fun q => s.heap.size ≤ q) (LW cI cJ cII cJJ R o (uH, w) ++ MW cI cJ cZ R2 uM) → va_S (fun q => s.heap.size ≤ q) s.heap H locs → lv_has ls 8 [(0, .ref b), (1, .ref (R 0)), (2, .ref (R2 0)), (3, .ref o), (4, .int (nI j))] → W p l e room_1 s m #[Value.ref b] below meth c H locs (cells + 2) (slots + 12) Q (F0 m 1081 ls [])) : W p l e room_1 s m #[Value.ref b] below meth c H locs cells slots Q (F0 m 112 ls []) := by
  obtain ⟨F, hK, hN, hXx, hX, hbl, hlt, hL⟩ := LC
  have hx := F.1
  have hb := F.2.1
  have hown : s.vm.findClass RL = some m.cls := F.2.2.2.1
  have hts := F.2.2.2.2
  have hA : ∀ q : Nat, s.heap.size ≤ q → (fun q => s.heap.size ≤ q) q := fun _ h => h
  have hbA : ¬ (fun q => s.heap.size ≤ q) b := Nat.not_le.mpr hbl
  have hcl : Cond.constantLong RL 79 4294967295 ∈ wsL_law := wsL_c79
  obtain ⟨nv, ne, fr, to, wt, Ln, li, row, sy⟩ := hsy
  refine lv_aload_n hx hb dL_law_112 rfl (lv_at hl 1 rfl) ?_
  refine lv_aload_n hx hb dL_law_113 rfl (lv_at hl 0 rfl) ?_
  refine lv_iload hx hb dL_law_114 (lv_at hl 4 rfl) ?_
  refine lv_iconst (v := 1) hx hb dL_law_116 (by decide) ?_
  refine lv_iadd hx hb dL_law_117 ?_
  refine lv_topi (fun x117 ex117 => ?_)
  have ex117 : x117 = nI (j + 1) := by rw [ex117]; exact nI_add j 1
  subst ex117
  refine va_sld hx hb hX hbl hbA hS (vp_in_nI (show j + 1 < L by omega) (by omega)) dL_law_118 ?_
  rw [nI_clamp (show j + 1 < 2 ^ 31 by omega)]
  refine lv_aload_n hx hb dL_law_119 rfl (lv_at hl 3 rfl) ?_
  refine fx_calli (Wd := LW cI cJ cII cJJ R o) (u := (uH, w)) (wr := MW cI cJ cZ R2 uM) hP hD hS hA (vx_runSX (As := [.ref (R 0), .int (xs (j + 1)), .ref o]) (rest := []) F (k_L_reset l dC dI cI cJ cZ cII cJJ R o (xs (j + 1)) uH w _ _ (k_X7_reset l dC dI cI cJ cZ cII cJJ R hlt uH.1 uH.2.1 uH.2.2.1 uH.2.2.2.1 uH.2.2.2.2 (xs (j + 1))) (fun E u h => h.1) _) (vx_cwSW 3 hts gL_law_L_reset rfl rfl rfl (by decide +kernel) ⟨(Nat.le_of_ble_eq_true rfl), (Nat.le_of_ble_eq_true rfl)⟩) (cx_preS hK hN hXx hS hA (P_l hP) (D_l hD)) rfl rfl hl.1 rfl (lv_room (Nat.le_of_ble_eq_true rfl)) dL_law_120 ⟨hc, hsl⟩) (fun _ _ _ _ _ _ _ _ _ h9 => h9.elim) (fun r120 u120 H locs w120 hP hD hS => ?_)
  refine lv_istore (lv' := [(5, .int r120), (0, .ref b), (1, .ref (R 0)), (2, .ref (R2 0)), (3, .ref o), (4, .int (nI j))]) hx hb dL_law_123 hl (by decide) rfl (fun ls hl => ?_)
  refine lv_aload_n hx hb dL_law_125 rfl (lv_at hl 3 rfl) ?_
  refine lv_aload_n hx hb dL_law_126 rfl (lv_at hl 1 rfl) ?_
  refine lv_iload hx hb dL_law_127 (lv_at hl 5 rfl) ?_
  refine lv_iconst (v := 1) hx hb dL_law_129 (by decide) ?_
  refine lv_iadd hx hb dL_law_130 ?_
  refine lv_topi (fun x130 ex130 => ?_)
  have ex130 : x130 = nI (j + 1) := by rw [ex130]; exact nI_add j 1
  subst ex130
  refine va_sld hx hb hX hbl hbA hS (vp_in_nI (show j + 1 < L by omega) (by omega)) dL_law_131 ?_
  rw [nI_clamp (show j + 1 < 2 ^ 31 by omega)]
  have hP := P_sw hP
  have hD := D_sw hD
  refine ft_calli (Wd := MW cI cJ cZ R2) (u := uM) (wr := LW cI cJ cII cJJ R o u120) hP hD hS hA (va_runV (As := [.int (xs (j + 1))]) (rest := []) F (k_X8_reset l dC dI cI cJ cZ cII cJJ R2 uM.1 uM.2.1 uM.2.2 (xs (j + 1)) _) (cwV 1 hts gL_law_X8_reset rfl rfl rfl (by decide +kernel) ⟨(Nat.le_of_ble_eq_true rfl), (Nat.le_of_ble_eq_true rfl)⟩) (ct_preV 0 8 hK hN (P_l hP) (D_l hD) rfl rfl) rfl rfl hl.1 rfl (lv_room (Nat.le_of_ble_eq_true rfl)) dL_law_132 ⟨hc, hsl⟩) (fun r132 m132 H locs w132 hP hD hS => ?_)
  have hP := P_sw hP
  have hD := D_sw hD
  refine lv_istore (lv' := [(6, .int r132), (5, .int r120), (0, .ref b), (1, .ref (R 0)), (2, .ref (R2 0)), (3, .ref o), (4, .int (nI j))]) hx hb dL_law_135 hl (by decide) rfl (fun ls hl => ?_)
  refine lv_aload_n hx hb dL_law_137 rfl (lv_at hl 4 rfl) ?_
  have hP := P_sw hP
  have hD := D_sw hD
  refine ft_calli (Wd := MW cI cJ cZ R2) (u := m132) (wr := LW cI cJ cII cJJ R o u120) hP hD hS hA (va_runV (As := []) (rest := []) F (k_X8_thrown l dC dI cI cJ cZ cII cJJ R2 m132.1 m132.2.1 m132.2.2  _) (cwV 0 hts gL_law_X8_thrown rfl rfl rfl (by decide +kernel) ⟨(Nat.le_of_ble_eq_true rfl), (Nat.le_of_ble_eq_true rfl)⟩) (ct_preV 0 8 hK hN (P_l hP) (D_l hD) rfl rfl) rfl rfl hl.1 rfl (lv_room (Nat.le_of_ble_eq_true rfl)) dL_law_138 ⟨hc, hsl⟩) (fun r138 m138 H locs w138 hP hD hS => ?_)
  have hP := P_sw hP
  have hD := D_sw hD
  obtain ⟨w138, rfl⟩ := w138
  have tie := tie_reset sy w120 w132
  refine lv_iload hx hb dL_law_141 (lv_at hl 1 rfl) ?_
  refine lv_icmp_eq (tgt := 148) hx hb dL_law_143 (by decide) (fun c143 => ?_) (fun c143 => ?_)
  · -- alike
    refine lv_iload hx hb dL_law_148 (lv_at hl 1 rfl) ?_
    refine lv_if_ne (tgt := 165) hx hb dL_law_150 (by decide) (fun c150 => ?_) (fun c150 => ?_)
    · -- it threw
      refine lv_goto (tgt := 1081) hx hb dL_law_165 (by decide) ?_
      exact kk ls H locs u120.1 u120.2 m132 tie.2.2 hP hD hS (lv_sub hl [2, 3, 4, 5, 6] rfl)
    · -- it did not
      refine lv_aload_n hx hb dL_law_153 rfl (lv_at hl 5 rfl) ?_
      refine lv_iconst (v := 0) hx hb dL_law_154 (by decide) ?_
      have h8 : vp_in 0 1 := vp_in_nI (n := 0) (N := 1) (by decide) (by decide)
      refine va_lald hx hb hK hP 55 1 rfl rfl h8 dL_law_155 ?_
      refine lv_topl (fun x155 ex155 => ?_)
      have ex155 : x155 = u120.2 0 := ex155
      refine lv_iload hx hb dL_law_156 (lv_at hl 0 rfl) ?_
      refine lv_i2l hx hb dL_law_158 rfl ?_
      refine lv_topl (fun x158 ex158 => ?_)
      refine W.lcmp hx hb dL_law_159 ?_
      refine lv_if_eq (tgt := 165) hx hb dL_law_160 (by decide) (fun c160 => ?_) (fun c160 => ?_)
      · -- alike
        refine lv_goto (tgt := 1081) hx hb dL_law_165 (by decide) ?_
        exact kk ls H locs u120.1 u120.2 m132 tie.2.2 hP hD hS (lv_sub hl [2, 3, 4, 5, 6] rfl)
      · rw [lg_cmp_eq] at c160
        exact absurd (ex155.trans ((tie.2.1 c150).trans ex158.symm)) c160
  · exact absurd (w138.trans tie.1) c143
set_option maxHeartbeats 8000000 in
set_option maxRecDepth 100000 in
theorem law_edge {p : Program} {l : Launch} {e : Env} {s : State} {m : MethodId} {below : List Frame} {meth : Method} {c : Code} {b L : Nat} {xs : Nat → Int32} {dC : Nat → ClassId} {dI : Nat → Nat → Nat} {cI cJ cZ cII cJJ : ClassId} {Q : State → Prop} (LC : lwC p l s m meth c b L xs dC dI cI cJ cZ cII cJJ) (R R2 : Nat → Nat) (o j : Nat) (hj : j + 4 ≤ L) (uH : sgH) (w : Nat → Int64) (uM : sgM) (hsy : SY uH uM) (cells slots : Nat) (hc : cells + 2 ≤ 601024) (hsl : slots + 12 ≤ 7293034) (H : Heap) (locs : List Loc) (ls : Array Slot) (hP : va_P (dC, dI) vwCl (LW cI cJ cII cJJ R o (uH, w) ++ MW cI cJ cZ R2 uM) H) (hD : va_D (fun q => s.heap.size ≤ q) (LW cI cJ cII cJJ R o (uH, w) ++ MW cI cJ cZ R2 uM)) (hS : va_S (fun q => s.heap.size ≤ q) s.heap H locs) (hl : lv_has ls 8 [(0, .ref b), (1, .ref (R 0)), (2, .ref (R2 0)), (3, .ref o), (4, .int (nI j))])
    (kk : ∀ (ls : Array Slot) (H : Heap) (locs : List Loc) (uH : sgH) (w : Nat → Int64) (uM : sgM), SY uH uM → va_P (dC, dI) vwCl (LW cI cJ cII cJJ R o (uH, w) ++ MW cI cJ cZ R2 uM) H → va_D (fun q => s.heap.size ≤ q) (LW cI cJ cII cJJ R o (uH, w) ++ MW cI cJ cZ R2 uM) → va_S (fun q => s.heap.size ≤ q) s.heap H locs → lv_has ls 8 [(0, .ref b), (1, .ref (R 0)), (2, .ref (R2 0)), (3, .ref o), (4, .int (nI j))] → W p l e room_1 s m #[Value.ref b] below meth c H locs (cells + 2) (slots + 12) Q (F0 m 1081 ls [])) : W p l e room_1 s m #[Value.ref b] below meth c H locs cells slots Q (F0 m 168 ls []) := by
  obtain ⟨F, hK, hN, hXx, hX, hbl, hlt, hL⟩ := LC
  have hx := F.1
  have hb := F.2.1
  have hown : s.vm.findClass RL = some m.cls := F.2.2.2.1
  have hts := F.2.2.2.2
  have hA : ∀ q : Nat, s.heap.size ≤ q → (fun q => s.heap.size ≤ q) q := fun _ h => h
  have hbA : ¬ (fun q => s.heap.size ≤ q) b := Nat.not_le.mpr hbl
  have hcl : Cond.constantLong RL 79 4294967295 ∈ wsL_law := wsL_c79
  obtain ⟨nv, ne, fr, to, wt, Ln, li, row, sy⟩ := hsy
  refine lv_aload_n hx hb dL_law_168 rfl (lv_at hl 1 rfl) ?_
  refine lv_aload_n hx hb dL_law_169 rfl (lv_at hl 0 rfl) ?_
  refine lv_iload hx hb dL_law_170 (lv_at hl 4 rfl) ?_
  refine lv_iconst (v := 1) hx hb dL_law_172 (by decide) ?_
  refine lv_iadd hx hb dL_law_173 ?_
  refine lv_topi (fun x173 ex173 => ?_)
  have ex173 : x173 = nI (j + 1) := by rw [ex173]; exact nI_add j 1
  subst ex173
  refine va_sld hx hb hX hbl hbA hS (vp_in_nI (show j + 1 < L by omega) (by omega)) dL_law_174 ?_
  rw [nI_clamp (show j + 1 < 2 ^ 31 by omega)]
  refine lv_aload_n hx hb dL_law_175 rfl (lv_at hl 0 rfl) ?_
  refine lv_iload hx hb dL_law_176 (lv_at hl 4 rfl) ?_
  refine lv_iconst (v := 2) hx hb dL_law_178 (by decide) ?_
  refine lv_iadd hx hb dL_law_179 ?_
  refine lv_topi (fun x179 ex179 => ?_)
  have ex179 : x179 = nI (j + 2) := by rw [ex179]; exact nI_add j 2
  subst ex179
  refine va_sld hx hb hX hbl hbA hS (vp_in_nI (show j + 2 < L by omega) (by omega)) dL_law_180 ?_
  rw [nI_clamp (show j + 2 < 2 ^ 31 by omega)]
  refine lv_aload_n hx hb dL_law_181 rfl (lv_at hl 0 rfl) ?_
  refine lv_iload hx hb dL_law_182 (lv_at hl 4 rfl) ?_
  refine lv_iconst (v := 3) hx hb dL_law_184 (by decide) ?_
  refine lv_iadd hx hb dL_law_185 ?_
  refine lv_topi (fun x185 ex185 => ?_)
  have ex185 : x185 = nI (j + 3) := by rw [ex185]; exact nI_add j 3
  subst ex185
  refine va_sld hx hb hX hbl hbA hS (vp_in_nI (show j + 3 < L by omega) (by omega)) dL_law_186 ?_
  rw [nI_clamp (show j + 3 < 2 ^ 31 by omega)]
  refine lv_aload_n hx hb dL_law_187 rfl (lv_at hl 3 rfl) ?_
  refine fx_calli (Wd := LW cI cJ cII cJJ R o) (u := (uH, w)) (wr := MW cI cJ cZ R2 uM) hP hD hS hA (vx_runSX (As := [.ref (R 0), .int (xs (j + 1)), .int (xs (j + 2)), .int (xs (j + 3)), .ref o]) (rest := []) F (k_L_edge l dC dI cI cJ cZ cII cJJ R o (xs (j + 1)) (xs (j + 2)) (xs (j + 3)) uH w _ _ (k_X7_edge l dC dI cI cJ cZ cII cJJ R hlt uH.1 uH.2.1 uH.2.2.1 uH.2.2.2.1 uH.2.2.2.2 nv ne fr to wt (xs (j + 1)) (xs (j + 2)) (xs (j + 3)) sy.1 sy.2.2.1) (fun E u h => h.elim (fun h => .inl h.1) (fun h => .inr h.1)) _) (vx_cwSW 5 hts gL_law_L_edge rfl rfl rfl (by decide +kernel) ⟨(Nat.le_of_ble_eq_true rfl), (Nat.le_of_ble_eq_true rfl)⟩) (cx_preS hK hN hXx hS hA (P_l hP) (D_l hD)) rfl rfl hl.1 rfl (lv_room (Nat.le_of_ble_eq_true rfl)) dL_law_188 ⟨hc, hsl⟩) (fun _ _ _ _ _ _ _ _ _ h9 => h9.elim) (fun r188 u188 H locs w188 hP hD hS => ?_)
  refine lv_istore (lv' := [(5, .int r188), (0, .ref b), (1, .ref (R 0)), (2, .ref (R2 0)), (3, .ref o), (4, .int (nI j))]) hx hb dL_law_191 hl (by decide) rfl (fun ls hl => ?_)
  refine lv_aload_n hx hb dL_law_193 rfl (lv_at hl 3 rfl) ?_
  refine lv_aload_n hx hb dL_law_194 rfl (lv_at hl 1 rfl) ?_
  refine lv_iload hx hb dL_law_195 (lv_at hl 5 rfl) ?_
  refine lv_iconst (v := 1) hx hb dL_law_197 (by decide) ?_
  refine lv_iadd hx hb dL_law_198 ?_
  refine lv_topi (fun x198 ex198 => ?_)
  have ex198 : x198 = nI (j + 1) := by rw [ex198]; exact nI_add j 1
  subst ex198
  refine va_sld hx hb hX hbl hbA hS (vp_in_nI (show j + 1 < L by omega) (by omega)) dL_law_199 ?_
  rw [nI_clamp (show j + 1 < 2 ^ 31 by omega)]
  refine lv_aload_n hx hb dL_law_200 rfl (lv_at hl 1 rfl) ?_
  refine lv_iload hx hb dL_law_201 (lv_at hl 5 rfl) ?_
  refine lv_iconst (v := 2) hx hb dL_law_203 (by decide) ?_
  refine lv_iadd hx hb dL_law_204 ?_
  refine lv_topi (fun x204 ex204 => ?_)
  have ex204 : x204 = nI (j + 2) := by rw [ex204]; exact nI_add j 2
  subst ex204
  refine va_sld hx hb hX hbl hbA hS (vp_in_nI (show j + 2 < L by omega) (by omega)) dL_law_205 ?_
  rw [nI_clamp (show j + 2 < 2 ^ 31 by omega)]
  refine lv_aload_n hx hb dL_law_206 rfl (lv_at hl 1 rfl) ?_
  refine lv_iload hx hb dL_law_207 (lv_at hl 5 rfl) ?_
  refine lv_iconst (v := 3) hx hb dL_law_209 (by decide) ?_
  refine lv_iadd hx hb dL_law_210 ?_
  refine lv_topi (fun x210 ex210 => ?_)
  have ex210 : x210 = nI (j + 3) := by rw [ex210]; exact nI_add j 3
  subst ex210
  refine va_sld hx hb hX hbl hbA hS (vp_in_nI (show j + 3 < L by omega) (by omega)) dL_law_211 ?_
  rw [nI_clamp (show j + 3 < 2 ^ 31 by omega)]
  have hP := P_sw hP
  have hD := D_sw hD
  refine ft_calli (Wd := MW cI cJ cZ R2) (u := uM) (wr := LW cI cJ cII cJJ R o u188) hP hD hS hA (va_runV (As := [.int (xs (j + 1)), .int (xs (j + 2)), .int (xs (j + 3))]) (rest := []) F (k_X8_edge l dC dI cI cJ cZ cII cJJ R2 uM.1 uM.2.1 uM.2.2 nv ne fr to wt (xs (j + 1)) (xs (j + 2)) (xs (j + 3)) sy.2.1 _) (cwV 3 hts gL_law_X8_edge rfl rfl rfl (by decide +kernel) ⟨(Nat.le_of_ble_eq_true rfl), (Nat.le_of_ble_eq_true rfl)⟩) (ct_preV 0 8 hK hN (P_l hP) (D_l hD) rfl rfl) rfl rfl hl.1 rfl (lv_room (Nat.le_of_ble_eq_true rfl)) dL_law_212 ⟨hc, hsl⟩) (fun r212 m212 H locs w212 hP hD hS => ?_)
  have hP := P_sw hP
  have hD := D_sw hD
  refine lv_istore (lv' := [(6, .int r212), (5, .int r188), (0, .ref b), (1, .ref (R 0)), (2, .ref (R2 0)), (3, .ref o), (4, .int (nI j))]) hx hb dL_law_215 hl (by decide) rfl (fun ls hl => ?_)
  refine lv_aload_n hx hb dL_law_217 rfl (lv_at hl 4 rfl) ?_
  have hP := P_sw hP
  have hD := D_sw hD
  refine ft_calli (Wd := MW cI cJ cZ R2) (u := m212) (wr := LW cI cJ cII cJJ R o u188) hP hD hS hA (va_runV (As := []) (rest := []) F (k_X8_thrown l dC dI cI cJ cZ cII cJJ R2 m212.1 m212.2.1 m212.2.2  _) (cwV 0 hts gL_law_X8_thrown rfl rfl rfl (by decide +kernel) ⟨(Nat.le_of_ble_eq_true rfl), (Nat.le_of_ble_eq_true rfl)⟩) (ct_preV 0 8 hK hN (P_l hP) (D_l hD) rfl rfl) rfl rfl hl.1 rfl (lv_room (Nat.le_of_ble_eq_true rfl)) dL_law_218 ⟨hc, hsl⟩) (fun r218 m218 H locs w218 hP hD hS => ?_)
  have hP := P_sw hP
  have hD := D_sw hD
  obtain ⟨w218, rfl⟩ := w218
  have tie := tie_edge sy w188 w212
  refine lv_iload hx hb dL_law_221 (lv_at hl 1 rfl) ?_
  refine lv_icmp_eq (tgt := 228) hx hb dL_law_223 (by decide) (fun c223 => ?_) (fun c223 => ?_)
  · -- alike
    refine lv_iload hx hb dL_law_228 (lv_at hl 1 rfl) ?_
    refine lv_if_ne (tgt := 245) hx hb dL_law_230 (by decide) (fun c230 => ?_) (fun c230 => ?_)
    · -- it threw
      refine lv_goto (tgt := 1081) hx hb dL_law_245 (by decide) ?_
      exact kk ls H locs u188.1 u188.2 m212 tie.2.2 hP hD hS (lv_sub hl [2, 3, 4, 5, 6] rfl)
    · -- it did not
      refine lv_aload_n hx hb dL_law_233 rfl (lv_at hl 5 rfl) ?_
      refine lv_iconst (v := 0) hx hb dL_law_234 (by decide) ?_
      have h8 : vp_in 0 1 := vp_in_nI (n := 0) (N := 1) (by decide) (by decide)
      refine va_lald hx hb hK hP 55 1 rfl rfl h8 dL_law_235 ?_
      refine lv_topl (fun x235 ex235 => ?_)
      have ex235 : x235 = u188.2 0 := ex235
      refine lv_iload hx hb dL_law_236 (lv_at hl 0 rfl) ?_
      refine lv_i2l hx hb dL_law_238 rfl ?_
      refine lv_topl (fun x238 ex238 => ?_)
      refine W.lcmp hx hb dL_law_239 ?_
      refine lv_if_eq (tgt := 245) hx hb dL_law_240 (by decide) (fun c240 => ?_) (fun c240 => ?_)
      · -- alike
        refine lv_goto (tgt := 1081) hx hb dL_law_245 (by decide) ?_
        exact kk ls H locs u188.1 u188.2 m212 tie.2.2 hP hD hS (lv_sub hl [2, 3, 4, 5, 6] rfl)
      · rw [lg_cmp_eq] at c240
        exact absurd (ex235.trans ((tie.2.1 c230).trans ex238.symm)) c240
  · exact absurd (w218.trans tie.1) c223
set_option maxHeartbeats 8000000 in
set_option maxRecDepth 100000 in
theorem law_drop {p : Program} {l : Launch} {e : Env} {s : State} {m : MethodId} {below : List Frame} {meth : Method} {c : Code} {b L : Nat} {xs : Nat → Int32} {dC : Nat → ClassId} {dI : Nat → Nat → Nat} {cI cJ cZ cII cJJ : ClassId} {Q : State → Prop} (LC : lwC p l s m meth c b L xs dC dI cI cJ cZ cII cJJ) (R R2 : Nat → Nat) (o j : Nat) (hj : j + 4 ≤ L) (uH : sgH) (w : Nat → Int64) (uM : sgM) (hsy : SY uH uM) (cells slots : Nat) (hc : cells + 2 ≤ 601024) (hsl : slots + 12 ≤ 7293034) (H : Heap) (locs : List Loc) (ls : Array Slot) (hP : va_P (dC, dI) vwCl (LW cI cJ cII cJJ R o (uH, w) ++ MW cI cJ cZ R2 uM) H) (hD : va_D (fun q => s.heap.size ≤ q) (LW cI cJ cII cJJ R o (uH, w) ++ MW cI cJ cZ R2 uM)) (hS : va_S (fun q => s.heap.size ≤ q) s.heap H locs) (hl : lv_has ls 8 [(0, .ref b), (1, .ref (R 0)), (2, .ref (R2 0)), (3, .ref o), (4, .int (nI j))])
    (kk : ∀ (ls : Array Slot) (H : Heap) (locs : List Loc) (uH : sgH) (w : Nat → Int64) (uM : sgM), SY uH uM → va_P (dC, dI) vwCl (LW cI cJ cII cJJ R o (uH, w) ++ MW cI cJ cZ R2 uM) H → va_D (fun q => s.heap.size ≤ q) (LW cI cJ cII cJJ R o (uH, w) ++ MW cI cJ cZ R2 uM) → va_S (fun q => s.heap.size ≤ q) s.heap H locs → lv_has ls 8 [(0, .ref b), (1, .ref (R 0)), (2, .ref (R2 0)), (3, .ref o), (4, .int (nI j))] → W p l e room_1 s m #[Value.ref b] below meth c H locs (cells + 2) (slots + 12) Q (F0 m 1081 ls [])) : W p l e room_1 s m #[Value.ref b] below meth c H locs cells slots Q (F0 m 248 ls []) := by
  obtain ⟨F, hK, hN, hXx, hX, hbl, hlt, hL⟩ := LC
  have hx := F.1
  have hb := F.2.1
  have hown : s.vm.findClass RL = some m.cls := F.2.2.2.1
  have hts := F.2.2.2.2
  have hA : ∀ q : Nat, s.heap.size ≤ q → (fun q => s.heap.size ≤ q) q := fun _ h => h
  have hbA : ¬ (fun q => s.heap.size ≤ q) b := Nat.not_le.mpr hbl
  have hcl : Cond.constantLong RL 79 4294967295 ∈ wsL_law := wsL_c79
  obtain ⟨nv, ne, fr, to, wt, Ln, li, row, sy⟩ := hsy
  refine lv_aload_n hx hb dL_law_248 rfl (lv_at hl 1 rfl) ?_
  refine lv_aload_n hx hb dL_law_249 rfl (lv_at hl 3 rfl) ?_
  refine fx_calli (Wd := LW cI cJ cII cJJ R o) (u := (uH, w)) (wr := MW cI cJ cZ R2 uM) hP hD hS hA (vx_runSX (As := [.ref (R 0), .ref o]) (rest := []) F (k_L_drop l dC dI cI cJ cZ cII cJJ R o  uH w _ _ (k_X7_drop l dC dI cI cJ cZ cII cJJ R hlt uH.1 uH.2.1 uH.2.2.1 uH.2.2.2.1 uH.2.2.2.2 ne sy.1.2.2.2.2.1 sy.1.2.2.1) (fun E u h => h.1) _) (vx_cwSW 2 hts gL_law_L_drop rfl rfl rfl (by decide +kernel) ⟨(Nat.le_of_ble_eq_true rfl), (Nat.le_of_ble_eq_true rfl)⟩) (cx_preS hK hN hXx hS hA (P_l hP) (D_l hD)) rfl rfl hl.1 rfl (lv_room (Nat.le_of_ble_eq_true rfl)) dL_law_250 ⟨hc, hsl⟩) (fun _ _ _ _ _ _ _ _ _ h9 => h9.elim) (fun r250 u250 H locs w250 hP hD hS => ?_)
  refine lv_istore (lv' := [(5, .int r250), (0, .ref b), (1, .ref (R 0)), (2, .ref (R2 0)), (3, .ref o), (4, .int (nI j))]) hx hb dL_law_253 hl (by decide) rfl (fun ls hl => ?_)
  refine lv_aload_n hx hb dL_law_255 rfl (lv_at hl 3 rfl) ?_
  have hP := P_sw hP
  have hD := D_sw hD
  refine ft_calli (Wd := MW cI cJ cZ R2) (u := uM) (wr := LW cI cJ cII cJJ R o u250) hP hD hS hA (va_runV (As := []) (rest := []) F (k_X8_drop l dC dI cI cJ cZ cII cJJ R2 uM.1 uM.2.1 uM.2.2  _) (cwV 0 hts gL_law_X8_drop rfl rfl rfl (by decide +kernel) ⟨(Nat.le_of_ble_eq_true rfl), (Nat.le_of_ble_eq_true rfl)⟩) (ct_preV 0 8 hK hN (P_l hP) (D_l hD) rfl rfl) rfl rfl hl.1 rfl (lv_room (Nat.le_of_ble_eq_true rfl)) dL_law_256 ⟨hc, hsl⟩) (fun r256 m256 H locs w256 hP hD hS => ?_)
  have hP := P_sw hP
  have hD := D_sw hD
  refine lv_istore (lv' := [(6, .int r256), (5, .int r250), (0, .ref b), (1, .ref (R 0)), (2, .ref (R2 0)), (3, .ref o), (4, .int (nI j))]) hx hb dL_law_259 hl (by decide) rfl (fun ls hl => ?_)
  refine lv_aload_n hx hb dL_law_261 rfl (lv_at hl 4 rfl) ?_
  have hP := P_sw hP
  have hD := D_sw hD
  refine ft_calli (Wd := MW cI cJ cZ R2) (u := m256) (wr := LW cI cJ cII cJJ R o u250) hP hD hS hA (va_runV (As := []) (rest := []) F (k_X8_thrown l dC dI cI cJ cZ cII cJJ R2 m256.1 m256.2.1 m256.2.2  _) (cwV 0 hts gL_law_X8_thrown rfl rfl rfl (by decide +kernel) ⟨(Nat.le_of_ble_eq_true rfl), (Nat.le_of_ble_eq_true rfl)⟩) (ct_preV 0 8 hK hN (P_l hP) (D_l hD) rfl rfl) rfl rfl hl.1 rfl (lv_room (Nat.le_of_ble_eq_true rfl)) dL_law_262 ⟨hc, hsl⟩) (fun r262 m262 H locs w262 hP hD hS => ?_)
  have hP := P_sw hP
  have hD := D_sw hD
  obtain ⟨w262, rfl⟩ := w262
  have tie := tie_drop sy w250 w256
  refine lv_iload hx hb dL_law_265 (lv_at hl 1 rfl) ?_
  refine lv_icmp_eq (tgt := 272) hx hb dL_law_267 (by decide) (fun c267 => ?_) (fun c267 => ?_)
  · -- alike
    refine lv_iload hx hb dL_law_272 (lv_at hl 1 rfl) ?_
    refine lv_if_ne (tgt := 289) hx hb dL_law_274 (by decide) (fun c274 => ?_) (fun c274 => ?_)
    · -- it threw
      refine lv_goto (tgt := 1081) hx hb dL_law_289 (by decide) ?_
      exact kk ls H locs u250.1 u250.2 m256 tie.2.2 hP hD hS (lv_sub hl [2, 3, 4, 5, 6] rfl)
    · -- it did not
      refine lv_aload_n hx hb dL_law_277 rfl (lv_at hl 5 rfl) ?_
      refine lv_iconst (v := 0) hx hb dL_law_278 (by decide) ?_
      have h8 : vp_in 0 1 := vp_in_nI (n := 0) (N := 1) (by decide) (by decide)
      refine va_lald hx hb hK hP 55 1 rfl rfl h8 dL_law_279 ?_
      refine lv_topl (fun x279 ex279 => ?_)
      have ex279 : x279 = u250.2 0 := ex279
      refine lv_iload hx hb dL_law_280 (lv_at hl 0 rfl) ?_
      refine lv_i2l hx hb dL_law_282 rfl ?_
      refine lv_topl (fun x282 ex282 => ?_)
      refine W.lcmp hx hb dL_law_283 ?_
      refine lv_if_eq (tgt := 289) hx hb dL_law_284 (by decide) (fun c284 => ?_) (fun c284 => ?_)
      · -- alike
        refine lv_goto (tgt := 1081) hx hb dL_law_289 (by decide) ?_
        exact kk ls H locs u250.1 u250.2 m256 tie.2.2 hP hD hS (lv_sub hl [2, 3, 4, 5, 6] rfl)
      · rw [lg_cmp_eq] at c284
        exact absurd (ex279.trans ((tie.2.1 c274).trans ex282.symm)) c284
  · exact absurd (w262.trans tie.1) c267
set_option maxHeartbeats 8000000 in
set_option maxRecDepth 100000 in
theorem law_forests {p : Program} {l : Launch} {e : Env} {s : State} {m : MethodId} {below : List Frame} {meth : Method} {c : Code} {b L : Nat} {xs : Nat → Int32} {dC : Nat → ClassId} {dI : Nat → Nat → Nat} {cI cJ cZ cII cJJ : ClassId} {Q : State → Prop} (LC : lwC p l s m meth c b L xs dC dI cI cJ cZ cII cJJ) (R R2 : Nat → Nat) (o j : Nat) (hj : j + 4 ≤ L) (uH : sgH) (w : Nat → Int64) (uM : sgM) (hsy : SY uH uM) (cells slots : Nat) (hc : cells + 2 ≤ 601024) (hsl : slots + 12 ≤ 7293034) (H : Heap) (locs : List Loc) (ls : Array Slot) (hP : va_P (dC, dI) vwCl (LW cI cJ cII cJJ R o (uH, w) ++ MW cI cJ cZ R2 uM) H) (hD : va_D (fun q => s.heap.size ≤ q) (LW cI cJ cII cJJ R o (uH, w) ++ MW cI cJ cZ R2 uM)) (hS : va_S (fun q => s.heap.size ≤ q) s.heap H locs) (hl : lv_has ls 8 [(0, .ref b), (1, .ref (R 0)), (2, .ref (R2 0)), (3, .ref o), (4, .int (nI j))])
    (kk : ∀ (ls : Array Slot) (H : Heap) (locs : List Loc) (uH : sgH) (w : Nat → Int64) (uM : sgM), SY uH uM → va_P (dC, dI) vwCl (LW cI cJ cII cJJ R o (uH, w) ++ MW cI cJ cZ R2 uM) H → va_D (fun q => s.heap.size ≤ q) (LW cI cJ cII cJJ R o (uH, w) ++ MW cI cJ cZ R2 uM) → va_S (fun q => s.heap.size ≤ q) s.heap H locs → lv_has ls 8 [(0, .ref b), (1, .ref (R 0)), (2, .ref (R2 0)), (3, .ref o), (4, .int (nI j))] → W p l e room_1 s m #[Value.ref b] below meth c H locs (cells + 2) (slots + 12) Q (F0 m 1081 ls [])) : W p l e room_1 s m #[Value.ref b] below meth c H locs cells slots Q (F0 m 292 ls []) := by
  obtain ⟨F, hK, hN, hXx, hX, hbl, hlt, hL⟩ := LC
  have hx := F.1
  have hb := F.2.1
  have hown : s.vm.findClass RL = some m.cls := F.2.2.2.1
  have hts := F.2.2.2.2
  have hA : ∀ q : Nat, s.heap.size ≤ q → (fun q => s.heap.size ≤ q) q := fun _ h => h
  have hbA : ¬ (fun q => s.heap.size ≤ q) b := Nat.not_le.mpr hbl
  have hcl : Cond.constantLong RL 79 4294967295 ∈ wsL_law := wsL_c79
  obtain ⟨nv, ne, fr, to, wt, Ln, li, row, sy⟩ := hsy
  refine lv_aload_n hx hb dL_law_292 rfl (lv_at hl 1 rfl) ?_
  refine lv_aload_n hx hb dL_law_293 rfl (lv_at hl 0 rfl) ?_
  refine lv_iload hx hb dL_law_294 (lv_at hl 4 rfl) ?_
  refine lv_iconst (v := 1) hx hb dL_law_296 (by decide) ?_
  refine lv_iadd hx hb dL_law_297 ?_
  refine lv_topi (fun x297 ex297 => ?_)
  have ex297 : x297 = nI (j + 1) := by rw [ex297]; exact nI_add j 1
  subst ex297
  refine va_sld hx hb hX hbl hbA hS (vp_in_nI (show j + 1 < L by omega) (by omega)) dL_law_298 ?_
  rw [nI_clamp (show j + 1 < 2 ^ 31 by omega)]
  refine lv_i2l hx hb dL_law_299 rfl ?_
  refine lv_topl (fun x299 ex299 => ?_)
  refine lv_bipush (v := 32) hx hb dL_law_300 (by decide) ?_
  refine lv_lshl hx hb dL_law_302 rfl ?_
  refine lv_topl (fun x302 ex302 => ?_)
  refine lv_aload_n hx hb dL_law_303 rfl (lv_at hl 0 rfl) ?_
  refine lv_iload hx hb dL_law_304 (lv_at hl 4 rfl) ?_
  refine lv_iconst (v := 2) hx hb dL_law_306 (by decide) ?_
  refine lv_iadd hx hb dL_law_307 ?_
  refine lv_topi (fun x307 ex307 => ?_)
  have ex307 : x307 = nI (j + 2) := by rw [ex307]; exact nI_add j 2
  subst ex307
  refine va_sld hx hb hX hbl hbA hS (vp_in_nI (show j + 2 < L by omega) (by omega)) dL_law_308 ?_
  rw [nI_clamp (show j + 2 < 2 ^ 31 by omega)]
  refine lv_i2l hx hb dL_law_309 rfl ?_
  refine lv_topl (fun x309 ex309 => ?_)
  refine lv_ldc2 (v := 4294967295) hx hb hown (hts (.constantLong RL 79 4294967295) (hcl)) dL_law_310 ?_
  refine lv_land hx hb dL_law_313 ?_
  refine lv_topl (fun x313 ex313 => ?_)
  refine lv_lor hx hb dL_law_314 ?_
  refine lv_topl (fun x314 ex314 => ?_)
  have ex314 : x314 = zz (xs (j + 1)) (xs (j + 2)) := by rw [ex314, ex302, ex299, ex313, ex309]; rfl
  obtain ⟨z, hz, ez⟩ := lN_of (zz (xs (j + 1)) (xs (j + 2)))
  rw [ez] at ex314
  subst ex314
  refine lv_aload_n hx hb dL_law_315 rfl (lv_at hl 3 rfl) ?_
  refine fx_calli (Wd := LW cI cJ cII cJJ R o) (u := (uH, w)) (wr := MW cI cJ cZ R2 uM) hP hD hS hA (vx_runSX (As := [.ref (R 0), .long (lN z), .ref o]) (rest := []) F (k_L_forests l dC dI cI cJ cZ cII cJJ R o (lN z) uH w _ _ (k_X7_forests l dC dI cI cJ cZ cII cJJ R hlt uH.1 uH.2.1 uH.2.2.1 uH.2.2.2.1 uH.2.2.2.2 nv ne fr to wt z sy.1 sy.2.2.1 hz) (fun E u h => h.1) _) (vx_cwSW 3 hts gL_law_L_forests rfl rfl rfl (by decide +kernel) ⟨(Nat.le_of_ble_eq_true rfl), (Nat.le_of_ble_eq_true rfl)⟩) (cx_preS hK hN hXx hS hA (P_l hP) (D_l hD)) rfl rfl hl.1 rfl (lv_room (Nat.le_of_ble_eq_true rfl)) dL_law_316 ⟨hc, hsl⟩) (fun _ _ _ _ _ _ _ _ _ h9 => h9.elim) (fun r316 u316 H locs w316 hP hD hS => ?_)
  refine lv_istore (lv' := [(5, .int r316), (0, .ref b), (1, .ref (R 0)), (2, .ref (R2 0)), (3, .ref o), (4, .int (nI j))]) hx hb dL_law_319 hl (by decide) rfl (fun ls hl => ?_)
  refine lv_aload_n hx hb dL_law_321 rfl (lv_at hl 3 rfl) ?_
  refine lv_aload_n hx hb dL_law_322 rfl (lv_at hl 1 rfl) ?_
  refine lv_iload hx hb dL_law_323 (lv_at hl 5 rfl) ?_
  refine lv_iconst (v := 1) hx hb dL_law_325 (by decide) ?_
  refine lv_iadd hx hb dL_law_326 ?_
  refine lv_topi (fun x326 ex326 => ?_)
  have ex326 : x326 = nI (j + 1) := by rw [ex326]; exact nI_add j 1
  subst ex326
  refine va_sld hx hb hX hbl hbA hS (vp_in_nI (show j + 1 < L by omega) (by omega)) dL_law_327 ?_
  rw [nI_clamp (show j + 1 < 2 ^ 31 by omega)]
  refine lv_i2l hx hb dL_law_328 rfl ?_
  refine lv_topl (fun x328 ex328 => ?_)
  refine lv_bipush (v := 32) hx hb dL_law_329 (by decide) ?_
  refine lv_lshl hx hb dL_law_331 rfl ?_
  refine lv_topl (fun x331 ex331 => ?_)
  refine lv_aload_n hx hb dL_law_332 rfl (lv_at hl 1 rfl) ?_
  refine lv_iload hx hb dL_law_333 (lv_at hl 5 rfl) ?_
  refine lv_iconst (v := 2) hx hb dL_law_335 (by decide) ?_
  refine lv_iadd hx hb dL_law_336 ?_
  refine lv_topi (fun x336 ex336 => ?_)
  have ex336 : x336 = nI (j + 2) := by rw [ex336]; exact nI_add j 2
  subst ex336
  refine va_sld hx hb hX hbl hbA hS (vp_in_nI (show j + 2 < L by omega) (by omega)) dL_law_337 ?_
  rw [nI_clamp (show j + 2 < 2 ^ 31 by omega)]
  refine lv_i2l hx hb dL_law_338 rfl ?_
  refine lv_topl (fun x338 ex338 => ?_)
  refine lv_ldc2 (v := 4294967295) hx hb hown (hts (.constantLong RL 79 4294967295) (hcl)) dL_law_339 ?_
  refine lv_land hx hb dL_law_342 ?_
  refine lv_topl (fun x342 ex342 => ?_)
  refine lv_lor hx hb dL_law_343 ?_
  refine lv_topl (fun x343 ex343 => ?_)
  have ex343 : x343 = zz (xs (j + 1)) (xs (j + 2)) := by rw [ex343, ex331, ex328, ex342, ex338]; rfl
  rw [ez] at ex343
  subst ex343
  have hP := P_sw hP
  have hD := D_sw hD
  refine ft_calll (Wd := MW cI cJ cZ R2) (u := uM) (wr := LW cI cJ cII cJJ R o u316) hP hD hS hA (va_runV (As := [.long (lN z)]) (rest := []) F (k_X8_forests l dC dI cI cJ cZ cII cJJ R2 uM.1 uM.2.1 uM.2.2 nv ne fr to wt z sy.2.1 hz (fun _ _ => (forest_tie (z := z) sy.1.2.1 (ne29 sy.1 sy.2.2.1) sy.1.en).1) _) (cwV 1 hts gL_law_X8_forests rfl rfl rfl (by decide +kernel) ⟨(Nat.le_of_ble_eq_true rfl), (Nat.le_of_ble_eq_true rfl)⟩) (ct_preV 0 8 hK hN (P_l hP) (D_l hD) rfl rfl) rfl rfl hl.1 rfl (lv_room (Nat.le_of_ble_eq_true rfl)) dL_law_344 ⟨hc, hsl⟩) (fun r344 m344 H locs w344 hP hD hS => ?_)
  have hP := P_sw hP
  have hD := D_sw hD
  refine lv_lstore (lv' := [(6, .long r344), (5, .int r316), (0, .ref b), (1, .ref (R 0)), (2, .ref (R2 0)), (3, .ref o), (4, .int (nI j))]) hx hb dL_law_347 hl (by decide) rfl (fun ls hl => ?_)
  refine lv_aload_n hx hb dL_law_349 rfl (lv_at hl 4 rfl) ?_
  have hP := P_sw hP
  have hD := D_sw hD
  refine ft_calli (Wd := MW cI cJ cZ R2) (u := m344) (wr := LW cI cJ cII cJJ R o u316) hP hD hS hA (va_runV (As := []) (rest := []) F (k_X8_thrown l dC dI cI cJ cZ cII cJJ R2 m344.1 m344.2.1 m344.2.2  _) (cwV 0 hts gL_law_X8_thrown rfl rfl rfl (by decide +kernel) ⟨(Nat.le_of_ble_eq_true rfl), (Nat.le_of_ble_eq_true rfl)⟩) (ct_preV 0 8 hK hN (P_l hP) (D_l hD) rfl rfl) rfl rfl hl.1 rfl (lv_room (Nat.le_of_ble_eq_true rfl)) dL_law_350 ⟨hc, hsl⟩) (fun r350 m350 H locs w350 hP hD hS => ?_)
  have hP := P_sw hP
  have hD := D_sw hD
  obtain ⟨w350, rfl⟩ := w350
  have tie := tie_forests sy w316 w344
  refine lv_iload hx hb dL_law_353 (lv_at hl 1 rfl) ?_
  refine lv_icmp_eq (tgt := 360) hx hb dL_law_355 (by decide) (fun c355 => ?_) (fun c355 => ?_)
  · -- alike
    refine lv_iload hx hb dL_law_360 (lv_at hl 1 rfl) ?_
    refine lv_if_ne (tgt := 376) hx hb dL_law_362 (by decide) (fun c362 => ?_) (fun c362 => ?_)
    · -- it threw
      refine lv_goto (tgt := 1081) hx hb dL_law_376 (by decide) ?_
      exact kk ls H locs u316.1 u316.2 m344 tie.2.2 hP hD hS (lv_sub hl [2, 3, 4, 5, 6] rfl)
    · -- it did not
      refine lv_aload_n hx hb dL_law_365 rfl (lv_at hl 5 rfl) ?_
      refine lv_iconst (v := 0) hx hb dL_law_366 (by decide) ?_
      have h8 : vp_in 0 1 := vp_in_nI (n := 0) (N := 1) (by decide) (by decide)
      refine va_lald hx hb hK hP 55 1 rfl rfl h8 dL_law_367 ?_
      refine lv_topl (fun x367 ex367 => ?_)
      have ex367 : x367 = u316.2 0 := ex367
      refine lv_lload hx hb dL_law_368 (lv_at hl 0 rfl) ?_
      refine W.lcmp hx hb dL_law_370 ?_
      refine lv_if_eq (tgt := 376) hx hb dL_law_371 (by decide) (fun c371 => ?_) (fun c371 => ?_)
      · -- alike
        refine lv_goto (tgt := 1081) hx hb dL_law_376 (by decide) ?_
        exact kk ls H locs u316.1 u316.2 m344 tie.2.2 hP hD hS (lv_sub hl [2, 3, 4, 5, 6] rfl)
      · rw [lg_cmp_eq] at c371
        exact absurd (ex367.trans ((tie.2.1 c362).trans rfl)) c371
  · exact absurd (w350.trans tie.1) c355
set_option maxHeartbeats 8000000 in
set_option maxRecDepth 100000 in
theorem law_lightest {p : Program} {l : Launch} {e : Env} {s : State} {m : MethodId} {below : List Frame} {meth : Method} {c : Code} {b L : Nat} {xs : Nat → Int32} {dC : Nat → ClassId} {dI : Nat → Nat → Nat} {cI cJ cZ cII cJJ : ClassId} {Q : State → Prop} (LC : lwC p l s m meth c b L xs dC dI cI cJ cZ cII cJJ) (R R2 : Nat → Nat) (o j : Nat) (hj : j + 4 ≤ L) (uH : sgH) (w : Nat → Int64) (uM : sgM) (hsy : SY uH uM) (cells slots : Nat) (hc : cells + 2 ≤ 601024) (hsl : slots + 12 ≤ 7293034) (H : Heap) (locs : List Loc) (ls : Array Slot) (hP : va_P (dC, dI) vwCl (LW cI cJ cII cJJ R o (uH, w) ++ MW cI cJ cZ R2 uM) H) (hD : va_D (fun q => s.heap.size ≤ q) (LW cI cJ cII cJJ R o (uH, w) ++ MW cI cJ cZ R2 uM)) (hS : va_S (fun q => s.heap.size ≤ q) s.heap H locs) (hl : lv_has ls 8 [(0, .ref b), (1, .ref (R 0)), (2, .ref (R2 0)), (3, .ref o), (4, .int (nI j))])
    (kk : ∀ (ls : Array Slot) (H : Heap) (locs : List Loc) (uH : sgH) (w : Nat → Int64) (uM : sgM), SY uH uM → va_P (dC, dI) vwCl (LW cI cJ cII cJJ R o (uH, w) ++ MW cI cJ cZ R2 uM) H → va_D (fun q => s.heap.size ≤ q) (LW cI cJ cII cJJ R o (uH, w) ++ MW cI cJ cZ R2 uM) → va_S (fun q => s.heap.size ≤ q) s.heap H locs → lv_has ls 8 [(0, .ref b), (1, .ref (R 0)), (2, .ref (R2 0)), (3, .ref o), (4, .int (nI j))] → W p l e room_1 s m #[Value.ref b] below meth c H locs (cells + 2) (slots + 12) Q (F0 m 1081 ls [])) : W p l e room_1 s m #[Value.ref b] below meth c H locs cells slots Q (F0 m 379 ls []) := by
  obtain ⟨F, hK, hN, hXx, hX, hbl, hlt, hL⟩ := LC
  have hx := F.1
  have hb := F.2.1
  have hown : s.vm.findClass RL = some m.cls := F.2.2.2.1
  have hts := F.2.2.2.2
  have hA : ∀ q : Nat, s.heap.size ≤ q → (fun q => s.heap.size ≤ q) q := fun _ h => h
  have hbA : ¬ (fun q => s.heap.size ≤ q) b := Nat.not_le.mpr hbl
  have hcl : Cond.constantLong RL 79 4294967295 ∈ wsL_law := wsL_c79
  obtain ⟨nv, ne, fr, to, wt, Ln, li, row, sy⟩ := hsy
  refine lv_aload_n hx hb dL_law_379 rfl (lv_at hl 1 rfl) ?_
  refine lv_aload_n hx hb dL_law_380 rfl (lv_at hl 0 rfl) ?_
  refine lv_iload hx hb dL_law_381 (lv_at hl 4 rfl) ?_
  refine lv_iconst (v := 1) hx hb dL_law_383 (by decide) ?_
  refine lv_iadd hx hb dL_law_384 ?_
  refine lv_topi (fun x384 ex384 => ?_)
  have ex384 : x384 = nI (j + 1) := by rw [ex384]; exact nI_add j 1
  subst ex384
  refine va_sld hx hb hX hbl hbA hS (vp_in_nI (show j + 1 < L by omega) (by omega)) dL_law_385 ?_
  rw [nI_clamp (show j + 1 < 2 ^ 31 by omega)]
  refine lv_i2l hx hb dL_law_386 rfl ?_
  refine lv_topl (fun x386 ex386 => ?_)
  refine lv_bipush (v := 32) hx hb dL_law_387 (by decide) ?_
  refine lv_lshl hx hb dL_law_389 rfl ?_
  refine lv_topl (fun x389 ex389 => ?_)
  refine lv_aload_n hx hb dL_law_390 rfl (lv_at hl 0 rfl) ?_
  refine lv_iload hx hb dL_law_391 (lv_at hl 4 rfl) ?_
  refine lv_iconst (v := 2) hx hb dL_law_393 (by decide) ?_
  refine lv_iadd hx hb dL_law_394 ?_
  refine lv_topi (fun x394 ex394 => ?_)
  have ex394 : x394 = nI (j + 2) := by rw [ex394]; exact nI_add j 2
  subst ex394
  refine va_sld hx hb hX hbl hbA hS (vp_in_nI (show j + 2 < L by omega) (by omega)) dL_law_395 ?_
  rw [nI_clamp (show j + 2 < 2 ^ 31 by omega)]
  refine lv_i2l hx hb dL_law_396 rfl ?_
  refine lv_topl (fun x396 ex396 => ?_)
  refine lv_ldc2 (v := 4294967295) hx hb hown (hts (.constantLong RL 79 4294967295) (hcl)) dL_law_397 ?_
  refine lv_land hx hb dL_law_400 ?_
  refine lv_topl (fun x400 ex400 => ?_)
  refine lv_lor hx hb dL_law_401 ?_
  refine lv_topl (fun x401 ex401 => ?_)
  have ex401 : x401 = zz (xs (j + 1)) (xs (j + 2)) := by rw [ex401, ex389, ex386, ex400, ex396]; rfl
  obtain ⟨z, hz, ez⟩ := lN_of (zz (xs (j + 1)) (xs (j + 2)))
  rw [ez] at ex401
  subst ex401
  refine lv_aload_n hx hb dL_law_402 rfl (lv_at hl 3 rfl) ?_
  refine fx_calli (Wd := LW cI cJ cII cJJ R o) (u := (uH, w)) (wr := MW cI cJ cZ R2 uM) hP hD hS hA (vx_runSX (As := [.ref (R 0), .long (lN z), .ref o]) (rest := []) F (k_L_lightest l dC dI cI cJ cZ cII cJJ R o (lN z) uH w _ _ (k_X7_lightest l dC dI cI cJ cZ cII cJJ R hlt uH.1 uH.2.1 uH.2.2.1 uH.2.2.2.1 uH.2.2.2.2 nv ne fr to wt z sy.1 hz) (fun E u h => h.1) _) (vx_cwSW 3 hts gL_law_L_lightest rfl rfl rfl (by decide +kernel) ⟨(Nat.le_of_ble_eq_true rfl), (Nat.le_of_ble_eq_true rfl)⟩) (cx_preS hK hN hXx hS hA (P_l hP) (D_l hD)) rfl rfl hl.1 rfl (lv_room (Nat.le_of_ble_eq_true rfl)) dL_law_403 ⟨hc, hsl⟩) (fun _ _ _ _ _ _ _ _ _ h9 => h9.elim) (fun r403 u403 H locs w403 hP hD hS => ?_)
  refine lv_istore (lv' := [(5, .int r403), (0, .ref b), (1, .ref (R 0)), (2, .ref (R2 0)), (3, .ref o), (4, .int (nI j))]) hx hb dL_law_406 hl (by decide) rfl (fun ls hl => ?_)
  refine lv_aload_n hx hb dL_law_408 rfl (lv_at hl 3 rfl) ?_
  refine lv_aload_n hx hb dL_law_409 rfl (lv_at hl 1 rfl) ?_
  refine lv_iload hx hb dL_law_410 (lv_at hl 5 rfl) ?_
  refine lv_iconst (v := 1) hx hb dL_law_412 (by decide) ?_
  refine lv_iadd hx hb dL_law_413 ?_
  refine lv_topi (fun x413 ex413 => ?_)
  have ex413 : x413 = nI (j + 1) := by rw [ex413]; exact nI_add j 1
  subst ex413
  refine va_sld hx hb hX hbl hbA hS (vp_in_nI (show j + 1 < L by omega) (by omega)) dL_law_414 ?_
  rw [nI_clamp (show j + 1 < 2 ^ 31 by omega)]
  refine lv_i2l hx hb dL_law_415 rfl ?_
  refine lv_topl (fun x415 ex415 => ?_)
  refine lv_bipush (v := 32) hx hb dL_law_416 (by decide) ?_
  refine lv_lshl hx hb dL_law_418 rfl ?_
  refine lv_topl (fun x418 ex418 => ?_)
  refine lv_aload_n hx hb dL_law_419 rfl (lv_at hl 1 rfl) ?_
  refine lv_iload hx hb dL_law_420 (lv_at hl 5 rfl) ?_
  refine lv_iconst (v := 2) hx hb dL_law_422 (by decide) ?_
  refine lv_iadd hx hb dL_law_423 ?_
  refine lv_topi (fun x423 ex423 => ?_)
  have ex423 : x423 = nI (j + 2) := by rw [ex423]; exact nI_add j 2
  subst ex423
  refine va_sld hx hb hX hbl hbA hS (vp_in_nI (show j + 2 < L by omega) (by omega)) dL_law_424 ?_
  rw [nI_clamp (show j + 2 < 2 ^ 31 by omega)]
  refine lv_i2l hx hb dL_law_425 rfl ?_
  refine lv_topl (fun x425 ex425 => ?_)
  refine lv_ldc2 (v := 4294967295) hx hb hown (hts (.constantLong RL 79 4294967295) (hcl)) dL_law_426 ?_
  refine lv_land hx hb dL_law_429 ?_
  refine lv_topl (fun x429 ex429 => ?_)
  refine lv_lor hx hb dL_law_430 ?_
  refine lv_topl (fun x430 ex430 => ?_)
  have ex430 : x430 = zz (xs (j + 1)) (xs (j + 2)) := by rw [ex430, ex418, ex415, ex429, ex425]; rfl
  rw [ez] at ex430
  subst ex430
  have hP := P_sw hP
  have hD := D_sw hD
  refine ft_calll (Wd := MW cI cJ cZ R2) (u := uM) (wr := LW cI cJ cII cJJ R o u403) hP hD hS hA (va_runV (As := [.long (lN z)]) (rest := []) F (k_X8_lightest l dC dI cI cJ cZ cII cJJ R2 uM.1 uM.2.1 uM.2.2 nv ne fr to wt z sy.2.1 hz _) (cwV 1 hts gL_law_X8_lightest rfl rfl rfl (by decide +kernel) ⟨(Nat.le_of_ble_eq_true rfl), (Nat.le_of_ble_eq_true rfl)⟩) (ct_preV 0 8 hK hN (P_l hP) (D_l hD) rfl rfl) rfl rfl hl.1 rfl (lv_room (Nat.le_of_ble_eq_true rfl)) dL_law_431 ⟨hc, hsl⟩) (fun r431 m431 H locs w431 hP hD hS => ?_)
  have hP := P_sw hP
  have hD := D_sw hD
  refine lv_lstore (lv' := [(6, .long r431), (5, .int r403), (0, .ref b), (1, .ref (R 0)), (2, .ref (R2 0)), (3, .ref o), (4, .int (nI j))]) hx hb dL_law_434 hl (by decide) rfl (fun ls hl => ?_)
  refine lv_aload_n hx hb dL_law_436 rfl (lv_at hl 4 rfl) ?_
  have hP := P_sw hP
  have hD := D_sw hD
  refine ft_calli (Wd := MW cI cJ cZ R2) (u := m431) (wr := LW cI cJ cII cJJ R o u403) hP hD hS hA (va_runV (As := []) (rest := []) F (k_X8_thrown l dC dI cI cJ cZ cII cJJ R2 m431.1 m431.2.1 m431.2.2  _) (cwV 0 hts gL_law_X8_thrown rfl rfl rfl (by decide +kernel) ⟨(Nat.le_of_ble_eq_true rfl), (Nat.le_of_ble_eq_true rfl)⟩) (ct_preV 0 8 hK hN (P_l hP) (D_l hD) rfl rfl) rfl rfl hl.1 rfl (lv_room (Nat.le_of_ble_eq_true rfl)) dL_law_437 ⟨hc, hsl⟩) (fun r437 m437 H locs w437 hP hD hS => ?_)
  have hP := P_sw hP
  have hD := D_sw hD
  obtain ⟨w437, rfl⟩ := w437
  have tie := tie_lightest sy w403 w431
  refine lv_iload hx hb dL_law_440 (lv_at hl 1 rfl) ?_
  refine lv_icmp_eq (tgt := 447) hx hb dL_law_442 (by decide) (fun c442 => ?_) (fun c442 => ?_)
  · -- alike
    refine lv_iload hx hb dL_law_447 (lv_at hl 1 rfl) ?_
    refine lv_if_ne (tgt := 463) hx hb dL_law_449 (by decide) (fun c449 => ?_) (fun c449 => ?_)
    · -- it threw
      refine lv_goto (tgt := 1081) hx hb dL_law_463 (by decide) ?_
      exact kk ls H locs u403.1 u403.2 m431 tie.2.2 hP hD hS (lv_sub hl [2, 3, 4, 5, 6] rfl)
    · -- it did not
      refine lv_aload_n hx hb dL_law_452 rfl (lv_at hl 5 rfl) ?_
      refine lv_iconst (v := 0) hx hb dL_law_453 (by decide) ?_
      have h8 : vp_in 0 1 := vp_in_nI (n := 0) (N := 1) (by decide) (by decide)
      refine va_lald hx hb hK hP 55 1 rfl rfl h8 dL_law_454 ?_
      refine lv_topl (fun x454 ex454 => ?_)
      have ex454 : x454 = u403.2 0 := ex454
      refine lv_lload hx hb dL_law_455 (lv_at hl 0 rfl) ?_
      refine W.lcmp hx hb dL_law_457 ?_
      refine lv_if_eq (tgt := 463) hx hb dL_law_458 (by decide) (fun c458 => ?_) (fun c458 => ?_)
      · -- alike
        refine lv_goto (tgt := 1081) hx hb dL_law_463 (by decide) ?_
        exact kk ls H locs u403.1 u403.2 m431 tie.2.2 hP hD hS (lv_sub hl [2, 3, 4, 5, 6] rfl)
      · rw [lg_cmp_eq] at c458
        exact absurd (ex454.trans ((tie.2.1 c449).trans rfl)) c458
  · exact absurd (w437.trans tie.1) c442
set_option maxHeartbeats 8000000 in
set_option maxRecDepth 100000 in
theorem law_isCycle {p : Program} {l : Launch} {e : Env} {s : State} {m : MethodId} {below : List Frame} {meth : Method} {c : Code} {b L : Nat} {xs : Nat → Int32} {dC : Nat → ClassId} {dI : Nat → Nat → Nat} {cI cJ cZ cII cJJ : ClassId} {Q : State → Prop} (LC : lwC p l s m meth c b L xs dC dI cI cJ cZ cII cJJ) (R R2 : Nat → Nat) (o j : Nat) (hj : j + 4 ≤ L) (uH : sgH) (w : Nat → Int64) (uM : sgM) (hsy : SY uH uM) (cells slots : Nat) (hc : cells + 2 ≤ 601024) (hsl : slots + 12 ≤ 7293034) (H : Heap) (locs : List Loc) (ls : Array Slot) (hP : va_P (dC, dI) vwCl (LW cI cJ cII cJJ R o (uH, w) ++ MW cI cJ cZ R2 uM) H) (hD : va_D (fun q => s.heap.size ≤ q) (LW cI cJ cII cJJ R o (uH, w) ++ MW cI cJ cZ R2 uM)) (hS : va_S (fun q => s.heap.size ≤ q) s.heap H locs) (hl : lv_has ls 8 [(0, .ref b), (1, .ref (R 0)), (2, .ref (R2 0)), (3, .ref o), (4, .int (nI j))])
    (kk : ∀ (ls : Array Slot) (H : Heap) (locs : List Loc) (uH : sgH) (w : Nat → Int64) (uM : sgM), SY uH uM → va_P (dC, dI) vwCl (LW cI cJ cII cJJ R o (uH, w) ++ MW cI cJ cZ R2 uM) H → va_D (fun q => s.heap.size ≤ q) (LW cI cJ cII cJJ R o (uH, w) ++ MW cI cJ cZ R2 uM) → va_S (fun q => s.heap.size ≤ q) s.heap H locs → lv_has ls 8 [(0, .ref b), (1, .ref (R 0)), (2, .ref (R2 0)), (3, .ref o), (4, .int (nI j))] → W p l e room_1 s m #[Value.ref b] below meth c H locs (cells + 2) (slots + 12) Q (F0 m 1081 ls [])) : W p l e room_1 s m #[Value.ref b] below meth c H locs cells slots Q (F0 m 466 ls []) := by
  obtain ⟨F, hK, hN, hXx, hX, hbl, hlt, hL⟩ := LC
  have hx := F.1
  have hb := F.2.1
  have hown : s.vm.findClass RL = some m.cls := F.2.2.2.1
  have hts := F.2.2.2.2
  have hA : ∀ q : Nat, s.heap.size ≤ q → (fun q => s.heap.size ≤ q) q := fun _ h => h
  have hbA : ¬ (fun q => s.heap.size ≤ q) b := Nat.not_le.mpr hbl
  have hcl : Cond.constantLong RL 79 4294967295 ∈ wsL_law := wsL_c79
  obtain ⟨nv, ne, fr, to, wt, Ln, li, row, sy⟩ := hsy
  refine lv_aload_n hx hb dL_law_466 rfl (lv_at hl 1 rfl) ?_
  refine lv_aload_n hx hb dL_law_467 rfl (lv_at hl 0 rfl) ?_
  refine lv_iload hx hb dL_law_468 (lv_at hl 4 rfl) ?_
  refine lv_iconst (v := 1) hx hb dL_law_470 (by decide) ?_
  refine lv_iadd hx hb dL_law_471 ?_
  refine lv_topi (fun x471 ex471 => ?_)
  have ex471 : x471 = nI (j + 1) := by rw [ex471]; exact nI_add j 1
  subst ex471
  refine va_sld hx hb hX hbl hbA hS (vp_in_nI (show j + 1 < L by omega) (by omega)) dL_law_472 ?_
  rw [nI_clamp (show j + 1 < 2 ^ 31 by omega)]
  refine lv_i2l hx hb dL_law_473 rfl ?_
  refine lv_topl (fun x473 ex473 => ?_)
  refine lv_bipush (v := 32) hx hb dL_law_474 (by decide) ?_
  refine lv_lshl hx hb dL_law_476 rfl ?_
  refine lv_topl (fun x476 ex476 => ?_)
  refine lv_aload_n hx hb dL_law_477 rfl (lv_at hl 0 rfl) ?_
  refine lv_iload hx hb dL_law_478 (lv_at hl 4 rfl) ?_
  refine lv_iconst (v := 2) hx hb dL_law_480 (by decide) ?_
  refine lv_iadd hx hb dL_law_481 ?_
  refine lv_topi (fun x481 ex481 => ?_)
  have ex481 : x481 = nI (j + 2) := by rw [ex481]; exact nI_add j 2
  subst ex481
  refine va_sld hx hb hX hbl hbA hS (vp_in_nI (show j + 2 < L by omega) (by omega)) dL_law_482 ?_
  rw [nI_clamp (show j + 2 < 2 ^ 31 by omega)]
  refine lv_i2l hx hb dL_law_483 rfl ?_
  refine lv_topl (fun x483 ex483 => ?_)
  refine lv_ldc2 (v := 4294967295) hx hb hown (hts (.constantLong RL 79 4294967295) (hcl)) dL_law_484 ?_
  refine lv_land hx hb dL_law_487 ?_
  refine lv_topl (fun x487 ex487 => ?_)
  refine lv_lor hx hb dL_law_488 ?_
  refine lv_topl (fun x488 ex488 => ?_)
  have ex488 : x488 = zz (xs (j + 1)) (xs (j + 2)) := by rw [ex488, ex476, ex473, ex487, ex483]; rfl
  obtain ⟨z, hz, ez⟩ := lN_of (zz (xs (j + 1)) (xs (j + 2)))
  rw [ez] at ex488
  subst ex488
  refine lv_aload_n hx hb dL_law_489 rfl (lv_at hl 3 rfl) ?_
  refine fx_calli (Wd := LW cI cJ cII cJJ R o) (u := (uH, w)) (wr := MW cI cJ cZ R2 uM) hP hD hS hA (vx_runSX (As := [.ref (R 0), .long (lN z), .ref o]) (rest := []) F (k_L_isCycle l dC dI cI cJ cZ cII cJJ R o (lN z) uH w _ _ (k_X7_isCycle l dC dI cI cJ cZ cII cJJ R hlt uH.1 uH.2.1 uH.2.2.1 uH.2.2.2.1 uH.2.2.2.2 nv ne fr to wt z sy.1 hz) (fun E u h => h.1) _) (vx_cwSW 3 hts gL_law_L_isCycle rfl rfl rfl (by decide +kernel) ⟨(Nat.le_of_ble_eq_true rfl), (Nat.le_of_ble_eq_true rfl)⟩) (cx_preS hK hN hXx hS hA (P_l hP) (D_l hD)) rfl rfl hl.1 rfl (lv_room (Nat.le_of_ble_eq_true rfl)) dL_law_490 ⟨hc, hsl⟩) (fun _ _ _ _ _ _ _ _ _ h9 => h9.elim) (fun r490 u490 H locs w490 hP hD hS => ?_)
  refine lv_istore (lv' := [(5, .int r490), (0, .ref b), (1, .ref (R 0)), (2, .ref (R2 0)), (3, .ref o), (4, .int (nI j))]) hx hb dL_law_493 hl (by decide) rfl (fun ls hl => ?_)
  refine lv_aload_n hx hb dL_law_495 rfl (lv_at hl 3 rfl) ?_
  refine lv_aload_n hx hb dL_law_496 rfl (lv_at hl 1 rfl) ?_
  refine lv_iload hx hb dL_law_497 (lv_at hl 5 rfl) ?_
  refine lv_iconst (v := 1) hx hb dL_law_499 (by decide) ?_
  refine lv_iadd hx hb dL_law_500 ?_
  refine lv_topi (fun x500 ex500 => ?_)
  have ex500 : x500 = nI (j + 1) := by rw [ex500]; exact nI_add j 1
  subst ex500
  refine va_sld hx hb hX hbl hbA hS (vp_in_nI (show j + 1 < L by omega) (by omega)) dL_law_501 ?_
  rw [nI_clamp (show j + 1 < 2 ^ 31 by omega)]
  refine lv_i2l hx hb dL_law_502 rfl ?_
  refine lv_topl (fun x502 ex502 => ?_)
  refine lv_bipush (v := 32) hx hb dL_law_503 (by decide) ?_
  refine lv_lshl hx hb dL_law_505 rfl ?_
  refine lv_topl (fun x505 ex505 => ?_)
  refine lv_aload_n hx hb dL_law_506 rfl (lv_at hl 1 rfl) ?_
  refine lv_iload hx hb dL_law_507 (lv_at hl 5 rfl) ?_
  refine lv_iconst (v := 2) hx hb dL_law_509 (by decide) ?_
  refine lv_iadd hx hb dL_law_510 ?_
  refine lv_topi (fun x510 ex510 => ?_)
  have ex510 : x510 = nI (j + 2) := by rw [ex510]; exact nI_add j 2
  subst ex510
  refine va_sld hx hb hX hbl hbA hS (vp_in_nI (show j + 2 < L by omega) (by omega)) dL_law_511 ?_
  rw [nI_clamp (show j + 2 < 2 ^ 31 by omega)]
  refine lv_i2l hx hb dL_law_512 rfl ?_
  refine lv_topl (fun x512 ex512 => ?_)
  refine lv_ldc2 (v := 4294967295) hx hb hown (hts (.constantLong RL 79 4294967295) (hcl)) dL_law_513 ?_
  refine lv_land hx hb dL_law_516 ?_
  refine lv_topl (fun x516 ex516 => ?_)
  refine lv_lor hx hb dL_law_517 ?_
  refine lv_topl (fun x517 ex517 => ?_)
  have ex517 : x517 = zz (xs (j + 1)) (xs (j + 2)) := by rw [ex517, ex505, ex502, ex516, ex512]; rfl
  rw [ez] at ex517
  subst ex517
  have hP := P_sw hP
  have hD := D_sw hD
  refine ft_calli (Wd := MW cI cJ cZ R2) (u := uM) (wr := LW cI cJ cII cJJ R o u490) hP hD hS hA (va_runV (As := [.long (lN z)]) (rest := []) F (k_X8_isCycle l dC dI cI cJ cZ cII cJJ R2 uM.1 uM.2.1 uM.2.2 nv ne fr to wt z sy.2.1 hz _) (cwV 1 hts gL_law_X8_isCycle rfl rfl rfl (by decide +kernel) ⟨(Nat.le_of_ble_eq_true rfl), (Nat.le_of_ble_eq_true rfl)⟩) (ct_preV 0 8 hK hN (P_l hP) (D_l hD) rfl rfl) rfl rfl hl.1 rfl (lv_room (Nat.le_of_ble_eq_true rfl)) dL_law_518 ⟨hc, hsl⟩) (fun r518 m518 H locs w518 hP hD hS => ?_)
  have hP := P_sw hP
  have hD := D_sw hD
  refine lv_istore (lv' := [(6, .int r518), (5, .int r490), (0, .ref b), (1, .ref (R 0)), (2, .ref (R2 0)), (3, .ref o), (4, .int (nI j))]) hx hb dL_law_521 hl (by decide) rfl (fun ls hl => ?_)
  refine lv_aload_n hx hb dL_law_523 rfl (lv_at hl 4 rfl) ?_
  have hP := P_sw hP
  have hD := D_sw hD
  refine ft_calli (Wd := MW cI cJ cZ R2) (u := m518) (wr := LW cI cJ cII cJJ R o u490) hP hD hS hA (va_runV (As := []) (rest := []) F (k_X8_thrown l dC dI cI cJ cZ cII cJJ R2 m518.1 m518.2.1 m518.2.2  _) (cwV 0 hts gL_law_X8_thrown rfl rfl rfl (by decide +kernel) ⟨(Nat.le_of_ble_eq_true rfl), (Nat.le_of_ble_eq_true rfl)⟩) (ct_preV 0 8 hK hN (P_l hP) (D_l hD) rfl rfl) rfl rfl hl.1 rfl (lv_room (Nat.le_of_ble_eq_true rfl)) dL_law_524 ⟨hc, hsl⟩) (fun r524 m524 H locs w524 hP hD hS => ?_)
  have hP := P_sw hP
  have hD := D_sw hD
  obtain ⟨w524, rfl⟩ := w524
  have tie := tie_isCycle sy w490 w518
  refine lv_iload hx hb dL_law_527 (lv_at hl 1 rfl) ?_
  refine lv_icmp_eq (tgt := 534) hx hb dL_law_529 (by decide) (fun c529 => ?_) (fun c529 => ?_)
  · -- alike
    refine lv_iload hx hb dL_law_534 (lv_at hl 1 rfl) ?_
    refine lv_if_ne (tgt := 551) hx hb dL_law_536 (by decide) (fun c536 => ?_) (fun c536 => ?_)
    · -- it threw
      refine lv_goto (tgt := 1081) hx hb dL_law_551 (by decide) ?_
      exact kk ls H locs u490.1 u490.2 m518 tie.2.2 hP hD hS (lv_sub hl [2, 3, 4, 5, 6] rfl)
    · -- it did not
      refine lv_aload_n hx hb dL_law_539 rfl (lv_at hl 5 rfl) ?_
      refine lv_iconst (v := 0) hx hb dL_law_540 (by decide) ?_
      have h8 : vp_in 0 1 := vp_in_nI (n := 0) (N := 1) (by decide) (by decide)
      refine va_lald hx hb hK hP 55 1 rfl rfl h8 dL_law_541 ?_
      refine lv_topl (fun x541 ex541 => ?_)
      have ex541 : x541 = u490.2 0 := ex541
      refine lv_iload hx hb dL_law_542 (lv_at hl 0 rfl) ?_
      refine lv_i2l hx hb dL_law_544 rfl ?_
      refine lv_topl (fun x544 ex544 => ?_)
      refine W.lcmp hx hb dL_law_545 ?_
      refine lv_if_eq (tgt := 551) hx hb dL_law_546 (by decide) (fun c546 => ?_) (fun c546 => ?_)
      · -- alike
        refine lv_goto (tgt := 1081) hx hb dL_law_551 (by decide) ?_
        exact kk ls H locs u490.1 u490.2 m518 tie.2.2 hP hD hS (lv_sub hl [2, 3, 4, 5, 6] rfl)
      · rw [lg_cmp_eq] at c546
        exact absurd (ex541.trans ((tie.2.1 c536).trans ex544.symm)) c546
  · exact absurd (w524.trans tie.1) c529
set_option maxHeartbeats 8000000 in
set_option maxRecDepth 100000 in
theorem law_through {p : Program} {l : Launch} {e : Env} {s : State} {m : MethodId} {below : List Frame} {meth : Method} {c : Code} {b L : Nat} {xs : Nat → Int32} {dC : Nat → ClassId} {dI : Nat → Nat → Nat} {cI cJ cZ cII cJJ : ClassId} {Q : State → Prop} (LC : lwC p l s m meth c b L xs dC dI cI cJ cZ cII cJJ) (R R2 : Nat → Nat) (o j : Nat) (hj : j + 4 ≤ L) (uH : sgH) (w : Nat → Int64) (uM : sgM) (hsy : SY uH uM) (cells slots : Nat) (hc : cells + 2 ≤ 601024) (hsl : slots + 12 ≤ 7293034) (H : Heap) (locs : List Loc) (ls : Array Slot) (hP : va_P (dC, dI) vwCl (LW cI cJ cII cJJ R o (uH, w) ++ MW cI cJ cZ R2 uM) H) (hD : va_D (fun q => s.heap.size ≤ q) (LW cI cJ cII cJJ R o (uH, w) ++ MW cI cJ cZ R2 uM)) (hS : va_S (fun q => s.heap.size ≤ q) s.heap H locs) (hl : lv_has ls 8 [(0, .ref b), (1, .ref (R 0)), (2, .ref (R2 0)), (3, .ref o), (4, .int (nI j))])
    (kk : ∀ (ls : Array Slot) (H : Heap) (locs : List Loc) (uH : sgH) (w : Nat → Int64) (uM : sgM), SY uH uM → va_P (dC, dI) vwCl (LW cI cJ cII cJJ R o (uH, w) ++ MW cI cJ cZ R2 uM) H → va_D (fun q => s.heap.size ≤ q) (LW cI cJ cII cJJ R o (uH, w) ++ MW cI cJ cZ R2 uM) → va_S (fun q => s.heap.size ≤ q) s.heap H locs → lv_has ls 8 [(0, .ref b), (1, .ref (R 0)), (2, .ref (R2 0)), (3, .ref o), (4, .int (nI j))] → W p l e room_1 s m #[Value.ref b] below meth c H locs (cells + 2) (slots + 12) Q (F0 m 1081 ls [])) : W p l e room_1 s m #[Value.ref b] below meth c H locs cells slots Q (F0 m 554 ls []) := by
  obtain ⟨F, hK, hN, hXx, hX, hbl, hlt, hL⟩ := LC
  have hx := F.1
  have hb := F.2.1
  have hown : s.vm.findClass RL = some m.cls := F.2.2.2.1
  have hts := F.2.2.2.2
  have hA : ∀ q : Nat, s.heap.size ≤ q → (fun q => s.heap.size ≤ q) q := fun _ h => h
  have hbA : ¬ (fun q => s.heap.size ≤ q) b := Nat.not_le.mpr hbl
  have hcl : Cond.constantLong RL 79 4294967295 ∈ wsL_law := wsL_c79
  obtain ⟨nv, ne, fr, to, wt, Ln, li, row, sy⟩ := hsy
  refine lv_aload_n hx hb dL_law_554 rfl (lv_at hl 1 rfl) ?_
  refine lv_aload_n hx hb dL_law_555 rfl (lv_at hl 0 rfl) ?_
  refine lv_iload hx hb dL_law_556 (lv_at hl 4 rfl) ?_
  refine lv_iconst (v := 1) hx hb dL_law_558 (by decide) ?_
  refine lv_iadd hx hb dL_law_559 ?_
  refine lv_topi (fun x559 ex559 => ?_)
  have ex559 : x559 = nI (j + 1) := by rw [ex559]; exact nI_add j 1
  subst ex559
  refine va_sld hx hb hX hbl hbA hS (vp_in_nI (show j + 1 < L by omega) (by omega)) dL_law_560 ?_
  rw [nI_clamp (show j + 1 < 2 ^ 31 by omega)]
  refine lv_aload_n hx hb dL_law_561 rfl (lv_at hl 3 rfl) ?_
  refine fx_calli (Wd := LW cI cJ cII cJJ R o) (u := (uH, w)) (wr := MW cI cJ cZ R2 uM) hP hD hS hA (vx_runSX (As := [.ref (R 0), .int (xs (j + 1)), .ref o]) (rest := []) F (k_L_through l dC dI cI cJ cZ cII cJJ R o (xs (j + 1)) uH w _ _ (k_X7_through l dC dI cI cJ cZ cII cJJ R hlt uH.1 uH.2.1 uH.2.2.1 uH.2.2.2.1 uH.2.2.2.2 nv ne fr to wt (xs (j + 1)) sy.1) (fun E u h => h.1) _) (vx_cwSW 3 hts gL_law_L_through rfl rfl rfl (by decide +kernel) ⟨(Nat.le_of_ble_eq_true rfl), (Nat.le_of_ble_eq_true rfl)⟩) (cx_preS hK hN hXx hS hA (P_l hP) (D_l hD)) rfl rfl hl.1 rfl (lv_room (Nat.le_of_ble_eq_true rfl)) dL_law_562 ⟨hc, hsl⟩) (fun _ _ _ _ _ _ _ _ _ h9 => h9.elim) (fun r562 u562 H locs w562 hP hD hS => ?_)
  refine lv_istore (lv' := [(5, .int r562), (0, .ref b), (1, .ref (R 0)), (2, .ref (R2 0)), (3, .ref o), (4, .int (nI j))]) hx hb dL_law_565 hl (by decide) rfl (fun ls hl => ?_)
  refine lv_aload_n hx hb dL_law_567 rfl (lv_at hl 3 rfl) ?_
  refine lv_aload_n hx hb dL_law_568 rfl (lv_at hl 1 rfl) ?_
  refine lv_iload hx hb dL_law_569 (lv_at hl 5 rfl) ?_
  refine lv_iconst (v := 1) hx hb dL_law_571 (by decide) ?_
  refine lv_iadd hx hb dL_law_572 ?_
  refine lv_topi (fun x572 ex572 => ?_)
  have ex572 : x572 = nI (j + 1) := by rw [ex572]; exact nI_add j 1
  subst ex572
  refine va_sld hx hb hX hbl hbA hS (vp_in_nI (show j + 1 < L by omega) (by omega)) dL_law_573 ?_
  rw [nI_clamp (show j + 1 < 2 ^ 31 by omega)]
  have hP := P_sw hP
  have hD := D_sw hD
  refine ft_calll (Wd := MW cI cJ cZ R2) (u := uM) (wr := LW cI cJ cII cJJ R o u562) hP hD hS hA (va_runV (As := [.int (xs (j + 1))]) (rest := []) F (k_X8_through l dC dI cI cJ cZ cII cJJ R2 uM.1 uM.2.1 uM.2.2 nv ne fr to wt (xs (j + 1)) sy.2.1 sy.2.2.1 _) (cwV 1 hts gL_law_X8_through rfl rfl rfl (by decide +kernel) ⟨(Nat.le_of_ble_eq_true rfl), (Nat.le_of_ble_eq_true rfl)⟩) (ct_preV 0 8 hK hN (P_l hP) (D_l hD) rfl rfl) rfl rfl hl.1 rfl (lv_room (Nat.le_of_ble_eq_true rfl)) dL_law_574 ⟨hc, hsl⟩) (fun r574 m574 H locs w574 hP hD hS => ?_)
  have hP := P_sw hP
  have hD := D_sw hD
  refine lv_lstore (lv' := [(6, .long r574), (5, .int r562), (0, .ref b), (1, .ref (R 0)), (2, .ref (R2 0)), (3, .ref o), (4, .int (nI j))]) hx hb dL_law_577 hl (by decide) rfl (fun ls hl => ?_)
  refine lv_aload_n hx hb dL_law_579 rfl (lv_at hl 4 rfl) ?_
  have hP := P_sw hP
  have hD := D_sw hD
  refine ft_calli (Wd := MW cI cJ cZ R2) (u := m574) (wr := LW cI cJ cII cJJ R o u562) hP hD hS hA (va_runV (As := []) (rest := []) F (k_X8_thrown l dC dI cI cJ cZ cII cJJ R2 m574.1 m574.2.1 m574.2.2  _) (cwV 0 hts gL_law_X8_thrown rfl rfl rfl (by decide +kernel) ⟨(Nat.le_of_ble_eq_true rfl), (Nat.le_of_ble_eq_true rfl)⟩) (ct_preV 0 8 hK hN (P_l hP) (D_l hD) rfl rfl) rfl rfl hl.1 rfl (lv_room (Nat.le_of_ble_eq_true rfl)) dL_law_580 ⟨hc, hsl⟩) (fun r580 m580 H locs w580 hP hD hS => ?_)
  have hP := P_sw hP
  have hD := D_sw hD
  obtain ⟨w580, rfl⟩ := w580
  have tie := tie_through sy w562 w574
  refine lv_iload hx hb dL_law_583 (lv_at hl 1 rfl) ?_
  refine lv_icmp_eq (tgt := 590) hx hb dL_law_585 (by decide) (fun c585 => ?_) (fun c585 => ?_)
  · -- alike
    refine lv_iload hx hb dL_law_590 (lv_at hl 1 rfl) ?_
    refine lv_if_ne (tgt := 606) hx hb dL_law_592 (by decide) (fun c592 => ?_) (fun c592 => ?_)
    · -- it threw
      refine lv_goto (tgt := 1081) hx hb dL_law_606 (by decide) ?_
      exact kk ls H locs u562.1 u562.2 m574 tie.2.2 hP hD hS (lv_sub hl [2, 3, 4, 5, 6] rfl)
    · -- it did not
      refine lv_aload_n hx hb dL_law_595 rfl (lv_at hl 5 rfl) ?_
      refine lv_iconst (v := 0) hx hb dL_law_596 (by decide) ?_
      have h8 : vp_in 0 1 := vp_in_nI (n := 0) (N := 1) (by decide) (by decide)
      refine va_lald hx hb hK hP 55 1 rfl rfl h8 dL_law_597 ?_
      refine lv_topl (fun x597 ex597 => ?_)
      have ex597 : x597 = u562.2 0 := ex597
      refine lv_lload hx hb dL_law_598 (lv_at hl 0 rfl) ?_
      refine W.lcmp hx hb dL_law_600 ?_
      refine lv_if_eq (tgt := 606) hx hb dL_law_601 (by decide) (fun c601 => ?_) (fun c601 => ?_)
      · -- alike
        refine lv_goto (tgt := 1081) hx hb dL_law_606 (by decide) ?_
        exact kk ls H locs u562.1 u562.2 m574 tie.2.2 hP hD hS (lv_sub hl [2, 3, 4, 5, 6] rfl)
      · rw [lg_cmp_eq] at c601
        exact absurd (ex597.trans ((tie.2.1 c592).trans rfl)) c601
  · exact absurd (w580.trans tie.1) c585
set_option maxHeartbeats 8000000 in
set_option maxRecDepth 100000 in
theorem law_basis {p : Program} {l : Launch} {e : Env} {s : State} {m : MethodId} {below : List Frame} {meth : Method} {c : Code} {b L : Nat} {xs : Nat → Int32} {dC : Nat → ClassId} {dI : Nat → Nat → Nat} {cI cJ cZ cII cJJ : ClassId} {Q : State → Prop} (LC : lwC p l s m meth c b L xs dC dI cI cJ cZ cII cJJ) (R R2 : Nat → Nat) (o j : Nat) (hj : j + 4 ≤ L) (uH : sgH) (w : Nat → Int64) (uM : sgM) (hsy : SY uH uM) (cells slots : Nat) (hc : cells + 2 ≤ 601024) (hsl : slots + 12 ≤ 7293034) (H : Heap) (locs : List Loc) (ls : Array Slot) (hP : va_P (dC, dI) vwCl (LW cI cJ cII cJJ R o (uH, w) ++ MW cI cJ cZ R2 uM) H) (hD : va_D (fun q => s.heap.size ≤ q) (LW cI cJ cII cJJ R o (uH, w) ++ MW cI cJ cZ R2 uM)) (hS : va_S (fun q => s.heap.size ≤ q) s.heap H locs) (hl : lv_has ls 8 [(0, .ref b), (1, .ref (R 0)), (2, .ref (R2 0)), (3, .ref o), (4, .int (nI j))])
    (kk : ∀ (ls : Array Slot) (H : Heap) (locs : List Loc) (uH : sgH) (w : Nat → Int64) (uM : sgM), SY uH uM → va_P (dC, dI) vwCl (LW cI cJ cII cJJ R o (uH, w) ++ MW cI cJ cZ R2 uM) H → va_D (fun q => s.heap.size ≤ q) (LW cI cJ cII cJJ R o (uH, w) ++ MW cI cJ cZ R2 uM) → va_S (fun q => s.heap.size ≤ q) s.heap H locs → lv_has ls 8 [(0, .ref b), (1, .ref (R 0)), (2, .ref (R2 0)), (3, .ref o), (4, .int (nI j))] → W p l e room_1 s m #[Value.ref b] below meth c H locs (cells + 2) (slots + 12) Q (F0 m 1081 ls [])) : W p l e room_1 s m #[Value.ref b] below meth c H locs cells slots Q (F0 m 609 ls []) := by
  obtain ⟨F, hK, hN, hXx, hX, hbl, hlt, hL⟩ := LC
  have hx := F.1
  have hb := F.2.1
  have hown : s.vm.findClass RL = some m.cls := F.2.2.2.1
  have hts := F.2.2.2.2
  have hA : ∀ q : Nat, s.heap.size ≤ q → (fun q => s.heap.size ≤ q) q := fun _ h => h
  have hbA : ¬ (fun q => s.heap.size ≤ q) b := Nat.not_le.mpr hbl
  have hcl : Cond.constantLong RL 79 4294967295 ∈ wsL_law := wsL_c79
  obtain ⟨nv, ne, fr, to, wt, Ln, li, row, sy⟩ := hsy
  refine lv_aload_n hx hb dL_law_609 rfl (lv_at hl 1 rfl) ?_
  refine lv_aload_n hx hb dL_law_610 rfl (lv_at hl 0 rfl) ?_
  refine lv_iload hx hb dL_law_611 (lv_at hl 4 rfl) ?_
  refine lv_iconst (v := 1) hx hb dL_law_613 (by decide) ?_
  refine lv_iadd hx hb dL_law_614 ?_
  refine lv_topi (fun x614 ex614 => ?_)
  have ex614 : x614 = nI (j + 1) := by rw [ex614]; exact nI_add j 1
  subst ex614
  refine va_sld hx hb hX hbl hbA hS (vp_in_nI (show j + 1 < L by omega) (by omega)) dL_law_615 ?_
  rw [nI_clamp (show j + 1 < 2 ^ 31 by omega)]
  refine lv_aload_n hx hb dL_law_616 rfl (lv_at hl 3 rfl) ?_
  refine fx_calli (Wd := LW cI cJ cII cJJ R o) (u := (uH, w)) (wr := MW cI cJ cZ R2 uM) hP hD hS hA (vx_runSX (As := [.ref (R 0), .int (xs (j + 1)), .ref o]) (rest := []) F (k_L_basis l dC dI cI cJ cZ cII cJJ R o (xs (j + 1)) uH w _ _ (k_X7_basis l dC dI cI cJ cZ cII cJJ R hlt uH.1 uH.2.1 uH.2.2.1 uH.2.2.2.1 uH.2.2.2.2 nv ne fr to wt (xs (j + 1)) sy.1 sy.2.2.1) (fun E u h => h.1) _) (vx_cwSW 3 hts gL_law_L_basis rfl rfl rfl (by decide +kernel) ⟨(Nat.le_of_ble_eq_true rfl), (Nat.le_of_ble_eq_true rfl)⟩) (cx_preS hK hN hXx hS hA (P_l hP) (D_l hD)) rfl rfl hl.1 rfl (lv_room (Nat.le_of_ble_eq_true rfl)) dL_law_617 ⟨hc, hsl⟩) (fun _ _ _ _ _ _ _ _ _ h9 => h9.elim) (fun r617 u617 H locs w617 hP hD hS => ?_)
  refine lv_istore (lv' := [(5, .int r617), (0, .ref b), (1, .ref (R 0)), (2, .ref (R2 0)), (3, .ref o), (4, .int (nI j))]) hx hb dL_law_620 hl (by decide) rfl (fun ls hl => ?_)
  refine lv_aload_n hx hb dL_law_622 rfl (lv_at hl 3 rfl) ?_
  refine lv_aload_n hx hb dL_law_623 rfl (lv_at hl 1 rfl) ?_
  refine lv_iload hx hb dL_law_624 (lv_at hl 5 rfl) ?_
  refine lv_iconst (v := 1) hx hb dL_law_626 (by decide) ?_
  refine lv_iadd hx hb dL_law_627 ?_
  refine lv_topi (fun x627 ex627 => ?_)
  have ex627 : x627 = nI (j + 1) := by rw [ex627]; exact nI_add j 1
  subst ex627
  refine va_sld hx hb hX hbl hbA hS (vp_in_nI (show j + 1 < L by omega) (by omega)) dL_law_628 ?_
  rw [nI_clamp (show j + 1 < 2 ^ 31 by omega)]
  have hP := P_sw hP
  have hD := D_sw hD
  refine ft_calll (Wd := MW cI cJ cZ R2) (u := uM) (wr := LW cI cJ cII cJJ R o u617) hP hD hS hA (va_runV (As := [.int (xs (j + 1))]) (rest := []) F (k_X8_basis l dC dI cI cJ cZ cII cJJ R2 uM.1 uM.2.1 uM.2.2 nv ne fr to wt (xs (j + 1)) sy.2.1 sy.2.2.1 _) (cwV 1 hts gL_law_X8_basis rfl rfl rfl (by decide +kernel) ⟨(Nat.le_of_ble_eq_true rfl), (Nat.le_of_ble_eq_true rfl)⟩) (ct_preV 0 8 hK hN (P_l hP) (D_l hD) rfl rfl) rfl rfl hl.1 rfl (lv_room (Nat.le_of_ble_eq_true rfl)) dL_law_629 ⟨hc, hsl⟩) (fun r629 m629 H locs w629 hP hD hS => ?_)
  have hP := P_sw hP
  have hD := D_sw hD
  refine lv_lstore (lv' := [(6, .long r629), (5, .int r617), (0, .ref b), (1, .ref (R 0)), (2, .ref (R2 0)), (3, .ref o), (4, .int (nI j))]) hx hb dL_law_632 hl (by decide) rfl (fun ls hl => ?_)
  refine lv_aload_n hx hb dL_law_634 rfl (lv_at hl 4 rfl) ?_
  have hP := P_sw hP
  have hD := D_sw hD
  refine ft_calli (Wd := MW cI cJ cZ R2) (u := m629) (wr := LW cI cJ cII cJJ R o u617) hP hD hS hA (va_runV (As := []) (rest := []) F (k_X8_thrown l dC dI cI cJ cZ cII cJJ R2 m629.1 m629.2.1 m629.2.2  _) (cwV 0 hts gL_law_X8_thrown rfl rfl rfl (by decide +kernel) ⟨(Nat.le_of_ble_eq_true rfl), (Nat.le_of_ble_eq_true rfl)⟩) (ct_preV 0 8 hK hN (P_l hP) (D_l hD) rfl rfl) rfl rfl hl.1 rfl (lv_room (Nat.le_of_ble_eq_true rfl)) dL_law_635 ⟨hc, hsl⟩) (fun r635 m635 H locs w635 hP hD hS => ?_)
  have hP := P_sw hP
  have hD := D_sw hD
  obtain ⟨w635, rfl⟩ := w635
  have tie := tie_basis sy w617 w629
  refine lv_iload hx hb dL_law_638 (lv_at hl 1 rfl) ?_
  refine lv_icmp_eq (tgt := 645) hx hb dL_law_640 (by decide) (fun c640 => ?_) (fun c640 => ?_)
  · -- alike
    refine lv_iload hx hb dL_law_645 (lv_at hl 1 rfl) ?_
    refine lv_if_ne (tgt := 661) hx hb dL_law_647 (by decide) (fun c647 => ?_) (fun c647 => ?_)
    · -- it threw
      refine lv_goto (tgt := 1081) hx hb dL_law_661 (by decide) ?_
      exact kk ls H locs u617.1 u617.2 m629 tie.2.2 hP hD hS (lv_sub hl [2, 3, 4, 5, 6] rfl)
    · -- it did not
      refine lv_aload_n hx hb dL_law_650 rfl (lv_at hl 5 rfl) ?_
      refine lv_iconst (v := 0) hx hb dL_law_651 (by decide) ?_
      have h8 : vp_in 0 1 := vp_in_nI (n := 0) (N := 1) (by decide) (by decide)
      refine va_lald hx hb hK hP 55 1 rfl rfl h8 dL_law_652 ?_
      refine lv_topl (fun x652 ex652 => ?_)
      have ex652 : x652 = u617.2 0 := ex652
      refine lv_lload hx hb dL_law_653 (lv_at hl 0 rfl) ?_
      refine W.lcmp hx hb dL_law_655 ?_
      refine lv_if_eq (tgt := 661) hx hb dL_law_656 (by decide) (fun c656 => ?_) (fun c656 => ?_)
      · -- alike
        refine lv_goto (tgt := 1081) hx hb dL_law_661 (by decide) ?_
        exact kk ls H locs u617.1 u617.2 m629 tie.2.2 hP hD hS (lv_sub hl [2, 3, 4, 5, 6] rfl)
      · rw [lg_cmp_eq] at c656
        exact absurd (ex652.trans ((tie.2.1 c647).trans rfl)) c656
  · exact absurd (w635.trans tie.1) c640
set_option maxHeartbeats 8000000 in
set_option maxRecDepth 100000 in
theorem law_belongs {p : Program} {l : Launch} {e : Env} {s : State} {m : MethodId} {below : List Frame} {meth : Method} {c : Code} {b L : Nat} {xs : Nat → Int32} {dC : Nat → ClassId} {dI : Nat → Nat → Nat} {cI cJ cZ cII cJJ : ClassId} {Q : State → Prop} (LC : lwC p l s m meth c b L xs dC dI cI cJ cZ cII cJJ) (R R2 : Nat → Nat) (o j : Nat) (hj : j + 4 ≤ L) (uH : sgH) (w : Nat → Int64) (uM : sgM) (hsy : SY uH uM) (cells slots : Nat) (hc : cells + 2 ≤ 601024) (hsl : slots + 12 ≤ 7293034) (H : Heap) (locs : List Loc) (ls : Array Slot) (hP : va_P (dC, dI) vwCl (LW cI cJ cII cJJ R o (uH, w) ++ MW cI cJ cZ R2 uM) H) (hD : va_D (fun q => s.heap.size ≤ q) (LW cI cJ cII cJJ R o (uH, w) ++ MW cI cJ cZ R2 uM)) (hS : va_S (fun q => s.heap.size ≤ q) s.heap H locs) (hl : lv_has ls 8 [(0, .ref b), (1, .ref (R 0)), (2, .ref (R2 0)), (3, .ref o), (4, .int (nI j))])
    (kk : ∀ (ls : Array Slot) (H : Heap) (locs : List Loc) (uH : sgH) (w : Nat → Int64) (uM : sgM), SY uH uM → va_P (dC, dI) vwCl (LW cI cJ cII cJJ R o (uH, w) ++ MW cI cJ cZ R2 uM) H → va_D (fun q => s.heap.size ≤ q) (LW cI cJ cII cJJ R o (uH, w) ++ MW cI cJ cZ R2 uM) → va_S (fun q => s.heap.size ≤ q) s.heap H locs → lv_has ls 8 [(0, .ref b), (1, .ref (R 0)), (2, .ref (R2 0)), (3, .ref o), (4, .int (nI j))] → W p l e room_1 s m #[Value.ref b] below meth c H locs (cells + 2) (slots + 12) Q (F0 m 1081 ls [])) : W p l e room_1 s m #[Value.ref b] below meth c H locs cells slots Q (F0 m 664 ls []) := by
  obtain ⟨F, hK, hN, hXx, hX, hbl, hlt, hL⟩ := LC
  have hx := F.1
  have hb := F.2.1
  have hown : s.vm.findClass RL = some m.cls := F.2.2.2.1
  have hts := F.2.2.2.2
  have hA : ∀ q : Nat, s.heap.size ≤ q → (fun q => s.heap.size ≤ q) q := fun _ h => h
  have hbA : ¬ (fun q => s.heap.size ≤ q) b := Nat.not_le.mpr hbl
  have hcl : Cond.constantLong RL 79 4294967295 ∈ wsL_law := wsL_c79
  obtain ⟨nv, ne, fr, to, wt, Ln, li, row, sy⟩ := hsy
  refine lv_aload_n hx hb dL_law_664 rfl (lv_at hl 1 rfl) ?_
  refine lv_aload_n hx hb dL_law_665 rfl (lv_at hl 0 rfl) ?_
  refine lv_iload hx hb dL_law_666 (lv_at hl 4 rfl) ?_
  refine lv_iconst (v := 1) hx hb dL_law_668 (by decide) ?_
  refine lv_iadd hx hb dL_law_669 ?_
  refine lv_topi (fun x669 ex669 => ?_)
  have ex669 : x669 = nI (j + 1) := by rw [ex669]; exact nI_add j 1
  subst ex669
  refine va_sld hx hb hX hbl hbA hS (vp_in_nI (show j + 1 < L by omega) (by omega)) dL_law_670 ?_
  rw [nI_clamp (show j + 1 < 2 ^ 31 by omega)]
  refine lv_i2l hx hb dL_law_671 rfl ?_
  refine lv_topl (fun x671 ex671 => ?_)
  refine lv_bipush (v := 32) hx hb dL_law_672 (by decide) ?_
  refine lv_lshl hx hb dL_law_674 rfl ?_
  refine lv_topl (fun x674 ex674 => ?_)
  refine lv_aload_n hx hb dL_law_675 rfl (lv_at hl 0 rfl) ?_
  refine lv_iload hx hb dL_law_676 (lv_at hl 4 rfl) ?_
  refine lv_iconst (v := 2) hx hb dL_law_678 (by decide) ?_
  refine lv_iadd hx hb dL_law_679 ?_
  refine lv_topi (fun x679 ex679 => ?_)
  have ex679 : x679 = nI (j + 2) := by rw [ex679]; exact nI_add j 2
  subst ex679
  refine va_sld hx hb hX hbl hbA hS (vp_in_nI (show j + 2 < L by omega) (by omega)) dL_law_680 ?_
  rw [nI_clamp (show j + 2 < 2 ^ 31 by omega)]
  refine lv_i2l hx hb dL_law_681 rfl ?_
  refine lv_topl (fun x681 ex681 => ?_)
  refine lv_ldc2 (v := 4294967295) hx hb hown (hts (.constantLong RL 79 4294967295) (hcl)) dL_law_682 ?_
  refine lv_land hx hb dL_law_685 ?_
  refine lv_topl (fun x685 ex685 => ?_)
  refine lv_lor hx hb dL_law_686 ?_
  refine lv_topl (fun x686 ex686 => ?_)
  have ex686 : x686 = zz (xs (j + 1)) (xs (j + 2)) := by rw [ex686, ex674, ex671, ex685, ex681]; rfl
  obtain ⟨z, hz, ez⟩ := lN_of (zz (xs (j + 1)) (xs (j + 2)))
  rw [ez] at ex686
  subst ex686
  refine lv_aload_n hx hb dL_law_687 rfl (lv_at hl 3 rfl) ?_
  refine fx_calli (Wd := LW cI cJ cII cJJ R o) (u := (uH, w)) (wr := MW cI cJ cZ R2 uM) hP hD hS hA (vx_runSX (As := [.ref (R 0), .long (lN z), .ref o]) (rest := []) F (k_L_belongs l dC dI cI cJ cZ cII cJJ R o (lN z) uH w _ _ (k_X7_belongs l dC dI cI cJ cZ cII cJJ R hlt uH.1 uH.2.1 uH.2.2.1 uH.2.2.2.1 uH.2.2.2.2 nv ne fr to wt z sy.1 hz) (fun E u h => h.1) _) (vx_cwSW 3 hts gL_law_L_belongs rfl rfl rfl (by decide +kernel) ⟨(Nat.le_of_ble_eq_true rfl), (Nat.le_of_ble_eq_true rfl)⟩) (cx_preS hK hN hXx hS hA (P_l hP) (D_l hD)) rfl rfl hl.1 rfl (lv_room (Nat.le_of_ble_eq_true rfl)) dL_law_688 ⟨hc, hsl⟩) (fun _ _ _ _ _ _ _ _ _ h9 => h9.elim) (fun r688 u688 H locs w688 hP hD hS => ?_)
  refine lv_istore (lv' := [(5, .int r688), (0, .ref b), (1, .ref (R 0)), (2, .ref (R2 0)), (3, .ref o), (4, .int (nI j))]) hx hb dL_law_691 hl (by decide) rfl (fun ls hl => ?_)
  refine lv_aload_n hx hb dL_law_693 rfl (lv_at hl 3 rfl) ?_
  refine lv_aload_n hx hb dL_law_694 rfl (lv_at hl 1 rfl) ?_
  refine lv_iload hx hb dL_law_695 (lv_at hl 5 rfl) ?_
  refine lv_iconst (v := 1) hx hb dL_law_697 (by decide) ?_
  refine lv_iadd hx hb dL_law_698 ?_
  refine lv_topi (fun x698 ex698 => ?_)
  have ex698 : x698 = nI (j + 1) := by rw [ex698]; exact nI_add j 1
  subst ex698
  refine va_sld hx hb hX hbl hbA hS (vp_in_nI (show j + 1 < L by omega) (by omega)) dL_law_699 ?_
  rw [nI_clamp (show j + 1 < 2 ^ 31 by omega)]
  refine lv_i2l hx hb dL_law_700 rfl ?_
  refine lv_topl (fun x700 ex700 => ?_)
  refine lv_bipush (v := 32) hx hb dL_law_701 (by decide) ?_
  refine lv_lshl hx hb dL_law_703 rfl ?_
  refine lv_topl (fun x703 ex703 => ?_)
  refine lv_aload_n hx hb dL_law_704 rfl (lv_at hl 1 rfl) ?_
  refine lv_iload hx hb dL_law_705 (lv_at hl 5 rfl) ?_
  refine lv_iconst (v := 2) hx hb dL_law_707 (by decide) ?_
  refine lv_iadd hx hb dL_law_708 ?_
  refine lv_topi (fun x708 ex708 => ?_)
  have ex708 : x708 = nI (j + 2) := by rw [ex708]; exact nI_add j 2
  subst ex708
  refine va_sld hx hb hX hbl hbA hS (vp_in_nI (show j + 2 < L by omega) (by omega)) dL_law_709 ?_
  rw [nI_clamp (show j + 2 < 2 ^ 31 by omega)]
  refine lv_i2l hx hb dL_law_710 rfl ?_
  refine lv_topl (fun x710 ex710 => ?_)
  refine lv_ldc2 (v := 4294967295) hx hb hown (hts (.constantLong RL 79 4294967295) (hcl)) dL_law_711 ?_
  refine lv_land hx hb dL_law_714 ?_
  refine lv_topl (fun x714 ex714 => ?_)
  refine lv_lor hx hb dL_law_715 ?_
  refine lv_topl (fun x715 ex715 => ?_)
  have ex715 : x715 = zz (xs (j + 1)) (xs (j + 2)) := by rw [ex715, ex703, ex700, ex714, ex710]; rfl
  rw [ez] at ex715
  subst ex715
  have hP := P_sw hP
  have hD := D_sw hD
  refine ft_calli (Wd := MW cI cJ cZ R2) (u := uM) (wr := LW cI cJ cII cJJ R o u688) hP hD hS hA (va_runV (As := [.long (lN z)]) (rest := []) F (k_X8_belongs l dC dI cI cJ cZ cII cJJ R2 uM.1 uM.2.1 uM.2.2 nv ne fr to wt z sy.2.1 sy.2.2.1 hz _) (cwV 1 hts gL_law_X8_belongs rfl rfl rfl (by decide +kernel) ⟨(Nat.le_of_ble_eq_true rfl), (Nat.le_of_ble_eq_true rfl)⟩) (ct_preV 0 8 hK hN (P_l hP) (D_l hD) rfl rfl) rfl rfl hl.1 rfl (lv_room (Nat.le_of_ble_eq_true rfl)) dL_law_716 ⟨hc, hsl⟩) (fun r716 m716 H locs w716 hP hD hS => ?_)
  have hP := P_sw hP
  have hD := D_sw hD
  refine lv_istore (lv' := [(6, .int r716), (5, .int r688), (0, .ref b), (1, .ref (R 0)), (2, .ref (R2 0)), (3, .ref o), (4, .int (nI j))]) hx hb dL_law_719 hl (by decide) rfl (fun ls hl => ?_)
  refine lv_aload_n hx hb dL_law_721 rfl (lv_at hl 4 rfl) ?_
  have hP := P_sw hP
  have hD := D_sw hD
  refine ft_calli (Wd := MW cI cJ cZ R2) (u := m716) (wr := LW cI cJ cII cJJ R o u688) hP hD hS hA (va_runV (As := []) (rest := []) F (k_X8_thrown l dC dI cI cJ cZ cII cJJ R2 m716.1 m716.2.1 m716.2.2  _) (cwV 0 hts gL_law_X8_thrown rfl rfl rfl (by decide +kernel) ⟨(Nat.le_of_ble_eq_true rfl), (Nat.le_of_ble_eq_true rfl)⟩) (ct_preV 0 8 hK hN (P_l hP) (D_l hD) rfl rfl) rfl rfl hl.1 rfl (lv_room (Nat.le_of_ble_eq_true rfl)) dL_law_722 ⟨hc, hsl⟩) (fun r722 m722 H locs w722 hP hD hS => ?_)
  have hP := P_sw hP
  have hD := D_sw hD
  obtain ⟨w722, rfl⟩ := w722
  have tie := tie_belongs sy w688 w716
  refine lv_iload hx hb dL_law_725 (lv_at hl 1 rfl) ?_
  refine lv_icmp_eq (tgt := 732) hx hb dL_law_727 (by decide) (fun c727 => ?_) (fun c727 => ?_)
  · -- alike
    refine lv_iload hx hb dL_law_732 (lv_at hl 1 rfl) ?_
    refine lv_if_ne (tgt := 756) hx hb dL_law_734 (by decide) (fun c734 => ?_) (fun c734 => ?_)
    · -- it threw
      refine lv_goto (tgt := 1081) hx hb dL_law_756 (by decide) ?_
      exact kk ls H locs u688.1 u688.2 m716 tie.2.2 hP hD hS (lv_sub hl [2, 3, 4, 5, 6] rfl)
    · -- it did not
      refine lv_aload_n hx hb dL_law_737 rfl (lv_at hl 5 rfl) ?_
      refine lv_iconst (v := 0) hx hb dL_law_738 (by decide) ?_
      have h8 : vp_in 0 1 := vp_in_nI (n := 0) (N := 1) (by decide) (by decide)
      refine va_lald hx hb hK hP 55 1 rfl rfl h8 dL_law_739 ?_
      refine lv_topl (fun x739 ex739 => ?_)
      have ex739 : x739 = u688.2 0 := ex739
      refine lv_iload hx hb dL_law_740 (lv_at hl 0 rfl) ?_
      refine lv_if_eq (tgt := 749) hx hb dL_law_742 (by decide) (fun c742 => ?_) (fun c742 => ?_)
      · -- t
        refine lv_lconst (v := 0) hx hb dL_law_749 (by decide) ?_
        refine W.lcmp hx hb dL_law_750 ?_
        refine lv_if_eq (tgt := 756) hx hb dL_law_751 (by decide) (fun c751 => ?_) (fun c751 => ?_)
        · -- alike
          refine lv_goto (tgt := 1081) hx hb dL_law_756 (by decide) ?_
          exact kk ls H locs u688.1 u688.2 m716 tie.2.2 hP hD hS (lv_sub hl [2, 3, 4, 5, 6] rfl)
        · rw [lg_cmp_eq] at c751
          exact absurd (ex739.trans ((tie.2.1 c734).trans (if_pos c742))) c751
      · -- f
        refine lv_lconst (v := 1) hx hb dL_law_745 (by decide) ?_
        refine lv_goto (tgt := 750) hx hb dL_law_746 (by decide) ?_
        refine W.lcmp hx hb dL_law_750 ?_
        refine lv_if_eq (tgt := 756) hx hb dL_law_751 (by decide) (fun c751 => ?_) (fun c751 => ?_)
        · -- alike
          refine lv_goto (tgt := 1081) hx hb dL_law_756 (by decide) ?_
          exact kk ls H locs u688.1 u688.2 m716 tie.2.2 hP hD hS (lv_sub hl [2, 3, 4, 5, 6] rfl)
        · rw [lg_cmp_eq] at c751
          exact absurd (ex739.trans ((tie.2.1 c734).trans (if_neg c742))) c751
  · exact absurd (w722.trans tie.1) c727
set_option maxHeartbeats 8000000 in
set_option maxRecDepth 100000 in
theorem law_cycles {p : Program} {l : Launch} {e : Env} {s : State} {m : MethodId} {below : List Frame} {meth : Method} {c : Code} {b L : Nat} {xs : Nat → Int32} {dC : Nat → ClassId} {dI : Nat → Nat → Nat} {cI cJ cZ cII cJJ : ClassId} {Q : State → Prop} (LC : lwC p l s m meth c b L xs dC dI cI cJ cZ cII cJJ) (R R2 : Nat → Nat) (o j : Nat) (hj : j + 4 ≤ L) (uH : sgH) (w : Nat → Int64) (uM : sgM) (hsy : SY uH uM) (cells slots : Nat) (hc : cells + 2 ≤ 601024) (hsl : slots + 12 ≤ 7293034) (H : Heap) (locs : List Loc) (ls : Array Slot) (hP : va_P (dC, dI) vwCl (LW cI cJ cII cJJ R o (uH, w) ++ MW cI cJ cZ R2 uM) H) (hD : va_D (fun q => s.heap.size ≤ q) (LW cI cJ cII cJJ R o (uH, w) ++ MW cI cJ cZ R2 uM)) (hS : va_S (fun q => s.heap.size ≤ q) s.heap H locs) (hl : lv_has ls 8 [(0, .ref b), (1, .ref (R 0)), (2, .ref (R2 0)), (3, .ref o), (4, .int (nI j))])
    (kk : ∀ (ls : Array Slot) (H : Heap) (locs : List Loc) (uH : sgH) (w : Nat → Int64) (uM : sgM), SY uH uM → va_P (dC, dI) vwCl (LW cI cJ cII cJJ R o (uH, w) ++ MW cI cJ cZ R2 uM) H → va_D (fun q => s.heap.size ≤ q) (LW cI cJ cII cJJ R o (uH, w) ++ MW cI cJ cZ R2 uM) → va_S (fun q => s.heap.size ≤ q) s.heap H locs → lv_has ls 8 [(0, .ref b), (1, .ref (R 0)), (2, .ref (R2 0)), (3, .ref o), (4, .int (nI j))] → W p l e room_1 s m #[Value.ref b] below meth c H locs (cells + 2) (slots + 12) Q (F0 m 1081 ls [])) : W p l e room_1 s m #[Value.ref b] below meth c H locs cells slots Q (F0 m 759 ls []) := by
  obtain ⟨F, hK, hN, hXx, hX, hbl, hlt, hL⟩ := LC
  have hx := F.1
  have hb := F.2.1
  have hown : s.vm.findClass RL = some m.cls := F.2.2.2.1
  have hts := F.2.2.2.2
  have hA : ∀ q : Nat, s.heap.size ≤ q → (fun q => s.heap.size ≤ q) q := fun _ h => h
  have hbA : ¬ (fun q => s.heap.size ≤ q) b := Nat.not_le.mpr hbl
  have hcl : Cond.constantLong RL 79 4294967295 ∈ wsL_law := wsL_c79
  obtain ⟨nv, ne, fr, to, wt, Ln, li, row, sy⟩ := hsy
  refine lv_aload_n hx hb dL_law_759 rfl (lv_at hl 1 rfl) ?_
  rw [List.append_assoc] at hP hD
  refine ft_calli (Wd := HW cI cJ cII cJJ R) (u := uH) (wr := [(o, aJ cJ 1 w)] ++ MW cI cJ cZ R2 uM) hP hD hS hA (va_runV (As := []) (rest := []) F (k_X7_cycles l dC dI cI cJ cZ cII cJJ R uH.1 uH.2.1 uH.2.2.1 uH.2.2.2.1 uH.2.2.2.2 nv ne fr to wt sy.1 _) (cwV 0 hts gL_law_X7_cycles rfl rfl rfl (by decide +kernel) ⟨(Nat.le_of_ble_eq_true rfl), (Nat.le_of_ble_eq_true rfl)⟩) (ct_preV 0 7 hK hN (P_l hP) (D_l hD) rfl rfl) rfl rfl hl.1 rfl (lv_room (Nat.le_of_ble_eq_true rfl)) dL_law_760 ⟨Nat.le_trans (Nat.le_add_right _ 2) hc, Nat.le_trans (Nat.le_add_right _ 12) hsl⟩) (fun r760 h760 H locs w760 hP hD hS => ?_)
  rw [← List.append_assoc] at hP hD
  refine lv_aload_n hx hb dL_law_763 rfl (lv_at hl 2 rfl) ?_
  have hP := P_sw hP
  have hD := D_sw hD
  refine ft_calli (Wd := MW cI cJ cZ R2) (u := uM) (wr := LW cI cJ cII cJJ R o (h760, w)) hP hD hS hA (va_runV (As := []) (rest := [.int r760]) F (k_X8_cycles l dC dI cI cJ cZ cII cJJ R2 uM.1 uM.2.1 uM.2.2 nv ne fr to wt sy.2.1 sy.2.2.1 _) (cwV 0 hts gL_law_X8_cycles rfl rfl rfl (by decide +kernel) ⟨(Nat.le_of_ble_eq_true rfl), (Nat.le_of_ble_eq_true rfl)⟩) (ct_preV 0 8 hK hN (P_l hP) (D_l hD) rfl rfl) rfl rfl hl.1 rfl (lv_room (Nat.le_of_ble_eq_true rfl)) dL_law_764 ⟨Nat.le_trans (Nat.le_add_right _ 2) hc, Nat.le_trans (Nat.le_add_right _ 12) hsl⟩) (fun r764 m764 H locs w764 hP hD hS => ?_)
  have hP := P_sw hP
  have hD := D_sw hD
  obtain ⟨eq9, sy9⟩ := tie_cycles sy w760 w764
  refine lv_icmp_eq (tgt := 1081) hx hb dL_law_767 (by decide) (fun c767 => ?_) (fun c767 => ?_)
  · -- alike
    exact W.widen (Nat.le_add_right _ _) (Nat.le_add_right _ _) (kk ls H locs h760 w m764 sy9 hP hD hS (lv_sub hl [0, 1, 2, 3, 4] rfl))
  · exact absurd eq9 c767
set_option maxHeartbeats 8000000 in
set_option maxRecDepth 100000 in
theorem law_light {p : Program} {l : Launch} {e : Env} {s : State} {m : MethodId} {below : List Frame} {meth : Method} {c : Code} {b L : Nat} {xs : Nat → Int32} {dC : Nat → ClassId} {dI : Nat → Nat → Nat} {cI cJ cZ cII cJJ : ClassId} {Q : State → Prop} (LC : lwC p l s m meth c b L xs dC dI cI cJ cZ cII cJJ) (R R2 : Nat → Nat) (o j : Nat) (hj : j + 4 ≤ L) (uH : sgH) (w : Nat → Int64) (uM : sgM) (hsy : SY uH uM) (cells slots : Nat) (hc : cells + 2 ≤ 601024) (hsl : slots + 12 ≤ 7293034) (H : Heap) (locs : List Loc) (ls : Array Slot) (hP : va_P (dC, dI) vwCl (LW cI cJ cII cJJ R o (uH, w) ++ MW cI cJ cZ R2 uM) H) (hD : va_D (fun q => s.heap.size ≤ q) (LW cI cJ cII cJJ R o (uH, w) ++ MW cI cJ cZ R2 uM)) (hS : va_S (fun q => s.heap.size ≤ q) s.heap H locs) (hl : lv_has ls 8 [(0, .ref b), (1, .ref (R 0)), (2, .ref (R2 0)), (3, .ref o), (4, .int (nI j))])
    (kk : ∀ (ls : Array Slot) (H : Heap) (locs : List Loc) (uH : sgH) (w : Nat → Int64) (uM : sgM), SY uH uM → va_P (dC, dI) vwCl (LW cI cJ cII cJJ R o (uH, w) ++ MW cI cJ cZ R2 uM) H → va_D (fun q => s.heap.size ≤ q) (LW cI cJ cII cJJ R o (uH, w) ++ MW cI cJ cZ R2 uM) → va_S (fun q => s.heap.size ≤ q) s.heap H locs → lv_has ls 8 [(0, .ref b), (1, .ref (R 0)), (2, .ref (R2 0)), (3, .ref o), (4, .int (nI j))] → W p l e room_1 s m #[Value.ref b] below meth c H locs (cells + 2) (slots + 12) Q (F0 m 1081 ls [])) : W p l e room_1 s m #[Value.ref b] below meth c H locs cells slots Q (F0 m 772 ls []) := by
  obtain ⟨F, hK, hN, hXx, hX, hbl, hlt, hL⟩ := LC
  have hx := F.1
  have hb := F.2.1
  have hown : s.vm.findClass RL = some m.cls := F.2.2.2.1
  have hts := F.2.2.2.2
  have hA : ∀ q : Nat, s.heap.size ≤ q → (fun q => s.heap.size ≤ q) q := fun _ h => h
  have hbA : ¬ (fun q => s.heap.size ≤ q) b := Nat.not_le.mpr hbl
  have hcl : Cond.constantLong RL 79 4294967295 ∈ wsL_law := wsL_c79
  obtain ⟨nv, ne, fr, to, wt, Ln, li, row, sy⟩ := hsy
  refine lv_aload_n hx hb dL_law_772 rfl (lv_at hl 1 rfl) ?_
  refine lv_aload_n hx hb dL_law_773 rfl (lv_at hl 0 rfl) ?_
  refine lv_iload hx hb dL_law_774 (lv_at hl 4 rfl) ?_
  refine lv_iconst (v := 1) hx hb dL_law_776 (by decide) ?_
  refine lv_iadd hx hb dL_law_777 ?_
  refine lv_topi (fun x777 ex777 => ?_)
  have ex777 : x777 = nI (j + 1) := by rw [ex777]; exact nI_add j 1
  subst ex777
  refine va_sld hx hb hX hbl hbA hS (vp_in_nI (show j + 1 < L by omega) (by omega)) dL_law_778 ?_
  rw [nI_clamp (show j + 1 < 2 ^ 31 by omega)]
  refine lv_i2l hx hb dL_law_779 rfl ?_
  refine lv_topl (fun x779 ex779 => ?_)
  refine lv_bipush (v := 32) hx hb dL_law_780 (by decide) ?_
  refine lv_lshl hx hb dL_law_782 rfl ?_
  refine lv_topl (fun x782 ex782 => ?_)
  refine lv_aload_n hx hb dL_law_783 rfl (lv_at hl 0 rfl) ?_
  refine lv_iload hx hb dL_law_784 (lv_at hl 4 rfl) ?_
  refine lv_iconst (v := 2) hx hb dL_law_786 (by decide) ?_
  refine lv_iadd hx hb dL_law_787 ?_
  refine lv_topi (fun x787 ex787 => ?_)
  have ex787 : x787 = nI (j + 2) := by rw [ex787]; exact nI_add j 2
  subst ex787
  refine va_sld hx hb hX hbl hbA hS (vp_in_nI (show j + 2 < L by omega) (by omega)) dL_law_788 ?_
  rw [nI_clamp (show j + 2 < 2 ^ 31 by omega)]
  refine lv_i2l hx hb dL_law_789 rfl ?_
  refine lv_topl (fun x789 ex789 => ?_)
  refine lv_ldc2 (v := 4294967295) hx hb hown (hts (.constantLong RL 79 4294967295) (hcl)) dL_law_790 ?_
  refine lv_land hx hb dL_law_793 ?_
  refine lv_topl (fun x793 ex793 => ?_)
  refine lv_lor hx hb dL_law_794 ?_
  refine lv_topl (fun x794 ex794 => ?_)
  have ex794 : x794 = zz (xs (j + 1)) (xs (j + 2)) := by rw [ex794, ex782, ex779, ex793, ex789]; rfl
  obtain ⟨z, hz, ez⟩ := lN_of (zz (xs (j + 1)) (xs (j + 2)))
  rw [ez] at ex794
  subst ex794
  rw [List.append_assoc] at hP hD
  refine ft_calli (Wd := HW cI cJ cII cJJ R) (u := uH) (wr := [(o, aJ cJ 1 w)] ++ MW cI cJ cZ R2 uM) hP hD hS hA (va_runV (As := [.long (lN z)]) (rest := []) F (k_X7_light l dC dI cI cJ cZ cII cJJ R uH.1 uH.2.1 uH.2.2.1 uH.2.2.2.1 uH.2.2.2.2 nv ne fr to wt (lN z) sy.1 sy.2.2.1 _) (cwV 1 hts gL_law_X7_light rfl rfl rfl (by decide +kernel) ⟨(Nat.le_of_ble_eq_true rfl), (Nat.le_of_ble_eq_true rfl)⟩) (ct_preV 0 7 hK hN (P_l hP) (D_l hD) rfl rfl) rfl rfl hl.1 rfl (lv_room (Nat.le_of_ble_eq_true rfl)) dL_law_795 ⟨Nat.le_trans (Nat.le_add_right _ 2) hc, Nat.le_trans (Nat.le_add_right _ 12) hsl⟩) (fun r795 h795 H locs w795 hP hD hS => ?_)
  rw [← List.append_assoc] at hP hD
  refine lv_aload_n hx hb dL_law_798 rfl (lv_at hl 2 rfl) ?_
  refine lv_aload_n hx hb dL_law_799 rfl (lv_at hl 0 rfl) ?_
  refine lv_iload hx hb dL_law_800 (lv_at hl 4 rfl) ?_
  refine lv_iconst (v := 1) hx hb dL_law_802 (by decide) ?_
  refine lv_iadd hx hb dL_law_803 ?_
  refine lv_topi (fun x803 ex803 => ?_)
  have ex803 : x803 = nI (j + 1) := by rw [ex803]; exact nI_add j 1
  subst ex803
  refine va_sld hx hb hX hbl hbA hS (vp_in_nI (show j + 1 < L by omega) (by omega)) dL_law_804 ?_
  rw [nI_clamp (show j + 1 < 2 ^ 31 by omega)]
  refine lv_i2l hx hb dL_law_805 rfl ?_
  refine lv_topl (fun x805 ex805 => ?_)
  refine lv_bipush (v := 32) hx hb dL_law_806 (by decide) ?_
  refine lv_lshl hx hb dL_law_808 rfl ?_
  refine lv_topl (fun x808 ex808 => ?_)
  refine lv_aload_n hx hb dL_law_809 rfl (lv_at hl 0 rfl) ?_
  refine lv_iload hx hb dL_law_810 (lv_at hl 4 rfl) ?_
  refine lv_iconst (v := 2) hx hb dL_law_812 (by decide) ?_
  refine lv_iadd hx hb dL_law_813 ?_
  refine lv_topi (fun x813 ex813 => ?_)
  have ex813 : x813 = nI (j + 2) := by rw [ex813]; exact nI_add j 2
  subst ex813
  refine va_sld hx hb hX hbl hbA hS (vp_in_nI (show j + 2 < L by omega) (by omega)) dL_law_814 ?_
  rw [nI_clamp (show j + 2 < 2 ^ 31 by omega)]
  refine lv_i2l hx hb dL_law_815 rfl ?_
  refine lv_topl (fun x815 ex815 => ?_)
  refine lv_ldc2 (v := 4294967295) hx hb hown (hts (.constantLong RL 79 4294967295) (hcl)) dL_law_816 ?_
  refine lv_land hx hb dL_law_819 ?_
  refine lv_topl (fun x819 ex819 => ?_)
  refine lv_lor hx hb dL_law_820 ?_
  refine lv_topl (fun x820 ex820 => ?_)
  have ex820 : x820 = zz (xs (j + 1)) (xs (j + 2)) := by rw [ex820, ex808, ex805, ex819, ex815]; rfl
  rw [ez] at ex820
  subst ex820
  have hP := P_sw hP
  have hD := D_sw hD
  refine ft_calli (Wd := MW cI cJ cZ R2) (u := uM) (wr := LW cI cJ cII cJJ R o (h795, w)) hP hD hS hA (va_runV (As := [.long (lN z)]) (rest := [.int r795]) F (k_X8_light l dC dI cI cJ cZ cII cJJ R2 uM.1 uM.2.1 uM.2.2 nv ne fr to wt (lN z) sy.2.1 sy.2.2.1 _) (cwV 1 hts gL_law_X8_light rfl rfl rfl (by decide +kernel) ⟨(Nat.le_of_ble_eq_true rfl), (Nat.le_of_ble_eq_true rfl)⟩) (ct_preV 0 8 hK hN (P_l hP) (D_l hD) rfl rfl) rfl rfl hl.1 rfl (lv_room (Nat.le_of_ble_eq_true rfl)) dL_law_821 ⟨Nat.le_trans (Nat.le_add_right _ 2) hc, Nat.le_trans (Nat.le_add_right _ 12) hsl⟩) (fun r821 m821 H locs w821 hP hD hS => ?_)
  have hP := P_sw hP
  have hD := D_sw hD
  obtain ⟨eq9, sy9⟩ := tie_light sy w795 w821
  refine lv_icmp_eq (tgt := 1081) hx hb dL_law_824 (by decide) (fun c824 => ?_) (fun c824 => ?_)
  · -- alike
    exact W.widen (Nat.le_add_right _ _) (Nat.le_add_right _ _) (kk ls H locs h795 w m821 sy9 hP hD hS (lv_sub hl [0, 1, 2, 3, 4] rfl))
  · exact absurd eq9 c824
set_option maxHeartbeats 8000000 in
set_option maxRecDepth 100000 in
theorem law_add {p : Program} {l : Launch} {e : Env} {s : State} {m : MethodId} {below : List Frame} {meth : Method} {c : Code} {b L : Nat} {xs : Nat → Int32} {dC : Nat → ClassId} {dI : Nat → Nat → Nat} {cI cJ cZ cII cJJ : ClassId} {Q : State → Prop} (LC : lwC p l s m meth c b L xs dC dI cI cJ cZ cII cJJ) (R R2 : Nat → Nat) (o j : Nat) (hj : j + 4 ≤ L) (uH : sgH) (w : Nat → Int64) (uM : sgM) (hsy : SY uH uM) (cells slots : Nat) (hc : cells + 2 ≤ 601024) (hsl : slots + 12 ≤ 7293034) (H : Heap) (locs : List Loc) (ls : Array Slot) (hP : va_P (dC, dI) vwCl (LW cI cJ cII cJJ R o (uH, w) ++ MW cI cJ cZ R2 uM) H) (hD : va_D (fun q => s.heap.size ≤ q) (LW cI cJ cII cJJ R o (uH, w) ++ MW cI cJ cZ R2 uM)) (hS : va_S (fun q => s.heap.size ≤ q) s.heap H locs) (hl : lv_has ls 8 [(0, .ref b), (1, .ref (R 0)), (2, .ref (R2 0)), (3, .ref o), (4, .int (nI j))])
    (kk : ∀ (ls : Array Slot) (H : Heap) (locs : List Loc) (uH : sgH) (w : Nat → Int64) (uM : sgM), SY uH uM → va_P (dC, dI) vwCl (LW cI cJ cII cJJ R o (uH, w) ++ MW cI cJ cZ R2 uM) H → va_D (fun q => s.heap.size ≤ q) (LW cI cJ cII cJJ R o (uH, w) ++ MW cI cJ cZ R2 uM) → va_S (fun q => s.heap.size ≤ q) s.heap H locs → lv_has ls 8 [(0, .ref b), (1, .ref (R 0)), (2, .ref (R2 0)), (3, .ref o), (4, .int (nI j))] → W p l e room_1 s m #[Value.ref b] below meth c H locs (cells + 2) (slots + 12) Q (F0 m 1081 ls [])) : W p l e room_1 s m #[Value.ref b] below meth c H locs cells slots Q (F0 m 829 ls []) := by
  obtain ⟨F, hK, hN, hXx, hX, hbl, hlt, hL⟩ := LC
  have hx := F.1
  have hb := F.2.1
  have hown : s.vm.findClass RL = some m.cls := F.2.2.2.1
  have hts := F.2.2.2.2
  have hA : ∀ q : Nat, s.heap.size ≤ q → (fun q => s.heap.size ≤ q) q := fun _ h => h
  have hbA : ¬ (fun q => s.heap.size ≤ q) b := Nat.not_le.mpr hbl
  have hcl : Cond.constantLong RL 79 4294967295 ∈ wsL_law := wsL_c79
  obtain ⟨nv, ne, fr, to, wt, Ln, li, row, sy⟩ := hsy
  refine lv_aload_n hx hb dL_law_829 rfl (lv_at hl 1 rfl) ?_
  refine lv_aload_n hx hb dL_law_830 rfl (lv_at hl 0 rfl) ?_
  refine lv_iload hx hb dL_law_831 (lv_at hl 4 rfl) ?_
  refine lv_iconst (v := 1) hx hb dL_law_833 (by decide) ?_
  refine lv_iadd hx hb dL_law_834 ?_
  refine lv_topi (fun x834 ex834 => ?_)
  have ex834 : x834 = nI (j + 1) := by rw [ex834]; exact nI_add j 1
  subst ex834
  refine va_sld hx hb hX hbl hbA hS (vp_in_nI (show j + 1 < L by omega) (by omega)) dL_law_835 ?_
  rw [nI_clamp (show j + 1 < 2 ^ 31 by omega)]
  refine lv_i2l hx hb dL_law_836 rfl ?_
  refine lv_topl (fun x836 ex836 => ?_)
  refine lv_bipush (v := 32) hx hb dL_law_837 (by decide) ?_
  refine lv_lshl hx hb dL_law_839 rfl ?_
  refine lv_topl (fun x839 ex839 => ?_)
  refine lv_aload_n hx hb dL_law_840 rfl (lv_at hl 0 rfl) ?_
  refine lv_iload hx hb dL_law_841 (lv_at hl 4 rfl) ?_
  refine lv_iconst (v := 2) hx hb dL_law_843 (by decide) ?_
  refine lv_iadd hx hb dL_law_844 ?_
  refine lv_topi (fun x844 ex844 => ?_)
  have ex844 : x844 = nI (j + 2) := by rw [ex844]; exact nI_add j 2
  subst ex844
  refine va_sld hx hb hX hbl hbA hS (vp_in_nI (show j + 2 < L by omega) (by omega)) dL_law_845 ?_
  rw [nI_clamp (show j + 2 < 2 ^ 31 by omega)]
  refine lv_i2l hx hb dL_law_846 rfl ?_
  refine lv_topl (fun x846 ex846 => ?_)
  refine lv_ldc2 (v := 4294967295) hx hb hown (hts (.constantLong RL 79 4294967295) (hcl)) dL_law_847 ?_
  refine lv_land hx hb dL_law_850 ?_
  refine lv_topl (fun x850 ex850 => ?_)
  refine lv_lor hx hb dL_law_851 ?_
  refine lv_topl (fun x851 ex851 => ?_)
  have ex851 : x851 = zz (xs (j + 1)) (xs (j + 2)) := by rw [ex851, ex839, ex836, ex850, ex846]; rfl
  obtain ⟨z, hz, ez⟩ := lN_of (zz (xs (j + 1)) (xs (j + 2)))
  rw [ez] at ex851
  subst ex851
  refine lv_aload_n hx hb dL_law_852 rfl (lv_at hl 3 rfl) ?_
  refine fx_calli (Wd := LW cI cJ cII cJJ R o) (u := (uH, w)) (wr := MW cI cJ cZ R2 uM) hP hD hS hA (vx_runSX (As := [.ref (R 0), .long (lN z), .ref o]) (rest := []) F (k_L_add l dC dI cI cJ cZ cII cJJ R o (lN z) uH w _ _ (k_X7_add l dC dI cI cJ cZ cII cJJ R hlt uH.1 uH.2.1 uH.2.2.1 uH.2.2.2.1 uH.2.2.2.2 Ln (rk li Ln) row z sy.2.2.2.1 sy.2.2.2.2.2.2.1 hz) (fun E u h => h.elim (fun h => .inl h.1) (fun h => .inr h.1)) _) (vx_cwSW 3 hts gL_law_L_add rfl rfl rfl (by decide +kernel) ⟨(Nat.le_of_ble_eq_true rfl), (Nat.le_of_ble_eq_true rfl)⟩) (cx_preS hK hN hXx hS hA (P_l hP) (D_l hD)) rfl rfl hl.1 rfl (lv_room (Nat.le_of_ble_eq_true rfl)) dL_law_853 ⟨hc, hsl⟩) (fun _ _ _ _ _ _ _ _ _ h9 => h9.elim) (fun r853 u853 H locs w853 hP hD hS => ?_)
  refine lv_istore (lv' := [(5, .int r853), (0, .ref b), (1, .ref (R 0)), (2, .ref (R2 0)), (3, .ref o), (4, .int (nI j))]) hx hb dL_law_856 hl (by decide) rfl (fun ls hl => ?_)
  refine lv_aload_n hx hb dL_law_858 rfl (lv_at hl 3 rfl) ?_
  refine lv_aload_n hx hb dL_law_859 rfl (lv_at hl 1 rfl) ?_
  refine lv_iload hx hb dL_law_860 (lv_at hl 5 rfl) ?_
  refine lv_iconst (v := 1) hx hb dL_law_862 (by decide) ?_
  refine lv_iadd hx hb dL_law_863 ?_
  refine lv_topi (fun x863 ex863 => ?_)
  have ex863 : x863 = nI (j + 1) := by rw [ex863]; exact nI_add j 1
  subst ex863
  refine va_sld hx hb hX hbl hbA hS (vp_in_nI (show j + 1 < L by omega) (by omega)) dL_law_864 ?_
  rw [nI_clamp (show j + 1 < 2 ^ 31 by omega)]
  refine lv_i2l hx hb dL_law_865 rfl ?_
  refine lv_topl (fun x865 ex865 => ?_)
  refine lv_bipush (v := 32) hx hb dL_law_866 (by decide) ?_
  refine lv_lshl hx hb dL_law_868 rfl ?_
  refine lv_topl (fun x868 ex868 => ?_)
  refine lv_aload_n hx hb dL_law_869 rfl (lv_at hl 1 rfl) ?_
  refine lv_iload hx hb dL_law_870 (lv_at hl 5 rfl) ?_
  refine lv_iconst (v := 2) hx hb dL_law_872 (by decide) ?_
  refine lv_iadd hx hb dL_law_873 ?_
  refine lv_topi (fun x873 ex873 => ?_)
  have ex873 : x873 = nI (j + 2) := by rw [ex873]; exact nI_add j 2
  subst ex873
  refine va_sld hx hb hX hbl hbA hS (vp_in_nI (show j + 2 < L by omega) (by omega)) dL_law_874 ?_
  rw [nI_clamp (show j + 2 < 2 ^ 31 by omega)]
  refine lv_i2l hx hb dL_law_875 rfl ?_
  refine lv_topl (fun x875 ex875 => ?_)
  refine lv_ldc2 (v := 4294967295) hx hb hown (hts (.constantLong RL 79 4294967295) (hcl)) dL_law_876 ?_
  refine lv_land hx hb dL_law_879 ?_
  refine lv_topl (fun x879 ex879 => ?_)
  refine lv_lor hx hb dL_law_880 ?_
  refine lv_topl (fun x880 ex880 => ?_)
  have ex880 : x880 = zz (xs (j + 1)) (xs (j + 2)) := by rw [ex880, ex868, ex865, ex879, ex875]; rfl
  rw [ez] at ex880
  subst ex880
  have hP := P_sw hP
  have hD := D_sw hD
  refine ft_calli (Wd := MW cI cJ cZ R2) (u := uM) (wr := LW cI cJ cII cJJ R o u853) hP hD hS hA (va_runV (As := [.long (lN z)]) (rest := []) F (k_X8_add l dC dI cI cJ cZ cII cJJ R2 uM.1 uM.2.1 uM.2.2 Ln li z sy.2.2.2.2.2 hz _) (cwV 1 hts gL_law_X8_add rfl rfl rfl (by decide +kernel) ⟨(Nat.le_of_ble_eq_true rfl), (Nat.le_of_ble_eq_true rfl)⟩) (ct_preV 0 8 hK hN (P_l hP) (D_l hD) rfl rfl) rfl rfl hl.1 rfl (lv_room (Nat.le_of_ble_eq_true rfl)) dL_law_881 ⟨hc, hsl⟩) (fun r881 m881 H locs w881 hP hD hS => ?_)
  have hP := P_sw hP
  have hD := D_sw hD
  refine lv_istore (lv' := [(6, .int r881), (5, .int r853), (0, .ref b), (1, .ref (R 0)), (2, .ref (R2 0)), (3, .ref o), (4, .int (nI j))]) hx hb dL_law_884 hl (by decide) rfl (fun ls hl => ?_)
  refine lv_aload_n hx hb dL_law_886 rfl (lv_at hl 4 rfl) ?_
  have hP := P_sw hP
  have hD := D_sw hD
  refine ft_calli (Wd := MW cI cJ cZ R2) (u := m881) (wr := LW cI cJ cII cJJ R o u853) hP hD hS hA (va_runV (As := []) (rest := []) F (k_X8_thrown l dC dI cI cJ cZ cII cJJ R2 m881.1 m881.2.1 m881.2.2  _) (cwV 0 hts gL_law_X8_thrown rfl rfl rfl (by decide +kernel) ⟨(Nat.le_of_ble_eq_true rfl), (Nat.le_of_ble_eq_true rfl)⟩) (ct_preV 0 8 hK hN (P_l hP) (D_l hD) rfl rfl) rfl rfl hl.1 rfl (lv_room (Nat.le_of_ble_eq_true rfl)) dL_law_887 ⟨hc, hsl⟩) (fun r887 m887 H locs w887 hP hD hS => ?_)
  have hP := P_sw hP
  have hD := D_sw hD
  obtain ⟨w887, rfl⟩ := w887
  have tie := tie_add sy w853 w881
  refine lv_iload hx hb dL_law_890 (lv_at hl 1 rfl) ?_
  refine lv_icmp_eq (tgt := 897) hx hb dL_law_892 (by decide) (fun c892 => ?_) (fun c892 => ?_)
  · -- alike
    refine lv_iload hx hb dL_law_897 (lv_at hl 1 rfl) ?_
    refine lv_if_ne (tgt := 914) hx hb dL_law_899 (by decide) (fun c899 => ?_) (fun c899 => ?_)
    · -- it threw
      refine lv_goto (tgt := 1081) hx hb dL_law_914 (by decide) ?_
      exact kk ls H locs u853.1 u853.2 m881 tie.2.2 hP hD hS (lv_sub hl [2, 3, 4, 5, 6] rfl)
    · -- it did not
      refine lv_aload_n hx hb dL_law_902 rfl (lv_at hl 5 rfl) ?_
      refine lv_iconst (v := 0) hx hb dL_law_903 (by decide) ?_
      have h8 : vp_in 0 1 := vp_in_nI (n := 0) (N := 1) (by decide) (by decide)
      refine va_lald hx hb hK hP 55 1 rfl rfl h8 dL_law_904 ?_
      refine lv_topl (fun x904 ex904 => ?_)
      have ex904 : x904 = u853.2 0 := ex904
      refine lv_iload hx hb dL_law_905 (lv_at hl 0 rfl) ?_
      refine lv_i2l hx hb dL_law_907 rfl ?_
      refine lv_topl (fun x907 ex907 => ?_)
      refine W.lcmp hx hb dL_law_908 ?_
      refine lv_if_eq (tgt := 914) hx hb dL_law_909 (by decide) (fun c909 => ?_) (fun c909 => ?_)
      · -- alike
        refine lv_goto (tgt := 1081) hx hb dL_law_914 (by decide) ?_
        exact kk ls H locs u853.1 u853.2 m881 tie.2.2 hP hD hS (lv_sub hl [2, 3, 4, 5, 6] rfl)
      · rw [lg_cmp_eq] at c909
        exact absurd (ex904.trans ((tie.2.1 c899).trans ex907.symm)) c909
  · exact absurd (w887.trans tie.1) c892
set_option maxHeartbeats 8000000 in
set_option maxRecDepth 100000 in
theorem law_clear {p : Program} {l : Launch} {e : Env} {s : State} {m : MethodId} {below : List Frame} {meth : Method} {c : Code} {b L : Nat} {xs : Nat → Int32} {dC : Nat → ClassId} {dI : Nat → Nat → Nat} {cI cJ cZ cII cJJ : ClassId} {Q : State → Prop} (LC : lwC p l s m meth c b L xs dC dI cI cJ cZ cII cJJ) (R R2 : Nat → Nat) (o j : Nat) (hj : j + 4 ≤ L) (uH : sgH) (w : Nat → Int64) (uM : sgM) (hsy : SY uH uM) (cells slots : Nat) (hc : cells + 2 ≤ 601024) (hsl : slots + 12 ≤ 7293034) (H : Heap) (locs : List Loc) (ls : Array Slot) (hP : va_P (dC, dI) vwCl (LW cI cJ cII cJJ R o (uH, w) ++ MW cI cJ cZ R2 uM) H) (hD : va_D (fun q => s.heap.size ≤ q) (LW cI cJ cII cJJ R o (uH, w) ++ MW cI cJ cZ R2 uM)) (hS : va_S (fun q => s.heap.size ≤ q) s.heap H locs) (hl : lv_has ls 8 [(0, .ref b), (1, .ref (R 0)), (2, .ref (R2 0)), (3, .ref o), (4, .int (nI j))])
    (kk : ∀ (ls : Array Slot) (H : Heap) (locs : List Loc) (uH : sgH) (w : Nat → Int64) (uM : sgM), SY uH uM → va_P (dC, dI) vwCl (LW cI cJ cII cJJ R o (uH, w) ++ MW cI cJ cZ R2 uM) H → va_D (fun q => s.heap.size ≤ q) (LW cI cJ cII cJJ R o (uH, w) ++ MW cI cJ cZ R2 uM) → va_S (fun q => s.heap.size ≤ q) s.heap H locs → lv_has ls 8 [(0, .ref b), (1, .ref (R 0)), (2, .ref (R2 0)), (3, .ref o), (4, .int (nI j))] → W p l e room_1 s m #[Value.ref b] below meth c H locs (cells + 2) (slots + 12) Q (F0 m 1081 ls [])) : W p l e room_1 s m #[Value.ref b] below meth c H locs cells slots Q (F0 m 917 ls []) := by
  obtain ⟨F, hK, hN, hXx, hX, hbl, hlt, hL⟩ := LC
  have hx := F.1
  have hb := F.2.1
  have hown : s.vm.findClass RL = some m.cls := F.2.2.2.1
  have hts := F.2.2.2.2
  have hA : ∀ q : Nat, s.heap.size ≤ q → (fun q => s.heap.size ≤ q) q := fun _ h => h
  have hbA : ¬ (fun q => s.heap.size ≤ q) b := Nat.not_le.mpr hbl
  have hcl : Cond.constantLong RL 79 4294967295 ∈ wsL_law := wsL_c79
  obtain ⟨nv, ne, fr, to, wt, Ln, li, row, sy⟩ := hsy
  refine lv_aload_n hx hb dL_law_917 rfl (lv_at hl 1 rfl) ?_
  rw [List.append_assoc] at hP hD
  refine ft_calli (Wd := HW cI cJ cII cJJ R) (u := uH) (wr := [(o, aJ cJ 1 w)] ++ MW cI cJ cZ R2 uM) hP hD hS hA (va_runV (As := []) (rest := []) F (k_X7_clear l dC dI cI cJ cZ cII cJJ R uH.1 uH.2.1 uH.2.2.1 uH.2.2.2.1 uH.2.2.2.2 Ln (rk li Ln) row sy.2.2.2.1 _) (cwV 0 hts gL_law_X7_clear rfl rfl rfl (by decide +kernel) ⟨(Nat.le_of_ble_eq_true rfl), (Nat.le_of_ble_eq_true rfl)⟩) (ct_preV 0 7 hK hN (P_l hP) (D_l hD) rfl rfl) rfl rfl hl.1 rfl (lv_room (Nat.le_of_ble_eq_true rfl)) dL_law_918 ⟨Nat.le_trans (Nat.le_add_right _ 2) hc, Nat.le_trans (Nat.le_add_right _ 12) hsl⟩) (fun r918 h918 H locs w918 hP hD hS => ?_)
  rw [← List.append_assoc] at hP hD
  refine lv_aload_n hx hb dL_law_921 rfl (lv_at hl 2 rfl) ?_
  have hP := P_sw hP
  have hD := D_sw hD
  refine ft_calli (Wd := MW cI cJ cZ R2) (u := uM) (wr := LW cI cJ cII cJJ R o (h918, w)) hP hD hS hA (va_runV (As := []) (rest := [.int r918]) F (k_X8_clear l dC dI cI cJ cZ cII cJJ R2 uM.1 uM.2.1 uM.2.2  _) (cwV 0 hts gL_law_X8_clear rfl rfl rfl (by decide +kernel) ⟨(Nat.le_of_ble_eq_true rfl), (Nat.le_of_ble_eq_true rfl)⟩) (ct_preV 0 8 hK hN (P_l hP) (D_l hD) rfl rfl) rfl rfl hl.1 rfl (lv_room (Nat.le_of_ble_eq_true rfl)) dL_law_922 ⟨Nat.le_trans (Nat.le_add_right _ 2) hc, Nat.le_trans (Nat.le_add_right _ 12) hsl⟩) (fun r922 m922 H locs w922 hP hD hS => ?_)
  have hP := P_sw hP
  have hD := D_sw hD
  obtain ⟨eq9, sy9⟩ := tie_clear sy w918 w922
  refine lv_icmp_eq (tgt := 1081) hx hb dL_law_925 (by decide) (fun c925 => ?_) (fun c925 => ?_)
  · -- alike
    exact W.widen (Nat.le_add_right _ _) (Nat.le_add_right _ _) (kk ls H locs h918 w m922 sy9 hP hD hS (lv_sub hl [0, 1, 2, 3, 4] rfl))
  · exact absurd eq9 c925
set_option maxHeartbeats 8000000 in
set_option maxRecDepth 100000 in
theorem law_spans {p : Program} {l : Launch} {e : Env} {s : State} {m : MethodId} {below : List Frame} {meth : Method} {c : Code} {b L : Nat} {xs : Nat → Int32} {dC : Nat → ClassId} {dI : Nat → Nat → Nat} {cI cJ cZ cII cJJ : ClassId} {Q : State → Prop} (LC : lwC p l s m meth c b L xs dC dI cI cJ cZ cII cJJ) (R R2 : Nat → Nat) (o j : Nat) (hj : j + 4 ≤ L) (uH : sgH) (w : Nat → Int64) (uM : sgM) (hsy : SY uH uM) (cells slots : Nat) (hc : cells + 2 ≤ 601024) (hsl : slots + 12 ≤ 7293034) (H : Heap) (locs : List Loc) (ls : Array Slot) (hP : va_P (dC, dI) vwCl (LW cI cJ cII cJJ R o (uH, w) ++ MW cI cJ cZ R2 uM) H) (hD : va_D (fun q => s.heap.size ≤ q) (LW cI cJ cII cJJ R o (uH, w) ++ MW cI cJ cZ R2 uM)) (hS : va_S (fun q => s.heap.size ≤ q) s.heap H locs) (hl : lv_has ls 8 [(0, .ref b), (1, .ref (R 0)), (2, .ref (R2 0)), (3, .ref o), (4, .int (nI j))])
    (kk : ∀ (ls : Array Slot) (H : Heap) (locs : List Loc) (uH : sgH) (w : Nat → Int64) (uM : sgM), SY uH uM → va_P (dC, dI) vwCl (LW cI cJ cII cJJ R o (uH, w) ++ MW cI cJ cZ R2 uM) H → va_D (fun q => s.heap.size ≤ q) (LW cI cJ cII cJJ R o (uH, w) ++ MW cI cJ cZ R2 uM) → va_S (fun q => s.heap.size ≤ q) s.heap H locs → lv_has ls 8 [(0, .ref b), (1, .ref (R 0)), (2, .ref (R2 0)), (3, .ref o), (4, .int (nI j))] → W p l e room_1 s m #[Value.ref b] below meth c H locs (cells + 2) (slots + 12) Q (F0 m 1081 ls [])) : W p l e room_1 s m #[Value.ref b] below meth c H locs cells slots Q (F0 m 930 ls []) := by
  obtain ⟨F, hK, hN, hXx, hX, hbl, hlt, hL⟩ := LC
  have hx := F.1
  have hb := F.2.1
  have hown : s.vm.findClass RL = some m.cls := F.2.2.2.1
  have hts := F.2.2.2.2
  have hA : ∀ q : Nat, s.heap.size ≤ q → (fun q => s.heap.size ≤ q) q := fun _ h => h
  have hbA : ¬ (fun q => s.heap.size ≤ q) b := Nat.not_le.mpr hbl
  have hcl : Cond.constantLong RL 79 4294967295 ∈ wsL_law := wsL_c79
  obtain ⟨nv, ne, fr, to, wt, Ln, li, row, sy⟩ := hsy
  refine lv_aload_n hx hb dL_law_930 rfl (lv_at hl 1 rfl) ?_
  refine lv_aload_n hx hb dL_law_931 rfl (lv_at hl 0 rfl) ?_
  refine lv_iload hx hb dL_law_932 (lv_at hl 4 rfl) ?_
  refine lv_iconst (v := 1) hx hb dL_law_934 (by decide) ?_
  refine lv_iadd hx hb dL_law_935 ?_
  refine lv_topi (fun x935 ex935 => ?_)
  have ex935 : x935 = nI (j + 1) := by rw [ex935]; exact nI_add j 1
  subst ex935
  refine va_sld hx hb hX hbl hbA hS (vp_in_nI (show j + 1 < L by omega) (by omega)) dL_law_936 ?_
  rw [nI_clamp (show j + 1 < 2 ^ 31 by omega)]
  refine lv_i2l hx hb dL_law_937 rfl ?_
  refine lv_topl (fun x937 ex937 => ?_)
  refine lv_bipush (v := 32) hx hb dL_law_938 (by decide) ?_
  refine lv_lshl hx hb dL_law_940 rfl ?_
  refine lv_topl (fun x940 ex940 => ?_)
  refine lv_aload_n hx hb dL_law_941 rfl (lv_at hl 0 rfl) ?_
  refine lv_iload hx hb dL_law_942 (lv_at hl 4 rfl) ?_
  refine lv_iconst (v := 2) hx hb dL_law_944 (by decide) ?_
  refine lv_iadd hx hb dL_law_945 ?_
  refine lv_topi (fun x945 ex945 => ?_)
  have ex945 : x945 = nI (j + 2) := by rw [ex945]; exact nI_add j 2
  subst ex945
  refine va_sld hx hb hX hbl hbA hS (vp_in_nI (show j + 2 < L by omega) (by omega)) dL_law_946 ?_
  rw [nI_clamp (show j + 2 < 2 ^ 31 by omega)]
  refine lv_i2l hx hb dL_law_947 rfl ?_
  refine lv_topl (fun x947 ex947 => ?_)
  refine lv_ldc2 (v := 4294967295) hx hb hown (hts (.constantLong RL 79 4294967295) (hcl)) dL_law_948 ?_
  refine lv_land hx hb dL_law_951 ?_
  refine lv_topl (fun x951 ex951 => ?_)
  refine lv_lor hx hb dL_law_952 ?_
  refine lv_topl (fun x952 ex952 => ?_)
  have ex952 : x952 = zz (xs (j + 1)) (xs (j + 2)) := by rw [ex952, ex940, ex937, ex951, ex947]; rfl
  obtain ⟨z, hz, ez⟩ := lN_of (zz (xs (j + 1)) (xs (j + 2)))
  rw [ez] at ex952
  subst ex952
  refine lv_aload_n hx hb dL_law_953 rfl (lv_at hl 3 rfl) ?_
  refine fx_calli (Wd := LW cI cJ cII cJJ R o) (u := (uH, w)) (wr := MW cI cJ cZ R2 uM) hP hD hS hA (vx_runSX (As := [.ref (R 0), .long (lN z), .ref o]) (rest := []) F (k_L_spans l dC dI cI cJ cZ cII cJJ R o (lN z) uH w _ _ (k_X7_spans l dC dI cI cJ cZ cII cJJ R hlt uH.1 uH.2.1 uH.2.2.1 uH.2.2.2.1 uH.2.2.2.2 Ln (rk li Ln) row z sy.2.2.2.1 hz) (fun E u h => h.1) _) (vx_cwSW 3 hts gL_law_L_spans rfl rfl rfl (by decide +kernel) ⟨(Nat.le_of_ble_eq_true rfl), (Nat.le_of_ble_eq_true rfl)⟩) (cx_preS hK hN hXx hS hA (P_l hP) (D_l hD)) rfl rfl hl.1 rfl (lv_room (Nat.le_of_ble_eq_true rfl)) dL_law_954 ⟨hc, hsl⟩) (fun _ _ _ _ _ _ _ _ _ h9 => h9.elim) (fun r954 u954 H locs w954 hP hD hS => ?_)
  refine lv_istore (lv' := [(5, .int r954), (0, .ref b), (1, .ref (R 0)), (2, .ref (R2 0)), (3, .ref o), (4, .int (nI j))]) hx hb dL_law_957 hl (by decide) rfl (fun ls hl => ?_)
  refine lv_aload_n hx hb dL_law_959 rfl (lv_at hl 3 rfl) ?_
  refine lv_aload_n hx hb dL_law_960 rfl (lv_at hl 1 rfl) ?_
  refine lv_iload hx hb dL_law_961 (lv_at hl 5 rfl) ?_
  refine lv_iconst (v := 1) hx hb dL_law_963 (by decide) ?_
  refine lv_iadd hx hb dL_law_964 ?_
  refine lv_topi (fun x964 ex964 => ?_)
  have ex964 : x964 = nI (j + 1) := by rw [ex964]; exact nI_add j 1
  subst ex964
  refine va_sld hx hb hX hbl hbA hS (vp_in_nI (show j + 1 < L by omega) (by omega)) dL_law_965 ?_
  rw [nI_clamp (show j + 1 < 2 ^ 31 by omega)]
  refine lv_i2l hx hb dL_law_966 rfl ?_
  refine lv_topl (fun x966 ex966 => ?_)
  refine lv_bipush (v := 32) hx hb dL_law_967 (by decide) ?_
  refine lv_lshl hx hb dL_law_969 rfl ?_
  refine lv_topl (fun x969 ex969 => ?_)
  refine lv_aload_n hx hb dL_law_970 rfl (lv_at hl 1 rfl) ?_
  refine lv_iload hx hb dL_law_971 (lv_at hl 5 rfl) ?_
  refine lv_iconst (v := 2) hx hb dL_law_973 (by decide) ?_
  refine lv_iadd hx hb dL_law_974 ?_
  refine lv_topi (fun x974 ex974 => ?_)
  have ex974 : x974 = nI (j + 2) := by rw [ex974]; exact nI_add j 2
  subst ex974
  refine va_sld hx hb hX hbl hbA hS (vp_in_nI (show j + 2 < L by omega) (by omega)) dL_law_975 ?_
  rw [nI_clamp (show j + 2 < 2 ^ 31 by omega)]
  refine lv_i2l hx hb dL_law_976 rfl ?_
  refine lv_topl (fun x976 ex976 => ?_)
  refine lv_ldc2 (v := 4294967295) hx hb hown (hts (.constantLong RL 79 4294967295) (hcl)) dL_law_977 ?_
  refine lv_land hx hb dL_law_980 ?_
  refine lv_topl (fun x980 ex980 => ?_)
  refine lv_lor hx hb dL_law_981 ?_
  refine lv_topl (fun x981 ex981 => ?_)
  have ex981 : x981 = zz (xs (j + 1)) (xs (j + 2)) := by rw [ex981, ex969, ex966, ex980, ex976]; rfl
  rw [ez] at ex981
  subst ex981
  have hP := P_sw hP
  have hD := D_sw hD
  refine ft_calli (Wd := MW cI cJ cZ R2) (u := uM) (wr := LW cI cJ cII cJJ R o u954) hP hD hS hA (va_runV (As := [.long (lN z)]) (rest := []) F (k_X8_spans l dC dI cI cJ cZ cII cJJ R2 uM.1 uM.2.1 uM.2.2 Ln li z sy.2.2.2.2.2 hz _) (cwV 1 hts gL_law_X8_spans rfl rfl rfl (by decide +kernel) ⟨(Nat.le_of_ble_eq_true rfl), (Nat.le_of_ble_eq_true rfl)⟩) (ct_preV 0 8 hK hN (P_l hP) (D_l hD) rfl rfl) rfl rfl hl.1 rfl (lv_room (Nat.le_of_ble_eq_true rfl)) dL_law_982 ⟨hc, hsl⟩) (fun r982 m982 H locs w982 hP hD hS => ?_)
  have hP := P_sw hP
  have hD := D_sw hD
  refine lv_istore (lv' := [(6, .int r982), (5, .int r954), (0, .ref b), (1, .ref (R 0)), (2, .ref (R2 0)), (3, .ref o), (4, .int (nI j))]) hx hb dL_law_985 hl (by decide) rfl (fun ls hl => ?_)
  refine lv_aload_n hx hb dL_law_987 rfl (lv_at hl 4 rfl) ?_
  have hP := P_sw hP
  have hD := D_sw hD
  refine ft_calli (Wd := MW cI cJ cZ R2) (u := m982) (wr := LW cI cJ cII cJJ R o u954) hP hD hS hA (va_runV (As := []) (rest := []) F (k_X8_thrown l dC dI cI cJ cZ cII cJJ R2 m982.1 m982.2.1 m982.2.2  _) (cwV 0 hts gL_law_X8_thrown rfl rfl rfl (by decide +kernel) ⟨(Nat.le_of_ble_eq_true rfl), (Nat.le_of_ble_eq_true rfl)⟩) (ct_preV 0 8 hK hN (P_l hP) (D_l hD) rfl rfl) rfl rfl hl.1 rfl (lv_room (Nat.le_of_ble_eq_true rfl)) dL_law_988 ⟨hc, hsl⟩) (fun r988 m988 H locs w988 hP hD hS => ?_)
  have hP := P_sw hP
  have hD := D_sw hD
  obtain ⟨w988, rfl⟩ := w988
  have tie := tie_spans sy w954 w982
  refine lv_iload hx hb dL_law_991 (lv_at hl 1 rfl) ?_
  refine lv_icmp_eq (tgt := 998) hx hb dL_law_993 (by decide) (fun c993 => ?_) (fun c993 => ?_)
  · -- alike
    refine lv_iload hx hb dL_law_998 (lv_at hl 1 rfl) ?_
    refine lv_if_ne (tgt := 1022) hx hb dL_law_1000 (by decide) (fun c1000 => ?_) (fun c1000 => ?_)
    · -- it threw
      refine lv_goto (tgt := 1081) hx hb dL_law_1022 (by decide) ?_
      exact kk ls H locs u954.1 u954.2 m982 tie.2.2 hP hD hS (lv_sub hl [2, 3, 4, 5, 6] rfl)
    · -- it did not
      refine lv_aload_n hx hb dL_law_1003 rfl (lv_at hl 5 rfl) ?_
      refine lv_iconst (v := 0) hx hb dL_law_1004 (by decide) ?_
      have h8 : vp_in 0 1 := vp_in_nI (n := 0) (N := 1) (by decide) (by decide)
      refine va_lald hx hb hK hP 55 1 rfl rfl h8 dL_law_1005 ?_
      refine lv_topl (fun x1005 ex1005 => ?_)
      have ex1005 : x1005 = u954.2 0 := ex1005
      refine lv_iload hx hb dL_law_1006 (lv_at hl 0 rfl) ?_
      refine lv_if_eq (tgt := 1015) hx hb dL_law_1008 (by decide) (fun c1008 => ?_) (fun c1008 => ?_)
      · -- t
        refine lv_lconst (v := 0) hx hb dL_law_1015 (by decide) ?_
        refine W.lcmp hx hb dL_law_1016 ?_
        refine lv_if_eq (tgt := 1022) hx hb dL_law_1017 (by decide) (fun c1017 => ?_) (fun c1017 => ?_)
        · -- alike
          refine lv_goto (tgt := 1081) hx hb dL_law_1022 (by decide) ?_
          exact kk ls H locs u954.1 u954.2 m982 tie.2.2 hP hD hS (lv_sub hl [2, 3, 4, 5, 6] rfl)
        · rw [lg_cmp_eq] at c1017
          exact absurd (ex1005.trans ((tie.2.1 c1000).trans (if_pos c1008))) c1017
      · -- f
        refine lv_lconst (v := 1) hx hb dL_law_1011 (by decide) ?_
        refine lv_goto (tgt := 1016) hx hb dL_law_1012 (by decide) ?_
        refine W.lcmp hx hb dL_law_1016 ?_
        refine lv_if_eq (tgt := 1022) hx hb dL_law_1017 (by decide) (fun c1017 => ?_) (fun c1017 => ?_)
        · -- alike
          refine lv_goto (tgt := 1081) hx hb dL_law_1022 (by decide) ?_
          exact kk ls H locs u954.1 u954.2 m982 tie.2.2 hP hD hS (lv_sub hl [2, 3, 4, 5, 6] rfl)
        · rw [lg_cmp_eq] at c1017
          exact absurd (ex1005.trans ((tie.2.1 c1000).trans (if_neg c1008))) c1017
  · exact absurd (w988.trans tie.1) c993
set_option maxHeartbeats 8000000 in
set_option maxRecDepth 100000 in
theorem law_lookIn {p : Program} {l : Launch} {e : Env} {s : State} {m : MethodId} {below : List Frame} {meth : Method} {c : Code} {b L : Nat} {xs : Nat → Int32} {dC : Nat → ClassId} {dI : Nat → Nat → Nat} {cI cJ cZ cII cJJ : ClassId} {Q : State → Prop} (LC : lwC p l s m meth c b L xs dC dI cI cJ cZ cII cJJ) (R R2 : Nat → Nat) (o j : Nat) (hj : j + 4 ≤ L) (uH : sgH) (w : Nat → Int64) (uM : sgM) (hsy : SY uH uM) (k : Nat) (hv : xs (j + 1) = nI k) (hk : k < 9) (cells slots : Nat) (hc : cells + 2 ≤ 601024) (hsl : slots + 12 ≤ 7293034) (H : Heap) (locs : List Loc) (ls : Array Slot) (hP : va_P (dC, dI) vwCl (LW cI cJ cII cJJ R o (uH, w) ++ MW cI cJ cZ R2 uM) H) (hD : va_D (fun q => s.heap.size ≤ q) (LW cI cJ cII cJJ R o (uH, w) ++ MW cI cJ cZ R2 uM)) (hS : va_S (fun q => s.heap.size ≤ q) s.heap H locs) (hl : lv_has ls 8 [(0, .ref b), (1, .ref (R 0)), (2, .ref (R2 0)), (3, .ref o), (4, .int (nI j))])
    (kk : ∀ (ls : Array Slot) (H : Heap) (locs : List Loc) (uH : sgH) (w : Nat → Int64) (uM : sgM), SY uH uM → va_P (dC, dI) vwCl (LW cI cJ cII cJJ R o (uH, w) ++ MW cI cJ cZ R2 uM) H → va_D (fun q => s.heap.size ≤ q) (LW cI cJ cII cJJ R o (uH, w) ++ MW cI cJ cZ R2 uM) → va_S (fun q => s.heap.size ≤ q) s.heap H locs → lv_has ls 8 [(0, .ref b), (1, .ref (R 0)), (2, .ref (R2 0)), (3, .ref o), (4, .int (nI j))] → W p l e room_1 s m #[Value.ref b] below meth c H locs (cells + 2) (slots + 12) Q (F0 m 1081 ls [])) : W p l e room_1 s m #[Value.ref b] below meth c H locs cells slots Q (F0 m 1025 ls []) := by
  obtain ⟨F, hK, hN, hXx, hX, hbl, hlt, hL⟩ := LC
  have hx := F.1
  have hb := F.2.1
  have hown : s.vm.findClass RL = some m.cls := F.2.2.2.1
  have hts := F.2.2.2.2
  have hA : ∀ q : Nat, s.heap.size ≤ q → (fun q => s.heap.size ≤ q) q := fun _ h => h
  have hbA : ¬ (fun q => s.heap.size ≤ q) b := Nat.not_le.mpr hbl
  have hcl : Cond.constantLong RL 79 4294967295 ∈ wsL_law := wsL_c79
  obtain ⟨nv, ne, fr, to, wt, Ln, li, row, sy⟩ := hsy
  refine lv_aload_n hx hb dL_law_1025 rfl (lv_at hl 1 rfl) ?_
  refine lv_aload_n hx hb dL_law_1026 rfl (lv_at hl 0 rfl) ?_
  refine lv_iload hx hb dL_law_1027 (lv_at hl 4 rfl) ?_
  refine lv_iconst (v := 1) hx hb dL_law_1029 (by decide) ?_
  refine lv_iadd hx hb dL_law_1030 ?_
  refine lv_topi (fun x1030 ex1030 => ?_)
  have ex1030 : x1030 = nI (j + 1) := by rw [ex1030]; exact nI_add j 1
  subst ex1030
  refine va_sld hx hb hX hbl hbA hS (vp_in_nI (show j + 1 < L by omega) (by omega)) dL_law_1031 ?_
  rw [nI_clamp (show j + 1 < 2 ^ 31 by omega)]
  refine lv_aload_n hx hb dL_law_1032 rfl (lv_at hl 3 rfl) ?_
  refine fx_calli (Wd := LW cI cJ cII cJJ R o) (u := (uH, w)) (wr := MW cI cJ cZ R2 uM) hP hD hS hA (vx_runSX (As := [.ref (R 0), .int (xs (j + 1)), .ref o]) (rest := []) F (k_L_look l dC dI cI cJ cZ cII cJJ R o (xs (j + 1)) uH w _ _ (k_lookIn l dC dI cI cJ cZ cII cJJ R hlt uH.1 uH.2.1 uH.2.2.1 uH.2.2.2.1 uH.2.2.2.2 nv ne fr to wt Ln (rk li Ln) row (xs (j + 1)) k sy.1 sy.2.2.1 sy.2.2.2.1 hv hk) (fun E u h => h.elim) _) (vx_cwSW 3 hts gL_law_L_look rfl rfl rfl (by decide +kernel) ⟨(Nat.le_of_ble_eq_true rfl), (Nat.le_of_ble_eq_true rfl)⟩) (cx_preS hK hN hXx hS hA (P_l hP) (D_l hD)) rfl rfl hl.1 rfl (lv_room (Nat.le_of_ble_eq_true rfl)) dL_law_1033 ⟨hc, hsl⟩) (fun _ _ _ _ _ _ _ _ _ h9 => h9.elim) (fun r1033 u1033 H locs w1033 hP hD hS => ?_)
  refine lv_istore (lv' := [(5, .int r1033), (0, .ref b), (1, .ref (R 0)), (2, .ref (R2 0)), (3, .ref o), (4, .int (nI j))]) hx hb dL_law_1036 hl (by decide) rfl (fun ls hl => ?_)
  refine lv_aload_n hx hb dL_law_1038 rfl (lv_at hl 3 rfl) ?_
  refine lv_aload_n hx hb dL_law_1039 rfl (lv_at hl 1 rfl) ?_
  refine lv_iload hx hb dL_law_1040 (lv_at hl 5 rfl) ?_
  refine lv_iconst (v := 1) hx hb dL_law_1042 (by decide) ?_
  refine lv_iadd hx hb dL_law_1043 ?_
  refine lv_topi (fun x1043 ex1043 => ?_)
  have ex1043 : x1043 = nI (j + 1) := by rw [ex1043]; exact nI_add j 1
  subst ex1043
  refine va_sld hx hb hX hbl hbA hS (vp_in_nI (show j + 1 < L by omega) (by omega)) dL_law_1044 ?_
  rw [nI_clamp (show j + 1 < 2 ^ 31 by omega)]
  have hP := P_sw hP
  have hD := D_sw hD
  refine ft_calli (Wd := MW cI cJ cZ R2) (u := uM) (wr := LW cI cJ cII cJJ R o u1033) hP hD hS hA (va_runV (As := [.int (xs (j + 1))]) (rest := []) F (k_X8_look l dC dI cI cJ cZ cII cJJ R2 uM.1 uM.2.1 uM.2.2 nv ne fr to wt Ln li (xs (j + 1)) sy.2.1 sy.2.2.2.2.2 _) (cwV 1 hts gL_law_X8_look rfl rfl rfl (by decide +kernel) ⟨(Nat.le_of_ble_eq_true rfl), (Nat.le_of_ble_eq_true rfl)⟩) (ct_preV 0 8 hK hN (P_l hP) (D_l hD) rfl rfl) rfl rfl hl.1 rfl (lv_room (Nat.le_of_ble_eq_true rfl)) dL_law_1045 ⟨hc, hsl⟩) (fun r1045 m1045 H locs w1045 hP hD hS => ?_)
  have hP := P_sw hP
  have hD := D_sw hD
  refine lv_istore (lv' := [(6, .int r1045), (5, .int r1033), (0, .ref b), (1, .ref (R 0)), (2, .ref (R2 0)), (3, .ref o), (4, .int (nI j))]) hx hb dL_law_1048 hl (by decide) rfl (fun ls hl => ?_)
  refine lv_aload_n hx hb dL_law_1050 rfl (lv_at hl 4 rfl) ?_
  have hP := P_sw hP
  have hD := D_sw hD
  refine ft_calli (Wd := MW cI cJ cZ R2) (u := m1045) (wr := LW cI cJ cII cJJ R o u1033) hP hD hS hA (va_runV (As := []) (rest := []) F (k_X8_thrown l dC dI cI cJ cZ cII cJJ R2 m1045.1 m1045.2.1 m1045.2.2  _) (cwV 0 hts gL_law_X8_thrown rfl rfl rfl (by decide +kernel) ⟨(Nat.le_of_ble_eq_true rfl), (Nat.le_of_ble_eq_true rfl)⟩) (ct_preV 0 8 hK hN (P_l hP) (D_l hD) rfl rfl) rfl rfl hl.1 rfl (lv_room (Nat.le_of_ble_eq_true rfl)) dL_law_1051 ⟨hc, hsl⟩) (fun r1051 m1051 H locs w1051 hP hD hS => ?_)
  have hP := P_sw hP
  have hD := D_sw hD
  obtain ⟨w1051, rfl⟩ := w1051
  have tie := tie_look sy hk hv w1033 w1045
  refine lv_iload hx hb dL_law_1054 (lv_at hl 1 rfl) ?_
  refine lv_icmp_eq (tgt := 1061) hx hb dL_law_1056 (by decide) (fun c1056 => ?_) (fun c1056 => ?_)
  · -- alike
    refine lv_iload hx hb dL_law_1061 (lv_at hl 1 rfl) ?_
    refine lv_if_ne (tgt := 1078) hx hb dL_law_1063 (by decide) (fun c1063 => ?_) (fun c1063 => ?_)
    · -- it threw
      refine lv_goto (tgt := 1081) hx hb dL_law_1078 (by decide) ?_
      exact kk ls H locs u1033.1 u1033.2 m1045 tie.2.2 hP hD hS (lv_sub hl [2, 3, 4, 5, 6] rfl)
    · -- it did not
      refine lv_aload_n hx hb dL_law_1066 rfl (lv_at hl 5 rfl) ?_
      refine lv_iconst (v := 0) hx hb dL_law_1067 (by decide) ?_
      have h8 : vp_in 0 1 := vp_in_nI (n := 0) (N := 1) (by decide) (by decide)
      refine va_lald hx hb hK hP 55 1 rfl rfl h8 dL_law_1068 ?_
      refine lv_topl (fun x1068 ex1068 => ?_)
      have ex1068 : x1068 = u1033.2 0 := ex1068
      refine lv_iload hx hb dL_law_1069 (lv_at hl 0 rfl) ?_
      refine lv_i2l hx hb dL_law_1071 rfl ?_
      refine lv_topl (fun x1071 ex1071 => ?_)
      refine W.lcmp hx hb dL_law_1072 ?_
      refine lv_if_eq (tgt := 1078) hx hb dL_law_1073 (by decide) (fun c1073 => ?_) (fun c1073 => ?_)
      · -- alike
        refine lv_goto (tgt := 1081) hx hb dL_law_1078 (by decide) ?_
        exact kk ls H locs u1033.1 u1033.2 m1045 tie.2.2 hP hD hS (lv_sub hl [2, 3, 4, 5, 6] rfl)
      · rw [lg_cmp_eq] at c1073
        exact absurd (ex1068.trans ((tie.2.1 c1063).trans ex1071.symm)) c1073
  · exact absurd (w1051.trans tie.1) c1056
set_option maxHeartbeats 8000000 in
set_option maxRecDepth 100000 in
theorem law_lookOut {p : Program} {l : Launch} {e : Env} {s : State} {m : MethodId} {below : List Frame} {meth : Method} {c : Code} {b L : Nat} {xs : Nat → Int32} {dC : Nat → ClassId} {dI : Nat → Nat → Nat} {cI cJ cZ cII cJJ : ClassId} {Q : State → Prop} (LC : lwC p l s m meth c b L xs dC dI cI cJ cZ cII cJJ) (R R2 : Nat → Nat) (o j : Nat) (hj : j + 4 ≤ L) (uH : sgH) (w : Nat → Int64) (uM : sgM) (hsy : SY uH uM) (hv : xs (j + 1) < 0 ∨ 8 < xs (j + 1)) (hvt : (xs (j + 1)).toInt < 0 ∨ 8 < (xs (j + 1)).toInt) (cells slots : Nat) (hc : cells + 2 ≤ 601024) (hsl : slots + 12 ≤ 7293034) (H : Heap) (locs : List Loc) (ls : Array Slot) (hP : va_P (dC, dI) vwCl (LW cI cJ cII cJJ R o (uH, w) ++ MW cI cJ cZ R2 uM) H) (hD : va_D (fun q => s.heap.size ≤ q) (LW cI cJ cII cJJ R o (uH, w) ++ MW cI cJ cZ R2 uM)) (hS : va_S (fun q => s.heap.size ≤ q) s.heap H locs) (hl : lv_has ls 8 [(0, .ref b), (1, .ref (R 0)), (2, .ref (R2 0)), (3, .ref o), (4, .int (nI j))])
    (kk : ∀ (ls : Array Slot) (H : Heap) (locs : List Loc) (uH : sgH) (w : Nat → Int64) (uM : sgM), SY uH uM → va_P (dC, dI) vwCl (LW cI cJ cII cJJ R o (uH, w) ++ MW cI cJ cZ R2 uM) H → va_D (fun q => s.heap.size ≤ q) (LW cI cJ cII cJJ R o (uH, w) ++ MW cI cJ cZ R2 uM) → va_S (fun q => s.heap.size ≤ q) s.heap H locs → lv_has ls 8 [(0, .ref b), (1, .ref (R 0)), (2, .ref (R2 0)), (3, .ref o), (4, .int (nI j))] → W p l e room_1 s m #[Value.ref b] below meth c H locs (cells + 2) (slots + 12) Q (F0 m 1081 ls [])) : W p l e room_1 s m #[Value.ref b] below meth c H locs cells slots Q (F0 m 1025 ls []) := by
  obtain ⟨F, hK, hN, hXx, hX, hbl, hlt, hL⟩ := LC
  have hx := F.1
  have hb := F.2.1
  have hown : s.vm.findClass RL = some m.cls := F.2.2.2.1
  have hts := F.2.2.2.2
  have hA : ∀ q : Nat, s.heap.size ≤ q → (fun q => s.heap.size ≤ q) q := fun _ h => h
  have hbA : ¬ (fun q => s.heap.size ≤ q) b := Nat.not_le.mpr hbl
  have hcl : Cond.constantLong RL 79 4294967295 ∈ wsL_law := wsL_c79
  obtain ⟨nv, ne, fr, to, wt, Ln, li, row, sy⟩ := hsy
  refine lv_aload_n hx hb dL_law_1025 rfl (lv_at hl 1 rfl) ?_
  refine lv_aload_n hx hb dL_law_1026 rfl (lv_at hl 0 rfl) ?_
  refine lv_iload hx hb dL_law_1027 (lv_at hl 4 rfl) ?_
  refine lv_iconst (v := 1) hx hb dL_law_1029 (by decide) ?_
  refine lv_iadd hx hb dL_law_1030 ?_
  refine lv_topi (fun x1030 ex1030 => ?_)
  have ex1030 : x1030 = nI (j + 1) := by rw [ex1030]; exact nI_add j 1
  subst ex1030
  refine va_sld hx hb hX hbl hbA hS (vp_in_nI (show j + 1 < L by omega) (by omega)) dL_law_1031 ?_
  rw [nI_clamp (show j + 1 < 2 ^ 31 by omega)]
  refine lv_aload_n hx hb dL_law_1032 rfl (lv_at hl 3 rfl) ?_
  refine fx_calli (Wd := LW cI cJ cII cJJ R o) (u := (uH, w)) (wr := MW cI cJ cZ R2 uM) hP hD hS hA (vx_runSX (As := [.ref (R 0), .int (xs (j + 1)), .ref o]) (rest := []) F (k_L_look l dC dI cI cJ cZ cII cJJ R o (xs (j + 1)) uH w _ _ (k_lookOut l dC dI cI cJ cZ cII cJJ R hlt uH.1 uH.2.1 uH.2.2.1 uH.2.2.2.1 uH.2.2.2.2 (xs (j + 1)) hvt) (fun E u h => h.1) _) (vx_cwSW 3 hts gL_law_L_look rfl rfl rfl (by decide +kernel) ⟨(Nat.le_of_ble_eq_true rfl), (Nat.le_of_ble_eq_true rfl)⟩) (cx_preS hK hN hXx hS hA (P_l hP) (D_l hD)) rfl rfl hl.1 rfl (lv_room (Nat.le_of_ble_eq_true rfl)) dL_law_1033 ⟨hc, hsl⟩) (fun _ _ _ _ _ _ _ _ _ h9 => h9.elim) (fun r1033 u1033 H locs w1033 hP hD hS => ?_)
  refine lv_istore (lv' := [(5, .int r1033), (0, .ref b), (1, .ref (R 0)), (2, .ref (R2 0)), (3, .ref o), (4, .int (nI j))]) hx hb dL_law_1036 hl (by decide) rfl (fun ls hl => ?_)
  refine lv_aload_n hx hb dL_law_1038 rfl (lv_at hl 3 rfl) ?_
  refine lv_aload_n hx hb dL_law_1039 rfl (lv_at hl 1 rfl) ?_
  refine lv_iload hx hb dL_law_1040 (lv_at hl 5 rfl) ?_
  refine lv_iconst (v := 1) hx hb dL_law_1042 (by decide) ?_
  refine lv_iadd hx hb dL_law_1043 ?_
  refine lv_topi (fun x1043 ex1043 => ?_)
  have ex1043 : x1043 = nI (j + 1) := by rw [ex1043]; exact nI_add j 1
  subst ex1043
  refine va_sld hx hb hX hbl hbA hS (vp_in_nI (show j + 1 < L by omega) (by omega)) dL_law_1044 ?_
  rw [nI_clamp (show j + 1 < 2 ^ 31 by omega)]
  have hP := P_sw hP
  have hD := D_sw hD
  refine ft_calli (Wd := MW cI cJ cZ R2) (u := uM) (wr := LW cI cJ cII cJJ R o u1033) hP hD hS hA (va_runV (As := [.int (xs (j + 1))]) (rest := []) F (k_X8_look l dC dI cI cJ cZ cII cJJ R2 uM.1 uM.2.1 uM.2.2 nv ne fr to wt Ln li (xs (j + 1)) sy.2.1 sy.2.2.2.2.2 _) (cwV 1 hts gL_law_X8_look rfl rfl rfl (by decide +kernel) ⟨(Nat.le_of_ble_eq_true rfl), (Nat.le_of_ble_eq_true rfl)⟩) (ct_preV 0 8 hK hN (P_l hP) (D_l hD) rfl rfl) rfl rfl hl.1 rfl (lv_room (Nat.le_of_ble_eq_true rfl)) dL_law_1045 ⟨hc, hsl⟩) (fun r1045 m1045 H locs w1045 hP hD hS => ?_)
  have hP := P_sw hP
  have hD := D_sw hD
  refine lv_istore (lv' := [(6, .int r1045), (5, .int r1033), (0, .ref b), (1, .ref (R 0)), (2, .ref (R2 0)), (3, .ref o), (4, .int (nI j))]) hx hb dL_law_1048 hl (by decide) rfl (fun ls hl => ?_)
  refine lv_aload_n hx hb dL_law_1050 rfl (lv_at hl 4 rfl) ?_
  have hP := P_sw hP
  have hD := D_sw hD
  refine ft_calli (Wd := MW cI cJ cZ R2) (u := m1045) (wr := LW cI cJ cII cJJ R o u1033) hP hD hS hA (va_runV (As := []) (rest := []) F (k_X8_thrown l dC dI cI cJ cZ cII cJJ R2 m1045.1 m1045.2.1 m1045.2.2  _) (cwV 0 hts gL_law_X8_thrown rfl rfl rfl (by decide +kernel) ⟨(Nat.le_of_ble_eq_true rfl), (Nat.le_of_ble_eq_true rfl)⟩) (ct_preV 0 8 hK hN (P_l hP) (D_l hD) rfl rfl) rfl rfl hl.1 rfl (lv_room (Nat.le_of_ble_eq_true rfl)) dL_law_1051 ⟨hc, hsl⟩) (fun r1051 m1051 H locs w1051 hP hD hS => ?_)
  have hP := P_sw hP
  have hD := D_sw hD
  obtain ⟨w1051, rfl⟩ := w1051
  have tie := tie_lookX sy hv w1033 w1045
  refine lv_iload hx hb dL_law_1054 (lv_at hl 1 rfl) ?_
  refine lv_icmp_eq (tgt := 1061) hx hb dL_law_1056 (by decide) (fun c1056 => ?_) (fun c1056 => ?_)
  · -- alike
    refine lv_iload hx hb dL_law_1061 (lv_at hl 1 rfl) ?_
    refine lv_if_ne (tgt := 1078) hx hb dL_law_1063 (by decide) (fun c1063 => ?_) (fun c1063 => ?_)
    · -- it threw
      refine lv_goto (tgt := 1081) hx hb dL_law_1078 (by decide) ?_
      exact kk ls H locs u1033.1 u1033.2 m1045 tie.2.2 hP hD hS (lv_sub hl [2, 3, 4, 5, 6] rfl)
    · -- it did not
      refine lv_aload_n hx hb dL_law_1066 rfl (lv_at hl 5 rfl) ?_
      refine lv_iconst (v := 0) hx hb dL_law_1067 (by decide) ?_
      have h8 : vp_in 0 1 := vp_in_nI (n := 0) (N := 1) (by decide) (by decide)
      refine va_lald hx hb hK hP 55 1 rfl rfl h8 dL_law_1068 ?_
      refine lv_topl (fun x1068 ex1068 => ?_)
      have ex1068 : x1068 = u1033.2 0 := ex1068
      refine lv_iload hx hb dL_law_1069 (lv_at hl 0 rfl) ?_
      refine lv_i2l hx hb dL_law_1071 rfl ?_
      refine lv_topl (fun x1071 ex1071 => ?_)
      refine W.lcmp hx hb dL_law_1072 ?_
      refine lv_if_eq (tgt := 1078) hx hb dL_law_1073 (by decide) (fun c1073 => ?_) (fun c1073 => ?_)
      · -- alike
        refine lv_goto (tgt := 1081) hx hb dL_law_1078 (by decide) ?_
        exact kk ls H locs u1033.1 u1033.2 m1045 tie.2.2 hP hD hS (lv_sub hl [2, 3, 4, 5, 6] rfl)
      · rw [lg_cmp_eq] at c1073
        exact absurd (ex1068.trans ((tie.2.1 c1063).trans ex1071.symm)) c1073
  · exact absurd (w1051.trans tie.1) c1056
